theorem ix_lt {a : Int} {n : Nat} (h : 0 ≤ nw a ∧ nw a < n) : ix a < n := by unfold ix; omega
theorem sk_mut {a : Int} (h : a = 115 ∨ a = 116) : a.toNat < KC ∧ skF a.toNat = (0, 1000) := by rcases h with rfl | rfl <;> exact ⟨by decide +kernel, by decide +kernel⟩
theorem cq_X12_3 : CQ RX12 3 yX12_isIn cX12_isIn 3 (some .boolean) 3 := ⟨wm_1807, wm_124, wm_1809, by decide +kernel, by decide⟩
theorem st_X12_isIn : Cond.static yX12_isIn ∈ lw_gd := wm_1808
theorem gX12 : ∀ w ∈ u_ws RX12 TX12 101, w ∈ lw_gd := gd_all inX12 (by decide +kernel)
theorem af_X12_13_117 : AF RX12 13 117 0 := ⟨12, 101, RX12, TX12, by decide +kernel, by decide +kernel, rfl, by decide, gX12, wm_1498⟩
theorem sr_117_0 : srF 117 0 = 120 := by decide +kernel
theorem kc_118 : 118 < KC := by decide +kernel
theorem sk_118 : skF 118 = (0, 15) := by decide +kernel
theorem af_X12_17_117 : AF RX12 17 117 1 := ⟨12, 101, RX12, TX12, by decide +kernel, by decide +kernel, rfl, by decide, gX12, wm_1499⟩
theorem sr_117_1 : srF 117 1 = 121 := by decide +kernel
theorem kc_119 : 119 < KC := by decide +kernel
theorem sk_119 : skF 119 = (0, 15) := by decide +kernel
theorem af_X12_20_117 : AF RX12 20 117 2 := ⟨12, 101, RX12, TX12, by decide +kernel, by decide +kernel, rfl, by decide, gX12, wm_1500⟩
theorem sr_117_2 : srF 117 2 = 122 := by decide +kernel
theorem kc_120 : 120 < KC := by decide +kernel
theorem sk_120 : skF 120 = (0, 15) := by decide +kernel
theorem ap_X12_44_117 : AFp RX12 44 117 10 .int := ⟨12, 101, RX12, TX12, tyX12, by decide +kernel, by decide +kernel, rfl, by decide, gX12, wm_1508, tyX12_ok, nmX12, by decide +kernel, by decide +kernel⟩
theorem sr_117_10 : srF 117 10 = 0 := by decide +kernel
theorem af_X12_232_117 : AF RX12 232 117 11 := ⟨12, 101, RX12, TX12, by decide +kernel, by decide +kernel, rfl, by decide, gX12, wm_1509⟩
theorem sr_117_11 : srF 117 11 = 0 := by decide +kernel
theorem af_X12_23_117 : AF RX12 23 117 3 := ⟨12, 101, RX12, TX12, by decide +kernel, by decide +kernel, rfl, by decide, gX12, wm_1501⟩
theorem sr_117_3 : srF 117 3 = 123 := by decide +kernel
theorem kc_121 : 121 < KC := by decide +kernel
theorem sk_121 : skF 121 = (0, 8) := by decide +kernel
theorem af_X12_26_117 : AF RX12 26 117 4 := ⟨12, 101, RX12, TX12, by decide +kernel, by decide +kernel, rfl, by decide, gX12, wm_1502⟩
theorem sr_117_4 : srF 117 4 = 124 := by decide +kernel
theorem kc_122 : 122 < KC := by decide +kernel
theorem sk_122 : skF 122 = (0, 8) := by decide +kernel
theorem af_X12_29_117 : AF RX12 29 117 5 := ⟨12, 101, RX12, TX12, by decide +kernel, by decide +kernel, rfl, by decide, gX12, wm_1503⟩
theorem sr_117_5 : srF 117 5 = 125 := by decide +kernel
theorem kc_123 : 123 < KC := by decide +kernel
theorem sk_123 : skF 123 = (0, 8) := by decide +kernel
theorem ap_X12_232_117 : AFp RX12 232 117 11 .int := ⟨12, 101, RX12, TX12, tyX12, by decide +kernel, by decide +kernel, rfl, by decide, gX12, wm_1509, tyX12_ok, nmX12, by decide +kernel, by decide +kernel⟩
theorem cq_X12_238 : CQ RX12 238 yX12_isPoint cX12_isPoint 1 (some .boolean) 1 := ⟨wm_1822, wm_124, wm_1824, by decide +kernel, by decide⟩
theorem st_X12_isPoint : Cond.static yX12_isPoint ∈ lw_gd := wm_1823
theorem af_X12_235_117 : AF RX12 235 117 12 := ⟨12, 101, RX12, TX12, by decide +kernel, by decide +kernel, rfl, by decide, gX12, wm_1510⟩
theorem sr_117_12 : srF 117 12 = 0 := by decide +kernel
theorem af_X12_32_117 : AF RX12 32 117 6 := ⟨12, 101, RX12, TX12, by decide +kernel, by decide +kernel, rfl, by decide, gX12, wm_1504⟩
theorem sr_117_6 : srF 117 6 = 126 := by decide +kernel
theorem kc_124 : 124 < KC := by decide +kernel
theorem sk_124 : skF 124 = (0, 10) := by decide +kernel
theorem af_X12_35_117 : AF RX12 35 117 7 := ⟨12, 101, RX12, TX12, by decide +kernel, by decide +kernel, rfl, by decide, gX12, wm_1505⟩
theorem sr_117_7 : srF 117 7 = 127 := by decide +kernel
theorem kc_125 : 125 < KC := by decide +kernel
theorem sk_125 : skF 125 = (0, 10) := by decide +kernel
theorem af_X12_38_117 : AF RX12 38 117 8 := ⟨12, 101, RX12, TX12, by decide +kernel, by decide +kernel, rfl, by decide, gX12, wm_1506⟩
theorem sr_117_8 : srF 117 8 = 128 := by decide +kernel
theorem kc_126 : 126 < KC := by decide +kernel
theorem sk_126 : skF 126 = (0, 10) := by decide +kernel
theorem af_X12_41_117 : AF RX12 41 117 9 := ⟨12, 101, RX12, TX12, by decide +kernel, by decide +kernel, rfl, by decide, gX12, wm_1507⟩
theorem sr_117_9 : srF 117 9 = 129 := by decide +kernel
theorem kc_127 : 127 < KC := by decide +kernel
theorem sk_127 : skF 127 = (0, 10) := by decide +kernel
theorem ap_X12_235_117 : AFp RX12 235 117 12 .int := ⟨12, 101, RX12, TX12, tyX12, by decide +kernel, by decide +kernel, rfl, by decide, gX12, wm_1510, tyX12_ok, nmX12, by decide +kernel, by decide +kernel⟩
theorem af_X12_242_117 : AF RX12 242 117 37 := ⟨12, 101, RX12, TX12, by decide +kernel, by decide +kernel, rfl, by decide, gX12, wm_1535⟩
theorem sr_117_37 : srF 117 37 = 0 := by decide +kernel
theorem af_X12_103_117 : AF RX12 103 117 31 := ⟨12, 101, RX12, TX12, by decide +kernel, by decide +kernel, rfl, by decide, gX12, wm_1529⟩
theorem sr_117_31 : srF 117 31 = 148 := by decide +kernel
theorem kc_146 : 146 < KC := by decide +kernel
theorem sk_146 : skF 146 = (0, 500) := by decide +kernel
theorem ap_X12_242_117 : AFp RX12 242 117 37 .int := ⟨12, 101, RX12, TX12, tyX12, by decide +kernel, by decide +kernel, rfl, by decide, gX12, wm_1535, tyX12_ok, nmX12, by decide +kernel, by decide +kernel⟩
theorem ap_X12_321_117 : AFp RX12 321 117 42 .int := ⟨12, 101, RX12, TX12, tyX12, by decide +kernel, by decide +kernel, rfl, by decide, gX12, wm_1540, tyX12_ok, nmX12, by decide +kernel, by decide +kernel⟩
theorem sr_117_42 : srF 117 42 = 0 := by decide +kernel
theorem ap_X12_245_117 : AFp RX12 245 117 38 .int := ⟨12, 101, RX12, TX12, tyX12, by decide +kernel, by decide +kernel, rfl, by decide, gX12, wm_1536, tyX12_ok, nmX12, by decide +kernel, by decide +kernel⟩
theorem sr_117_38 : srF 117 38 = 0 := by decide +kernel
theorem ap_X12_375_117 : AFp RX12 375 117 35 .int := ⟨12, 101, RX12, TX12, tyX12, by decide +kernel, by decide +kernel, rfl, by decide, gX12, wm_1533, tyX12_ok, nmX12, by decide +kernel, by decide +kernel⟩
theorem sr_117_35 : srF 117 35 = 0 := by decide +kernel
theorem ap_X12_333_117 : AFp RX12 333 117 36 .int := ⟨12, 101, RX12, TX12, tyX12, by decide +kernel, by decide +kernel, rfl, by decide, gX12, wm_1534, tyX12_ok, nmX12, by decide +kernel, by decide +kernel⟩
theorem sr_117_36 : srF 117 36 = 0 := by decide +kernel
theorem af_X12_100_117 : AF RX12 100 117 30 := ⟨12, 101, RX12, TX12, by decide +kernel, by decide +kernel, rfl, by decide, gX12, wm_1528⟩
theorem sr_117_30 : srF 117 30 = 147 := by decide +kernel
theorem kc_145 : 145 < KC := by decide +kernel
theorem sk_145 : skF 145 = (1, 30) := by decide +kernel
theorem af_X12_245_117 : AF RX12 245 117 38 := ⟨12, 101, RX12, TX12, by decide +kernel, by decide +kernel, rfl, by decide, gX12, wm_1536⟩
theorem cq_X12_302 : CQ RX12 302 yX12_see cX12_see 2 (some .int) 1 := ⟨wm_1841, wm_124, wm_1844, by decide +kernel, by decide⟩
theorem cr_117_X12_see : CR 117 yX12_see := ⟨by decide +kernel, 12, 101, TX12, by decide +kernel, rfl, wm_1843, wm_55⟩
theorem ap_X12_248_117 : AFp RX12 248 117 40 .int := ⟨12, 101, RX12, TX12, tyX12, by decide +kernel, by decide +kernel, rfl, by decide, gX12, wm_1538, tyX12_ok, nmX12, by decide +kernel, by decide +kernel⟩
theorem sr_117_40 : srF 117 40 = 0 := by decide +kernel
theorem cq_X12_309 : CQ RX12 309 yX12_isLetter cX12_isLetter 1 (some .boolean) 1 := ⟨wm_1845, wm_124, wm_1847, by decide +kernel, by decide⟩
theorem st_X12_isLetter : Cond.static yX12_isLetter ∈ lw_gd := wm_1846
theorem cq_X12_315 : CQ RX12 315 yX12_isDigit cX12_isDigit 1 (some .boolean) 1 := ⟨wm_1878, wm_124, wm_1880, by decide +kernel, by decide⟩
theorem st_X12_isDigit : Cond.static yX12_isDigit ∈ lw_gd := wm_1879
theorem ap_X12_306_117 : AFp RX12 306 117 39 .int := ⟨12, 101, RX12, TX12, tyX12, by decide +kernel, by decide +kernel, rfl, by decide, gX12, wm_1537, tyX12_ok, nmX12, by decide +kernel, by decide +kernel⟩
theorem sr_117_39 : srF 117 39 = 0 := by decide +kernel
theorem ap_X12_318_117 : AFp RX12 318 117 41 .int := ⟨12, 101, RX12, TX12, tyX12, by decide +kernel, by decide +kernel, rfl, by decide, gX12, wm_1539, tyX12_ok, nmX12, by decide +kernel, by decide +kernel⟩
theorem sr_117_41 : srF 117 41 = 0 := by decide +kernel
theorem af_X12_248_117 : AF RX12 248 117 40 := ⟨12, 101, RX12, TX12, by decide +kernel, by decide +kernel, rfl, by decide, gX12, wm_1538⟩
theorem af_X12_318_117 : AF RX12 318 117 41 := ⟨12, 101, RX12, TX12, by decide +kernel, by decide +kernel, rfl, by decide, gX12, wm_1539⟩
theorem sw_X12_261 : (RX12, 261, "locks", 2) ∈ strL := List.mem_of_getElem? (i := 2) (by decide +kernel)
theorem cq_X12_251 : CQ RX12 251 yJ0_length_8abf5 cJ0_length_8abf5 1 (some .int) 0 := ⟨wm_1857, wm_125, wm_787, by decide +kernel, by decide⟩
theorem cq_X12_257 : CQ RX12 257 yJ0_charAt_5068e cJ0_charAt_5068e 2 (some .char) 1 := ⟨wm_1858, wm_125, wm_797, by decide +kernel, by decide⟩
theorem cq_X12_262 : CQ RX12 262 yX12_is cX12_is 4 (some .boolean) 1 := ⟨wm_1853, wm_124, wm_1856, by decide +kernel, by decide⟩
theorem cr_117_X12_is : CR 117 yX12_is := ⟨by decide +kernel, 12, 101, TX12, by decide +kernel, rfl, wm_1855, wm_57⟩
theorem sw_X12_266 : (RX12, 266, "tunnel", 3) ∈ strL := List.mem_of_getElem? (i := 3) (by decide +kernel)
theorem sw_X12_267 : (RX12, 267, "price", 4) ∈ strL := List.mem_of_getElem? (i := 4) (by decide +kernel)
theorem sw_X12_269 : (RX12, 269, "hold", 5) ∈ strL := List.mem_of_getElem? (i := 5) (by decide +kernel)
theorem sw_X12_271 : (RX12, 271, "harm", 6) ∈ strL := List.mem_of_getElem? (i := 6) (by decide +kernel)
theorem sw_X12_273 : (RX12, 273, "taught", 7) ∈ strL := List.mem_of_getElem? (i := 7) (by decide +kernel)
theorem sw_X12_275 : (RX12, 275, "up", 8) ∈ strL := List.mem_of_getElem? (i := 8) (by decide +kernel)
theorem sw_X12_277 : (RX12, 277, "down", 9) ∈ strL := List.mem_of_getElem? (i := 9) (by decide +kernel)
theorem sw_X12_279 : (RX12, 279, "when", 10) ∈ strL := List.mem_of_getElem? (i := 10) (by decide +kernel)
theorem sw_X12_281 : (RX12, 281, "or", 11) ∈ strL := List.mem_of_getElem? (i := 11) (by decide +kernel)
theorem sw_X12_283 : (RX12, 283, "and", 12) ∈ strL := List.mem_of_getElem? (i := 12) (by decide +kernel)
theorem sw_X12_285 : (RX12, 285, "not", 13) ∈ strL := List.mem_of_getElem? (i := 13) (by decide +kernel)
theorem sw_X12_287 : (RX12, 287, "day", 14) ∈ strL := List.mem_of_getElem? (i := 14) (by decide +kernel)
theorem sw_X12_289 : (RX12, 289, "week", 15) ∈ strL := List.mem_of_getElem? (i := 15) (by decide +kernel)
theorem sw_X12_291 : (RX12, 291, "water", 16) ∈ strL := List.mem_of_getElem? (i := 16) (by decide +kernel)
theorem sw_X12_292 : (RX12, 292, "berths", 17) ∈ strL := List.mem_of_getElem? (i := 17) (by decide +kernel)
theorem sw_X12_294 : (RX12, 294, "away", 18) ∈ strL := List.mem_of_getElem? (i := 18) (by decide +kernel)
theorem sw_X12_296 : (RX12, 296, "age", 19) ∈ strL := List.mem_of_getElem? (i := 19) (by decide +kernel)
theorem sw_X12_298 : (RX12, 298, "depth", 20) ∈ strL := List.mem_of_getElem? (i := 20) (by decide +kernel)
theorem sw_X12_300 : (RX12, 300, "said", 21) ∈ strL := List.mem_of_getElem? (i := 21) (by decide +kernel)
theorem cq_X12_312 : CQ RX12 312 yX12_word cX12_word 1 (some .int) 0 := ⟨wm_1848, wm_124, wm_1851, by decide +kernel, by decide⟩
theorem cr_117_X12_word : CR 117 yX12_word := ⟨by decide +kernel, 12, 101, TX12, by decide +kernel, rfl, wm_1850, wm_56⟩
theorem cq_X12_330 : CQ RX12 330 yX12_next0 cX12_next0 3 none 0 := ⟨wm_1837, wm_124, wm_1840, by decide +kernel, by decide⟩
theorem cr_117_X12_next0 : CR 117 yX12_next0 := ⟨by decide +kernel, 12, 101, TX12, by decide +kernel, rfl, wm_1839, wm_54⟩
theorem af_X12_306_117 : AF RX12 306 117 39 := ⟨12, 101, RX12, TX12, by decide +kernel, by decide +kernel, rfl, by decide, gX12, wm_1537⟩
theorem af_X12_375_117 : AF RX12 375 117 35 := ⟨12, 101, RX12, TX12, by decide +kernel, by decide +kernel, rfl, by decide, gX12, wm_1533⟩
theorem ap_X12_336_117 : AFp RX12 336 117 45 .int := ⟨12, 101, RX12, TX12, tyX12, by decide +kernel, by decide +kernel, rfl, by decide, gX12, wm_1543, tyX12_ok, nmX12, by decide +kernel, by decide +kernel⟩
theorem sr_117_45 : srF 117 45 = 0 := by decide +kernel
theorem af_X12_69_117 : AF RX12 69 117 20 := ⟨12, 101, RX12, TX12, by decide +kernel, by decide +kernel, rfl, by decide, gX12, wm_1518⟩
theorem sr_117_20 : srF 117 20 = 137 := by decide +kernel
theorem kc_135 : 135 < KC := by decide +kernel
theorem sk_135 : skF 135 = (0, 16) := by decide +kernel
theorem af_X12_78_117 : AF RX12 78 117 23 := ⟨12, 101, RX12, TX12, by decide +kernel, by decide +kernel, rfl, by decide, gX12, wm_1521⟩
theorem sr_117_23 : srF 117 23 = 140 := by decide +kernel
theorem af_X12_333_117 : AF RX12 333 117 36 := ⟨12, 101, RX12, TX12, by decide +kernel, by decide +kernel, rfl, by decide, gX12, wm_1534⟩
theorem kc_138 : 138 < KC := by decide +kernel
theorem sk_138 : skF 138 = (0, 16) := by decide +kernel
theorem af_X12_81_117 : AF RX12 81 117 24 := ⟨12, 101, RX12, TX12, by decide +kernel, by decide +kernel, rfl, by decide, gX12, wm_1522⟩
theorem sr_117_24 : srF 117 24 = 141 := by decide +kernel
theorem kc_139 : 139 < KC := by decide +kernel
theorem sk_139 : skF 139 = (0, 16) := by decide +kernel
theorem af_X12_84_117 : AF RX12 84 117 25 := ⟨12, 101, RX12, TX12, by decide +kernel, by decide +kernel, rfl, by decide, gX12, wm_1523⟩
theorem sr_117_25 : srF 117 25 = 142 := by decide +kernel
theorem kc_140 : 140 < KC := by decide +kernel
theorem sk_140 : skF 140 = (0, 16) := by decide +kernel
theorem ap_X12_324_117 : AFp RX12 324 117 43 .int := ⟨12, 101, RX12, TX12, tyX12, by decide +kernel, by decide +kernel, rfl, by decide, gX12, wm_1541, tyX12_ok, nmX12, by decide +kernel, by decide +kernel⟩
theorem sr_117_43 : srF 117 43 = 0 := by decide +kernel
theorem cq_X12_327 : CQ RX12 327 yX12_bad cX12_bad 2 (some .boolean) 1 := ⟨wm_1885, wm_124, wm_1888, by decide +kernel, by decide⟩
theorem cr_117_X12_bad : CR 117 yX12_bad := ⟨by decide +kernel, 12, 101, TX12, by decide +kernel, rfl, wm_1887, wm_59⟩
theorem af_X12_87_117 : AF RX12 87 117 26 := ⟨12, 101, RX12, TX12, by decide +kernel, by decide +kernel, rfl, by decide, gX12, wm_1524⟩
theorem sr_117_26 : srF 117 26 = 143 := by decide +kernel
theorem kc_141 : 141 < KC := by decide +kernel
theorem sk_141 : skF 141 = (0, 1020) := by decide +kernel
theorem cq_X12_342 : CQ RX12 342 yX12_lay cX12_lay 3 none 2 := ⟨wm_1917, wm_124, wm_1920, by decide +kernel, by decide⟩
theorem cr_117_X12_lay : CR 117 yX12_lay := ⟨by decide +kernel, 12, 101, TX12, by decide +kernel, rfl, wm_1919, wm_67⟩
theorem cq_X12_346 : CQ RX12 346 yX12_unit cX12_unit 2 (some .boolean) 0 := ⟨wm_1913, wm_124, wm_1916, by decide +kernel, by decide⟩
theorem cr_117_X12_unit : CR 117 yX12_unit := ⟨by decide +kernel, 12, 101, TX12, by decide +kernel, rfl, wm_1915, wm_66⟩
theorem cq_X12_349 : CQ RX12 349 yX12_number cX12_number 3 (some .boolean) 2 := ⟨wm_1893, wm_124, wm_1896, by decide +kernel, by decide⟩
theorem cr_117_X12_number : CR 117 yX12_number := ⟨by decide +kernel, 12, 101, TX12, by decide +kernel, rfl, wm_1895, wm_61⟩
theorem cq_X12_338 : CQ RX12 338 yX12_product cX12_product 3 (some .boolean) 0 := ⟨wm_1909, wm_124, wm_1912, by decide +kernel, by decide⟩
theorem cr_117_X12_product : CR 117 yX12_product := ⟨by decide +kernel, 12, 101, TX12, by decide +kernel, rfl, wm_1911, wm_65⟩
theorem cq_X12_368 : CQ RX12 368 yX12_sumUp cX12_sumUp 2 (some .boolean) 0 := ⟨wm_1905, wm_124, wm_1908, by decide +kernel, by decide⟩
theorem cr_117_X12_sumUp : CR 117 yX12_sumUp := ⟨by decide +kernel, 12, 101, TX12, by decide +kernel, rfl, wm_1907, wm_64⟩
theorem af_X12_72_117 : AF RX12 72 117 21 := ⟨12, 101, RX12, TX12, by decide +kernel, by decide +kernel, rfl, by decide, gX12, wm_1519⟩
theorem sr_117_21 : srF 117 21 = 138 := by decide +kernel
theorem af_X12_75_117 : AF RX12 75 117 22 := ⟨12, 101, RX12, TX12, by decide +kernel, by decide +kernel, rfl, by decide, gX12, wm_1520⟩
theorem sr_117_22 : srF 117 22 = 139 := by decide +kernel
theorem kc_136 : 136 < KC := by decide +kernel
theorem sk_136 : skF 136 = (0, 16) := by decide +kernel
theorem kc_137 : 137 < KC := by decide +kernel
theorem sk_137 : skF 137 = (0, 16) := by decide +kernel
theorem cq_X12_371 : CQ RX12 371 yX12_hours cX12_hours 5 (some .boolean) 4 := ⟨wm_1897, wm_124, wm_1900, by decide +kernel, by decide⟩
theorem cr_117_X12_hours : CR 117 yX12_hours := ⟨by decide +kernel, 12, 101, TX12, by decide +kernel, rfl, wm_1899, wm_62⟩
theorem af_X12_93_117 : AF RX12 93 117 28 := ⟨12, 101, RX12, TX12, by decide +kernel, by decide +kernel, rfl, by decide, gX12, wm_1526⟩
theorem sr_117_28 : srF 117 28 = 145 := by decide +kernel
theorem kc_143 : 143 < KC := by decide +kernel
theorem sk_143 : skF 143 = (0, 60) := by decide +kernel
theorem cq_X12_378 : CQ RX12 378 yX12_aTunnel cX12_aTunnel 3 (some .boolean) 0 := ⟨wm_1889, wm_124, wm_1892, by decide +kernel, by decide⟩
theorem cr_117_X12_aTunnel : CR 117 yX12_aTunnel := ⟨by decide +kernel, 12, 101, TX12, by decide +kernel, rfl, wm_1891, wm_60⟩
theorem cq_X12_365 : CQ RX12 365 yX12_need cX12_need 2 (some .boolean) 1 := ⟨wm_1901, wm_124, wm_1904, by decide +kernel, by decide⟩
theorem cr_117_X12_need : CR 117 yX12_need := ⟨by decide +kernel, 12, 101, TX12, by decide +kernel, rfl, wm_1903, wm_63⟩
theorem cq_X12_356 : CQ RX12 356 yX12_one cX12_one 2 (some .boolean) 0 := ⟨wm_1929, wm_124, wm_1932, by decide +kernel, by decide⟩
theorem cr_117_X12_one : CR 117 yX12_one := ⟨by decide +kernel, 12, 101, TX12, by decide +kernel, rfl, wm_1931, wm_70⟩
theorem cq_X12_353 : CQ RX12 353 yX12_every cX12_every 1 (some .boolean) 0 := ⟨wm_1925, wm_124, wm_1928, by decide +kernel, by decide⟩
theorem cr_117_X12_every : CR 117 yX12_every := ⟨by decide +kernel, 12, 101, TX12, by decide +kernel, rfl, wm_1927, wm_69⟩
theorem af_X12_336_117 : AF RX12 336 117 45 := ⟨12, 101, RX12, TX12, by decide +kernel, by decide +kernel, rfl, by decide, gX12, wm_1543⟩
theorem cq_X12_359 : CQ RX12 359 yX12_opens cX12_opens 1 (some .boolean) 0 := ⟨wm_1933, wm_124, wm_1936, by decide +kernel, by decide⟩
theorem cr_117_X12_opens : CR 117 yX12_opens := ⟨by decide +kernel, 12, 101, TX12, by decide +kernel, rfl, wm_1935, wm_71⟩
theorem cq_X12_362 : CQ RX12 362 yX12_any cX12_any 1 (some .boolean) 0 := ⟨wm_1921, wm_124, wm_1924, by decide +kernel, by decide⟩
theorem cr_117_X12_any : CR 117 yX12_any := ⟨by decide +kernel, 12, 101, TX12, by decide +kernel, rfl, wm_1923, wm_68⟩
theorem cq_X12_381 : CQ RX12 381 yX12_aLine cX12_aLine 3 (some .boolean) 0 := ⟨wm_1881, wm_124, wm_1884, by decide +kernel, by decide⟩
theorem cr_117_X12_aLine : CR 117 yX12_aLine := ⟨by decide +kernel, 12, 101, TX12, by decide +kernel, rfl, wm_1883, wm_58⟩
theorem af_X12_321_117 : AF RX12 321 117 42 := ⟨12, 101, RX12, TX12, by decide +kernel, by decide +kernel, rfl, by decide, gX12, wm_1540⟩
theorem ap_X12_384_117 : AFp RX12 384 117 44 .int := ⟨12, 101, RX12, TX12, tyX12, by decide +kernel, by decide +kernel, rfl, by decide, gX12, wm_1542, tyX12_ok, nmX12, by decide +kernel, by decide +kernel⟩
theorem sr_117_44 : srF 117 44 = 0 := by decide +kernel
theorem af_X12_324_117 : AF RX12 324 117 43 := ⟨12, 101, RX12, TX12, by decide +kernel, by decide +kernel, rfl, by decide, gX12, wm_1541⟩
theorem ap_X12_112_117 : AFp RX12 112 117 46 .int := ⟨12, 101, RX12, TX12, tyX12, by decide +kernel, by decide +kernel, rfl, by decide, gX12, wm_1544, tyX12_ok, nmX12, by decide +kernel, by decide +kernel⟩
theorem sr_117_46 : srF 117 46 = 0 := by decide +kernel
theorem ap_X12_390_117 : AFp RX12 390 117 34 .int := ⟨12, 101, RX12, TX12, tyX12, by decide +kernel, by decide +kernel, rfl, by decide, gX12, wm_1532, tyX12_ok, nmX12, by decide +kernel, by decide +kernel⟩
theorem sr_117_34 : srF 117 34 = 0 := by decide +kernel
theorem af_X12_390_117 : AF RX12 390 117 34 := ⟨12, 101, RX12, TX12, by decide +kernel, by decide +kernel, rfl, by decide, gX12, wm_1532⟩
theorem af_X12_48_117 : AF RX12 48 117 13 := ⟨12, 101, RX12, TX12, by decide +kernel, by decide +kernel, rfl, by decide, gX12, wm_1511⟩
theorem sr_117_13 : srF 117 13 = 130 := by decide +kernel
theorem kc_128 : 128 < KC := by decide +kernel
theorem sk_128 : skF 128 = (0, 16) := by decide +kernel
theorem af_X12_51_117 : AF RX12 51 117 14 := ⟨12, 101, RX12, TX12, by decide +kernel, by decide +kernel, rfl, by decide, gX12, wm_1512⟩
theorem sr_117_14 : srF 117 14 = 131 := by decide +kernel
theorem kc_129 : 129 < KC := by decide +kernel
theorem sk_129 : skF 129 = (0, 16) := by decide +kernel
theorem af_X12_54_117 : AF RX12 54 117 15 := ⟨12, 101, RX12, TX12, by decide +kernel, by decide +kernel, rfl, by decide, gX12, wm_1513⟩
theorem sr_117_15 : srF 117 15 = 132 := by decide +kernel
theorem kc_130 : 130 < KC := by decide +kernel
theorem sk_130 : skF 130 = (0, 16) := by decide +kernel
theorem af_X12_57_117 : AF RX12 57 117 16 := ⟨12, 101, RX12, TX12, by decide +kernel, by decide +kernel, rfl, by decide, gX12, wm_1514⟩
theorem sr_117_16 : srF 117 16 = 133 := by decide +kernel
theorem kc_131 : 131 < KC := by decide +kernel
theorem sk_131 : skF 131 = (0, 16) := by decide +kernel
theorem af_X12_60_117 : AF RX12 60 117 17 := ⟨12, 101, RX12, TX12, by decide +kernel, by decide +kernel, rfl, by decide, gX12, wm_1515⟩
theorem sr_117_17 : srF 117 17 = 134 := by decide +kernel
theorem kc_132 : 132 < KC := by decide +kernel
theorem sk_132 : skF 132 = (0, 16) := by decide +kernel
theorem af_X12_63_117 : AF RX12 63 117 18 := ⟨12, 101, RX12, TX12, by decide +kernel, by decide +kernel, rfl, by decide, gX12, wm_1516⟩
theorem sr_117_18 : srF 117 18 = 135 := by decide +kernel
theorem kc_133 : 133 < KC := by decide +kernel
theorem sk_133 : skF 133 = (0, 16) := by decide +kernel
theorem af_X12_66_117 : AF RX12 66 117 19 := ⟨12, 101, RX12, TX12, by decide +kernel, by decide +kernel, rfl, by decide, gX12, wm_1517⟩
theorem sr_117_19 : srF 117 19 = 136 := by decide +kernel
theorem kc_134 : 134 < KC := by decide +kernel
theorem sk_134 : skF 134 = (0, 1020) := by decide +kernel
theorem af_X12_96_117 : AF RX12 96 117 29 := ⟨12, 101, RX12, TX12, by decide +kernel, by decide +kernel, rfl, by decide, gX12, wm_1527⟩
theorem sr_117_29 : srF 117 29 = 146 := by decide +kernel
theorem kc_144 : 144 < KC := by decide +kernel
theorem sk_144 : skF 144 = (1, 30) := by decide +kernel
theorem af_X12_90_117 : AF RX12 90 117 27 := ⟨12, 101, RX12, TX12, by decide +kernel, by decide +kernel, rfl, by decide, gX12, wm_1525⟩
theorem sr_117_27 : srF 117 27 = 144 := by decide +kernel
theorem kc_142 : 142 < KC := by decide +kernel
theorem sk_142 : skF 142 = (0, 60) := by decide +kernel
theorem cq_X12_387 : CQ RX12 387 yX12_keeps cX12_keeps 2 none 0 := ⟨wm_1937, wm_124, wm_1940, by decide +kernel, by decide⟩
theorem cr_117_X12_keeps : CR 117 yX12_keeps := ⟨by decide +kernel, 12, 101, TX12, by decide +kernel, rfl, wm_1939, wm_72⟩
theorem af_X12_112_117 : AF RX12 112 117 46 := ⟨12, 101, RX12, TX12, by decide +kernel, by decide +kernel, rfl, by decide, gX12, wm_1544⟩
theorem af_X12_384_117 : AF RX12 384 117 44 := ⟨12, 101, RX12, TX12, by decide +kernel, by decide +kernel, rfl, by decide, gX12, wm_1542⟩
theorem af_X12_109_117 : AF RX12 109 117 33 := ⟨12, 101, RX12, TX12, by decide +kernel, by decide +kernel, rfl, by decide, gX12, wm_1531⟩
theorem sr_117_33 : srF 117 33 = 150 := by decide +kernel
theorem kc_148 : 148 < KC := by decide +kernel
theorem sk_148 : skF 148 = (0, 10) := by decide +kernel
theorem cq_X12_401 : CQ RX12 401 yX12_forgets cX12_forgets 2 none 0 := ⟨wm_1953, wm_124, wm_1956, by decide +kernel, by decide⟩
theorem cr_117_X12_forgets : CR 117 yX12_forgets := ⟨by decide +kernel, 12, 101, TX12, by decide +kernel, rfl, wm_1955, wm_74⟩
theorem af_X12_44_117 : AF RX12 44 117 10 := ⟨12, 101, RX12, TX12, by decide +kernel, by decide +kernel, rfl, by decide, gX12, wm_1508⟩
theorem af_X12_106_117 : AF RX12 106 117 32 := ⟨12, 101, RX12, TX12, by decide +kernel, by decide +kernel, rfl, by decide, gX12, wm_1530⟩
theorem sr_117_32 : srF 117 32 = 149 := by decide +kernel
theorem kc_147 : 147 < KC := by decide +kernel
theorem sk_147 : skF 147 = (0, 520) := by decide +kernel
theorem cq_X12_393 : CQ RX12 393 yX12_both cX12_both 3 (some .int) 3 := ⟨wm_1965, wm_124, wm_1967, by decide +kernel, by decide⟩
theorem st_X12_both : Cond.static yX12_both ∈ lw_gd := wm_1966
theorem cq_X12_397 : CQ RX12 397 yX12_comesTo cX12_comesTo 7 (some .int) 2 := ⟨wm_1961, wm_124, wm_1964, by decide +kernel, by decide⟩
theorem cr_117_X12_comesTo : CR 117 yX12_comesTo := ⟨by decide +kernel, 12, 101, TX12, by decide +kernel, rfl, wm_1963, wm_76⟩
theorem cq_X12_404 : CQ RX12 404 yX12_serves cX12_serves 3 (some .int) 1 := ⟨wm_1957, wm_124, wm_1960, by decide +kernel, by decide⟩
theorem cr_117_X12_serves : CR 117 yX12_serves := ⟨by decide +kernel, 12, 101, TX12, by decide +kernel, rfl, wm_1959, wm_75⟩
theorem cq_X12_407 : CQ RX12 407 yX12_locksLine cX12_locksLine 2 (some .int) 1 := ⟨wm_1949, wm_124, wm_1952, by decide +kernel, by decide⟩
theorem cr_117_X12_locksLine : CR 117 yX12_locksLine := ⟨by decide +kernel, 12, 101, TX12, by decide +kernel, rfl, wm_1951, wm_73⟩
theorem cq_X12_435 : CQ RX12 435 yX12_isBoat cX12_isBoat 2 (some .boolean) 1 := ⟨wm_1972, wm_124, wm_1975, by decide +kernel, by decide⟩
theorem cr_117_X12_isBoat : CR 117 yX12_isBoat := ⟨by decide +kernel, 12, 101, TX12, by decide +kernel, rfl, wm_1974, wm_77⟩
theorem cq_X12_438 : CQ RX12 438 yX12_isTime cX12_isTime 1 (some .boolean) 1 := ⟨wm_1976, wm_124, wm_1978, by decide +kernel, by decide⟩
theorem st_X12_isTime : Cond.static yX12_isTime ∈ lw_gd := wm_1977
theorem cq_X12_410 : CQ RX12 410 yX12_isStopped cX12_isStopped 4 (some .boolean) 2 := ⟨wm_1995, wm_124, wm_1998, by decide +kernel, by decide⟩
theorem cr_117_X12_isStopped : CR 117 yX12_isStopped := ⟨by decide +kernel, 12, 101, TX12, by decide +kernel, rfl, wm_1997, wm_82⟩
theorem cq_X12_413 : CQ RX12 413 yX12_mayBegin cX12_mayBegin 6 (some .boolean) 4 := ⟨wm_1991, wm_124, wm_1994, by decide +kernel, by decide⟩
theorem cr_117_X12_mayBegin : CR 117 yX12_mayBegin := ⟨by decide +kernel, 12, 101, TX12, by decide +kernel, rfl, wm_1993, wm_81⟩
theorem cq_X12_417 : CQ RX12 417 yX12_endOf cX12_endOf 6 (some .int) 4 := ⟨wm_1987, wm_124, wm_1990, by decide +kernel, by decide⟩
theorem cr_117_X12_endOf : CR 117 yX12_endOf := ⟨by decide +kernel, 12, 101, TX12, by decide +kernel, rfl, wm_1989, wm_80⟩
theorem af_X12_421_117 : AF RX12 421 117 47 := ⟨12, 101, RX12, TX12, by decide +kernel, by decide +kernel, rfl, by decide, gX12, wm_1545⟩
theorem sr_117_47 : srF 117 47 = 0 := by decide +kernel
theorem af_X12_425_117 : AF RX12 425 117 48 := ⟨12, 101, RX12, TX12, by decide +kernel, by decide +kernel, rfl, by decide, gX12, wm_1546⟩
theorem sr_117_48 : srF 117 48 = 0 := by decide +kernel
theorem cq_X12_428 : CQ RX12 428 yX12_harmOf cX12_harmOf 5 (some .int) 2 := ⟨wm_1999, wm_124, wm_2002, by decide +kernel, by decide⟩
theorem cr_117_X12_harmOf : CR 117 yX12_harmOf := ⟨by decide +kernel, 12, 101, TX12, by decide +kernel, rfl, wm_2001, wm_83⟩
theorem ap_X12_425_117 : AFp RX12 425 117 48 .int := ⟨12, 101, RX12, TX12, tyX12, by decide +kernel, by decide +kernel, rfl, by decide, gX12, wm_1546, tyX12_ok, nmX12, by decide +kernel, by decide +kernel⟩
theorem cq_X12_431 : CQ RX12 431 yX12_through cX12_through 8 (some .int) 4 := ⟨wm_1983, wm_124, wm_1986, by decide +kernel, by decide⟩
theorem cr_117_X12_through : CR 117 yX12_through := ⟨by decide +kernel, 12, 101, TX12, by decide +kernel, rfl, wm_1985, wm_79⟩
theorem cq_X12_441 : CQ RX12 441 yX12_led cX12_led 7 (some .int) 4 := ⟨wm_1979, wm_124, wm_1982, by decide +kernel, by decide⟩
theorem cr_117_X12_led : CR 117 yX12_led := ⟨by decide +kernel, 12, 101, TX12, by decide +kernel, rfl, wm_1981, wm_78⟩
theorem ap_X12_421_117 : AFp RX12 421 117 47 .boolean := ⟨12, 101, RX12, TX12, tyX12, by decide +kernel, by decide +kernel, rfl, by decide, gX12, wm_1545, tyX12_ok, nmX12, by decide +kernel, by decide +kernel⟩
theorem af_X12_444_117 : AF RX12 444 117 49 := ⟨12, 101, RX12, TX12, by decide +kernel, by decide +kernel, rfl, by decide, gX12, wm_1547⟩
theorem sr_117_49 : srF 117 49 = 0 := by decide +kernel
theorem af_X12_115_117 : AF RX12 115 117 50 := ⟨12, 101, RX12, TX12, by decide +kernel, by decide +kernel, rfl, by decide, gX12, wm_1548⟩
theorem sr_117_50 : srF 117 50 = 151 := by decide +kernel
theorem kc_149 : 149 < KC := by decide +kernel
theorem sk_149 : skF 149 = (0, 20) := by decide +kernel
theorem af_X12_118_117 : AF RX12 118 117 51 := ⟨12, 101, RX12, TX12, by decide +kernel, by decide +kernel, rfl, by decide, gX12, wm_1549⟩
theorem sr_117_51 : srF 117 51 = 152 := by decide +kernel
theorem kc_150 : 150 < KC := by decide +kernel
theorem sk_150 : skF 150 = (0, 20) := by decide +kernel
theorem af_X12_121_117 : AF RX12 121 117 52 := ⟨12, 101, RX12, TX12, by decide +kernel, by decide +kernel, rfl, by decide, gX12, wm_1550⟩
theorem sr_117_52 : srF 117 52 = 153 := by decide +kernel
theorem kc_151 : 151 < KC := by decide +kernel
theorem sk_151 : skF 151 = (0, 20) := by decide +kernel
theorem af_X12_124_117 : AF RX12 124 117 53 := ⟨12, 101, RX12, TX12, by decide +kernel, by decide +kernel, rfl, by decide, gX12, wm_1551⟩
theorem sr_117_53 : srF 117 53 = 154 := by decide +kernel
theorem kc_152 : 152 < KC := by decide +kernel
theorem sk_152 : skF 152 = (0, 20) := by decide +kernel
theorem af_X12_127_117 : AF RX12 127 117 54 := ⟨12, 101, RX12, TX12, by decide +kernel, by decide +kernel, rfl, by decide, gX12, wm_1552⟩
theorem sr_117_54 : srF 117 54 = 155 := by decide +kernel
theorem kc_153 : 153 < KC := by decide +kernel
theorem sk_153 : skF 153 = (0, 20) := by decide +kernel
theorem ap_X12_444_117 : AFp RX12 444 117 49 .int := ⟨12, 101, RX12, TX12, tyX12, by decide +kernel, by decide +kernel, rfl, by decide, gX12, wm_1547, tyX12_ok, nmX12, by decide +kernel, by decide +kernel⟩
theorem cq_X12_447 : CQ RX12 447 yX12_lateOf cX12_lateOf 3 (some .int) 1 := ⟨wm_2023, wm_124, wm_2026, by decide +kernel, by decide⟩
theorem cr_117_X12_lateOf : CR 117 yX12_lateOf := ⟨by decide +kernel, 12, 101, TX12, by decide +kernel, rfl, wm_2025, wm_84⟩
theorem cw_X12_450 : Cond.constant RX12 450 (Int32.ofInt (-1000000)) ∈ lw_gd := wm_2035
theorem ap_X12_454_117 : AFp RX12 454 117 100 .boolean := ⟨12, 101, RX12, TX12, tyX12, by decide +kernel, by decide +kernel, rfl, by decide, gX12, wm_1598, tyX12_ok, nmX12, by decide +kernel, by decide +kernel⟩
theorem sr_117_100 : srF 117 100 = 0 := by decide +kernel
theorem cq_X12_451 : CQ RX12 451 yX12_price cX12_price 5 (some .int) 3 := ⟨wm_2040, wm_124, wm_2043, by decide +kernel, by decide⟩
theorem cr_117_X12_price : CR 117 yX12_price := ⟨by decide +kernel, 12, 101, TX12, by decide +kernel, rfl, wm_2041, wm_2042⟩
theorem af_X12_454_117 : AF RX12 454 117 100 := ⟨12, 101, RX12, TX12, by decide +kernel, by decide +kernel, rfl, by decide, gX12, wm_1598⟩
theorem cw_X12_457 : Cond.constantLong RX12 457 (Int64.ofInt 7) ∈ lw_gd := wm_2044
theorem cq_X12_462 : CQ RX12 462 yX12_refund cX12_refund 5 (some .int) 1 := ⟨wm_2036, wm_124, wm_2039, by decide +kernel, by decide⟩
theorem cr_117_X12_refund : CR 117 yX12_refund := ⟨by decide +kernel, 12, 101, TX12, by decide +kernel, rfl, wm_2038, wm_86⟩
theorem cq_X12_459 : CQ RX12 459 yX12_turningBack cX12_turningBack 8 (some .int) 1 := ⟨wm_2031, wm_124, wm_2034, by decide +kernel, by decide⟩
theorem cr_117_X12_turningBack : CR 117 yX12_turningBack := ⟨by decide +kernel, 12, 101, TX12, by decide +kernel, rfl, wm_2033, wm_85⟩
theorem af_X12_130_117 : AF RX12 130 117 55 := ⟨12, 101, RX12, TX12, by decide +kernel, by decide +kernel, rfl, by decide, gX12, wm_1553⟩
theorem sr_117_55 : srF 117 55 = 156 := by decide +kernel
theorem kc_154 : 154 < KC := by decide +kernel
theorem sk_154 : skF 154 = (1, 16) := by decide +kernel
theorem af_X12_133_117 : AF RX12 133 117 56 := ⟨12, 101, RX12, TX12, by decide +kernel, by decide +kernel, rfl, by decide, gX12, wm_1554⟩
theorem sr_117_56 : srF 117 56 = 157 := by decide +kernel
theorem kc_155 : 155 < KC := by decide +kernel
theorem sk_155 : skF 155 = (0, 10) := by decide +kernel
theorem af_X12_139_117 : AF RX12 139 117 58 := ⟨12, 101, RX12, TX12, by decide +kernel, by decide +kernel, rfl, by decide, gX12, wm_1556⟩
theorem sr_117_58 : srF 117 58 = 159 := by decide +kernel
theorem kc_157 : 157 < KC := by decide +kernel
theorem sk_157 : skF 157 = (0, 100) := by decide +kernel
theorem af_X12_136_117 : AF RX12 136 117 57 := ⟨12, 101, RX12, TX12, by decide +kernel, by decide +kernel, rfl, by decide, gX12, wm_1555⟩
theorem sr_117_57 : srF 117 57 = 158 := by decide +kernel
theorem kc_156 : 156 < KC := by decide +kernel
theorem sk_156 : skF 156 = (0, 100) := by decide +kernel
theorem cq_X12_469 : CQ RX12 469 yX12_isSpan cX12_isSpan 2 (some .boolean) 2 := ⟨wm_2065, wm_124, wm_2067, by decide +kernel, by decide⟩
theorem st_X12_isSpan : Cond.static yX12_isSpan ∈ lw_gd := wm_2066
theorem cq_X12_465 : CQ RX12 465 yX12_between cX12_between 11 (some .boolean) 5 := ⟨wm_2072, wm_124, wm_2075, by decide +kernel, by decide⟩
theorem cr_117_X12_between : CR 117 yX12_between := ⟨by decide +kernel, 12, 101, TX12, by decide +kernel, rfl, wm_2074, wm_88⟩
theorem cq_X12_472 : CQ RX12 472 yX12_canHaveBeen cX12_canHaveBeen 6 (some .boolean) 4 := ⟨wm_2068, wm_124, wm_2071, by decide +kernel, by decide⟩
theorem cr_117_X12_canHaveBeen : CR 117 yX12_canHaveBeen := ⟨by decide +kernel, 12, 101, TX12, by decide +kernel, rfl, wm_2070, wm_87⟩
theorem af_X12_475_117 : AF RX12 475 117 59 := ⟨12, 101, RX12, TX12, by decide +kernel, by decide +kernel, rfl, by decide, gX12, wm_1557⟩
theorem sr_117_59 : srF 117 59 = 0 := by decide +kernel
theorem af_X12_142_117 : AF RX12 142 117 60 := ⟨12, 101, RX12, TX12, by decide +kernel, by decide +kernel, rfl, by decide, gX12, wm_1558⟩
theorem sr_117_60 : srF 117 60 = 160 := by decide +kernel
theorem kc_158 : 158 < KC := by decide +kernel
theorem sk_158 : skF 158 = (0, 7) := by decide +kernel
theorem ap_X12_475_117 : AFp RX12 475 117 59 .int := ⟨12, 101, RX12, TX12, tyX12, by decide +kernel, by decide +kernel, rfl, by decide, gX12, wm_1557, tyX12_ok, nmX12, by decide +kernel, by decide +kernel⟩
theorem af_X12_145_117 : AF RX12 145 117 61 := ⟨12, 101, RX12, TX12, by decide +kernel, by decide +kernel, rfl, by decide, gX12, wm_1559⟩
theorem sr_117_61 : srF 117 61 = 161 := by decide +kernel
theorem kc_159 : 159 < KC := by decide +kernel
theorem sk_159 : skF 159 = (0, 7) := by decide +kernel
theorem ap_X12_481_117 : AFp RX12 481 117 64 .int := ⟨12, 101, RX12, TX12, tyX12, by decide +kernel, by decide +kernel, rfl, by decide, gX12, wm_1562, tyX12_ok, nmX12, by decide +kernel, by decide +kernel⟩
theorem sr_117_64 : srF 117 64 = 0 := by decide +kernel
theorem af_X12_148_117 : AF RX12 148 117 62 := ⟨12, 101, RX12, TX12, by decide +kernel, by decide +kernel, rfl, by decide, gX12, wm_1560⟩
theorem sr_117_62 : srF 117 62 = 162 := by decide +kernel
theorem kc_160 : 160 < KC := by decide +kernel
theorem sk_160 : skF 160 = (0, 7) := by decide +kernel
theorem cq_X12_478 : CQ RX12 478 yX12_waits cX12_waits 6 (some .int) 0 := ⟨wm_2096, wm_124, wm_2099, by decide +kernel, by decide⟩
theorem cr_117_X12_waits : CR 117 yX12_waits := ⟨by decide +kernel, 12, 101, TX12, by decide +kernel, rfl, wm_2098, wm_90⟩
theorem af_X12_481_117 : AF RX12 481 117 64 := ⟨12, 101, RX12, TX12, by decide +kernel, by decide +kernel, rfl, by decide, gX12, wm_1562⟩
theorem cq_X12_484 : CQ RX12 484 yX12_orders cX12_orders 5 none 2 := ⟨wm_2092, wm_124, wm_2095, by decide +kernel, by decide⟩
theorem cr_117_X12_orders : CR 117 yX12_orders := ⟨by decide +kernel, 12, 101, TX12, by decide +kernel, rfl, wm_2094, wm_89⟩
theorem af_X12_151_117 : AF RX12 151 117 63 := ⟨12, 101, RX12, TX12, by decide +kernel, by decide +kernel, rfl, by decide, gX12, wm_1561⟩
theorem sr_117_63 : srF 117 63 = 163 := by decide +kernel
theorem kc_161 : 161 < KC := by decide +kernel
theorem sk_161 : skF 161 = (0, 7) := by decide +kernel
theorem cq_X12_487 : CQ RX12 487 yX12_asTheyCome cX12_asTheyCome 2 none 0 := ⟨wm_2100, wm_124, wm_2103, by decide +kernel, by decide⟩
theorem cr_117_X12_asTheyCome : CR 117 yX12_asTheyCome := ⟨by decide +kernel, 12, 101, TX12, by decide +kernel, rfl, wm_2102, wm_91⟩
theorem cq_X12_490 : CQ RX12 490 yX12_lockfuls cX12_lockfuls 3 (some .int) 0 := ⟨wm_2104, wm_124, wm_2107, by decide +kernel, by decide⟩
theorem cr_117_X12_lockfuls : CR 117 yX12_lockfuls := ⟨by decide +kernel, 12, 101, TX12, by decide +kernel, rfl, wm_2106, wm_92⟩
theorem af_X12_493_117 : AF RX12 493 117 65 := ⟨12, 101, RX12, TX12, by decide +kernel, by decide +kernel, rfl, by decide, gX12, wm_1563⟩
theorem sr_117_65 : srF 117 65 = 0 := by decide +kernel
theorem af_X12_154_117 : AF RX12 154 117 68 := ⟨12, 101, RX12, TX12, by decide +kernel, by decide +kernel, rfl, by decide, gX12, wm_1566⟩
theorem sr_117_68 : srF 117 68 = 164 := by decide +kernel
theorem kc_162 : 162 < KC := by decide +kernel
theorem sk_162 : skF 162 = (0, 8) := by decide +kernel
theorem af_X12_157_117 : AF RX12 157 117 69 := ⟨12, 101, RX12, TX12, by decide +kernel, by decide +kernel, rfl, by decide, gX12, wm_1567⟩
theorem sr_117_69 : srF 117 69 = 165 := by decide +kernel
theorem kc_163 : 163 < KC := by decide +kernel
theorem sk_163 : skF 163 = (0, 8) := by decide +kernel
theorem af_X12_160_117 : AF RX12 160 117 70 := ⟨12, 101, RX12, TX12, by decide +kernel, by decide +kernel, rfl, by decide, gX12, wm_1568⟩
theorem sr_117_70 : srF 117 70 = 166 := by decide +kernel
theorem kc_164 : 164 < KC := by decide +kernel
theorem sk_164 : skF 164 = (0, 8) := by decide +kernel
theorem af_X12_163_117 : AF RX12 163 117 71 := ⟨12, 101, RX12, TX12, by decide +kernel, by decide +kernel, rfl, by decide, gX12, wm_1569⟩
theorem sr_117_71 : srF 117 71 = 167 := by decide +kernel
theorem kc_165 : 165 < KC := by decide +kernel
theorem sk_165 : skF 165 = (0, 8) := by decide +kernel
theorem ap_X12_493_117 : AFp RX12 493 117 65 .int := ⟨12, 101, RX12, TX12, tyX12, by decide +kernel, by decide +kernel, rfl, by decide, gX12, wm_1563, tyX12_ok, nmX12, by decide +kernel, by decide +kernel⟩
theorem af_X12_181_117 : AF RX12 181 117 77 := ⟨12, 101, RX12, TX12, by decide +kernel, by decide +kernel, rfl, by decide, gX12, wm_1575⟩
theorem sr_117_77 : srF 117 77 = 173 := by decide +kernel
theorem kc_171 : 171 < KC := by decide +kernel
theorem sk_171 : skF 171 = (0, 4) := by decide +kernel
theorem af_X12_184_117 : AF RX12 184 117 78 := ⟨12, 101, RX12, TX12, by decide +kernel, by decide +kernel, rfl, by decide, gX12, wm_1576⟩
theorem sr_117_78 : srF 117 78 = 174 := by decide +kernel
theorem kc_172 : 172 < KC := by decide +kernel
theorem sk_172 : skF 172 = (0, 4) := by decide +kernel
theorem cq_X12_505 : CQ RX12 505 yX12_asks cX12_asks 3 none 1 := ⟨wm_2116, wm_124, wm_2119, by decide +kernel, by decide⟩
theorem cr_117_X12_asks : CR 117 yX12_asks := ⟨by decide +kernel, 12, 101, TX12, by decide +kernel, rfl, wm_2118, wm_93⟩
theorem af_X12_166_117 : AF RX12 166 117 72 := ⟨12, 101, RX12, TX12, by decide +kernel, by decide +kernel, rfl, by decide, gX12, wm_1570⟩
theorem sr_117_72 : srF 117 72 = 168 := by decide +kernel
theorem kc_166 : 166 < KC := by decide +kernel
theorem sk_166 : skF 166 = (0, 8) := by decide +kernel
theorem cq_X12_512 : CQ RX12 512 yX12_sorts cX12_sorts 3 none 0 := ⟨wm_2124, wm_124, wm_2127, by decide +kernel, by decide⟩
theorem cr_117_X12_sorts : CR 117 yX12_sorts := ⟨by decide +kernel, 12, 101, TX12, by decide +kernel, rfl, wm_2126, wm_95⟩
theorem af_X12_175_117 : AF RX12 175 117 75 := ⟨12, 101, RX12, TX12, by decide +kernel, by decide +kernel, rfl, by decide, gX12, wm_1573⟩
theorem sr_117_75 : srF 117 75 = 171 := by decide +kernel
theorem kc_169 : 169 < KC := by decide +kernel
theorem sk_169 : skF 169 = (0, 4) := by decide +kernel
theorem af_X12_178_117 : AF RX12 178 117 76 := ⟨12, 101, RX12, TX12, by decide +kernel, by decide +kernel, rfl, by decide, gX12, wm_1574⟩
theorem sr_117_76 : srF 117 76 = 172 := by decide +kernel
theorem kc_170 : 170 < KC := by decide +kernel
theorem sk_170 : skF 170 = (0, 4) := by decide +kernel
theorem ap_X12_496_117 : AFp RX12 496 117 66 .int := ⟨12, 101, RX12, TX12, tyX12, by decide +kernel, by decide +kernel, rfl, by decide, gX12, wm_1564, tyX12_ok, nmX12, by decide +kernel, by decide +kernel⟩
theorem sr_117_66 : srF 117 66 = 0 := by decide +kernel
theorem ap_X12_499_117 : AFp RX12 499 117 67 .int := ⟨12, 101, RX12, TX12, tyX12, by decide +kernel, by decide +kernel, rfl, by decide, gX12, wm_1565, tyX12_ok, nmX12, by decide +kernel, by decide +kernel⟩
theorem sr_117_67 : srF 117 67 = 0 := by decide +kernel
theorem af_X12_169_117 : AF RX12 169 117 73 := ⟨12, 101, RX12, TX12, by decide +kernel, by decide +kernel, rfl, by decide, gX12, wm_1571⟩
theorem sr_117_73 : srF 117 73 = 169 := by decide +kernel
theorem kc_167 : 167 < KC := by decide +kernel
theorem sk_167 : skF 167 = (0, 8) := by decide +kernel
theorem cq_X12_502 : CQ RX12 502 yX12_gives cX12_gives 8 none 3 := ⟨wm_2128, wm_124, wm_2131, by decide +kernel, by decide⟩
theorem cr_117_X12_gives : CR 117 yX12_gives := ⟨by decide +kernel, 12, 101, TX12, by decide +kernel, rfl, wm_2130, wm_96⟩
theorem af_X12_496_117 : AF RX12 496 117 66 := ⟨12, 101, RX12, TX12, by decide +kernel, by decide +kernel, rfl, by decide, gX12, wm_1564⟩
theorem af_X12_499_117 : AF RX12 499 117 67 := ⟨12, 101, RX12, TX12, by decide +kernel, by decide +kernel, rfl, by decide, gX12, wm_1565⟩
theorem af_X12_172_117 : AF RX12 172 117 74 := ⟨12, 101, RX12, TX12, by decide +kernel, by decide +kernel, rfl, by decide, gX12, wm_1572⟩
theorem sr_117_74 : srF 117 74 = 170 := by decide +kernel
theorem kc_168 : 168 < KC := by decide +kernel
theorem sk_168 : skF 168 = (0, 8) := by decide +kernel
theorem cq_X12_509 : CQ RX12 509 yX12_givesBest cX12_givesBest 3 none 1 := ⟨wm_2120, wm_124, wm_2123, by decide +kernel, by decide⟩
theorem cr_117_X12_givesBest : CR 117 yX12_givesBest := ⟨by decide +kernel, 12, 101, TX12, by decide +kernel, rfl, wm_2122, wm_94⟩
theorem af_X12_190_117 : AF RX12 190 117 80 := ⟨12, 101, RX12, TX12, by decide +kernel, by decide +kernel, rfl, by decide, gX12, wm_1578⟩
theorem sr_117_80 : srF 117 80 = 176 := by decide +kernel
theorem kc_174 : 174 < KC := by decide +kernel
theorem sk_174 : skF 174 = (0, 10) := by decide +kernel
theorem af_X12_187_117 : AF RX12 187 117 79 := ⟨12, 101, RX12, TX12, by decide +kernel, by decide +kernel, rfl, by decide, gX12, wm_1577⟩
theorem sr_117_79 : srF 117 79 = 175 := by decide +kernel
theorem kc_173 : 173 < KC := by decide +kernel
theorem sk_173 : skF 173 = (0, 10) := by decide +kernel
theorem ap_X12_515_117 : AFp RX12 515 117 84 .int := ⟨12, 101, RX12, TX12, tyX12, by decide +kernel, by decide +kernel, rfl, by decide, gX12, wm_1582, tyX12_ok, nmX12, by decide +kernel, by decide +kernel⟩
theorem sr_117_84 : srF 117 84 = 0 := by decide +kernel
theorem af_X12_193_117 : AF RX12 193 117 81 := ⟨12, 101, RX12, TX12, by decide +kernel, by decide +kernel, rfl, by decide, gX12, wm_1579⟩
theorem sr_117_81 : srF 117 81 = 177 := by decide +kernel
theorem af_X12_515_117 : AF RX12 515 117 84 := ⟨12, 101, RX12, TX12, by decide +kernel, by decide +kernel, rfl, by decide, gX12, wm_1582⟩
theorem kc_175 : 175 < KC := by decide +kernel
theorem sk_175 : skF 175 = (0, 7) := by decide +kernel
theorem ap_X12_518_117 : AFp RX12 518 117 85 .int := ⟨12, 101, RX12, TX12, tyX12, by decide +kernel, by decide +kernel, rfl, by decide, gX12, wm_1583, tyX12_ok, nmX12, by decide +kernel, by decide +kernel⟩
theorem sr_117_85 : srF 117 85 = 0 := by decide +kernel
theorem af_X12_518_117 : AF RX12 518 117 85 := ⟨12, 101, RX12, TX12, by decide +kernel, by decide +kernel, rfl, by decide, gX12, wm_1583⟩
theorem af_X12_521_117 : AF RX12 521 117 86 := ⟨12, 101, RX12, TX12, by decide +kernel, by decide +kernel, rfl, by decide, gX12, wm_1584⟩
theorem sr_117_86 : srF 117 86 = 0 := by decide +kernel
theorem af_X12_196_117 : AF RX12 196 117 82 := ⟨12, 101, RX12, TX12, by decide +kernel, by decide +kernel, rfl, by decide, gX12, wm_1580⟩
theorem sr_117_82 : srF 117 82 = 178 := by decide +kernel
theorem kc_176 : 176 < KC := by decide +kernel
theorem sk_176 : skF 176 = (0, 7) := by decide +kernel
theorem cq_X12_524 : CQ RX12 524 yX12_docksOn cX12_docksOn 9 none 5 := ⟨wm_2144, wm_124, wm_2147, by decide +kernel, by decide⟩
theorem cr_117_X12_docksOn : CR 117 yX12_docksOn := ⟨by decide +kernel, 12, 101, TX12, by decide +kernel, rfl, wm_2146, wm_97⟩
theorem ap_X12_521_117 : AFp RX12 521 117 86 .int := ⟨12, 101, RX12, TX12, tyX12, by decide +kernel, by decide +kernel, rfl, by decide, gX12, wm_1584, tyX12_ok, nmX12, by decide +kernel, by decide +kernel⟩
theorem af_X12_199_117 : AF RX12 199 117 83 := ⟨12, 101, RX12, TX12, by decide +kernel, by decide +kernel, rfl, by decide, gX12, wm_1581⟩
theorem sr_117_83 : srF 117 83 = 179 := by decide +kernel
theorem kc_177 : 177 < KC := by decide +kernel
theorem sk_177 : skF 177 = (0, 7) := by decide +kernel
theorem af_X12_528_117 : AF RX12 528 117 87 := ⟨12, 101, RX12, TX12, by decide +kernel, by decide +kernel, rfl, by decide, gX12, wm_1585⟩
theorem sr_117_87 : srF 117 87 = 0 := by decide +kernel
theorem af_X12_202_117 : AF RX12 202 117 88 := ⟨12, 101, RX12, TX12, by decide +kernel, by decide +kernel, rfl, by decide, gX12, wm_1586⟩
theorem sr_117_88 : srF 117 88 = 180 := by decide +kernel
theorem kc_178 : 178 < KC := by decide +kernel
theorem sk_178 : skF 178 = (0, 8) := by decide +kernel
theorem ap_X12_528_117 : AFp RX12 528 117 87 .int := ⟨12, 101, RX12, TX12, tyX12, by decide +kernel, by decide +kernel, rfl, by decide, gX12, wm_1585, tyX12_ok, nmX12, by decide +kernel, by decide +kernel⟩
theorem ap_X12_531_117 : AFp RX12 531 117 90 .int := ⟨12, 101, RX12, TX12, tyX12, by decide +kernel, by decide +kernel, rfl, by decide, gX12, wm_1588, tyX12_ok, nmX12, by decide +kernel, by decide +kernel⟩
theorem sr_117_90 : srF 117 90 = 0 := by decide +kernel
theorem af_X12_205_117 : AF RX12 205 117 89 := ⟨12, 101, RX12, TX12, by decide +kernel, by decide +kernel, rfl, by decide, gX12, wm_1587⟩
theorem sr_117_89 : srF 117 89 = 181 := by decide +kernel
theorem kc_179 : 179 < KC := by decide +kernel
theorem sk_179 : skF 179 = (0, 3) := by decide +kernel
theorem cq_X12_534 : CQ RX12 534 yX12_lastEnd cX12_lastEnd 4 (some .int) 1 := ⟨wm_2160, wm_124, wm_2163, by decide +kernel, by decide⟩
theorem cr_117_X12_lastEnd : CR 117 yX12_lastEnd := ⟨by decide +kernel, 12, 101, TX12, by decide +kernel, rfl, wm_2162, wm_99⟩
theorem af_X12_531_117 : AF RX12 531 117 90 := ⟨12, 101, RX12, TX12, by decide +kernel, by decide +kernel, rfl, by decide, gX12, wm_1588⟩
theorem cq_X12_537 : CQ RX12 537 yX12_worked cX12_worked 5 (some .int) 1 := ⟨wm_2156, wm_124, wm_2159, by decide +kernel, by decide⟩
theorem cr_117_X12_worked : CR 117 yX12_worked := ⟨by decide +kernel, 12, 101, TX12, by decide +kernel, rfl, wm_2158, wm_98⟩
theorem cq_X12_540 : CQ RX12 540 yX12_handOf cX12_handOf 6 (some .int) 3 := ⟨wm_2164, wm_124, wm_2167, by decide +kernel, by decide⟩
theorem cr_117_X12_handOf : CR 117 yX12_handOf := ⟨by decide +kernel, 12, 101, TX12, by decide +kernel, rfl, wm_2166, wm_100⟩
theorem af_X12_208_117 : AF RX12 208 117 91 := ⟨12, 101, RX12, TX12, by decide +kernel, by decide +kernel, rfl, by decide, gX12, wm_1589⟩
theorem sr_117_91 : srF 117 91 = 182 := by decide +kernel
theorem kc_180 : 180 < KC := by decide +kernel
theorem sk_180 : skF 180 = (0, 16) := by decide +kernel
theorem cq_X12_543 : CQ RX12 543 yX12_drive cX12_drive 5 (some .int) 2 := ⟨wm_2180, wm_124, wm_2183, by decide +kernel, by decide⟩
theorem cr_117_X12_drive : CR 117 yX12_drive := ⟨by decide +kernel, 12, 101, TX12, by decide +kernel, rfl, wm_2182, wm_102⟩
theorem cq_X12_549 : CQ RX12 549 yX12_worstOf cX12_worstOf 4 (some .int) 1 := ⟨wm_2184, wm_124, wm_2187, by decide +kernel, by decide⟩
theorem cr_117_X12_worstOf : CR 117 yX12_worstOf := ⟨by decide +kernel, 12, 101, TX12, by decide +kernel, rfl, wm_2186, wm_103⟩
theorem cq_X12_546 : CQ RX12 546 yX12_sumOf cX12_sumOf 4 (some .int) 1 := ⟨wm_2176, wm_124, wm_2179, by decide +kernel, by decide⟩
theorem cr_117_X12_sumOf : CR 117 yX12_sumOf := ⟨by decide +kernel, 12, 101, TX12, by decide +kernel, rfl, wm_2178, wm_101⟩
theorem cq_X12_552 : CQ RX12 552 yX12_nearer cX12_nearer 4 (some .int) 3 := ⟨wm_2192, wm_124, wm_2195, by decide +kernel, by decide⟩
theorem cr_117_X12_nearer : CR 117 yX12_nearer := ⟨by decide +kernel, 12, 101, TX12, by decide +kernel, rfl, wm_2194, wm_104⟩
theorem af_X12_555_117 : AF RX12 555 117 92 := ⟨12, 101, RX12, TX12, by decide +kernel, by decide +kernel, rfl, by decide, gX12, wm_1590⟩
theorem sr_117_92 : srF 117 92 = 0 := by decide +kernel
theorem af_X12_211_117 : AF RX12 211 117 93 := ⟨12, 101, RX12, TX12, by decide +kernel, by decide +kernel, rfl, by decide, gX12, wm_1591⟩
theorem sr_117_93 : srF 117 93 = 183 := by decide +kernel
theorem kc_181 : 181 < KC := by decide +kernel
theorem sk_181 : skF 181 = (0, 12) := by decide +kernel
theorem ap_X12_555_117 : AFp RX12 555 117 92 .int := ⟨12, 101, RX12, TX12, tyX12, by decide +kernel, by decide +kernel, rfl, by decide, gX12, wm_1590, tyX12_ok, nmX12, by decide +kernel, by decide +kernel⟩
theorem af_X12_214_117 : AF RX12 214 117 94 := ⟨12, 101, RX12, TX12, by decide +kernel, by decide +kernel, rfl, by decide, gX12, wm_1592⟩
theorem sr_117_94 : srF 117 94 = 184 := by decide +kernel
theorem kc_182 : 182 < KC := by decide +kernel
theorem sk_182 : skF 182 = (0, 12) := by decide +kernel
theorem af_X12_217_117 : AF RX12 217 117 95 := ⟨12, 101, RX12, TX12, by decide +kernel, by decide +kernel, rfl, by decide, gX12, wm_1593⟩
theorem sr_117_95 : srF 117 95 = 185 := by decide +kernel
theorem kc_183 : 183 < KC := by decide +kernel
theorem sk_183 : skF 183 = (0, 12) := by decide +kernel
theorem af_X12_220_117 : AF RX12 220 117 96 := ⟨12, 101, RX12, TX12, by decide +kernel, by decide +kernel, rfl, by decide, gX12, wm_1594⟩
theorem sr_117_96 : srF 117 96 = 186 := by decide +kernel
theorem kc_184 : 184 < KC := by decide +kernel
theorem sk_184 : skF 184 = (0, 2) := by decide +kernel
theorem af_X12_223_117 : AF RX12 223 117 97 := ⟨12, 101, RX12, TX12, by decide +kernel, by decide +kernel, rfl, by decide, gX12, wm_1595⟩
theorem sr_117_97 : srF 117 97 = 187 := by decide +kernel
theorem kc_185 : 185 < KC := by decide +kernel
theorem sk_185 : skF 185 = (0, 2) := by decide +kernel
theorem cq_X12_558 : CQ RX12 558 yX12_arrives cX12_arrives 4 (some .int) 2 := ⟨wm_2204, wm_124, wm_2207, by decide +kernel, by decide⟩
theorem cr_117_X12_arrives : CR 117 yX12_arrives := ⟨by decide +kernel, 12, 101, TX12, by decide +kernel, rfl, wm_2206, wm_105⟩
theorem cq_X12_567 : CQ RX12 567 yX12_canAsk cX12_canAsk 4 (some .boolean) 4 := ⟨wm_2212, wm_124, wm_2214, by decide +kernel, by decide⟩
theorem st_X12_canAsk : Cond.static yX12_canAsk ∈ lw_gd := wm_2213
theorem af_X12_226_117 : AF RX12 226 117 98 := ⟨12, 101, RX12, TX12, by decide +kernel, by decide +kernel, rfl, by decide, gX12, wm_1596⟩
theorem sr_117_98 : srF 117 98 = 188 := by decide +kernel
theorem cw_X12_561 : Cond.constant RX12 561 (Int32.ofInt 1000000) ∈ lw_gd := wm_2219
theorem kc_186 : 186 < KC := by decide +kernel
theorem sk_186 : skF 186 = (0, 1000) := by decide +kernel
theorem cq_X12_570 : CQ RX12 570 yX12_starts cX12_starts 2 none 0 := ⟨wm_2215, wm_124, wm_2218, by decide +kernel, by decide⟩
theorem cr_117_X12_starts : CR 117 yX12_starts := ⟨by decide +kernel, 12, 101, TX12, by decide +kernel, rfl, wm_2217, wm_106⟩
theorem af_X12_229_117 : AF RX12 229 117 99 := ⟨12, 101, RX12, TX12, by decide +kernel, by decide +kernel, rfl, by decide, gX12, wm_1597⟩
theorem sr_117_99 : srF 117 99 = 189 := by decide +kernel
theorem kc_187 : 187 < KC := by decide +kernel
theorem sk_187 : skF 187 = (0, 1000) := by decide +kernel
theorem cw_X12_562 : Cond.constantLong RX12 562 (Int64.ofInt 100) ∈ lw_gd := wm_2224
theorem cq_X12_564 : CQ RX12 564 yX12_falls cX12_falls 5 none 3 := ⟨wm_2225, wm_124, wm_2228, by decide +kernel, by decide⟩
theorem cr_117_X12_falls : CR 117 yX12_falls := ⟨by decide +kernel, 12, 101, TX12, by decide +kernel, rfl, wm_2227, wm_108⟩
theorem cq_X12_573 : CQ RX12 573 yX12_aDay cX12_aDay 8 none 4 := ⟨wm_2220, wm_124, wm_2223, by decide +kernel, by decide⟩
theorem cr_117_X12_aDay : CR 117 yX12_aDay := ⟨by decide +kernel, 12, 101, TX12, by decide +kernel, rfl, wm_2222, wm_107⟩
theorem cq_X12_577 : CQ RX12 577 yX12_kept cX12_kept 3 (some .int) 0 := ⟨wm_2229, wm_124, wm_2232, by decide +kernel, by decide⟩
theorem cr_117_X12_kept : CR 117 yX12_kept := ⟨by decide +kernel, 12, 101, TX12, by decide +kernel, rfl, wm_2231, wm_109⟩
theorem cw_X12_580 : Cond.constant RX12 580 (Int32.ofInt 500000) ∈ lw_gd := wm_2237
theorem cq_X11_99 : CQ RX11 99 yX11_within cX11_within 3 (some .boolean) 3 := ⟨wm_682, wm_111, wm_684, by decide +kernel, by decide⟩
theorem st_X11_within : Cond.static yX11_within ∈ lw_gd := wm_683
theorem gX11 : ∀ w ∈ u_ws RX11 TX11 12, w ∈ lw_gd := gd_all inX11 (by decide +kernel)
theorem af_X11_12_0 : AF RX11 12 0 0 := ⟨11, 12, RX11, TX11, by decide +kernel, by decide +kernel, rfl, by decide, gX11, wm_641⟩
theorem sr_0_0 : srF 0 0 = 3 := by decide +kernel
theorem gX2 : ∀ w ∈ u_ws RX2 TX2 7, w ∈ lw_gd := gd_all inX2 (by decide +kernel)
theorem af_X11_117_1 : AF RX11 117 1 0 := ⟨2, 7, RX2, TX2, by decide +kernel, by decide +kernel, rfl, by decide, gX2, wm_152⟩
theorem sr_1_0 : srF 1 0 = 15 := by decide +kernel
theorem kc_13 : 13 < KC := by decide +kernel
theorem sk_13 : skF 13 = (0, 15) := by decide +kernel
theorem af_X11_121_1 : AF RX11 121 1 1 := ⟨2, 7, RX2, TX2, by decide +kernel, by decide +kernel, rfl, by decide, gX2, wm_155⟩
theorem sr_1_1 : srF 1 1 = 16 := by decide +kernel
theorem kc_14 : 14 < KC := by decide +kernel
theorem sk_14 : skF 14 = (0, 15) := by decide +kernel
theorem af_X11_124_1 : AF RX11 124 1 2 := ⟨2, 7, RX2, TX2, by decide +kernel, by decide +kernel, rfl, by decide, gX2, wm_158⟩
theorem sr_1_2 : srF 1 2 = 17 := by decide +kernel
theorem kc_15 : 15 < KC := by decide +kernel
theorem sk_15 : skF 15 = (0, 15) := by decide +kernel
theorem ap_X11_127_1 : AFp RX11 127 1 5 .int := ⟨2, 7, RX2, TX2, tyX2, by decide +kernel, by decide +kernel, rfl, by decide, gX2, wm_165, tyX2_ok, nmX2, by decide +kernel, by decide +kernel⟩
theorem sr_1_5 : srF 1 5 = 0 := by decide +kernel
theorem af_X11_40_0 : AF RX11 40 0 4 := ⟨11, 12, RX11, TX11, by decide +kernel, by decide +kernel, rfl, by decide, gX11, wm_645⟩
theorem sr_0_4 : srF 0 4 = 7 := by decide +kernel
theorem gX9 : ∀ w ∈ u_ws RX9 TX9 8, w ∈ lw_gd := gd_all inX9 (by decide +kernel)
theorem af_X9_28_5 : AF RX9 28 5 1 := ⟨9, 8, RX9, TX9, by decide +kernel, by decide +kernel, rfl, by decide, gX9, wm_298⟩
theorem sr_5_1 : srF 5 1 = 4 := by decide +kernel
theorem af_X9_24_5 : AF RX9 24 5 0 := ⟨9, 8, RX9, TX9, by decide +kernel, by decide +kernel, rfl, by decide, gX9, wm_297⟩
theorem sr_5_0 : srF 5 0 = 3 := by decide +kernel
theorem af_X9_38_1 : AF RX9 38 1 5 := ⟨2, 7, RX2, TX2, by decide +kernel, by decide +kernel, rfl, by decide, gX2, wm_164⟩
theorem gX6 : ∀ w ∈ u_ws RX6 TX6 15, w ∈ lw_gd := gd_all inX6 (by decide +kernel)
theorem af_X6_42_2 : AF RX6 42 2 13 := ⟨6, 15, RX6, TX6, by decide +kernel, by decide +kernel, rfl, by decide, gX6, wm_219⟩
theorem sr_2_13 : srF 2 13 = 29 := by decide +kernel
theorem kc_27 : 27 < KC := by decide +kernel
theorem sk_27 : skF 27 = (0, 9) := by decide +kernel
theorem cf_X6_58 : CQ RX6 58 ⟨"java/util/Arrays", "fill", "([II)V"⟩ cJ7_fill_53178 4 none 2 := ⟨wm_697, wm_113, wm_149, by decide +kernel, by decide⟩
theorem st_fill : Cond.static ⟨"java/util/Arrays", "fill", "([II)V"⟩ ∈ lw_gd := wm_148
theorem cq_X9_44 : CQ RX9 44 yX6_askDay cX6_askDay 3 none 2 := ⟨wm_693, wm_114, wm_696, by decide +kernel, by decide⟩
theorem cr_2_X6_askDay : CR 2 yX6_askDay := ⟨by decide +kernel, 6, 15, TX6, by decide +kernel, rfl, wm_694, wm_695⟩
theorem af_X6_52_2 : AF RX6 52 2 3 := ⟨6, 15, RX6, TX6, by decide +kernel, by decide +kernel, rfl, by decide, gX6, wm_195⟩
theorem sr_2_3 : srF 2 3 = 0 := by decide +kernel
theorem af_X6_18_2 : AF RX6 18 2 4 := ⟨6, 15, RX6, TX6, by decide +kernel, by decide +kernel, rfl, by decide, gX6, wm_197⟩
theorem sr_2_4 : srF 2 4 = 21 := by decide +kernel
theorem kc_19 : 19 < KC := by decide +kernel
theorem sk_19 : skF 19 = (0, 16) := by decide +kernel
theorem af_X6_24_2 : AF RX6 24 2 6 := ⟨6, 15, RX6, TX6, by decide +kernel, by decide +kernel, rfl, by decide, gX6, wm_201⟩
theorem sr_2_6 : srF 2 6 = 23 := by decide +kernel
theorem kc_21 : 21 < KC := by decide +kernel
theorem sk_21 : skF 21 = (0, 16) := by decide +kernel
theorem af_X6_27_2 : AF RX6 27 2 7 := ⟨6, 15, RX6, TX6, by decide +kernel, by decide +kernel, rfl, by decide, gX6, wm_203⟩
theorem sr_2_7 : srF 2 7 = 24 := by decide +kernel
theorem kc_22 : 22 < KC := by decide +kernel
theorem sk_22 : skF 22 = (0, 16) := by decide +kernel
theorem af_X6_45_2 : AF RX6 45 2 14 := ⟨6, 15, RX6, TX6, by decide +kernel, by decide +kernel, rfl, by decide, gX6, wm_221⟩
theorem sr_2_14 : srF 2 14 = 30 := by decide +kernel
theorem kc_28 : 28 < KC := by decide +kernel
theorem sk_28 : skF 28 = (0, 32) := by decide +kernel
theorem af_X6_9_2 : AF RX6 9 2 0 := ⟨6, 15, RX6, TX6, by decide +kernel, by decide +kernel, rfl, by decide, gX6, wm_191⟩
theorem sr_2_0 : srF 2 0 = 19 := by decide +kernel
theorem kc_17 : 17 < KC := by decide +kernel
theorem sk_17 : skF 17 = (0, 500) := by decide +kernel
theorem cq_X6_90 : CQ RX6 90 yX6_both cX6_both 3 (some .int) 3 := ⟨wm_714, wm_114, wm_716, by decide +kernel, by decide⟩
theorem st_X6_both : Cond.static yX6_both ∈ lw_gd := wm_715
theorem af_X6_15_2 : AF RX6 15 2 1 := ⟨6, 15, RX6, TX6, by decide +kernel, by decide +kernel, rfl, by decide, gX6, wm_192⟩
theorem sr_2_1 : srF 2 1 = 20 := by decide +kernel
theorem kc_18 : 18 < KC := by decide +kernel
theorem sk_18 : skF 18 = (0, 500) := by decide +kernel
theorem ns_X6_78 : (RX6, 78) ∈ nestL := by decide +kernel
theorem in_X11 : Cond.initialized "WeekBoats" ∈ lw_gd := wm_111
theorem cd_X11_within : Cond.code yX11_within cX11_within 3 (some .boolean) ∈ lw_gd := wm_684
theorem cq_X6_82 : CQ RX6 82 yX6_askedOf cX6_askedOf 2 (some .int) 1 := ⟨wm_706, wm_114, wm_709, by decide +kernel, by decide⟩
theorem cr_2_X6_askedOf : CR 2 yX6_askedOf := ⟨by decide +kernel, 6, 15, TX6, by decide +kernel, rfl, wm_708, wm_1⟩
theorem cq_X6_86 : CQ RX6 86 yX6_alone cX6_alone 3 (some .int) 3 := ⟨wm_711, wm_114, wm_713, by decide +kernel, by decide⟩
theorem st_X6_alone : Cond.static yX6_alone ∈ lw_gd := wm_712
theorem cq_X6_74 : CQ RX6 74 yX6_run cX6_run 6 (some .int) 2 := ⟨wm_702, wm_114, wm_705, by decide +kernel, by decide⟩
theorem cr_2_X6_run : CR 2 yX6_run := ⟨by decide +kernel, 6, 15, TX6, by decide +kernel, rfl, wm_704, wm_0⟩
theorem cq_X9_50 : CQ RX9 50 yX6_serving cX6_serving 3 (some .int) 1 := ⟨wm_698, wm_114, wm_701, by decide +kernel, by decide⟩
theorem cr_2_X6_serving : CR 2 yX6_serving := ⟨by decide +kernel, 6, 15, TX6, by decide +kernel, rfl, wm_699, wm_700⟩
theorem af_X9_9_5 : AF RX9 9 5 2 := ⟨9, 8, RX9, TX9, by decide +kernel, by decide +kernel, rfl, by decide, gX9, wm_299⟩
theorem sr_5_2 : srF 5 2 = 46 := by decide +kernel
theorem af_X9_54_2 : AF RX9 54 2 8 := ⟨6, 15, RX6, TX6, by decide +kernel, by decide +kernel, rfl, by decide, gX6, wm_206⟩
theorem sr_2_8 : srF 2 8 = 25 := by decide +kernel
theorem kc_23 : 23 < KC := by decide +kernel
theorem sk_23 : skF 23 = (0, 16) := by decide +kernel
theorem kc_44 : 44 < KC := by decide +kernel
theorem sk_44 : skF 44 = (0, 14) := by decide +kernel
theorem af_X9_15_5 : AF RX9 15 5 3 := ⟨9, 8, RX9, TX9, by decide +kernel, by decide +kernel, rfl, by decide, gX9, wm_301⟩
theorem sr_5_3 : srF 5 3 = 47 := by decide +kernel
theorem af_X9_57_2 : AF RX9 57 2 9 := ⟨6, 15, RX6, TX6, by decide +kernel, by decide +kernel, rfl, by decide, gX6, wm_209⟩
theorem sr_2_9 : srF 2 9 = 26 := by decide +kernel
theorem kc_24 : 24 < KC := by decide +kernel
theorem sk_24 : skF 24 = (0, 16) := by decide +kernel
theorem kc_45 : 45 < KC := by decide +kernel
theorem sk_45 : skF 45 = (0, 14) := by decide +kernel
theorem cq_X11_130 : CQ RX11 130 yX9_learnHours cX9_learnHours 3 none 0 := ⟨wm_689, wm_116, wm_692, by decide +kernel, by decide⟩
theorem cr_5_X9_learnHours : CR 5 yX9_learnHours := ⟨by decide +kernel, 9, 8, TX9, by decide +kernel, rfl, wm_690, wm_691⟩
theorem af_X11_136_1 : AF RX11 136 1 4 := ⟨2, 7, RX2, TX2, by decide +kernel, by decide +kernel, rfl, by decide, gX2, wm_162⟩
theorem sr_1_4 : srF 1 4 = 0 := by decide +kernel
theorem af_X2_21_1 : AF RX2 21 1 3 := ⟨2, 7, RX2, TX2, by decide +kernel, by decide +kernel, rfl, by decide, gX2, wm_159⟩
theorem sr_1_3 : srF 1 3 = 18 := by decide +kernel
theorem kc_16 : 16 < KC := by decide +kernel
theorem sk_16 : skF 16 = (0, 15) := by decide +kernel
theorem af_X2_34_1 : AF RX2 34 1 4 := ⟨2, 7, RX2, TX2, by decide +kernel, by decide +kernel, rfl, by decide, gX2, wm_161⟩
theorem ap_X2_34_1 : AFp RX2 34 1 4 .int := ⟨2, 7, RX2, TX2, tyX2, by decide +kernel, by decide +kernel, rfl, by decide, gX2, wm_161, tyX2_ok, nmX2, by decide +kernel, by decide +kernel⟩
theorem cq_X11_139 : CQ RX11 139 yX2_stop cX2_stop 5 none 3 := ⟨wm_725, wm_112, wm_728, by decide +kernel, by decide⟩
theorem cr_1_X2_stop : CR 1 yX2_stop := ⟨by decide +kernel, 2, 7, TX2, by decide +kernel, rfl, wm_726, wm_727⟩
theorem cf_X2_28 : CQ RX2 28 ⟨"java/util/Arrays", "fill", "([II)V"⟩ cJ7_fill_53178 4 none 2 := ⟨wm_147, wm_113, wm_149, by decide +kernel, by decide⟩
theorem cq_X11_133 : CQ RX11 133 yX2_reopen cX2_reopen 1 none 0 := ⟨wm_721, wm_112, wm_724, by decide +kernel, by decide⟩
theorem cr_1_X2_reopen : CR 1 yX2_reopen := ⟨by decide +kernel, 2, 7, TX2, by decide +kernel, rfl, wm_722, wm_723⟩
theorem cq_X11_143 : CQ RX11 143 yX11_isBerths cX11_isBerths 1 (some .boolean) 1 := ⟨wm_733, wm_111, wm_735, by decide +kernel, by decide⟩
theorem st_X11_isBerths : Cond.static yX11_isBerths ∈ lw_gd := wm_734
theorem cq_X11_111 : CQ RX11 111 yX11_isPoint cX11_isPoint 1 (some .boolean) 1 := ⟨wm_736, wm_111, wm_738, by decide +kernel, by decide⟩
theorem st_X11_isPoint : Cond.static yX11_isPoint ∈ lw_gd := wm_737
theorem af_X11_49_0 : AF RX11 49 0 5 := ⟨11, 12, RX11, TX11, by decide +kernel, by decide +kernel, rfl, by decide, gX11, wm_646⟩
theorem sr_0_5 : srF 0 5 = 8 := by decide +kernel
theorem gX0 : ∀ w ∈ u_ws RX0 TX0 12, w ∈ lw_gd := gd_all inX0 (by decide +kernel)
theorem af_X0_50_6 : AF RX0 50 6 7 := ⟨0, 12, RX0, TX0, by decide +kernel, by decide +kernel, rfl, by decide, gX0, wm_345⟩
theorem sr_6_7 : srF 6 7 = 0 := by decide +kernel
theorem af_X0_9_6 : AF RX0 9 6 3 := ⟨0, 12, RX0, TX0, by decide +kernel, by decide +kernel, rfl, by decide, gX0, wm_337⟩
theorem sr_6_3 : srF 6 3 = 50 := by decide +kernel
theorem kc_48 : 48 < KC := by decide +kernel
theorem sk_48 : skF 48 = (0, 10) := by decide +kernel
theorem af_X0_15_6 : AF RX0 15 6 4 := ⟨0, 12, RX0, TX0, by decide +kernel, by decide +kernel, rfl, by decide, gX0, wm_339⟩
theorem sr_6_4 : srF 6 4 = 51 := by decide +kernel
theorem kc_49 : 49 < KC := by decide +kernel
theorem sk_49 : skF 49 = (0, 10) := by decide +kernel
theorem af_X0_18_6 : AF RX0 18 6 5 := ⟨0, 12, RX0, TX0, by decide +kernel, by decide +kernel, rfl, by decide, gX0, wm_340⟩
theorem sr_6_5 : srF 6 5 = 52 := by decide +kernel
theorem kc_50 : 50 < KC := by decide +kernel
theorem sk_50 : skF 50 = (0, 10) := by decide +kernel
theorem af_X0_21_6 : AF RX0 21 6 6 := ⟨0, 12, RX0, TX0, by decide +kernel, by decide +kernel, rfl, by decide, gX0, wm_342⟩
theorem sr_6_6 : srF 6 6 = 53 := by decide +kernel
theorem kc_51 : 51 < KC := by decide +kernel
theorem sk_51 : skF 51 = (0, 10) := by decide +kernel
theorem ap_X0_50_6 : AFp RX0 50 6 7 .int := ⟨0, 12, RX0, TX0, tyX0, by decide +kernel, by decide +kernel, rfl, by decide, gX0, wm_345, tyX0_ok, nmX0, by decide +kernel, by decide +kernel⟩
theorem cq_X11_146 : CQ RX11 146 yX0_add cX0_add 5 (some .int) 4 := ⟨wm_739, wm_117, wm_742, by decide +kernel, by decide⟩
theorem cr_6_X0_add : CR 6 yX0_add := ⟨by decide +kernel, 0, 12, TX0, by decide +kernel, rfl, wm_740, wm_741⟩
theorem af_X11_31_0 : AF RX11 31 0 3 := ⟨11, 12, RX11, TX11, by decide +kernel, by decide +kernel, rfl, by decide, gX11, wm_644⟩
theorem sr_0_3 : srF 0 3 = 6 := by decide +kernel
theorem gX4 : ∀ w ∈ u_ws RX4 TX4 9, w ∈ lw_gd := gd_all inX4 (by decide +kernel)
theorem af_X11_150_4 : AF RX11 150 4 2 := ⟨4, 9, RX4, TX4, by decide +kernel, by decide +kernel, rfl, by decide, gX4, wm_262⟩
theorem sr_4_2 : srF 4 2 = 0 := by decide +kernel
theorem af_X4_29_4 : AF RX4 29 4 2 := ⟨4, 9, RX4, TX4, by decide +kernel, by decide +kernel, rfl, by decide, gX4, wm_261⟩
theorem af_X4_9_4 : AF RX4 9 4 1 := ⟨4, 9, RX4, TX4, by decide +kernel, by decide +kernel, rfl, by decide, gX4, wm_260⟩
theorem sr_4_1 : srF 4 1 = 43 := by decide +kernel
theorem kc_41 : 41 < KC := by decide +kernel
theorem sk_41 : skF 41 = (0, 500) := by decide +kernel
theorem ap_X4_29_4 : AFp RX4 29 4 2 .int := ⟨4, 9, RX4, TX4, tyX4, by decide +kernel, by decide +kernel, rfl, by decide, gX4, wm_261, tyX4_ok, nmX4, by decide +kernel, by decide +kernel⟩
theorem cq_X11_153 : CQ RX11 153 yX4_put cX4_put 3 none 1 := ⟨wm_747, wm_115, wm_750, by decide +kernel, by decide⟩
theorem cr_4_X4_put : CR 4 yX4_put := ⟨by decide +kernel, 4, 9, TX4, by decide +kernel, rfl, wm_748, wm_749⟩
theorem ap_X11_150_4 : AFp RX11 150 4 2 .int := ⟨4, 9, RX4, TX4, tyX4, by decide +kernel, by decide +kernel, rfl, by decide, gX4, wm_262, tyX4_ok, nmX4, by decide +kernel, by decide +kernel⟩
theorem ap_X4_32_4 : AFp RX4 32 4 7 .int := ⟨4, 9, RX4, TX4, tyX4, by decide +kernel, by decide +kernel, rfl, by decide, gX4, wm_267, tyX4_ok, nmX4, by decide +kernel, by decide +kernel⟩
theorem sr_4_7 : srF 4 7 = 0 := by decide +kernel
theorem ap_X4_21_4 : AFp RX4 21 4 8 .int := ⟨4, 9, RX4, TX4, tyX4, by decide +kernel, by decide +kernel, rfl, by decide, gX4, wm_269, tyX4_ok, nmX4, by decide +kernel, by decide +kernel⟩
theorem sr_4_8 : srF 4 8 = 0 := by decide +kernel
theorem ap_X4_35_4 : AFp RX4 35 4 6 .int := ⟨4, 9, RX4, TX4, tyX4, by decide +kernel, by decide +kernel, rfl, by decide, gX4, wm_266, tyX4_ok, nmX4, by decide +kernel, by decide +kernel⟩
theorem sr_4_6 : srF 4 6 = 0 := by decide +kernel
theorem af_X4_25_4 : AF RX4 25 4 0 := ⟨4, 9, RX4, TX4, by decide +kernel, by decide +kernel, rfl, by decide, gX4, wm_259⟩
theorem sr_4_0 : srF 4 0 = 5 := by decide +kernel
theorem ap_X6_48_3 : AFp RX6 48 3 2 .int := ⟨6, 15, RX6, TX6, tyX6, by decide +kernel, by decide +kernel, rfl, by decide, gX6, wm_193, tyX6_ok, nmX6, by decide +kernel, by decide +kernel⟩
theorem sr_3_2 : srF 3 2 = 0 := by decide +kernel
theorem ap_X6_52_3 : AFp RX6 52 3 3 .int := ⟨6, 15, RX6, TX6, tyX6, by decide +kernel, by decide +kernel, rfl, by decide, gX6, wm_195, tyX6_ok, nmX6, by decide +kernel, by decide +kernel⟩
theorem sr_3_3 : srF 3 3 = 0 := by decide +kernel
theorem ap_X6_55_3 : AFp RX6 55 3 10 .int := ⟨6, 15, RX6, TX6, tyX6, by decide +kernel, by decide +kernel, rfl, by decide, gX6, wm_211, tyX6_ok, nmX6, by decide +kernel, by decide +kernel⟩
theorem sr_3_10 : srF 3 10 = 0 := by decide +kernel
theorem af_X6_36_3 : AF RX6 36 3 11 := ⟨6, 15, RX6, TX6, by decide +kernel, by decide +kernel, rfl, by decide, gX6, wm_213⟩
theorem sr_3_11 : srF 3 11 = 39 := by decide +kernel
theorem kc_37 : 37 < KC := by decide +kernel
theorem sk_37 : skF 37 = (0, 30) := by decide +kernel
theorem af_X6_39_3 : AF RX6 39 3 12 := ⟨6, 15, RX6, TX6, by decide +kernel, by decide +kernel, rfl, by decide, gX6, wm_216⟩
theorem sr_3_12 : srF 3 12 = 40 := by decide +kernel
theorem kc_38 : 38 < KC := by decide +kernel
theorem sk_38 : skF 38 = (0, 30) := by decide +kernel
theorem cq_X4_38 : CQ RX4 38 yX6_clear cX6_clear 1 none 0 := ⟨wm_763, wm_114, wm_766, by decide +kernel, by decide⟩
theorem cr_3_X6_clear : CR 3 yX6_clear := ⟨by decide +kernel, 6, 15, TX6, by decide +kernel, rfl, wm_764, wm_765⟩
theorem ap_X4_52_4 : AFp RX4 52 4 5 .int := ⟨4, 9, RX4, TX4, tyX4, by decide +kernel, by decide +kernel, rfl, by decide, gX4, wm_265, tyX4_ok, nmX4, by decide +kernel, by decide +kernel⟩
theorem sr_4_5 : srF 4 5 = 0 := by decide +kernel
theorem ns_X4_87 : (RX4, 87) ∈ nestL := by decide +kernel
theorem cq_X4_55 : CQ RX4 55 yX4_isLetter cX4_isLetter 1 (some .boolean) 1 := ⟨wm_771, wm_115, wm_773, by decide +kernel, by decide⟩
theorem st_X4_isLetter : Cond.static yX4_isLetter ∈ lw_gd := wm_772
theorem cq_X4_71 : CQ RX4 71 yX4_isDigit cX4_isDigit 1 (some .boolean) 1 := ⟨wm_840, wm_115, wm_842, by decide +kernel, by decide⟩
theorem st_X4_isDigit : Cond.static yX4_isDigit ∈ lw_gd := wm_841
theorem sw_X4_80 : (RX4, 80, ";+-*/()<=>", 1) ∈ strL := List.mem_of_getElem? (i := 1) (by decide +kernel)
theorem cq_X4_82 : CQ RX4 82 yJ0_indexOf_0f7a4 cJ0_indexOf_0f7a4 2 (some .int) 1 := ⟨wm_852, wm_125, wm_855, by decide +kernel, by decide⟩
theorem af_X4_52_4 : AF RX4 52 4 5 := ⟨4, 9, RX4, TX4, by decide +kernel, by decide +kernel, rfl, by decide, gX4, wm_265⟩
theorem af_X4_15_4 : AF RX4 15 4 3 := ⟨4, 9, RX4, TX4, by decide +kernel, by decide +kernel, rfl, by decide, gX4, wm_263⟩
theorem sr_4_3 : srF 4 3 = 44 := by decide +kernel
theorem kc_42 : 42 < KC := by decide +kernel
theorem sk_42 : skF 42 = (0, 501) := by decide +kernel
theorem af_X4_18_4 : AF RX4 18 4 4 := ⟨4, 9, RX4, TX4, by decide +kernel, by decide +kernel, rfl, by decide, gX4, wm_264⟩
theorem sr_4_4 : srF 4 4 = 45 := by decide +kernel
theorem kc_43 : 43 < KC := by decide +kernel
theorem sk_43 : skF 43 = (0, 501) := by decide +kernel
theorem cq_X4_67 : CQ RX4 67 yX4_add cX4_add 3 none 2 := ⟨wm_836, wm_115, wm_839, by decide +kernel, by decide⟩
theorem cr_4_X4_add : CR 4 yX4_add := ⟨by decide +kernel, 4, 9, TX4, by decide +kernel, rfl, wm_838, wm_6⟩
theorem cq_X4_74 : CQ RX4 74 yX4_endOfDigits cX4_endOfDigits 4 (some .int) 1 := ⟨wm_843, wm_115, wm_846, by decide +kernel, by decide⟩
theorem cr_4_X4_endOfDigits : CR 4 yX4_endOfDigits := ⟨by decide +kernel, 4, 9, TX4, by decide +kernel, rfl, wm_845, wm_7⟩
theorem cq_X4_77 : CQ RX4 77 yX4_numberOf cX4_numberOf 5 (some .int) 2 := ⟨wm_847, wm_115, wm_850, by decide +kernel, by decide⟩
theorem cr_4_X4_numberOf : CR 4 yX4_numberOf := ⟨by decide +kernel, 4, 9, TX4, by decide +kernel, rfl, wm_849, wm_8⟩
theorem cq_X4_59 : CQ RX4 59 yX4_endOfWord cX4_endOfWord 4 (some .int) 1 := ⟨wm_775, wm_115, wm_778, by decide +kernel, by decide⟩
theorem cr_4_X4_endOfWord : CR 4 yX4_endOfWord := ⟨by decide +kernel, 4, 9, TX4, by decide +kernel, rfl, wm_777, wm_3⟩
theorem sw_X4_91 : (RX4, 91, "locks tunnel price hold harm up down when or and not day week water berths away age depth said taught ", 0) ∈ strL := List.mem_of_getElem? (i := 0) (by decide +kernel)
theorem cq_X4_93 : CQ RX4 93 yJ0_length_8abf5 cJ0_length_8abf5 1 (some .int) 0 := ⟨wm_784, wm_125, wm_787, by decide +kernel, by decide⟩
theorem cq_X4_96 : CQ RX4 96 yJ0_charAt_5068e cJ0_charAt_5068e 2 (some .char) 1 := ⟨wm_794, wm_125, wm_797, by decide +kernel, by decide⟩
theorem cq_X4_100 : CQ RX4 100 yX4_isSame cX4_isSame 5 (some .boolean) 3 := ⟨wm_832, wm_115, wm_835, by decide +kernel, by decide⟩
theorem cr_4_X4_isSame : CR 4 yX4_isSame := ⟨by decide +kernel, 4, 9, TX4, by decide +kernel, rfl, wm_834, wm_5⟩
theorem cq_X4_63 : CQ RX4 63 yX4_wordOf cX4_wordOf 6 (some .int) 2 := ⟨wm_779, wm_115, wm_782, by decide +kernel, by decide⟩
theorem cr_4_X4_wordOf : CR 4 yX4_wordOf := ⟨by decide +kernel, 4, 9, TX4, by decide +kernel, rfl, wm_781, wm_4⟩
theorem cq_X4_43 : CQ RX4 43 yX4_scan cX4_scan 5 none 0 := ⟨wm_767, wm_115, wm_770, by decide +kernel, by decide⟩
theorem cr_4_X4_scan : CR 4 yX4_scan := ⟨by decide +kernel, 4, 9, TX4, by decide +kernel, rfl, wm_769, wm_2⟩
theorem af_X4_32_4 : AF RX4 32 4 7 := ⟨4, 9, RX4, TX4, by decide +kernel, by decide +kernel, rfl, by decide, gX4, wm_267⟩
theorem af_X4_35_4 : AF RX4 35 4 6 := ⟨4, 9, RX4, TX4, by decide +kernel, by decide +kernel, rfl, by decide, gX4, wm_266⟩
theorem af_X4_49_3 : AF RX4 49 3 3 := ⟨6, 15, RX6, TX6, by decide +kernel, by decide +kernel, rfl, by decide, gX6, wm_196⟩
theorem cq_X4_107 : CQ RX4 107 yX4_goOn cX4_goOn 1 none 0 := ⟨wm_919, wm_115, wm_922, by decide +kernel, by decide⟩
theorem cr_4_X4_goOn : CR 4 yX4_goOn := ⟨by decide +kernel, 4, 9, TX4, by decide +kernel, rfl, wm_921, wm_11⟩
theorem af_X4_110_3 : AF RX4 110 3 4 := ⟨6, 15, RX6, TX6, by decide +kernel, by decide +kernel, rfl, by decide, gX6, wm_198⟩
theorem sr_3_4 : srF 3 4 = 33 := by decide +kernel
theorem kc_31 : 31 < KC := by decide +kernel
theorem sk_31 : skF 31 = (0, 16) := by decide +kernel
theorem af_X4_113_3 : AF RX4 113 3 5 := ⟨6, 15, RX6, TX6, by decide +kernel, by decide +kernel, rfl, by decide, gX6, wm_200⟩
theorem sr_3_5 : srF 3 5 = 34 := by decide +kernel
theorem af_X4_116_3 : AF RX4 116 3 2 := ⟨6, 15, RX6, TX6, by decide +kernel, by decide +kernel, rfl, by decide, gX6, wm_194⟩
theorem kc_32 : 32 < KC := by decide +kernel
theorem sk_32 : skF 32 = (0, 16) := by decide +kernel
theorem cq_X4_103 : CQ RX4 103 yX4_fail cX4_fail 2 none 1 := ⟨wm_915, wm_115, wm_918, by decide +kernel, by decide⟩
theorem cr_4_X4_fail : CR 4 yX4_fail := ⟨by decide +kernel, 4, 9, TX4, by decide +kernel, rfl, wm_917, wm_10⟩
theorem af_X6_48_3 : AF RX6 48 3 2 := ⟨6, 15, RX6, TX6, by decide +kernel, by decide +kernel, rfl, by decide, gX6, wm_193⟩
theorem af_X6_9_3 : AF RX6 9 3 0 := ⟨6, 15, RX6, TX6, by decide +kernel, by decide +kernel, rfl, by decide, gX6, wm_191⟩
theorem sr_3_0 : srF 3 0 = 31 := by decide +kernel
theorem kc_29 : 29 < KC := by decide +kernel
theorem sk_29 : skF 29 = (0, 500) := by decide +kernel
theorem af_X6_15_3 : AF RX6 15 3 1 := ⟨6, 15, RX6, TX6, by decide +kernel, by decide +kernel, rfl, by decide, gX6, wm_192⟩
theorem sr_3_1 : srF 3 1 = 32 := by decide +kernel
theorem kc_30 : 30 < KC := by decide +kernel
theorem sk_30 : skF 30 = (0, 500) := by decide +kernel
theorem cq_X4_164 : CQ RX4 164 yX6_put cX6_put 3 none 2 := ⟨wm_951, wm_114, wm_954, by decide +kernel, by decide⟩
theorem cr_3_X6_put : CR 3 yX6_put := ⟨by decide +kernel, 6, 15, TX6, by decide +kernel, rfl, wm_952, wm_953⟩
theorem cq_X4_179 : CQ RX4 179 yX4_readUnit cX4_readUnit 2 none 0 := ⟨wm_947, wm_115, wm_950, by decide +kernel, by decide⟩
theorem cr_4_X4_readUnit : CR 4 yX4_readUnit := ⟨by decide +kernel, 4, 9, TX4, by decide +kernel, rfl, wm_949, wm_17⟩
theorem cq_X4_137 : CQ RX4 137 yX4_is cX4_is 2 (some .boolean) 1 := ⟨wm_931, wm_115, wm_934, by decide +kernel, by decide⟩
theorem cr_4_X4_is : CR 4 yX4_is := ⟨by decide +kernel, 4, 9, TX4, by decide +kernel, rfl, wm_933, wm_14⟩
theorem cq_X4_182 : CQ RX4 182 yX4_readPart cX4_readPart 2 none 0 := ⟨wm_955, wm_115, wm_958, by decide +kernel, by decide⟩
theorem cr_4_X4_readPart : CR 4 yX4_readPart := ⟨by decide +kernel, 4, 9, TX4, by decide +kernel, rfl, wm_957, wm_18⟩
theorem cq_X4_176 : CQ RX4 176 yX4_readProduct cX4_readProduct 3 none 0 := ⟨wm_943, wm_115, wm_946, by decide +kernel, by decide⟩
theorem cr_4_X4_readProduct : CR 4 yX4_readProduct := ⟨by decide +kernel, 4, 9, TX4, by decide +kernel, rfl, wm_945, wm_16⟩
theorem cq_X4_131 : CQ RX4 131 yX4_readSum cX4_readSum 3 none 0 := ⟨wm_939, wm_115, wm_942, by decide +kernel, by decide⟩
theorem cr_4_X4_readSum : CR 4 yX4_readSum := ⟨by decide +kernel, 4, 9, TX4, by decide +kernel, rfl, wm_941, wm_15⟩
theorem af_X4_122_3 : AF RX4 122 3 8 := ⟨6, 15, RX6, TX6, by decide +kernel, by decide +kernel, rfl, by decide, gX6, wm_207⟩
theorem sr_3_8 : srF 3 8 = 37 := by decide +kernel
theorem cq_X4_125 : CQ RX4 125 yX4_numberUpTo cX4_numberUpTo 3 (some .int) 1 := ⟨wm_927, wm_115, wm_930, by decide +kernel, by decide⟩
theorem cr_4_X4_numberUpTo : CR 4 yX4_numberUpTo := ⟨by decide +kernel, 4, 9, TX4, by decide +kernel, rfl, wm_929, wm_13⟩
theorem kc_35 : 35 < KC := by decide +kernel
theorem sk_35 : skF 35 = (0, 16) := by decide +kernel
theorem af_X4_128_3 : AF RX4 128 3 9 := ⟨6, 15, RX6, TX6, by decide +kernel, by decide +kernel, rfl, by decide, gX6, wm_210⟩
theorem sr_3_9 : srF 3 9 = 38 := by decide +kernel
theorem kc_36 : 36 < KC := by decide +kernel
theorem sk_36 : skF 36 = (0, 16) := by decide +kernel
theorem af_X6_55_3 : AF RX6 55 3 10 := ⟨6, 15, RX6, TX6, by decide +kernel, by decide +kernel, rfl, by decide, gX6, wm_211⟩
theorem cq_X4_149 : CQ RX4 149 yX6_hasTunnel cX6_hasTunnel 2 (some .boolean) 1 := ⟨wm_935, wm_114, wm_938, by decide +kernel, by decide⟩
theorem cr_3_X6_hasTunnel : CR 3 yX6_hasTunnel := ⟨by decide +kernel, 6, 15, TX6, by decide +kernel, rfl, wm_936, wm_937⟩
theorem af_X4_152_3 : AF RX4 152 3 10 := ⟨6, 15, RX6, TX6, by decide +kernel, by decide +kernel, rfl, by decide, gX6, wm_212⟩
theorem ap_X4_152_3 : AFp RX4 152 3 10 .int := ⟨6, 15, RX6, TX6, tyX6, by decide +kernel, by decide +kernel, rfl, by decide, gX6, wm_212, tyX6_ok, nmX6, by decide +kernel, by decide +kernel⟩
theorem af_X4_155_3 : AF RX4 155 3 11 := ⟨6, 15, RX6, TX6, by decide +kernel, by decide +kernel, rfl, by decide, gX6, wm_215⟩
theorem af_X4_158_3 : AF RX4 158 3 12 := ⟨6, 15, RX6, TX6, by decide +kernel, by decide +kernel, rfl, by decide, gX6, wm_218⟩
theorem cq_X4_119 : CQ RX4 119 yX4_readTunnel cX4_readTunnel 3 none 0 := ⟨wm_923, wm_115, wm_926, by decide +kernel, by decide⟩
theorem cr_4_X4_readTunnel : CR 4 yX4_readTunnel := ⟨by decide +kernel, 4, 9, TX4, by decide +kernel, rfl, wm_925, wm_12⟩
theorem af_X4_134_3 : AF RX4 134 3 6 := ⟨6, 15, RX6, TX6, by decide +kernel, by decide +kernel, rfl, by decide, gX6, wm_202⟩
theorem sr_3_6 : srF 3 6 = 35 := by decide +kernel
theorem kc_33 : 33 < KC := by decide +kernel
theorem sk_33 : skF 33 = (0, 16) := by decide +kernel
theorem cq_X4_170 : CQ RX4 170 yX4_openOneMore cX4_openOneMore 2 none 1 := ⟨wm_971, wm_115, wm_974, by decide +kernel, by decide⟩
theorem cr_4_X4_openOneMore : CR 4 yX4_openOneMore := ⟨by decide +kernel, 4, 9, TX4, by decide +kernel, rfl, wm_973, wm_22⟩
theorem cq_X4_173 : CQ RX4 173 yX4_demandComparing cX4_demandComparing 1 none 0 := ⟨wm_979, wm_115, wm_982, by decide +kernel, by decide⟩
theorem cr_4_X4_demandComparing : CR 4 yX4_demandComparing := ⟨by decide +kernel, 4, 9, TX4, by decide +kernel, rfl, wm_981, wm_24⟩
theorem cq_X4_140 : CQ RX4 140 yX4_readEither cX4_readEither 3 none 1 := ⟨wm_959, wm_115, wm_962, by decide +kernel, by decide⟩
theorem cr_4_X4_readEither : CR 4 yX4_readEither := ⟨by decide +kernel, 4, 9, TX4, by decide +kernel, rfl, wm_961, wm_19⟩
theorem cq_X4_146 : CQ RX4 146 yX4_demand cX4_demand 2 none 1 := ⟨wm_975, wm_115, wm_978, by decide +kernel, by decide⟩
theorem cr_4_X4_demand : CR 4 yX4_demand := ⟨by decide +kernel, 4, 9, TX4, by decide +kernel, rfl, wm_977, wm_23⟩
theorem cq_X4_167 : CQ RX4 167 yX4_readOne cX4_readOne 4 none 1 := ⟨wm_967, wm_115, wm_970, by decide +kernel, by decide⟩
theorem cr_4_X4_readOne : CR 4 yX4_readOne := ⟨by decide +kernel, 4, 9, TX4, by decide +kernel, rfl, wm_969, wm_21⟩
theorem cq_X4_161 : CQ RX4 161 yX4_readAll cX4_readAll 3 none 1 := ⟨wm_963, wm_115, wm_966, by decide +kernel, by decide⟩
theorem cr_4_X4_readAll : CR 4 yX4_readAll := ⟨by decide +kernel, 4, 9, TX4, by decide +kernel, rfl, wm_965, wm_20⟩
theorem af_X4_143_3 : AF RX4 143 3 7 := ⟨6, 15, RX6, TX6, by decide +kernel, by decide +kernel, rfl, by decide, gX6, wm_204⟩
theorem sr_3_7 : srF 3 7 = 36 := by decide +kernel
theorem kc_34 : 34 < KC := by decide +kernel
theorem sk_34 : skF 34 = (0, 16) := by decide +kernel
theorem ap_X4_49_3 : AFp RX4 49 3 3 .int := ⟨6, 15, RX6, TX6, tyX6, by decide +kernel, by decide +kernel, rfl, by decide, gX6, wm_196, tyX6_ok, nmX6, by decide +kernel, by decide +kernel⟩
theorem cq_X4_46 : CQ RX4 46 yX4_readLine cX4_readLine 3 none 0 := ⟨wm_911, wm_115, wm_914, by decide +kernel, by decide⟩
theorem cr_4_X4_readLine : CR 4 yX4_readLine := ⟨by decide +kernel, 4, 9, TX4, by decide +kernel, rfl, wm_913, wm_9⟩
theorem cq_X11_157 : CQ RX11 157 yX4_read cX4_read 2 (some .int) 0 := ⟨wm_759, wm_115, wm_762, by decide +kernel, by decide⟩
theorem cr_4_X4_read : CR 4 yX4_read := ⟨by decide +kernel, 4, 9, TX4, by decide +kernel, rfl, wm_760, wm_761⟩
theorem af_X11_19_0 : AF RX11 19 0 1 := ⟨11, 12, RX11, TX11, by decide +kernel, by decide +kernel, rfl, by decide, gX11, wm_642⟩
theorem sr_0_1 : srF 0 1 = 4 := by decide +kernel
theorem af_X11_23_0 : AF RX11 23 0 2 := ⟨11, 12, RX11, TX11, by decide +kernel, by decide +kernel, rfl, by decide, gX11, wm_643⟩
theorem sr_0_2 : srF 0 2 = 5 := by decide +kernel
theorem ap_X6_48_2 : AFp RX6 48 2 2 .int := ⟨6, 15, RX6, TX6, tyX6, by decide +kernel, by decide +kernel, rfl, by decide, gX6, wm_193, tyX6_ok, nmX6, by decide +kernel, by decide +kernel⟩
theorem sr_2_2 : srF 2 2 = 0 := by decide +kernel
theorem af_X6_52_3 : AF RX6 52 3 3 := ⟨6, 15, RX6, TX6, by decide +kernel, by decide +kernel, rfl, by decide, gX6, wm_195⟩
theorem ap_X6_52_2 : AFp RX6 52 2 3 .int := ⟨6, 15, RX6, TX6, tyX6, by decide +kernel, by decide +kernel, rfl, by decide, gX6, wm_195, tyX6_ok, nmX6, by decide +kernel, by decide +kernel⟩
theorem ap_X6_55_2 : AFp RX6 55 2 10 .int := ⟨6, 15, RX6, TX6, tyX6, by decide +kernel, by decide +kernel, rfl, by decide, gX6, wm_211, tyX6_ok, nmX6, by decide +kernel, by decide +kernel⟩
theorem sr_2_10 : srF 2 10 = 0 := by decide +kernel
theorem cc_X6_64 : Cond.methodLink RX6 64 arraycopyName ∈ lw_gd := wm_987
theorem ac_n : Cond.native arraycopyName ∈ lw_gd := wm_989
theorem ac_s : Cond.static arraycopyName ∈ lw_gd := wm_988
theorem ac_i : Cond.initialized "java/lang/System" ∈ lw_gd := wm_131
theorem af_X6_18_3 : AF RX6 18 3 4 := ⟨6, 15, RX6, TX6, by decide +kernel, by decide +kernel, rfl, by decide, gX6, wm_197⟩
theorem af_X6_21_3 : AF RX6 21 3 5 := ⟨6, 15, RX6, TX6, by decide +kernel, by decide +kernel, rfl, by decide, gX6, wm_199⟩
theorem af_X6_21_2 : AF RX6 21 2 5 := ⟨6, 15, RX6, TX6, by decide +kernel, by decide +kernel, rfl, by decide, gX6, wm_199⟩
theorem sr_2_5 : srF 2 5 = 22 := by decide +kernel
theorem kc_20 : 20 < KC := by decide +kernel
theorem sk_20 : skF 20 = (0, 16) := by decide +kernel
theorem af_X6_24_3 : AF RX6 24 3 6 := ⟨6, 15, RX6, TX6, by decide +kernel, by decide +kernel, rfl, by decide, gX6, wm_201⟩
theorem af_X6_27_3 : AF RX6 27 3 7 := ⟨6, 15, RX6, TX6, by decide +kernel, by decide +kernel, rfl, by decide, gX6, wm_203⟩
theorem af_X6_30_3 : AF RX6 30 3 8 := ⟨6, 15, RX6, TX6, by decide +kernel, by decide +kernel, rfl, by decide, gX6, wm_205⟩
theorem af_X6_30_2 : AF RX6 30 2 8 := ⟨6, 15, RX6, TX6, by decide +kernel, by decide +kernel, rfl, by decide, gX6, wm_205⟩
theorem af_X6_33_3 : AF RX6 33 3 9 := ⟨6, 15, RX6, TX6, by decide +kernel, by decide +kernel, rfl, by decide, gX6, wm_208⟩
theorem af_X6_33_2 : AF RX6 33 2 9 := ⟨6, 15, RX6, TX6, by decide +kernel, by decide +kernel, rfl, by decide, gX6, wm_208⟩
theorem af_X6_36_2 : AF RX6 36 2 11 := ⟨6, 15, RX6, TX6, by decide +kernel, by decide +kernel, rfl, by decide, gX6, wm_213⟩
theorem sr_2_11 : srF 2 11 = 27 := by decide +kernel
theorem kc_25 : 25 < KC := by decide +kernel
theorem sk_25 : skF 25 = (0, 30) := by decide +kernel
theorem af_X6_39_2 : AF RX6 39 2 12 := ⟨6, 15, RX6, TX6, by decide +kernel, by decide +kernel, rfl, by decide, gX6, wm_216⟩
theorem sr_2_12 : srF 2 12 = 28 := by decide +kernel
theorem kc_26 : 26 < KC := by decide +kernel
theorem sk_26 : skF 26 = (0, 30) := by decide +kernel
theorem cq_X11_161 : CQ RX11 161 yX6_takeOver cX6_takeOver 2 none 1 := ⟨wm_983, wm_114, wm_986, by decide +kernel, by decide⟩
theorem cr_2_X6_takeOver : CR 2 yX6_takeOver := ⟨by decide +kernel, 6, 15, TX6, by decide +kernel, rfl, wm_984, wm_985⟩
theorem af_X11_167_4 : AF RX11 167 4 8 := ⟨4, 9, RX4, TX4, by decide +kernel, by decide +kernel, rfl, by decide, gX4, wm_270⟩
theorem af_X11_164_4 : AF RX11 164 4 7 := ⟨4, 9, RX4, TX4, by decide +kernel, by decide +kernel, rfl, by decide, gX4, wm_268⟩
theorem af_X11_173_5 : AF RX11 173 5 3 := ⟨9, 8, RX9, TX9, by decide +kernel, by decide +kernel, rfl, by decide, gX9, wm_302⟩
theorem af_X11_170_5 : AF RX11 170 5 2 := ⟨9, 8, RX9, TX9, by decide +kernel, by decide +kernel, rfl, by decide, gX9, wm_300⟩
theorem af_X11_103_6 : AF RX11 103 6 7 := ⟨0, 12, RX0, TX0, by decide +kernel, by decide +kernel, rfl, by decide, gX0, wm_346⟩
theorem cq_X11_107 : CQ RX11 107 yX11_isBoat cX11_isBoat 2 (some .boolean) 1 := ⟨wm_1007, wm_111, wm_1010, by decide +kernel, by decide⟩
theorem cr_0_X11_isBoat : CR 0 yX11_isBoat := ⟨by decide +kernel, 11, 12, TX11, by decide +kernel, rfl, wm_1009, wm_26⟩
theorem cq_X11_114 : CQ RX11 114 yX11_isTime cX11_isTime 1 (some .boolean) 1 := ⟨wm_1011, wm_111, wm_1013, by decide +kernel, by decide⟩
theorem st_X11_isTime : Cond.static yX11_isTime ∈ lw_gd := wm_1012
theorem cq_X11_176 : CQ RX11 176 yX11_isWay cX11_isWay 5 (some .boolean) 4 := ⟨wm_1003, wm_111, wm_1006, by decide +kernel, by decide⟩
theorem cr_0_X11_isWay : CR 0 yX11_isWay := ⟨by decide +kernel, 11, 12, TX11, by decide +kernel, rfl, wm_1005, wm_25⟩
theorem af_X11_180_6 : AF RX11 180 6 6 := ⟨0, 12, RX0, TX0, by decide +kernel, by decide +kernel, rfl, by decide, gX0, wm_344⟩
theorem ap_X9_60_5 : AFp RX9 60 5 6 .int := ⟨9, 8, RX9, TX9, tyX9, by decide +kernel, by decide +kernel, rfl, by decide, gX9, wm_307, tyX9_ok, nmX9, by decide +kernel, by decide +kernel⟩
theorem sr_5_6 : srF 5 6 = 0 := by decide +kernel
theorem ap_X9_63_5 : AFp RX9 63 5 7 .boolean := ⟨9, 8, RX9, TX9, tyX9, by decide +kernel, by decide +kernel, rfl, by decide, gX9, wm_308, tyX9_ok, nmX9, by decide +kernel, by decide +kernel⟩
theorem sr_5_7 : srF 5 7 = 0 := by decide +kernel
theorem af_X9_21_5 : AF RX9 21 5 5 := ⟨9, 8, RX9, TX9, by decide +kernel, by decide +kernel, rfl, by decide, gX9, wm_305⟩
theorem sr_5_5 : srF 5 5 = 49 := by decide +kernel
theorem kc_47 : 47 < KC := by decide +kernel
theorem sk_47 : skF 47 = (0, 14) := by decide +kernel
theorem cf_X9_32 : CQ RX9 32 ⟨"java/util/Arrays", "fill", "([II)V"⟩ cJ7_fill_53178 4 none 2 := ⟨wm_296, wm_113, wm_149, by decide +kernel, by decide⟩
theorem cq_X9_67 : CQ RX9 67 yX9_setOut cX9_setOut 3 none 2 := ⟨wm_1018, wm_116, wm_1021, by decide +kernel, by decide⟩
theorem cr_5_X9_setOut : CR 5 yX9_setOut := ⟨by decide +kernel, 9, 8, TX9, by decide +kernel, rfl, wm_1020, wm_27⟩
theorem af_X9_78_1 : AF RX9 78 1 0 := ⟨2, 7, RX2, TX2, by decide +kernel, by decide +kernel, rfl, by decide, gX2, wm_151⟩
theorem af_X6_55_2 : AF RX6 55 2 10 := ⟨6, 15, RX6, TX6, by decide +kernel, by decide +kernel, rfl, by decide, gX6, wm_211⟩
theorem cq_X6_70 : CQ RX6 70 yX6_hasTunnel cX6_hasTunnel 2 (some .boolean) 1 := ⟨wm_1030, wm_114, wm_938, by decide +kernel, by decide⟩
theorem cr_2_X6_hasTunnel : CR 2 yX6_hasTunnel := ⟨by decide +kernel, 6, 15, TX6, by decide +kernel, rfl, wm_936, wm_937⟩
theorem cq_X9_81 : CQ RX9 81 yX6_isTunnel cX6_isTunnel 2 (some .boolean) 1 := ⟨wm_1026, wm_114, wm_1029, by decide +kernel, by decide⟩
theorem cr_2_X6_isTunnel : CR 2 yX6_isTunnel := ⟨by decide +kernel, 6, 15, TX6, by decide +kernel, rfl, wm_1027, wm_1028⟩
theorem af_X9_118_2 : AF RX9 118 2 11 := ⟨6, 15, RX6, TX6, by decide +kernel, by decide +kernel, rfl, by decide, gX6, wm_214⟩
theorem cq_X9_96 : CQ RX9 96 yX9_firstHour cX9_firstHour 4 (some .int) 3 := ⟨wm_1039, wm_116, wm_1042, by decide +kernel, by decide⟩
theorem cr_5_X9_firstHour : CR 5 yX9_firstHour := ⟨by decide +kernel, 9, 8, TX9, by decide +kernel, rfl, wm_1041, wm_31⟩
theorem cm_X9_99 : Cond.methodLink RX9 99 Lib.Math.max.name ∈ lw_gd := wm_1043
theorem mst_max : Cond.static Lib.Math.max.name ∈ lw_gd := wm_868
theorem mini : Cond.initialized "java/lang/Math" ∈ lw_gd := wm_129
theorem mcd_max : Cond.code Lib.Math.max.name Lib.Math.max.code 2 (some .int) ∈ lw_gd := wm_869
theorem af_X9_121_2 : AF RX9 121 2 12 := ⟨6, 15, RX6, TX6, by decide +kernel, by decide +kernel, rfl, by decide, gX6, wm_217⟩
theorem cq_X9_105 : CQ RX9 105 yX9_hourBehind cX9_hourBehind 4 (some .int) 3 := ⟨wm_1044, wm_116, wm_1047, by decide +kernel, by decide⟩
theorem cr_5_X9_hourBehind : CR 5 yX9_hourBehind := ⟨by decide +kernel, 9, 8, TX9, by decide +kernel, rfl, wm_1046, wm_32⟩
theorem cm_X9_108 : Cond.methodLink RX9 108 Lib.Math.min.name ∈ lw_gd := wm_1048
theorem mst_min : Cond.static Lib.Math.min.name ∈ lw_gd := wm_871
theorem mcd_min : Cond.code Lib.Math.min.name Lib.Math.min.code 2 (some .int) ∈ lw_gd := wm_872
theorem af_X9_63_5 : AF RX9 63 5 7 := ⟨9, 8, RX9, TX9, by decide +kernel, by decide +kernel, rfl, by decide, gX9, wm_308⟩
theorem af_X9_115_1 : AF RX9 115 1 3 := ⟨2, 7, RX2, TX2, by decide +kernel, by decide +kernel, rfl, by decide, gX2, wm_160⟩
theorem cq_X9_111 : CQ RX9 111 yX9_isStopped cX9_isStopped 3 (some .boolean) 2 := ⟨wm_1049, wm_116, wm_1052, by decide +kernel, by decide⟩
theorem cr_5_X9_isStopped : CR 5 yX9_isStopped := ⟨by decide +kernel, 9, 8, TX9, by decide +kernel, rfl, wm_1051, wm_33⟩
theorem cq_X9_92 : CQ RX9 92 yX9_begins cX9_begins 8 (some .int) 3 := ⟨wm_1035, wm_116, wm_1038, by decide +kernel, by decide⟩
theorem cr_5_X9_begins : CR 5 yX9_begins := ⟨by decide +kernel, 9, 8, TX9, by decide +kernel, rfl, wm_1037, wm_30⟩
theorem cq_X9_85 : CQ RX9 85 yX9_step cX9_step 6 (some .int) 4 := ⟨wm_1031, wm_116, wm_1034, by decide +kernel, by decide⟩
theorem cr_5_X9_step : CR 5 yX9_step := ⟨by decide +kernel, 9, 8, TX9, by decide +kernel, rfl, wm_1033, wm_29⟩
theorem af_X9_89_1 : AF RX9 89 1 1 := ⟨2, 7, RX2, TX2, by decide +kernel, by decide +kernel, rfl, by decide, gX2, wm_154⟩
theorem af_X9_60_5 : AF RX9 60 5 6 := ⟨9, 8, RX9, TX9, by decide +kernel, by decide +kernel, rfl, by decide, gX9, wm_307⟩
theorem cq_X9_71 : CQ RX9 71 yX9_pass cX9_pass 7 (some .int) 3 := ⟨wm_1022, wm_116, wm_1025, by decide +kernel, by decide⟩
theorem cr_5_X9_pass : CR 5 yX9_pass := ⟨by decide +kernel, 9, 8, TX9, by decide +kernel, rfl, wm_1024, wm_28⟩
theorem cq_X11_183 : CQ RX11 183 yX9_comesTo cX9_comesTo 8 (some .int) 5 := ⟨wm_1014, wm_116, wm_1017, by decide +kernel, by decide⟩
theorem cr_5_X9_comesTo : CR 5 yX9_comesTo := ⟨by decide +kernel, 9, 8, TX9, by decide +kernel, rfl, wm_1015, wm_1016⟩
theorem af_X9_18_5 : AF RX9 18 5 4 := ⟨9, 8, RX9, TX9, by decide +kernel, by decide +kernel, rfl, by decide, gX9, wm_303⟩
theorem sr_5_4 : srF 5 4 = 48 := by decide +kernel
theorem kc_46 : 46 < KC := by decide +kernel
theorem sk_46 : skF 46 = (0, 16) := by decide +kernel
theorem cq_X11_187 : CQ RX11 187 yX9_reach cX9_reach 5 none 3 := ⟨wm_1057, wm_116, wm_1060, by decide +kernel, by decide⟩
theorem cr_5_X9_reach : CR 5 yX9_reach := ⟨by decide +kernel, 9, 8, TX9, by decide +kernel, rfl, wm_1058, wm_1059⟩
theorem cq_X11_190 : CQ RX11 190 yX9_reached cX9_reached 4 (some .int) 1 := ⟨wm_1061, wm_116, wm_1064, by decide +kernel, by decide⟩
theorem cr_5_X9_reached : CR 5 yX9_reached := ⟨by decide +kernel, 9, 8, TX9, by decide +kernel, rfl, wm_1062, wm_1063⟩
theorem af_X0_46_6 : AF RX0 46 6 2 := ⟨0, 12, RX0, TX0, by decide +kernel, by decide +kernel, rfl, by decide, gX0, wm_336⟩
theorem sr_6_2 : srF 6 2 = 7 := by decide +kernel
theorem af_X0_98_5 : AF RX0 98 5 5 := ⟨9, 8, RX9, TX9, by decide +kernel, by decide +kernel, rfl, by decide, gX9, wm_306⟩
theorem af_X0_42_6 : AF RX0 42 6 1 := ⟨0, 12, RX0, TX0, by decide +kernel, by decide +kernel, rfl, by decide, gX0, wm_335⟩
theorem sr_6_1 : srF 6 1 = 4 := by decide +kernel
theorem af_X0_38_6 : AF RX0 38 6 0 := ⟨0, 12, RX0, TX0, by decide +kernel, by decide +kernel, rfl, by decide, gX0, wm_334⟩
theorem sr_6_0 : srF 6 0 = 3 := by decide +kernel
theorem af_X0_104_1 : AF RX0 104 1 5 := ⟨2, 7, RX2, TX2, by decide +kernel, by decide +kernel, rfl, by decide, gX2, wm_166⟩
theorem cq_X0_109 : CQ RX0 109 yX6_askDay cX6_askDay 3 none 2 := ⟨wm_1077, wm_114, wm_696, by decide +kernel, by decide⟩
theorem af_X0_115_2 : AF RX0 115 2 13 := ⟨6, 15, RX6, TX6, by decide +kernel, by decide +kernel, rfl, by decide, gX6, wm_220⟩
theorem cq_X0_118 : CQ RX0 118 yX6_serving cX6_serving 3 (some .int) 1 := ⟨wm_1078, wm_114, wm_701, by decide +kernel, by decide⟩
theorem cq_X0_121 : CQ RX0 121 yX6_valueOf cX6_valueOf 2 (some .int) 1 := ⟨wm_1079, wm_114, wm_1082, by decide +kernel, by decide⟩
theorem cr_2_X6_valueOf : CR 2 yX6_valueOf := ⟨by decide +kernel, 6, 15, TX6, by decide +kernel, rfl, wm_1080, wm_1081⟩
theorem cm_X0_124 : Cond.methodLink RX0 124 Lib.Math.min.name ∈ lw_gd := wm_1083
theorem cm_X0_71 : Cond.methodLink RX0 71 Lib.Math.max.name ∈ lw_gd := wm_1084
theorem cq_X0_101 : CQ RX0 101 yX0_harmOfLock cX0_harmOfLock 4 (some .int) 2 := ⟨wm_1073, wm_117, wm_1076, by decide +kernel, by decide⟩
theorem cr_6_X0_harmOfLock : CR 6 yX0_harmOfLock := ⟨by decide +kernel, 0, 12, TX0, by decide +kernel, rfl, wm_1075, wm_34⟩
theorem cq_X11_194 : CQ RX11 194 yX0_harmOfLatestWay cX0_harmOfLatestWay 4 (some .int) 1 := ⟨wm_1069, wm_117, wm_1072, by decide +kernel, by decide⟩
theorem cr_6_X0_harmOfLatestWay : CR 6 yX0_harmOfLatestWay := ⟨by decide +kernel, 0, 12, TX0, by decide +kernel, rfl, wm_1070, wm_1071⟩
theorem af_X11_58_0 : AF RX11 58 0 6 := ⟨11, 12, RX11, TX11, by decide +kernel, by decide +kernel, rfl, by decide, gX11, wm_647⟩
theorem sr_0_6 : srF 0 6 = 9 := by decide +kernel
theorem gX7 : ∀ w ∈ u_ws RX7 TX7 9, w ∈ lw_gd := gd_all inX7 (by decide +kernel)
theorem af_X11_197_7 : AF RX11 197 7 8 := ⟨7, 9, RX7, TX7, by decide +kernel, by decide +kernel, rfl, by decide, gX7, wm_392⟩
theorem sr_7_8 : srF 7 8 = 0 := by decide +kernel
theorem cw_X11_198 : Cond.constant RX11 198 (Int32.ofInt (-1000000)) ∈ lw_gd := wm_1089
theorem af_X7_35_7 : AF RX7 35 7 2 := ⟨7, 9, RX7, TX7, by decide +kernel, by decide +kernel, rfl, by decide, gX7, wm_385⟩
theorem sr_7_2 : srF 7 2 = 7 := by decide +kernel
theorem af_X7_27_7 : AF RX7 27 7 0 := ⟨7, 9, RX7, TX7, by decide +kernel, by decide +kernel, rfl, by decide, gX7, wm_383⟩
theorem sr_7_0 : srF 7 0 = 8 := by decide +kernel
theorem af_X7_43_6 : AF RX7 43 6 6 := ⟨0, 12, RX0, TX0, by decide +kernel, by decide +kernel, rfl, by decide, gX0, wm_343⟩
theorem af_X7_9_7 : AF RX7 9 7 3 := ⟨7, 9, RX7, TX7, by decide +kernel, by decide +kernel, rfl, by decide, gX7, wm_386⟩
theorem sr_7_3 : srF 7 3 = 78 := by decide +kernel
theorem kc_76 : 76 < KC := by decide +kernel
theorem sk_76 : skF 76 = (0, 20) := by decide +kernel
theorem af_X7_15_7 : AF RX7 15 7 4 := ⟨7, 9, RX7, TX7, by decide +kernel, by decide +kernel, rfl, by decide, gX7, wm_387⟩
theorem sr_7_4 : srF 7 4 = 79 := by decide +kernel
theorem kc_77 : 77 < KC := by decide +kernel
theorem sk_77 : skF 77 = (0, 20) := by decide +kernel
theorem af_X7_18_7 : AF RX7 18 7 5 := ⟨7, 9, RX7, TX7, by decide +kernel, by decide +kernel, rfl, by decide, gX7, wm_388⟩
theorem sr_7_5 : srF 7 5 = 80 := by decide +kernel
theorem kc_78 : 78 < KC := by decide +kernel
theorem sk_78 : skF 78 = (0, 20) := by decide +kernel
theorem af_X7_21_7 : AF RX7 21 7 6 := ⟨7, 9, RX7, TX7, by decide +kernel, by decide +kernel, rfl, by decide, gX7, wm_389⟩
theorem sr_7_6 : srF 7 6 = 81 := by decide +kernel
theorem kc_79 : 79 < KC := by decide +kernel
theorem sk_79 : skF 79 = (0, 20) := by decide +kernel
theorem cq_X7_48 : CQ RX7 48 yX9_comesTo cX9_comesTo 8 (some .int) 5 := ⟨wm_1102, wm_116, wm_1017, by decide +kernel, by decide⟩
theorem af_X7_24_7 : AF RX7 24 7 7 := ⟨7, 9, RX7, TX7, by decide +kernel, by decide +kernel, rfl, by decide, gX7, wm_390⟩
theorem sr_7_7 : srF 7 7 = 82 := by decide +kernel
theorem kc_80 : 80 < KC := by decide +kernel
theorem sk_80 : skF 80 = (0, 20) := by decide +kernel
theorem cm_X7_54 : Cond.methodLink RX7 54 Lib.Math.max.name ∈ lw_gd := wm_1111
theorem cq_X7_60 : CQ RX7 60 yX7_lateBy cX7_lateBy 4 (some .int) 2 := ⟨wm_1107, wm_118, wm_1110, by decide +kernel, by decide⟩
theorem cr_7_X7_lateBy : CR 7 yX7_lateBy := ⟨by decide +kernel, 7, 9, TX7, by decide +kernel, rfl, wm_1108, wm_1109⟩
theorem cq_X0_127 : CQ RX0 127 yX6_askWeek cX6_askWeek 2 none 1 := ⟨wm_1116, wm_114, wm_1119, by decide +kernel, by decide⟩
theorem cr_2_X6_askWeek : CR 2 yX6_askWeek := ⟨by decide +kernel, 6, 15, TX6, by decide +kernel, rfl, wm_1117, wm_1118⟩
theorem cq_X7_73 : CQ RX7 73 yX0_priceLine cX0_priceLine 4 (some .int) 3 := ⟨wm_1112, wm_117, wm_1115, by decide +kernel, by decide⟩
theorem cr_6_X0_priceLine : CR 6 yX0_priceLine := ⟨by decide +kernel, 0, 12, TX0, by decide +kernel, rfl, wm_1113, wm_1114⟩
theorem cm_X7_77 : Cond.methodLink RX7 77 Lib.Math.min.name ∈ lw_gd := wm_1120
theorem af_X7_31_7 : AF RX7 31 7 1 := ⟨7, 9, RX7, TX7, by decide +kernel, by decide +kernel, rfl, by decide, gX7, wm_384⟩
theorem sr_7_1 : srF 7 1 = 4 := by decide +kernel
theorem cq_X7_80 : CQ RX7 80 yX6_valueOf cX6_valueOf 2 (some .int) 1 := ⟨wm_1121, wm_114, wm_1082, by decide +kernel, by decide⟩
theorem cw_X7_85 : Cond.constantLong RX7 85 (Int64.ofInt 7) ∈ lw_gd := wm_1122
theorem cw_X7_64 : Cond.constant RX7 64 (Int32.ofInt (-1000000)) ∈ lw_gd := wm_1094
theorem cq_X11_202 : CQ RX11 202 yX7_refund cX7_refund 6 (some .int) 1 := ⟨wm_1103, wm_118, wm_1106, by decide +kernel, by decide⟩
theorem cr_7_X7_refund : CR 7 yX7_refund := ⟨by decide +kernel, 7, 9, TX7, by decide +kernel, rfl, wm_1104, wm_1105⟩
theorem cm_X7_65 : Cond.methodLink RX7 65 Lib.Math.abs.name ∈ lw_gd := wm_1095
theorem mst_abs : Cond.static Lib.Math.abs.name ∈ lw_gd := wm_1096
theorem mcd_abs : Cond.code Lib.Math.abs.name Lib.Math.abs.code 1 (some .int) ∈ lw_gd := wm_1097
theorem cq_X7_69 : CQ RX7 69 yX7_isBackInTime cX7_isBackInTime 6 (some .boolean) 2 := ⟨wm_1098, wm_118, wm_1101, by decide +kernel, by decide⟩
theorem cr_7_X7_isBackInTime : CR 7 yX7_isBackInTime := ⟨by decide +kernel, 7, 9, TX7, by decide +kernel, rfl, wm_1100, wm_35⟩
theorem cq_X11_199 : CQ RX11 199 yX7_turningBack cX7_turningBack 7 (some .int) 1 := ⟨wm_1090, wm_118, wm_1093, by decide +kernel, by decide⟩
theorem cr_7_X7_turningBack : CR 7 yX7_turningBack := ⟨by decide +kernel, 7, 9, TX7, by decide +kernel, rfl, wm_1091, wm_1092⟩
theorem cq_X11_205 : CQ RX11 205 yX7_lateBy cX7_lateBy 4 (some .int) 2 := ⟨wm_1127, wm_118, wm_1110, by decide +kernel, by decide⟩
theorem af_X2_37_1 : AF RX2 37 1 6 := ⟨2, 7, RX2, TX2, by decide +kernel, by decide +kernel, rfl, by decide, gX2, wm_167⟩
theorem sr_1_6 : srF 1 6 = 0 := by decide +kernel
theorem ap_X2_37_1 : AFp RX2 37 1 6 .int := ⟨2, 7, RX2, TX2, tyX2, by decide +kernel, by decide +kernel, rfl, by decide, gX2, wm_167, tyX2_ok, nmX2, by decide +kernel, by decide +kernel⟩
theorem cq_X11_209 : CQ RX11 209 yX2_setPump cX2_setPump 3 none 2 := ⟨wm_1132, wm_112, wm_1135, by decide +kernel, by decide⟩
theorem cr_1_X2_setPump : CR 1 yX2_setPump := ⟨by decide +kernel, 2, 7, TX2, by decide +kernel, rfl, wm_1133, wm_1134⟩
theorem af_X9_75_1 : AF RX9 75 1 6 := ⟨2, 7, RX2, TX2, by decide +kernel, by decide +kernel, rfl, by decide, gX2, wm_168⟩
theorem cq_X11_213 : CQ RX11 213 yX9_nextPump cX9_nextPump 4 (some .int) 0 := ⟨wm_1140, wm_116, wm_1143, by decide +kernel, by decide⟩
theorem cr_5_X9_nextPump : CR 5 yX9_nextPump := ⟨by decide +kernel, 9, 8, TX9, by decide +kernel, rfl, wm_1141, wm_1142⟩
theorem af_X11_216_5 : AF RX11 216 5 4 := ⟨9, 8, RX9, TX9, by decide +kernel, by decide +kernel, rfl, by decide, gX9, wm_304⟩
theorem af_X7_39_7 : AF RX7 39 7 8 := ⟨7, 9, RX7, TX7, by decide +kernel, by decide +kernel, rfl, by decide, gX7, wm_391⟩
theorem ap_X7_39_7 : AFp RX7 39 7 8 .int := ⟨7, 9, RX7, TX7, tyX7, by decide +kernel, by decide +kernel, rfl, by decide, gX7, wm_391, tyX7_ok, nmX7, by decide +kernel, by decide +kernel⟩
theorem cq_X11_219 : CQ RX11 219 yX7_add cX7_add 6 (some .int) 5 := ⟨wm_1152, wm_118, wm_1155, by decide +kernel, by decide⟩
theorem cr_7_X7_add : CR 7 yX7_add := ⟨by decide +kernel, 7, 9, TX7, by decide +kernel, rfl, wm_1153, wm_1154⟩
theorem cq_X11_222 : CQ RX11 222 yX7_howManyLate cX7_howManyLate 3 (some .int) 0 := ⟨wm_1160, wm_118, wm_1163, by decide +kernel, by decide⟩
theorem cr_7_X7_howManyLate : CR 7 yX7_howManyLate := ⟨by decide +kernel, 7, 9, TX7, by decide +kernel, rfl, wm_1161, wm_1162⟩
theorem af_X0_32_6 : AF RX0 32 6 10 := ⟨0, 12, RX0, TX0, by decide +kernel, by decide +kernel, rfl, by decide, gX0, wm_349⟩
theorem sr_6_10 : srF 6 10 = 76 := by decide +kernel
theorem kc_74 : 74 < KC := by decide +kernel
theorem sk_74 : skF 74 = (0, 10) := by decide +kernel
theorem af_X0_29_6 : AF RX0 29 6 9 := ⟨0, 12, RX0, TX0, by decide +kernel, by decide +kernel, rfl, by decide, gX0, wm_348⟩
theorem sr_6_9 : srF 6 9 = 65 := by decide +kernel
theorem kc_63 : 63 < KC := by decide +kernel
theorem sk_63 : skF 63 = (2, 10) := by decide +kernel
theorem sb_63 : ∀ j, j < 10 → srF 63 j = 64 + j + 2 := by decide +kernel
theorem s2_64 : ∀ j, j < 10 → 64 + j < KC ∧ skF (64 + j) = (0, 10) := by decide +kernel
theorem af_X0_26_6 : AF RX0 26 6 8 := ⟨0, 12, RX0, TX0, by decide +kernel, by decide +kernel, rfl, by decide, gX0, wm_347⟩
theorem sr_6_8 : srF 6 8 = 54 := by decide +kernel
theorem kc_52 : 52 < KC := by decide +kernel
theorem sk_52 : skF 52 = (2, 10) := by decide +kernel
theorem sb_52 : ∀ j, j < 10 → srF 52 j = 53 + j + 2 := by decide +kernel
theorem s2_53 : ∀ j, j < 10 → 53 + j < KC ∧ skF (53 + j) = (0, 10) := by decide +kernel
theorem cq_X11_225 : CQ RX11 225 yX0_addLog cX0_addLog 5 (some .int) 3 := ⟨wm_1168, wm_117, wm_1171, by decide +kernel, by decide⟩
theorem cr_6_X0_addLog : CR 6 yX0_addLog := ⟨by decide +kernel, 0, 12, TX0, by decide +kernel, rfl, wm_1169, wm_1170⟩
theorem cq_X0_58 : CQ RX0 58 yX0_placeOf cX0_placeOf 3 (some .int) 2 := ⟨wm_1184, wm_117, wm_1187, by decide +kernel, by decide⟩
theorem cr_6_X0_placeOf : CR 6 yX0_placeOf := ⟨by decide +kernel, 0, 12, TX0, by decide +kernel, rfl, wm_1186, wm_37⟩
theorem cq_X0_62 : CQ RX0 62 yX0_timeOf cX0_timeOf 3 (some .int) 2 := ⟨wm_1188, wm_117, wm_1191, by decide +kernel, by decide⟩
theorem cr_6_X0_timeOf : CR 6 yX0_timeOf := ⟨by decide +kernel, 0, 12, TX0, by decide +kernel, rfl, wm_1190, wm_38⟩
theorem cq_X0_65 : CQ RX0 65 yX9_comesTo cX9_comesTo 8 (some .int) 5 := ⟨wm_1192, wm_116, wm_1017, by decide +kernel, by decide⟩
theorem cq_X0_54 : CQ RX0 54 yX0_canBetween cX0_canBetween 12 (some .boolean) 5 := ⟨wm_1180, wm_117, wm_1183, by decide +kernel, by decide⟩
theorem cr_6_X0_canBetween : CR 6 yX0_canBetween := ⟨by decide +kernel, 0, 12, TX0, by decide +kernel, rfl, wm_1182, wm_36⟩
theorem cq_X11_229 : CQ RX11 229 yX0_canHaveBeen cX0_canHaveBeen 6 (some .boolean) 4 := ⟨wm_1176, wm_117, wm_1179, by decide +kernel, by decide⟩
theorem cr_6_X0_canHaveBeen : CR 6 yX0_canHaveBeen := ⟨by decide +kernel, 0, 12, TX0, by decide +kernel, rfl, wm_1177, wm_1178⟩
theorem cw_J6_265 : Cond.constant RJ6 265 (Int32.ofInt 1431655765) ∈ lw_gd := wm_1200
theorem cw_J6_266 : Cond.constant RJ6 266 (Int32.ofInt 858993459) ∈ lw_gd := wm_1201
theorem cw_J6_267 : Cond.constant RJ6 267 (Int32.ofInt 252645135) ∈ lw_gd := wm_1202
theorem cq_X11_232 : CQ RX11 232 yJ6_bitCount_0f7a4 cJ6_bitCount_0f7a4 1 (some .int) 1 := ⟨wm_1197, wm_132, wm_1199, by decide +kernel, by decide⟩
theorem st_J6_bitCount_0f7a4 : Cond.static yJ6_bitCount_0f7a4 ∈ lw_gd := wm_1198
theorem af_X0_35_6 : AF RX0 35 6 11 := ⟨0, 12, RX0, TX0, by decide +kernel, by decide +kernel, rfl, by decide, gX0, wm_350⟩
theorem sr_6_11 : srF 6 11 = 77 := by decide +kernel
theorem kc_75 : 75 < KC := by decide +kernel
theorem sk_75 : skF 75 = (0, 16) := by decide +kernel
theorem cf_X0_76 : CQ RX0 76 ⟨"java/util/Arrays", "fill", "([II)V"⟩ cJ7_fill_53178 4 none 2 := ⟨wm_1211, wm_113, wm_149, by decide +kernel, by decide⟩
theorem cq_X0_82 : CQ RX0 82 yX0_lastLog cX0_lastLog 5 (some .int) 2 := ⟨wm_1212, wm_117, wm_1215, by decide +kernel, by decide⟩
theorem cr_6_X0_lastLog : CR 6 yX0_lastLog := ⟨by decide +kernel, 0, 12, TX0, by decide +kernel, rfl, wm_1214, wm_39⟩
theorem cq_X0_85 : CQ RX0 85 yX9_reach cX9_reach 5 none 3 := ⟨wm_1216, wm_116, wm_1060, by decide +kernel, by decide⟩
theorem cq_X0_89 : CQ RX0 89 yX9_reached cX9_reached 4 (some .int) 1 := ⟨wm_1217, wm_116, wm_1064, by decide +kernel, by decide⟩
theorem cq_X11_237 : CQ RX11 237 yX0_settleTonight cX0_settleTonight 6 none 1 := ⟨wm_1207, wm_117, wm_1210, by decide +kernel, by decide⟩
theorem cr_6_X0_settleTonight : CR 6 yX0_settleTonight := ⟨by decide +kernel, 0, 12, TX0, by decide +kernel, rfl, wm_1208, wm_1209⟩
theorem cq_X0_93 : CQ RX0 93 yJ6_bitCount_0f7a4 cJ6_bitCount_0f7a4 1 (some .int) 1 := ⟨wm_1222, wm_132, wm_1199, by decide +kernel, by decide⟩
theorem cq_X11_243 : CQ RX11 243 yX0_crowd cX0_crowd 3 (some .int) 0 := ⟨wm_1218, wm_117, wm_1221, by decide +kernel, by decide⟩
theorem cr_6_X0_crowd : CR 6 yX0_crowd := ⟨by decide +kernel, 0, 12, TX0, by decide +kernel, rfl, wm_1219, wm_1220⟩
theorem af_X11_240_6 : AF RX11 240 6 11 := ⟨0, 12, RX0, TX0, by decide +kernel, by decide +kernel, rfl, by decide, gX0, wm_351⟩
theorem af_X11_65_0 : AF RX11 65 0 7 := ⟨11, 12, RX11, TX11, by decide +kernel, by decide +kernel, rfl, by decide, gX11, wm_648⟩
theorem sr_0_7 : srF 0 7 = 10 := by decide +kernel
theorem gX3 : ∀ w ∈ u_ws RX3 TX3 7, w ∈ lw_gd := gd_all inX3 (by decide +kernel)
theorem af_X3_24_8 : AF RX3 24 8 2 := ⟨3, 7, RX3, TX3, by decide +kernel, by decide +kernel, rfl, by decide, gX3, wm_420⟩
theorem sr_8_2 : srF 8 2 = 0 := by decide +kernel
theorem af_X3_9_8 : AF RX3 9 8 0 := ⟨3, 7, RX3, TX3, by decide +kernel, by decide +kernel, rfl, by decide, gX3, wm_418⟩
theorem sr_8_0 : srF 8 0 = 83 := by decide +kernel
theorem kc_81 : 81 < KC := by decide +kernel
theorem sk_81 : skF 81 = (0, 7) := by decide +kernel
theorem af_X3_15_8 : AF RX3 15 8 1 := ⟨3, 7, RX3, TX3, by decide +kernel, by decide +kernel, rfl, by decide, gX3, wm_419⟩
theorem sr_8_1 : srF 8 1 = 84 := by decide +kernel
theorem kc_82 : 82 < KC := by decide +kernel
theorem sk_82 : skF 82 = (0, 7) := by decide +kernel
theorem ap_X3_24_8 : AFp RX3 24 8 2 .int := ⟨3, 7, RX3, TX3, tyX3, by decide +kernel, by decide +kernel, rfl, by decide, gX3, wm_420, tyX3_ok, nmX3, by decide +kernel, by decide +kernel⟩
theorem af_X3_21_8 : AF RX3 21 8 6 := ⟨3, 7, RX3, TX3, by decide +kernel, by decide +kernel, rfl, by decide, gX3, wm_427⟩
theorem sr_8_6 : srF 8 6 = 86 := by decide +kernel
theorem kc_84 : 84 < KC := by decide +kernel
theorem sk_84 : skF 84 = (0, 7) := by decide +kernel
theorem cm_X3_45 : Cond.methodLink RX3 45 Lib.Math.max.name ∈ lw_gd := wm_1243
theorem cq_X3_51 : CQ RX3 51 yX3_minutesOf cX3_minutesOf 3 (some .int) 2 := ⟨wm_1244, wm_119, wm_1247, by decide +kernel, by decide⟩
theorem cr_8_X3_minutesOf : CR 8 yX3_minutesOf := ⟨by decide +kernel, 3, 7, TX3, by decide +kernel, rfl, wm_1246, wm_42⟩
theorem cq_X3_37 : CQ RX3 37 yX3_waitOf cX3_waitOf 6 (some .int) 1 := ⟨wm_1239, wm_119, wm_1242, by decide +kernel, by decide⟩
theorem cr_8_X3_waitOf : CR 8 yX3_waitOf := ⟨by decide +kernel, 3, 7, TX3, by decide +kernel, rfl, wm_1241, wm_41⟩
theorem ap_X3_28_8 : AFp RX3 28 8 3 .int := ⟨3, 7, RX3, TX3, tyX3, by decide +kernel, by decide +kernel, rfl, by decide, gX3, wm_422, tyX3_ok, nmX3, by decide +kernel, by decide +kernel⟩
theorem sr_8_3 : srF 8 3 = 0 := by decide +kernel
theorem af_X3_28_8 : AF RX3 28 8 3 := ⟨3, 7, RX3, TX3, by decide +kernel, by decide +kernel, rfl, by decide, gX3, wm_422⟩
theorem ap_X3_31_8 : AFp RX3 31 8 4 .int := ⟨3, 7, RX3, TX3, tyX3, by decide +kernel, by decide +kernel, rfl, by decide, gX3, wm_424, tyX3_ok, nmX3, by decide +kernel, by decide +kernel⟩
theorem sr_8_4 : srF 8 4 = 0 := by decide +kernel
theorem af_X3_18_8 : AF RX3 18 8 5 := ⟨3, 7, RX3, TX3, by decide +kernel, by decide +kernel, rfl, by decide, gX3, wm_426⟩
theorem sr_8_5 : srF 8 5 = 85 := by decide +kernel
theorem kc_83 : 83 < KC := by decide +kernel
theorem sk_83 : skF 83 = (0, 7) := by decide +kernel
theorem cc_X3_55 : Cond.methodLink RX3 55 arraycopyName ∈ lw_gd := wm_1251
theorem af_X3_31_8 : AF RX3 31 8 4 := ⟨3, 7, RX3, TX3, by decide +kernel, by decide +kernel, rfl, by decide, gX3, wm_424⟩
theorem cq_X3_41 : CQ RX3 41 yX3_putNext cX3_putNext 8 none 5 := ⟨wm_1248, wm_119, wm_1250, by decide +kernel, by decide⟩
theorem st_X3_putNext : Cond.static yX3_putNext ∈ lw_gd := wm_1249
theorem cq_X3_34 : CQ RX3 34 yX3_findBest cX3_findBest 2 none 0 := ⟨wm_1235, wm_119, wm_1238, by decide +kernel, by decide⟩
theorem cr_8_X3_findBest : CR 8 yX3_findBest := ⟨by decide +kernel, 3, 7, TX3, by decide +kernel, rfl, wm_1237, wm_40⟩
theorem cq_X11_249 : CQ RX11 249 yX3_add cX3_add 3 (some .int) 2 := ⟨wm_1231, wm_119, wm_1234, by decide +kernel, by decide⟩
theorem cr_8_X3_add : CR 8 yX3_add := ⟨by decide +kernel, 3, 7, TX3, by decide +kernel, rfl, wm_1232, wm_1233⟩
theorem cq_X11_246 : CQ RX11 246 yX3_clear cX3_clear 1 none 0 := ⟨wm_1227, wm_119, wm_1230, by decide +kernel, by decide⟩
theorem cr_8_X3_clear : CR 8 yX3_clear := ⟨by decide +kernel, 3, 7, TX3, by decide +kernel, rfl, wm_1228, wm_1229⟩
theorem af_X11_252_8 : AF RX11 252 8 3 := ⟨3, 7, RX3, TX3, by decide +kernel, by decide +kernel, rfl, by decide, gX3, wm_423⟩
theorem af_X11_255_8 : AF RX11 255 8 4 := ⟨3, 7, RX3, TX3, by decide +kernel, by decide +kernel, rfl, by decide, gX3, wm_425⟩
theorem cq_X11_258 : CQ RX11 258 yX3_lockfulsAsCome cX3_lockfulsAsCome 3 (some .int) 0 := ⟨wm_1256, wm_119, wm_1259, by decide +kernel, by decide⟩
theorem cr_8_X3_lockfulsAsCome : CR 8 yX3_lockfulsAsCome := ⟨by decide +kernel, 3, 7, TX3, by decide +kernel, rfl, wm_1257, wm_1258⟩
theorem cq_X11_261 : CQ RX11 261 yX3_lockfulsAtBest cX3_lockfulsAtBest 3 (some .int) 0 := ⟨wm_1260, wm_119, wm_1263, by decide +kernel, by decide⟩
theorem cr_8_X3_lockfulsAtBest : CR 8 yX3_lockfulsAtBest := ⟨by decide +kernel, 3, 7, TX3, by decide +kernel, rfl, wm_1261, wm_1262⟩
theorem ns_X3_61 : (RX3, 61) ∈ nestL := by decide +kernel
theorem cq_X11_264 : CQ RX11 264 yX3_atBest cX3_atBest 2 (some .int) 1 := ⟨wm_1264, wm_119, wm_1267, by decide +kernel, by decide⟩
theorem cr_8_X3_atBest : CR 8 yX3_atBest := ⟨by decide +kernel, 3, 7, TX3, by decide +kernel, rfl, wm_1265, wm_1266⟩
theorem cq_X11_267 : CQ RX11 267 yX11_isWeek cX11_isWeek 1 (some .boolean) 1 := ⟨wm_1273, wm_111, wm_1275, by decide +kernel, by decide⟩
theorem st_X11_isWeek : Cond.static yX11_isWeek ∈ lw_gd := wm_1274
theorem af_X11_72_0 : AF RX11 72 0 8 := ⟨11, 12, RX11, TX11, by decide +kernel, by decide +kernel, rfl, by decide, gX11, wm_649⟩
theorem sr_0_8 : srF 0 8 = 11 := by decide +kernel
theorem gX1 : ∀ w ∈ u_ws RX1 TX1 17, w ∈ lw_gd := gd_all inX1 (by decide +kernel)
theorem af_X1_48_9 : AF RX1 48 9 4 := ⟨1, 17, RX1, TX1, by decide +kernel, by decide +kernel, rfl, by decide, gX1, wm_453⟩
theorem sr_9_4 : srF 9 4 = 0 := by decide +kernel
theorem af_X1_9_9 : AF RX1 9 9 0 := ⟨1, 17, RX1, TX1, by decide +kernel, by decide +kernel, rfl, by decide, gX1, wm_449⟩
theorem sr_9_0 : srF 9 0 = 87 := by decide +kernel
theorem kc_85 : 85 < KC := by decide +kernel
theorem sk_85 : skF 85 = (0, 8) := by decide +kernel
theorem af_X1_15_9 : AF RX1 15 9 1 := ⟨1, 17, RX1, TX1, by decide +kernel, by decide +kernel, rfl, by decide, gX1, wm_450⟩
theorem sr_9_1 : srF 9 1 = 88 := by decide +kernel
theorem kc_86 : 86 < KC := by decide +kernel
theorem sk_86 : skF 86 = (0, 8) := by decide +kernel
theorem af_X1_18_9 : AF RX1 18 9 2 := ⟨1, 17, RX1, TX1, by decide +kernel, by decide +kernel, rfl, by decide, gX1, wm_451⟩
theorem sr_9_2 : srF 9 2 = 89 := by decide +kernel
theorem kc_87 : 87 < KC := by decide +kernel
theorem sk_87 : skF 87 = (0, 8) := by decide +kernel
theorem af_X1_21_9 : AF RX1 21 9 3 := ⟨1, 17, RX1, TX1, by decide +kernel, by decide +kernel, rfl, by decide, gX1, wm_452⟩
theorem sr_9_3 : srF 9 3 = 90 := by decide +kernel
theorem kc_88 : 88 < KC := by decide +kernel
theorem sk_88 : skF 88 = (0, 8) := by decide +kernel
theorem ap_X1_48_9 : AFp RX1 48 9 4 .int := ⟨1, 17, RX1, TX1, tyX1, by decide +kernel, by decide +kernel, rfl, by decide, gX1, wm_453, tyX1_ok, nmX1, by decide +kernel, by decide +kernel⟩
theorem ap_X1_52_9 : AFp RX1 52 9 11 .int := ⟨1, 17, RX1, TX1, tyX1, by decide +kernel, by decide +kernel, rfl, by decide, gX1, wm_461, tyX1_ok, nmX1, by decide +kernel, by decide +kernel⟩
theorem sr_9_11 : srF 9 11 = 0 := by decide +kernel
theorem af_X1_24_9 : AF RX1 24 9 5 := ⟨1, 17, RX1, TX1, by decide +kernel, by decide +kernel, rfl, by decide, gX1, wm_455⟩
theorem sr_9_5 : srF 9 5 = 91 := by decide +kernel
theorem kc_89 : 89 < KC := by decide +kernel
theorem sk_89 : skF 89 = (0, 8) := by decide +kernel
theorem cq_X1_55 : CQ RX1 55 yX1_putInOrder cX1_putInOrder 4 none 0 := ⟨wm_1280, wm_120, wm_1283, by decide +kernel, by decide⟩
theorem cr_9_X1_putInOrder : CR 9 yX1_putInOrder := ⟨by decide +kernel, 1, 17, TX1, by decide +kernel, rfl, wm_1282, wm_43⟩
theorem cq_X11_270 : CQ RX11 270 yX1_add cX1_add 5 (some .int) 4 := ⟨wm_1276, wm_120, wm_1279, by decide +kernel, by decide⟩
theorem cr_9_X1_add : CR 9 yX1_add := ⟨by decide +kernel, 1, 17, TX1, by decide +kernel, rfl, wm_1277, wm_1278⟩
theorem af_X11_287_6 : AF RX11 287 6 3 := ⟨0, 12, RX0, TX0, by decide +kernel, by decide +kernel, rfl, by decide, gX0, wm_338⟩
theorem af_X11_290_6 : AF RX11 290 6 5 := ⟨0, 12, RX0, TX0, by decide +kernel, by decide +kernel, rfl, by decide, gX0, wm_341⟩
theorem af_X1_27_9 : AF RX1 27 9 6 := ⟨1, 17, RX1, TX1, by decide +kernel, by decide +kernel, rfl, by decide, gX1, wm_456⟩
theorem sr_9_6 : srF 9 6 = 92 := by decide +kernel
theorem kc_90 : 90 < KC := by decide +kernel
theorem sk_90 : skF 90 = (0, 4) := by decide +kernel
theorem af_X1_30_9 : AF RX1 30 9 7 := ⟨1, 17, RX1, TX1, by decide +kernel, by decide +kernel, rfl, by decide, gX1, wm_457⟩
theorem sr_9_7 : srF 9 7 = 93 := by decide +kernel
theorem kc_91 : 91 < KC := by decide +kernel
theorem sk_91 : skF 91 = (0, 4) := by decide +kernel
theorem cq_X11_293 : CQ RX11 293 yX1_hire cX1_hire 4 none 3 := ⟨wm_1292, wm_120, wm_1295, by decide +kernel, by decide⟩
theorem cr_9_X1_hire : CR 9 yX1_hire := ⟨by decide +kernel, 1, 17, TX1, by decide +kernel, rfl, wm_1293, wm_1294⟩
theorem cq_X11_271 : CQ RX11 271 yX11_hireFirst cX11_hireFirst 3 none 1 := ⟨wm_1288, wm_111, wm_1291, by decide +kernel, by decide⟩
theorem cr_0_X11_hireFirst : CR 0 yX11_hireFirst := ⟨by decide +kernel, 11, 12, TX11, by decide +kernel, rfl, wm_1290, wm_44⟩
theorem af_X1_52_9 : AF RX1 52 9 11 := ⟨1, 17, RX1, TX1, by decide +kernel, by decide +kernel, rfl, by decide, gX1, wm_461⟩
theorem cm_X1_58 : Cond.methodLink RX1 58 Lib.Math.min.name ∈ lw_gd := wm_1300
theorem ap_X1_64_9 : AFp RX1 64 9 10 .int := ⟨1, 17, RX1, TX1, tyX1, by decide +kernel, by decide +kernel, rfl, by decide, gX1, wm_460, tyX1_ok, nmX1, by decide +kernel, by decide +kernel⟩
theorem sr_9_10 : srF 9 10 = 0 := by decide +kernel
theorem ap_X1_67_9 : AFp RX1 67 9 15 .int := ⟨1, 17, RX1, TX1, tyX1, by decide +kernel, by decide +kernel, rfl, by decide, gX1, wm_466, tyX1_ok, nmX1, by decide +kernel, by decide +kernel⟩
theorem sr_9_15 : srF 9 15 = 0 := by decide +kernel
theorem ap_X1_70_9 : AFp RX1 70 9 16 .int := ⟨1, 17, RX1, TX1, tyX1, by decide +kernel, by decide +kernel, rfl, by decide, gX1, wm_468, tyX1_ok, nmX1, by decide +kernel, by decide +kernel⟩
theorem sr_9_16 : srF 9 16 = 0 := by decide +kernel
theorem af_X1_64_9 : AF RX1 64 9 10 := ⟨1, 17, RX1, TX1, by decide +kernel, by decide +kernel, rfl, by decide, gX1, wm_460⟩
theorem af_X1_33_9 : AF RX1 33 9 8 := ⟨1, 17, RX1, TX1, by decide +kernel, by decide +kernel, rfl, by decide, gX1, wm_458⟩
theorem sr_9_8 : srF 9 8 = 94 := by decide +kernel
theorem kc_92 : 92 < KC := by decide +kernel
theorem sk_92 : skF 92 = (0, 4) := by decide +kernel
theorem af_X1_36_9 : AF RX1 36 9 9 := ⟨1, 17, RX1, TX1, by decide +kernel, by decide +kernel, rfl, by decide, gX1, wm_459⟩
theorem sr_9_9 : srF 9 9 = 95 := by decide +kernel
theorem kc_93 : 93 < KC := by decide +kernel
theorem sk_93 : skF 93 = (0, 4) := by decide +kernel
theorem af_X1_39_9 : AF RX1 39 9 12 := ⟨1, 17, RX1, TX1, by decide +kernel, by decide +kernel, rfl, by decide, gX1, wm_462⟩
theorem sr_9_12 : srF 9 12 = 96 := by decide +kernel
theorem kc_94 : 94 < KC := by decide +kernel
theorem sk_94 : skF 94 = (0, 9) := by decide +kernel
theorem cq_X1_81 : CQ RX1 81 yX1_canCome cX1_canCome 4 (some .boolean) 2 := ⟨wm_1305, wm_120, wm_1308, by decide +kernel, by decide⟩
theorem cr_9_X1_canCome : CR 9 yX1_canCome := ⟨by decide +kernel, 1, 17, TX1, by decide +kernel, rfl, wm_1307, wm_46⟩
theorem cq_X1_73 : CQ RX1 73 yX1_canEverBeGiven cX1_canEverBeGiven 3 (some .boolean) 1 := ⟨wm_1301, wm_120, wm_1304, by decide +kernel, by decide⟩
theorem cr_9_X1_canEverBeGiven : CR 9 yX1_canEverBeGiven := ⟨by decide +kernel, 1, 17, TX1, by decide +kernel, rfl, wm_1303, wm_45⟩
theorem af_X1_67_9 : AF RX1 67 9 15 := ⟨1, 17, RX1, TX1, by decide +kernel, by decide +kernel, rfl, by decide, gX1, wm_466⟩
theorem af_X1_70_9 : AF RX1 70 9 16 := ⟨1, 17, RX1, TX1, by decide +kernel, by decide +kernel, rfl, by decide, gX1, wm_468⟩
theorem af_X1_42_9 : AF RX1 42 9 13 := ⟨1, 17, RX1, TX1, by decide +kernel, by decide +kernel, rfl, by decide, gX1, wm_463⟩
theorem sr_9_13 : srF 9 13 = 97 := by decide +kernel
theorem af_X1_45_9 : AF RX1 45 9 14 := ⟨1, 17, RX1, TX1, by decide +kernel, by decide +kernel, rfl, by decide, gX1, wm_464⟩
theorem sr_9_14 : srF 9 14 = 98 := by decide +kernel
theorem kc_95 : 95 < KC := by decide +kernel
theorem sk_95 : skF 95 = (0, 8) := by decide +kernel
theorem kc_96 : 96 < KC := by decide +kernel
theorem sk_96 : skF 96 = (0, 8) := by decide +kernel
theorem cc_X1_92 : Cond.methodLink RX1 92 arraycopyName ∈ lw_gd := wm_1316
theorem cq_X1_85 : CQ RX1 85 yX1_compare cX1_compare 4 none 1 := ⟨wm_1312, wm_120, wm_1315, by decide +kernel, by decide⟩
theorem cr_9_X1_compare : CR 9 yX1_compare := ⟨by decide +kernel, 1, 17, TX1, by decide +kernel, rfl, wm_1314, wm_47⟩
theorem cq_X1_89 : CQ RX1 89 yX1_canHave cX1_canHave 3 (some .boolean) 2 := ⟨wm_1317, wm_120, wm_1320, by decide +kernel, by decide⟩
theorem cr_9_X1_canHave : CR 9 yX1_canHave := ⟨by decide +kernel, 1, 17, TX1, by decide +kernel, rfl, wm_1319, wm_48⟩
theorem cq_X1_77 : CQ RX1 77 yX1_giveNext cX1_giveNext 8 none 3 := ⟨wm_1309, wm_120, wm_1311, by decide +kernel, by decide⟩
theorem st_X1_giveNext : Cond.static yX1_giveNext ∈ lw_gd := wm_1310
theorem cq_X11_274 : CQ RX11 274 yX1_giveBest cX1_giveBest 3 none 1 := ⟨wm_1296, wm_120, wm_1299, by decide +kernel, by decide⟩
theorem cr_9_X1_giveBest : CR 9 yX1_giveBest := ⟨by decide +kernel, 1, 17, TX1, by decide +kernel, rfl, wm_1297, wm_1298⟩
theorem af_X11_283_9 : AF RX11 283 9 4 := ⟨1, 17, RX1, TX1, by decide +kernel, by decide +kernel, rfl, by decide, gX1, wm_454⟩
theorem af_X11_284_9 : AF RX11 284 9 14 := ⟨1, 17, RX1, TX1, by decide +kernel, by decide +kernel, rfl, by decide, gX1, wm_465⟩
theorem af_X11_280_9 : AF RX11 280 9 16 := ⟨1, 17, RX1, TX1, by decide +kernel, by decide +kernel, rfl, by decide, gX1, wm_469⟩
theorem af_X11_277_9 : AF RX11 277 9 15 := ⟨1, 17, RX1, TX1, by decide +kernel, by decide +kernel, rfl, by decide, gX1, wm_467⟩
theorem af_X11_79_0 : AF RX11 79 0 9 := ⟨11, 12, RX11, TX11, by decide +kernel, by decide +kernel, rfl, by decide, gX11, wm_650⟩
theorem sr_0_9 : srF 0 9 = 12 := by decide +kernel
theorem gX10 : ∀ w ∈ u_ws RX10 TX10 15, w ∈ lw_gd := gd_all inX10 (by decide +kernel)
theorem af_X10_15_10 : AF RX10 15 10 1 := ⟨10, 15, RX10, TX10, by decide +kernel, by decide +kernel, rfl, by decide, gX10, wm_512⟩
theorem sr_10_1 : srF 10 1 = 100 := by decide +kernel
theorem kc_98 : 98 < KC := by decide +kernel
theorem sk_98 : skF 98 = (0, 10) := by decide +kernel
theorem cq_X10_42 : CQ RX10 42 yX10_othersInDock cX10_othersInDock 4 (some .int) 1 := ⟨wm_1333, wm_121, wm_1336, by decide +kernel, by decide⟩
theorem cr_10_X10_othersInDock : CR 10 yX10_othersInDock := ⟨by decide +kernel, 10, 15, TX10, by decide +kernel, rfl, wm_1335, wm_49⟩
theorem af_X10_9_10 : AF RX10 9 10 0 := ⟨10, 15, RX10, TX10, by decide +kernel, by decide +kernel, rfl, by decide, gX10, wm_511⟩
theorem sr_10_0 : srF 10 0 = 99 := by decide +kernel
theorem kc_97 : 97 < KC := by decide +kernel
theorem sk_97 : skF 97 = (0, 10) := by decide +kernel
theorem cq_X11_296 : CQ RX11 296 yX10_tellDock cX10_tellDock 4 (some .boolean) 3 := ⟨wm_1329, wm_121, wm_1332, by decide +kernel, by decide⟩
theorem cr_10_X10_tellDock : CR 10 yX10_tellDock := ⟨by decide +kernel, 10, 15, TX10, by decide +kernel, rfl, wm_1330, wm_1331⟩
theorem ap_X10_46_10 : AFp RX10 46 10 2 .int := ⟨10, 15, RX10, TX10, tyX10, by decide +kernel, by decide +kernel, rfl, by decide, gX10, wm_513, tyX10_ok, nmX10, by decide +kernel, by decide +kernel⟩
theorem sr_10_2 : srF 10 2 = 0 := by decide +kernel
theorem af_X10_46_10 : AF RX10 46 10 2 := ⟨10, 15, RX10, TX10, by decide +kernel, by decide +kernel, rfl, by decide, gX10, wm_513⟩
theorem af_X10_18_10 : AF RX10 18 10 3 := ⟨10, 15, RX10, TX10, by decide +kernel, by decide +kernel, rfl, by decide, gX10, wm_515⟩
theorem sr_10_3 : srF 10 3 = 101 := by decide +kernel
theorem kc_99 : 99 < KC := by decide +kernel
theorem sk_99 : skF 99 = (0, 7) := by decide +kernel
theorem af_X10_21_10 : AF RX10 21 10 4 := ⟨10, 15, RX10, TX10, by decide +kernel, by decide +kernel, rfl, by decide, gX10, wm_516⟩
theorem sr_10_4 : srF 10 4 = 102 := by decide +kernel
theorem kc_100 : 100 < KC := by decide +kernel
theorem sk_100 : skF 100 = (0, 128) := by decide +kernel
theorem af_X10_24_10 : AF RX10 24 10 5 := ⟨10, 15, RX10, TX10, by decide +kernel, by decide +kernel, rfl, by decide, gX10, wm_518⟩
theorem sr_10_5 : srF 10 5 = 103 := by decide +kernel
theorem kc_101 : 101 < KC := by decide +kernel
theorem sk_101 : skF 101 = (0, 128) := by decide +kernel
theorem af_X10_27_10 : AF RX10 27 10 6 := ⟨10, 15, RX10, TX10, by decide +kernel, by decide +kernel, rfl, by decide, gX10, wm_520⟩
theorem sr_10_6 : srF 10 6 = 104 := by decide +kernel
theorem kc_102 : 102 < KC := by decide +kernel
theorem sk_102 : skF 102 = (0, 128) := by decide +kernel
theorem cq_X10_54 : CQ RX10 54 yX10_isBetter cX10_isBetter 4 (some .boolean) 3 := ⟨wm_1349, wm_121, wm_1352, by decide +kernel, by decide⟩
theorem cr_10_X10_isBetter : CR 10 yX10_isBetter := ⟨by decide +kernel, 10, 15, TX10, by decide +kernel, rfl, wm_1351, wm_51⟩
theorem cq_X10_50 : CQ RX10 50 yX10_chooseNext cX10_chooseNext 7 none 1 := ⟨wm_1345, wm_121, wm_1348, by decide +kernel, by decide⟩
theorem cr_10_X10_chooseNext : CR 10 yX10_chooseNext := ⟨by decide +kernel, 10, 15, TX10, by decide +kernel, rfl, wm_1347, wm_50⟩
theorem cq_X11_299 : CQ RX11 299 yX10_orderDock cX10_orderDock 3 none 0 := ⟨wm_1341, wm_121, wm_1344, by decide +kernel, by decide⟩
theorem cr_10_X10_orderDock : CR 10 yX10_orderDock := ⟨by decide +kernel, 10, 15, TX10, by decide +kernel, rfl, wm_1342, wm_1343⟩
theorem af_X11_302_10 : AF RX11 302 10 4 := ⟨10, 15, RX10, TX10, by decide +kernel, by decide +kernel, rfl, by decide, gX10, wm_517⟩
theorem af_X11_305_10 : AF RX11 305 10 5 := ⟨10, 15, RX10, TX10, by decide +kernel, by decide +kernel, rfl, by decide, gX10, wm_519⟩
theorem af_X11_308_10 : AF RX11 308 10 2 := ⟨10, 15, RX10, TX10, by decide +kernel, by decide +kernel, rfl, by decide, gX10, wm_514⟩
theorem ns_X10_58 : (RX10, 58) ∈ nestL := by decide +kernel
theorem cq_X11_311 : CQ RX11 311 yX10_dockedAt cX10_dockedAt 4 (some .int) 1 := ⟨wm_1353, wm_121, wm_1356, by decide +kernel, by decide⟩
theorem cr_10_X10_dockedAt : CR 10 yX10_dockedAt := ⟨by decide +kernel, 10, 15, TX10, by decide +kernel, rfl, wm_1354, wm_1355⟩
theorem af_X10_61_10 : AF RX10 61 10 7 := ⟨10, 15, RX10, TX10, by decide +kernel, by decide +kernel, rfl, by decide, gX10, wm_521⟩
theorem sr_10_7 : srF 10 7 = 0 := by decide +kernel
theorem af_X10_30_10 : AF RX10 30 10 8 := ⟨10, 15, RX10, TX10, by decide +kernel, by decide +kernel, rfl, by decide, gX10, wm_523⟩
theorem sr_10_8 : srF 10 8 = 105 := by decide +kernel
theorem kc_103 : 103 < KC := by decide +kernel
theorem sk_103 : skF 103 = (0, 8) := by decide +kernel
theorem ap_X10_61_10 : AFp RX10 61 10 7 .int := ⟨10, 15, RX10, TX10, tyX10, by decide +kernel, by decide +kernel, rfl, by decide, gX10, wm_521, tyX10_ok, nmX10, by decide +kernel, by decide +kernel⟩
theorem cq_X11_317 : CQ RX11 317 yX10_addJob cX10_addJob 2 (some .int) 1 := ⟨wm_1362, wm_121, wm_1365, by decide +kernel, by decide⟩
theorem cr_10_X10_addJob : CR 10 yX10_addJob := ⟨by decide +kernel, 10, 15, TX10, by decide +kernel, rfl, wm_1363, wm_1364⟩
theorem ap_X11_314_10 : AFp RX11 314 10 7 .int := ⟨10, 15, RX10, TX10, tyX10, by decide +kernel, by decide +kernel, rfl, by decide, gX10, wm_522, tyX10_ok, nmX10, by decide +kernel, by decide +kernel⟩
theorem af_X11_314_10 : AF RX11 314 10 7 := ⟨10, 15, RX10, TX10, by decide +kernel, by decide +kernel, rfl, by decide, gX10, wm_522⟩
theorem af_X10_33_10 : AF RX10 33 10 9 := ⟨10, 15, RX10, TX10, by decide +kernel, by decide +kernel, rfl, by decide, gX10, wm_524⟩
theorem sr_10_9 : srF 10 9 = 106 := by decide +kernel
theorem kc_104 : 104 < KC := by decide +kernel
theorem sk_104 : skF 104 = (0, 3) := by decide +kernel
theorem cf_X10_64 : CQ RX10 64 ⟨"java/util/Arrays", "fill", "([II)V"⟩ cJ7_fill_53178 4 none 2 := ⟨wm_1374, wm_113, wm_149, by decide +kernel, by decide⟩
theorem ap_X10_70_10 : AFp RX10 70 10 13 .int := ⟨10, 15, RX10, TX10, tyX10, by decide +kernel, by decide +kernel, rfl, by decide, gX10, wm_530, tyX10_ok, nmX10, by decide +kernel, by decide +kernel⟩
theorem sr_10_13 : srF 10 13 = 0 := by decide +kernel
theorem ap_X10_73_10 : AFp RX10 73 10 14 .int := ⟨10, 15, RX10, TX10, tyX10, by decide +kernel, by decide +kernel, rfl, by decide, gX10, wm_532, tyX10_ok, nmX10, by decide +kernel, by decide +kernel⟩
theorem sr_10_14 : srF 10 14 = 0 := by decide +kernel
theorem af_X10_70_10 : AF RX10 70 10 13 := ⟨10, 15, RX10, TX10, by decide +kernel, by decide +kernel, rfl, by decide, gX10, wm_530⟩
theorem cm_X10_76 : Cond.methodLink RX10 76 Lib.Math.max.name ∈ lw_gd := wm_1375
theorem af_X10_73_10 : AF RX10 73 10 14 := ⟨10, 15, RX10, TX10, by decide +kernel, by decide +kernel, rfl, by decide, gX10, wm_532⟩
theorem cq_X11_320 : CQ RX11 320 yX10_workInOrder cX10_workInOrder 5 none 1 := ⟨wm_1370, wm_121, wm_1373, by decide +kernel, by decide⟩
theorem cr_10_X10_workInOrder : CR 10 yX10_workInOrder := ⟨by decide +kernel, 10, 15, TX10, by decide +kernel, rfl, wm_1371, wm_1372⟩
theorem af_X11_326_10 : AF RX11 326 10 14 := ⟨10, 15, RX10, TX10, by decide +kernel, by decide +kernel, rfl, by decide, gX10, wm_533⟩
theorem af_X11_323_10 : AF RX11 323 10 13 := ⟨10, 15, RX10, TX10, by decide +kernel, by decide +kernel, rfl, by decide, gX10, wm_531⟩
theorem ap_X10_82_10 : AFp RX10 82 10 12 .int := ⟨10, 15, RX10, TX10, tyX10, by decide +kernel, by decide +kernel, rfl, by decide, gX10, wm_528, tyX10_ok, nmX10, by decide +kernel, by decide +kernel⟩
theorem sr_10_12 : srF 10 12 = 0 := by decide +kernel
theorem af_X10_82_10 : AF RX10 82 10 12 := ⟨10, 15, RX10, TX10, by decide +kernel, by decide +kernel, rfl, by decide, gX10, wm_528⟩
theorem af_X10_36_10 : AF RX10 36 10 10 := ⟨10, 15, RX10, TX10, by decide +kernel, by decide +kernel, rfl, by decide, gX10, wm_525⟩
theorem sr_10_10 : srF 10 10 = 107 := by decide +kernel
theorem af_X10_39_10 : AF RX10 39 10 11 := ⟨10, 15, RX10, TX10, by decide +kernel, by decide +kernel, rfl, by decide, gX10, wm_526⟩
theorem sr_10_11 : srF 10 11 = 108 := by decide +kernel
theorem kc_105 : 105 < KC := by decide +kernel
theorem sk_105 : skF 105 = (0, 8) := by decide +kernel
theorem kc_106 : 106 < KC := by decide +kernel
theorem sk_106 : skF 106 = (0, 8) := by decide +kernel
theorem cc_X10_89 : Cond.methodLink RX10 89 arraycopyName ∈ lw_gd := wm_1383
theorem cq_X10_85 : CQ RX10 85 yX10_shareNext cX10_shareNext 5 none 4 := ⟨wm_1380, wm_121, wm_1382, by decide +kernel, by decide⟩
theorem st_X10_shareNext : Cond.static yX10_shareNext ∈ lw_gd := wm_1381
theorem cq_X11_329 : CQ RX11 329 yX10_shareBest cX10_shareBest 2 none 1 := ⟨wm_1376, wm_121, wm_1379, by decide +kernel, by decide⟩
theorem cr_10_X10_shareBest : CR 10 yX10_shareBest := ⟨by decide +kernel, 10, 15, TX10, by decide +kernel, rfl, wm_1377, wm_1378⟩
theorem af_X11_335_10 : AF RX11 335 10 11 := ⟨10, 15, RX10, TX10, by decide +kernel, by decide +kernel, rfl, by decide, gX10, wm_527⟩
theorem af_X11_332_10 : AF RX11 332 10 12 := ⟨10, 15, RX10, TX10, by decide +kernel, by decide +kernel, rfl, by decide, gX10, wm_529⟩
theorem af_X11_88_0 : AF RX11 88 0 10 := ⟨11, 12, RX11, TX11, by decide +kernel, by decide +kernel, rfl, by decide, gX11, wm_651⟩
theorem sr_0_10 : srF 0 10 = 13 := by decide +kernel
theorem gX8 : ∀ w ∈ u_ws RX8 TX8 15, w ∈ lw_gd := gd_all inX8 (by decide +kernel)
theorem af_X11_338_11 : AF RX11 338 11 1 := ⟨8, 15, RX8, TX8, by decide +kernel, by decide +kernel, rfl, by decide, gX8, wm_573⟩
theorem sr_11_1 : srF 11 1 = 109 := by decide +kernel
theorem kc_107 : 107 < KC := by decide +kernel
theorem sk_107 : skF 107 = (0, 16) := by decide +kernel
theorem af_X8_15_11 : AF RX8 15 11 2 := ⟨8, 15, RX8, TX8, by decide +kernel, by decide +kernel, rfl, by decide, gX8, wm_574⟩
theorem sr_11_2 : srF 11 2 = 110 := by decide +kernel
theorem kc_108 : 108 < KC := by decide +kernel
theorem sk_108 : skF 108 = (0, 16) := by decide +kernel
theorem af_X8_36_11 : AF RX8 36 11 0 := ⟨8, 15, RX8, TX8, by decide +kernel, by decide +kernel, rfl, by decide, gX8, wm_571⟩
theorem sr_11_0 : srF 11 0 = 3 := by decide +kernel
theorem af_X8_40_1 : AF RX8 40 1 2 := ⟨2, 7, RX2, TX2, by decide +kernel, by decide +kernel, rfl, by decide, gX2, wm_157⟩
theorem cq_X11_341 : CQ RX11 341 yX8_measure cX8_measure 2 none 0 := ⟨wm_1392, wm_122, wm_1395, by decide +kernel, by decide⟩
theorem cr_11_X8_measure : CR 11 yX8_measure := ⟨by decide +kernel, 8, 15, TX8, by decide +kernel, rfl, wm_1393, wm_1394⟩
theorem af_X8_9_11 : AF RX8 9 11 1 := ⟨8, 15, RX8, TX8, by decide +kernel, by decide +kernel, rfl, by decide, gX8, wm_572⟩
theorem cm_X8_45 : Cond.methodLink RX8 45 Lib.Math.abs.name ∈ lw_gd := wm_1408
theorem cq_X8_51 : CQ RX8 51 yX8_minutes cX8_minutes 3 (some .int) 2 := ⟨wm_1404, wm_122, wm_1407, by decide +kernel, by decide⟩
theorem cr_11_X8_minutes : CR 11 yX8_minutes := ⟨by decide +kernel, 8, 15, TX8, by decide +kernel, rfl, wm_1406, wm_52⟩
theorem cm_X8_61 : Cond.methodLink RX8 61 Lib.Math.max.name ∈ lw_gd := wm_1415
theorem cq_X11_350 : CQ RX11 350 yX8_worstFrom cX8_worstFrom 4 (some .int) 1 := ⟨wm_1411, wm_122, wm_1414, by decide +kernel, by decide⟩
theorem cr_11_X8_worstFrom : CR 11 yX8_worstFrom := ⟨by decide +kernel, 8, 15, TX8, by decide +kernel, rfl, wm_1412, wm_1413⟩
theorem cm_X8_55 : Cond.methodLink RX8 55 Lib.Math.min.name ∈ lw_gd := wm_1409
theorem cq_X11_347 : CQ RX11 347 yX8_sumFrom cX8_sumFrom 5 (some .int) 2 := ⟨wm_1410, wm_122, wm_1403, by decide +kernel, by decide⟩
theorem cr_11_X8_sumFrom : CR 11 yX8_sumFrom := ⟨by decide +kernel, 8, 15, TX8, by decide +kernel, rfl, wm_1401, wm_1402⟩
theorem cq_X8_58 : CQ RX8 58 yX8_sumFrom cX8_sumFrom 5 (some .int) 2 := ⟨wm_1400, wm_122, wm_1403, by decide +kernel, by decide⟩
theorem cq_X11_344 : CQ RX11 344 yX8_bestPoint cX8_bestPoint 3 (some .int) 0 := ⟨wm_1396, wm_122, wm_1399, by decide +kernel, by decide⟩
theorem cr_11_X8_bestPoint : CR 11 yX8_bestPoint := ⟨by decide +kernel, 8, 15, TX8, by decide +kernel, rfl, wm_1397, wm_1398⟩
theorem ap_X8_64_11 : AFp RX8 64 11 3 .int := ⟨8, 15, RX8, TX8, tyX8, by decide +kernel, by decide +kernel, rfl, by decide, gX8, wm_575, tyX8_ok, nmX8, by decide +kernel, by decide +kernel⟩
theorem sr_11_3 : srF 11 3 = 0 := by decide +kernel
theorem ap_X8_68_11 : AFp RX8 68 11 4 .int := ⟨8, 15, RX8, TX8, tyX8, by decide +kernel, by decide +kernel, rfl, by decide, gX8, wm_577, tyX8_ok, nmX8, by decide +kernel, by decide +kernel⟩
theorem sr_11_4 : srF 11 4 = 0 := by decide +kernel
theorem af_X8_68_11 : AF RX8 68 11 4 := ⟨8, 15, RX8, TX8, by decide +kernel, by decide +kernel, rfl, by decide, gX8, wm_577⟩
theorem cq_X11_353 : CQ RX11 353 yX8_findCouple cX8_findCouple 4 none 0 := ⟨wm_1420, wm_122, wm_1423, by decide +kernel, by decide⟩
theorem cr_11_X8_findCouple : CR 11 yX8_findCouple := ⟨by decide +kernel, 8, 15, TX8, by decide +kernel, rfl, wm_1421, wm_1422⟩
theorem af_X11_359_11 : AF RX11 359 11 4 := ⟨8, 15, RX8, TX8, by decide +kernel, by decide +kernel, rfl, by decide, gX8, wm_578⟩
theorem af_X11_356_11 : AF RX11 356 11 3 := ⟨8, 15, RX8, TX8, by decide +kernel, by decide +kernel, rfl, by decide, gX8, wm_576⟩
theorem af_X8_71_11 : AF RX8 71 11 5 := ⟨8, 15, RX8, TX8, by decide +kernel, by decide +kernel, rfl, by decide, gX8, wm_579⟩
theorem sr_11_5 : srF 11 5 = 0 := by decide +kernel
theorem af_X8_18_11 : AF RX8 18 11 6 := ⟨8, 15, RX8, TX8, by decide +kernel, by decide +kernel, rfl, by decide, gX8, wm_581⟩
theorem sr_11_6 : srF 11 6 = 111 := by decide +kernel
theorem kc_109 : 109 < KC := by decide +kernel
theorem sk_109 : skF 109 = (0, 12) := by decide +kernel
theorem af_X8_21_11 : AF RX8 21 11 7 := ⟨8, 15, RX8, TX8, by decide +kernel, by decide +kernel, rfl, by decide, gX8, wm_582⟩
theorem sr_11_7 : srF 11 7 = 112 := by decide +kernel
theorem kc_110 : 110 < KC := by decide +kernel
theorem sk_110 : skF 110 = (0, 12) := by decide +kernel
theorem af_X8_24_11 : AF RX8 24 11 8 := ⟨8, 15, RX8, TX8, by decide +kernel, by decide +kernel, rfl, by decide, gX8, wm_583⟩
theorem sr_11_8 : srF 11 8 = 113 := by decide +kernel
theorem kc_111 : 111 < KC := by decide +kernel
theorem sk_111 : skF 111 = (0, 12) := by decide +kernel
theorem ap_X8_71_11 : AFp RX8 71 11 5 .int := ⟨8, 15, RX8, TX8, tyX8, by decide +kernel, by decide +kernel, rfl, by decide, gX8, wm_579, tyX8_ok, nmX8, by decide +kernel, by decide +kernel⟩
theorem cq_X11_365 : CQ RX11 365 yX8_addCall cX8_addCall 4 (some .int) 3 := ⟨wm_1428, wm_122, wm_1431, by decide +kernel, by decide⟩
theorem cr_11_X8_addCall : CR 11 yX8_addCall := ⟨by decide +kernel, 8, 15, TX8, by decide +kernel, rfl, wm_1429, wm_1430⟩
theorem ap_X11_362_11 : AFp RX11 362 11 5 .int := ⟨8, 15, RX8, TX8, tyX8, by decide +kernel, by decide +kernel, rfl, by decide, gX8, wm_580, tyX8_ok, nmX8, by decide +kernel, by decide +kernel⟩
theorem af_X8_30_11 : AF RX8 30 11 10 := ⟨8, 15, RX8, TX8, by decide +kernel, by decide +kernel, rfl, by decide, gX8, wm_585⟩
theorem sr_11_10 : srF 11 10 = 115 := by decide +kernel
theorem kc_113 : 113 < KC := by decide +kernel
theorem sk_113 : skF 113 = (0, 2) := by decide +kernel
theorem af_X8_33_11 : AF RX8 33 11 11 := ⟨8, 15, RX8, TX8, by decide +kernel, by decide +kernel, rfl, by decide, gX8, wm_586⟩
theorem sr_11_11 : srF 11 11 = 116 := by decide +kernel
theorem kc_114 : 114 < KC := by decide +kernel
theorem sk_114 : skF 114 = (0, 2) := by decide +kernel
theorem cf_X8_74 : CQ RX8 74 ⟨"java/util/Arrays", "fill", "([II)V"⟩ cJ7_fill_53178 4 none 2 := ⟨wm_1440, wm_113, wm_149, by decide +kernel, by decide⟩
theorem ap_X8_80_11 : AFp RX8 80 11 12 .int := ⟨8, 15, RX8, TX8, tyX8, by decide +kernel, by decide +kernel, rfl, by decide, gX8, wm_587, tyX8_ok, nmX8, by decide +kernel, by decide +kernel⟩
theorem sr_11_12 : srF 11 12 = 0 := by decide +kernel
theorem ap_X8_83_11 : AFp RX8 83 11 13 .int := ⟨8, 15, RX8, TX8, tyX8, by decide +kernel, by decide +kernel, rfl, by decide, gX8, wm_589, tyX8_ok, nmX8, by decide +kernel, by decide +kernel⟩
theorem sr_11_13 : srF 11 13 = 0 := by decide +kernel
theorem ap_X8_86_11 : AFp RX8 86 11 14 .int := ⟨8, 15, RX8, TX8, tyX8, by decide +kernel, by decide +kernel, rfl, by decide, gX8, wm_591, tyX8_ok, nmX8, by decide +kernel, by decide +kernel⟩
theorem sr_11_14 : srF 11 14 = 0 := by decide +kernel
theorem cq_X8_89 : CQ RX8 89 yX8_comesAt cX8_comesAt 3 (some .int) 2 := ⟨wm_1441, wm_122, wm_1444, by decide +kernel, by decide⟩
theorem cr_11_X8_comesAt : CR 11 yX8_comesAt := ⟨by decide +kernel, 8, 15, TX8, by decide +kernel, rfl, wm_1443, wm_53⟩
theorem af_X8_27_11 : AF RX8 27 11 9 := ⟨8, 15, RX8, TX8, by decide +kernel, by decide +kernel, rfl, by decide, gX8, wm_584⟩
theorem sr_11_9 : srF 11 9 = 114 := by decide +kernel
theorem kc_112 : 112 < KC := by decide +kernel
theorem sk_112 : skF 112 = (0, 12) := by decide +kernel
theorem af_X8_80_11 : AF RX8 80 11 12 := ⟨8, 15, RX8, TX8, by decide +kernel, by decide +kernel, rfl, by decide, gX8, wm_587⟩
theorem af_X8_83_11 : AF RX8 83 11 13 := ⟨8, 15, RX8, TX8, by decide +kernel, by decide +kernel, rfl, by decide, gX8, wm_589⟩
theorem af_X8_86_11 : AF RX8 86 11 14 := ⟨8, 15, RX8, TX8, by decide +kernel, by decide +kernel, rfl, by decide, gX8, wm_591⟩
theorem cq_X11_368 : CQ RX11 368 yX8_takeCalls cX8_takeCalls 6 none 2 := ⟨wm_1436, wm_122, wm_1439, by decide +kernel, by decide⟩
theorem cr_11_X8_takeCalls : CR 11 yX8_takeCalls := ⟨by decide +kernel, 8, 15, TX8, by decide +kernel, rfl, wm_1437, wm_1438⟩
theorem af_X11_372_11 : AF RX11 372 11 12 := ⟨8, 15, RX8, TX8, by decide +kernel, by decide +kernel, rfl, by decide, gX8, wm_588⟩
theorem af_X11_375_11 : AF RX11 375 11 13 := ⟨8, 15, RX8, TX8, by decide +kernel, by decide +kernel, rfl, by decide, gX8, wm_590⟩
theorem af_X11_378_11 : AF RX11 378 11 14 := ⟨8, 15, RX8, TX8, by decide +kernel, by decide +kernel, rfl, by decide, gX8, wm_592⟩
theorem ns_X8_92 : (RX8, 92) ∈ nestL := by decide +kernel
theorem cq_X11_381 : CQ RX11 381 yX8_takerOf cX8_takerOf 2 (some .int) 1 := ⟨wm_1445, wm_122, wm_1448, by decide +kernel, by decide⟩
theorem cr_11_X8_takerOf : CR 11 yX8_takerOf := ⟨by decide +kernel, 8, 15, TX8, by decide +kernel, rfl, wm_1446, wm_1447⟩
theorem cq_X11_384 : CQ RX11 384 yX11_isWeather cX11_isWeather 4 (some .boolean) 4 := ⟨wm_1454, wm_111, wm_1456, by decide +kernel, by decide⟩
theorem st_X11_isWeather : Cond.static yX11_isWeather ∈ lw_gd := wm_1455
theorem af_X11_95_0 : AF RX11 95 0 11 := ⟨11, 12, RX11, TX11, by decide +kernel, by decide +kernel, rfl, by decide, gX11, wm_652⟩
theorem sr_0_11 : srF 0 11 = 14 := by decide +kernel
theorem af_X11_127_1 : AF RX11 127 1 5 := ⟨2, 7, RX2, TX2, by decide +kernel, by decide +kernel, rfl, by decide, gX2, wm_165⟩
theorem gX5 : ∀ w ∈ u_ws RX5 TX5 3, w ∈ lw_gd := gd_all inX5 (by decide +kernel)
theorem af_X5_9_12 : AF RX5 9 12 0 := ⟨5, 3, RX5, TX5, by decide +kernel, by decide +kernel, rfl, by decide, gX5, wm_630⟩
theorem sr_12_0 : srF 12 0 = 1 := by decide +kernel
theorem cf_X5_18 : CQ RX5 18 ⟨"java/util/Arrays", "fill", "([II)V"⟩ cJ7_fill_53178 4 none 2 := ⟨wm_1461, wm_113, wm_149, by decide +kernel, by decide⟩
theorem cw_X5_24 : Cond.constant RX5 24 (Int32.ofInt 1000000) ∈ lw_gd := wm_1462
theorem ap_X5_25_12 : AFp RX5 25 12 2 .int := ⟨5, 3, RX5, TX5, tyX5, by decide +kernel, by decide +kernel, rfl, by decide, gX5, wm_632, tyX5_ok, nmX5, by decide +kernel, by decide +kernel⟩
theorem sr_12_2 : srF 12 2 = 0 := by decide +kernel
theorem af_X5_25_12 : AF RX5 25 12 2 := ⟨5, 3, RX5, TX5, by decide +kernel, by decide +kernel, rfl, by decide, gX5, wm_632⟩
theorem cq_X11_387 : CQ RX11 387 yX5_start cX5_start 3 none 2 := ⟨wm_1457, wm_123, wm_1460, by decide +kernel, by decide⟩
theorem cr_12_X5_start : CR 12 yX5_start := ⟨by decide +kernel, 5, 3, TX5, by decide +kernel, rfl, wm_1458, wm_1459⟩
theorem af_X5_15_12 : AF RX5 15 12 1 := ⟨5, 3, RX5, TX5, by decide +kernel, by decide +kernel, rfl, by decide, gX5, wm_631⟩
theorem sr_12_1 : srF 12 1 = 1 := by decide +kernel
theorem cm_X5_29 : Cond.methodLink RX5 29 Lib.Math.max.name ∈ lw_gd := wm_1467
theorem cm_X5_35 : Cond.methodLink RX5 35 Lib.Math.min.name ∈ lw_gd := wm_1468
theorem ap_X5_9_12 : AFp RX5 9 12 0 (.array .int) := ⟨5, 3, RX5, TX5, tyX5, by decide +kernel, by decide +kernel, rfl, by decide, gX5, wm_630, tyX5_ok, nmX5, by decide +kernel, by decide +kernel⟩
theorem ap_X5_15_12 : AFp RX5 15 12 1 (.array .int) := ⟨5, 3, RX5, TX5, tyX5, by decide +kernel, by decide +kernel, rfl, by decide, gX5, wm_631, tyX5_ok, nmX5, by decide +kernel, by decide +kernel⟩
theorem cq_X11_390 : CQ RX11 390 yX5_passDay cX5_passDay 8 none 4 := ⟨wm_1463, wm_123, wm_1466, by decide +kernel, by decide⟩
theorem cr_12_X5_passDay : CR 12 yX5_passDay := ⟨by decide +kernel, 5, 3, TX5, by decide +kernel, rfl, wm_1464, wm_1465⟩
theorem af_X11_394_12 : AF RX11 394 12 2 := ⟨5, 3, RX5, TX5, by decide +kernel, by decide +kernel, rfl, by decide, gX5, wm_633⟩
theorem cw_X11_397 : Cond.constant RX11 397 (Int32.ofInt 500000) ∈ lw_gd := wm_1473
theorem cq_X11_398 : CQ RX11 398 yX0_priceLine cX0_priceLine 4 (some .int) 3 := ⟨wm_1478, wm_117, wm_1115, by decide +kernel, by decide⟩
theorem cq_X11_402 : CQ RX11 402 yX6_valueOf cX6_valueOf 2 (some .int) 1 := ⟨wm_1479, wm_114, wm_1082, by decide +kernel, by decide⟩
theorem cq_X11_405 : CQ RX11 405 yX0_holdLine cX0_holdLine 5 (some .int) 4 := ⟨wm_1484, wm_117, wm_1487, by decide +kernel, by decide⟩
theorem cr_6_X0_holdLine : CR 6 yX0_holdLine := ⟨by decide +kernel, 0, 12, TX0, by decide +kernel, rfl, wm_1485, wm_1486⟩
theorem af_X11_408_8 : AF RX11 408 8 2 := ⟨3, 7, RX3, TX3, by decide +kernel, by decide +kernel, rfl, by decide, gX3, wm_421⟩
theorem af_X11_362_11 : AF RX11 362 11 5 := ⟨8, 15, RX8, TX8, by decide +kernel, by decide +kernel, rfl, by decide, gX8, wm_580⟩
