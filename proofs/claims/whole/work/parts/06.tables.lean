theorem ix_lt {a : Int} {n : Nat} (h : 0 ≤ nw a ∧ nw a < n) : ix a < n := by unfold ix; omega
theorem sk_mut {a : Int} (h : a = 115 ∨ a = 116) : a.toNat < KC ∧ skF a.toNat = (0, 1000) := by rcases h with rfl | rfl <;> exact ⟨by decide +kernel, by decide +kernel⟩
theorem cq_X12_3 : CQ RX12 3 yX12_isIn cX12_isIn 3 (some .boolean) 3 := ⟨gd (List.mem_of_getElem? (i := 1808) (by decide +kernel)) rfl, gd (List.mem_of_getElem? (i := 124) (by decide +kernel)) rfl, gd (List.mem_of_getElem? (i := 1810) (by decide +kernel)) rfl, by decide +kernel, by decide⟩
theorem st_X12_isIn : Cond.static yX12_isIn ∈ lw_gd := gd (List.mem_of_getElem? (i := 1809) (by decide +kernel)) rfl
theorem gX12 : ∀ w ∈ u_ws RX12 TX12 101, w ∈ lw_gd := gd_all inX12 (by decide +kernel)
theorem af_X12_13_117 : AF RX12 13 117 0 := ⟨12, 101, RX12, TX12, by decide +kernel, by decide +kernel, rfl, by decide, gX12, gd (List.mem_of_getElem? (i := 1499) (by decide +kernel)) rfl⟩
theorem sr_117_0 : srF 117 0 = 120 := by decide +kernel
theorem kc_118 : 118 < KC := by decide +kernel
theorem sk_118 : skF 118 = (0, 15) := by decide +kernel
theorem af_X12_17_117 : AF RX12 17 117 1 := ⟨12, 101, RX12, TX12, by decide +kernel, by decide +kernel, rfl, by decide, gX12, gd (List.mem_of_getElem? (i := 1500) (by decide +kernel)) rfl⟩
theorem sr_117_1 : srF 117 1 = 121 := by decide +kernel
theorem kc_119 : 119 < KC := by decide +kernel
theorem sk_119 : skF 119 = (0, 15) := by decide +kernel
theorem af_X12_20_117 : AF RX12 20 117 2 := ⟨12, 101, RX12, TX12, by decide +kernel, by decide +kernel, rfl, by decide, gX12, gd (List.mem_of_getElem? (i := 1501) (by decide +kernel)) rfl⟩
theorem sr_117_2 : srF 117 2 = 122 := by decide +kernel
theorem kc_120 : 120 < KC := by decide +kernel
theorem sk_120 : skF 120 = (0, 15) := by decide +kernel
theorem ap_X12_44_117 : AFp RX12 44 117 10 .int := ⟨12, 101, RX12, TX12, tyX12, by decide +kernel, by decide +kernel, rfl, by decide, gX12, gd (List.mem_of_getElem? (i := 1509) (by decide +kernel)) rfl, tyX12_ok, nmX12, by decide +kernel, by decide +kernel⟩
theorem sr_117_10 : srF 117 10 = 0 := by decide +kernel
theorem af_X12_232_117 : AF RX12 232 117 11 := ⟨12, 101, RX12, TX12, by decide +kernel, by decide +kernel, rfl, by decide, gX12, gd (List.mem_of_getElem? (i := 1510) (by decide +kernel)) rfl⟩
theorem sr_117_11 : srF 117 11 = 0 := by decide +kernel
theorem af_X12_23_117 : AF RX12 23 117 3 := ⟨12, 101, RX12, TX12, by decide +kernel, by decide +kernel, rfl, by decide, gX12, gd (List.mem_of_getElem? (i := 1502) (by decide +kernel)) rfl⟩
theorem sr_117_3 : srF 117 3 = 123 := by decide +kernel
theorem kc_121 : 121 < KC := by decide +kernel
theorem sk_121 : skF 121 = (0, 8) := by decide +kernel
theorem af_X12_26_117 : AF RX12 26 117 4 := ⟨12, 101, RX12, TX12, by decide +kernel, by decide +kernel, rfl, by decide, gX12, gd (List.mem_of_getElem? (i := 1503) (by decide +kernel)) rfl⟩
theorem sr_117_4 : srF 117 4 = 124 := by decide +kernel
theorem kc_122 : 122 < KC := by decide +kernel
theorem sk_122 : skF 122 = (0, 8) := by decide +kernel
theorem af_X12_29_117 : AF RX12 29 117 5 := ⟨12, 101, RX12, TX12, by decide +kernel, by decide +kernel, rfl, by decide, gX12, gd (List.mem_of_getElem? (i := 1504) (by decide +kernel)) rfl⟩
theorem sr_117_5 : srF 117 5 = 125 := by decide +kernel
theorem kc_123 : 123 < KC := by decide +kernel
theorem sk_123 : skF 123 = (0, 8) := by decide +kernel
theorem ap_X12_232_117 : AFp RX12 232 117 11 .int := ⟨12, 101, RX12, TX12, tyX12, by decide +kernel, by decide +kernel, rfl, by decide, gX12, gd (List.mem_of_getElem? (i := 1510) (by decide +kernel)) rfl, tyX12_ok, nmX12, by decide +kernel, by decide +kernel⟩
theorem cq_X12_238 : CQ RX12 238 yX12_isPoint cX12_isPoint 1 (some .boolean) 1 := ⟨gd (List.mem_of_getElem? (i := 1823) (by decide +kernel)) rfl, gd (List.mem_of_getElem? (i := 124) (by decide +kernel)) rfl, gd (List.mem_of_getElem? (i := 1825) (by decide +kernel)) rfl, by decide +kernel, by decide⟩
theorem st_X12_isPoint : Cond.static yX12_isPoint ∈ lw_gd := gd (List.mem_of_getElem? (i := 1824) (by decide +kernel)) rfl
theorem af_X12_235_117 : AF RX12 235 117 12 := ⟨12, 101, RX12, TX12, by decide +kernel, by decide +kernel, rfl, by decide, gX12, gd (List.mem_of_getElem? (i := 1511) (by decide +kernel)) rfl⟩
theorem sr_117_12 : srF 117 12 = 0 := by decide +kernel
theorem af_X12_32_117 : AF RX12 32 117 6 := ⟨12, 101, RX12, TX12, by decide +kernel, by decide +kernel, rfl, by decide, gX12, gd (List.mem_of_getElem? (i := 1505) (by decide +kernel)) rfl⟩
theorem sr_117_6 : srF 117 6 = 126 := by decide +kernel
theorem kc_124 : 124 < KC := by decide +kernel
theorem sk_124 : skF 124 = (0, 10) := by decide +kernel
theorem af_X12_35_117 : AF RX12 35 117 7 := ⟨12, 101, RX12, TX12, by decide +kernel, by decide +kernel, rfl, by decide, gX12, gd (List.mem_of_getElem? (i := 1506) (by decide +kernel)) rfl⟩
theorem sr_117_7 : srF 117 7 = 127 := by decide +kernel
theorem kc_125 : 125 < KC := by decide +kernel
theorem sk_125 : skF 125 = (0, 10) := by decide +kernel
theorem af_X12_38_117 : AF RX12 38 117 8 := ⟨12, 101, RX12, TX12, by decide +kernel, by decide +kernel, rfl, by decide, gX12, gd (List.mem_of_getElem? (i := 1507) (by decide +kernel)) rfl⟩
theorem sr_117_8 : srF 117 8 = 128 := by decide +kernel
theorem kc_126 : 126 < KC := by decide +kernel
theorem sk_126 : skF 126 = (0, 10) := by decide +kernel
theorem af_X12_41_117 : AF RX12 41 117 9 := ⟨12, 101, RX12, TX12, by decide +kernel, by decide +kernel, rfl, by decide, gX12, gd (List.mem_of_getElem? (i := 1508) (by decide +kernel)) rfl⟩
theorem sr_117_9 : srF 117 9 = 129 := by decide +kernel
theorem kc_127 : 127 < KC := by decide +kernel
theorem sk_127 : skF 127 = (0, 10) := by decide +kernel
theorem ap_X12_235_117 : AFp RX12 235 117 12 .int := ⟨12, 101, RX12, TX12, tyX12, by decide +kernel, by decide +kernel, rfl, by decide, gX12, gd (List.mem_of_getElem? (i := 1511) (by decide +kernel)) rfl, tyX12_ok, nmX12, by decide +kernel, by decide +kernel⟩
theorem af_X12_242_117 : AF RX12 242 117 37 := ⟨12, 101, RX12, TX12, by decide +kernel, by decide +kernel, rfl, by decide, gX12, gd (List.mem_of_getElem? (i := 1536) (by decide +kernel)) rfl⟩
theorem sr_117_37 : srF 117 37 = 0 := by decide +kernel
theorem af_X12_103_117 : AF RX12 103 117 31 := ⟨12, 101, RX12, TX12, by decide +kernel, by decide +kernel, rfl, by decide, gX12, gd (List.mem_of_getElem? (i := 1530) (by decide +kernel)) rfl⟩
theorem sr_117_31 : srF 117 31 = 148 := by decide +kernel
theorem kc_146 : 146 < KC := by decide +kernel
theorem sk_146 : skF 146 = (0, 500) := by decide +kernel
theorem ap_X12_242_117 : AFp RX12 242 117 37 .int := ⟨12, 101, RX12, TX12, tyX12, by decide +kernel, by decide +kernel, rfl, by decide, gX12, gd (List.mem_of_getElem? (i := 1536) (by decide +kernel)) rfl, tyX12_ok, nmX12, by decide +kernel, by decide +kernel⟩
theorem ap_X12_321_117 : AFp RX12 321 117 42 .int := ⟨12, 101, RX12, TX12, tyX12, by decide +kernel, by decide +kernel, rfl, by decide, gX12, gd (List.mem_of_getElem? (i := 1541) (by decide +kernel)) rfl, tyX12_ok, nmX12, by decide +kernel, by decide +kernel⟩
theorem sr_117_42 : srF 117 42 = 0 := by decide +kernel
theorem ap_X12_245_117 : AFp RX12 245 117 38 .int := ⟨12, 101, RX12, TX12, tyX12, by decide +kernel, by decide +kernel, rfl, by decide, gX12, gd (List.mem_of_getElem? (i := 1537) (by decide +kernel)) rfl, tyX12_ok, nmX12, by decide +kernel, by decide +kernel⟩
theorem sr_117_38 : srF 117 38 = 0 := by decide +kernel
theorem ap_X12_375_117 : AFp RX12 375 117 35 .int := ⟨12, 101, RX12, TX12, tyX12, by decide +kernel, by decide +kernel, rfl, by decide, gX12, gd (List.mem_of_getElem? (i := 1534) (by decide +kernel)) rfl, tyX12_ok, nmX12, by decide +kernel, by decide +kernel⟩
theorem sr_117_35 : srF 117 35 = 0 := by decide +kernel
theorem ap_X12_333_117 : AFp RX12 333 117 36 .int := ⟨12, 101, RX12, TX12, tyX12, by decide +kernel, by decide +kernel, rfl, by decide, gX12, gd (List.mem_of_getElem? (i := 1535) (by decide +kernel)) rfl, tyX12_ok, nmX12, by decide +kernel, by decide +kernel⟩
theorem sr_117_36 : srF 117 36 = 0 := by decide +kernel
theorem af_X12_100_117 : AF RX12 100 117 30 := ⟨12, 101, RX12, TX12, by decide +kernel, by decide +kernel, rfl, by decide, gX12, gd (List.mem_of_getElem? (i := 1529) (by decide +kernel)) rfl⟩
theorem sr_117_30 : srF 117 30 = 147 := by decide +kernel
theorem kc_145 : 145 < KC := by decide +kernel
theorem sk_145 : skF 145 = (1, 30) := by decide +kernel
theorem af_X12_245_117 : AF RX12 245 117 38 := ⟨12, 101, RX12, TX12, by decide +kernel, by decide +kernel, rfl, by decide, gX12, gd (List.mem_of_getElem? (i := 1537) (by decide +kernel)) rfl⟩
theorem cq_X12_302 : CQ RX12 302 yX12_see cX12_see 2 (some .int) 1 := ⟨gd (List.mem_of_getElem? (i := 1842) (by decide +kernel)) rfl, gd (List.mem_of_getElem? (i := 124) (by decide +kernel)) rfl, gd (List.mem_of_getElem? (i := 1845) (by decide +kernel)) rfl, by decide +kernel, by decide⟩
theorem cr_117_X12_see : CR 117 yX12_see := ⟨by decide +kernel, 12, 101, TX12, by decide +kernel, rfl, gd (List.mem_of_getElem? (i := 1844) (by decide +kernel)) rfl, gd (List.mem_of_getElem? (i := 55) (by decide +kernel)) rfl⟩
theorem ap_X12_248_117 : AFp RX12 248 117 40 .int := ⟨12, 101, RX12, TX12, tyX12, by decide +kernel, by decide +kernel, rfl, by decide, gX12, gd (List.mem_of_getElem? (i := 1539) (by decide +kernel)) rfl, tyX12_ok, nmX12, by decide +kernel, by decide +kernel⟩
theorem sr_117_40 : srF 117 40 = 0 := by decide +kernel
theorem cq_X12_309 : CQ RX12 309 yX12_isLetter cX12_isLetter 1 (some .boolean) 1 := ⟨gd (List.mem_of_getElem? (i := 1846) (by decide +kernel)) rfl, gd (List.mem_of_getElem? (i := 124) (by decide +kernel)) rfl, gd (List.mem_of_getElem? (i := 1848) (by decide +kernel)) rfl, by decide +kernel, by decide⟩
theorem st_X12_isLetter : Cond.static yX12_isLetter ∈ lw_gd := gd (List.mem_of_getElem? (i := 1847) (by decide +kernel)) rfl
theorem cq_X12_315 : CQ RX12 315 yX12_isDigit cX12_isDigit 1 (some .boolean) 1 := ⟨gd (List.mem_of_getElem? (i := 1879) (by decide +kernel)) rfl, gd (List.mem_of_getElem? (i := 124) (by decide +kernel)) rfl, gd (List.mem_of_getElem? (i := 1881) (by decide +kernel)) rfl, by decide +kernel, by decide⟩
theorem st_X12_isDigit : Cond.static yX12_isDigit ∈ lw_gd := gd (List.mem_of_getElem? (i := 1880) (by decide +kernel)) rfl
theorem ap_X12_306_117 : AFp RX12 306 117 39 .int := ⟨12, 101, RX12, TX12, tyX12, by decide +kernel, by decide +kernel, rfl, by decide, gX12, gd (List.mem_of_getElem? (i := 1538) (by decide +kernel)) rfl, tyX12_ok, nmX12, by decide +kernel, by decide +kernel⟩
theorem sr_117_39 : srF 117 39 = 0 := by decide +kernel
theorem ap_X12_318_117 : AFp RX12 318 117 41 .int := ⟨12, 101, RX12, TX12, tyX12, by decide +kernel, by decide +kernel, rfl, by decide, gX12, gd (List.mem_of_getElem? (i := 1540) (by decide +kernel)) rfl, tyX12_ok, nmX12, by decide +kernel, by decide +kernel⟩
theorem sr_117_41 : srF 117 41 = 0 := by decide +kernel
theorem af_X12_248_117 : AF RX12 248 117 40 := ⟨12, 101, RX12, TX12, by decide +kernel, by decide +kernel, rfl, by decide, gX12, gd (List.mem_of_getElem? (i := 1539) (by decide +kernel)) rfl⟩
theorem af_X12_318_117 : AF RX12 318 117 41 := ⟨12, 101, RX12, TX12, by decide +kernel, by decide +kernel, rfl, by decide, gX12, gd (List.mem_of_getElem? (i := 1540) (by decide +kernel)) rfl⟩
theorem sw_X12_261 : (RX12, 261, "locks", 2) ∈ strL := List.mem_of_getElem? (i := 2) (by decide +kernel)
theorem cq_X12_251 : CQ RX12 251 yJ0_length_8abf5 cJ0_length_8abf5 1 (some .int) 0 := ⟨gd (List.mem_of_getElem? (i := 1858) (by decide +kernel)) rfl, gd (List.mem_of_getElem? (i := 125) (by decide +kernel)) rfl, gd (List.mem_of_getElem? (i := 787) (by decide +kernel)) rfl, by decide +kernel, by decide⟩
theorem cq_X12_257 : CQ RX12 257 yJ0_charAt_5068e cJ0_charAt_5068e 2 (some .char) 1 := ⟨gd (List.mem_of_getElem? (i := 1859) (by decide +kernel)) rfl, gd (List.mem_of_getElem? (i := 125) (by decide +kernel)) rfl, gd (List.mem_of_getElem? (i := 797) (by decide +kernel)) rfl, by decide +kernel, by decide⟩
theorem cq_X12_262 : CQ RX12 262 yX12_is cX12_is 4 (some .boolean) 1 := ⟨gd (List.mem_of_getElem? (i := 1854) (by decide +kernel)) rfl, gd (List.mem_of_getElem? (i := 124) (by decide +kernel)) rfl, gd (List.mem_of_getElem? (i := 1857) (by decide +kernel)) rfl, by decide +kernel, by decide⟩
theorem cr_117_X12_is : CR 117 yX12_is := ⟨by decide +kernel, 12, 101, TX12, by decide +kernel, rfl, gd (List.mem_of_getElem? (i := 1856) (by decide +kernel)) rfl, gd (List.mem_of_getElem? (i := 57) (by decide +kernel)) rfl⟩
theorem sw_X12_266 : (RX12, 266, "tunnel", 3) ∈ strL := List.mem_of_getElem? (i := 3) (by decide +kernel)
theorem sw_X12_267 : (RX12, 267, "price", 4) ∈ strL := List.mem_of_getElem? (i := 4) (by decide +kernel)
theorem sw_X12_269 : (RX12, 269, "hold", 5) ∈ strL := List.mem_of_getElem? (i := 5) (by decide +kernel)
theorem sw_X12_271 : (RX12, 271, "harm", 6) ∈ strL := List.mem_of_getElem? (i := 6) (by decide +kernel)
theorem sw_X12_273 : (RX12, 273, "taught", 7) ∈ strL := List.mem_of_getElem? (i := 7) (by decide +kernel)
theorem sw_X12_275 : (RX12, 275, "up", 8) ∈ strL := List.mem_of_getElem? (i := 8) (by decide +kernel)
theorem sw_X12_277 : (RX12, 277, "down", 9) ∈ strL := List.mem_of_getElem? (i := 9) (by decide +kernel)
theorem sw_X12_279 : (RX12, 279, "when", 10) ∈ strL := List.mem_of_getElem? (i := 10) (by decide +kernel)
theorem sw_X12_281 : (RX12, 281, "or", 11) ∈ strL := List.mem_of_getElem? (i := 11) (by decide +kernel)
theorem sw_X12_283 : (RX12, 283, "and", 12) ∈ strL := List.mem_of_getElem? (i := 12) (by decide +kernel)
theorem sw_X12_285 : (RX12, 285, "not", 13) ∈ strL := List.mem_of_getElem? (i := 13) (by decide +kernel)
theorem sw_X12_287 : (RX12, 287, "day", 14) ∈ strL := List.mem_of_getElem? (i := 14) (by decide +kernel)
theorem sw_X12_289 : (RX12, 289, "week", 15) ∈ strL := List.mem_of_getElem? (i := 15) (by decide +kernel)
theorem sw_X12_291 : (RX12, 291, "water", 16) ∈ strL := List.mem_of_getElem? (i := 16) (by decide +kernel)
theorem sw_X12_292 : (RX12, 292, "berths", 17) ∈ strL := List.mem_of_getElem? (i := 17) (by decide +kernel)
theorem sw_X12_294 : (RX12, 294, "away", 18) ∈ strL := List.mem_of_getElem? (i := 18) (by decide +kernel)
theorem sw_X12_296 : (RX12, 296, "age", 19) ∈ strL := List.mem_of_getElem? (i := 19) (by decide +kernel)
theorem sw_X12_298 : (RX12, 298, "depth", 20) ∈ strL := List.mem_of_getElem? (i := 20) (by decide +kernel)
theorem sw_X12_300 : (RX12, 300, "said", 21) ∈ strL := List.mem_of_getElem? (i := 21) (by decide +kernel)
theorem cq_X12_312 : CQ RX12 312 yX12_word cX12_word 1 (some .int) 0 := ⟨gd (List.mem_of_getElem? (i := 1849) (by decide +kernel)) rfl, gd (List.mem_of_getElem? (i := 124) (by decide +kernel)) rfl, gd (List.mem_of_getElem? (i := 1852) (by decide +kernel)) rfl, by decide +kernel, by decide⟩
theorem cr_117_X12_word : CR 117 yX12_word := ⟨by decide +kernel, 12, 101, TX12, by decide +kernel, rfl, gd (List.mem_of_getElem? (i := 1851) (by decide +kernel)) rfl, gd (List.mem_of_getElem? (i := 56) (by decide +kernel)) rfl⟩
theorem cq_X12_330 : CQ RX12 330 yX12_next0 cX12_next0 3 none 0 := ⟨gd (List.mem_of_getElem? (i := 1838) (by decide +kernel)) rfl, gd (List.mem_of_getElem? (i := 124) (by decide +kernel)) rfl, gd (List.mem_of_getElem? (i := 1841) (by decide +kernel)) rfl, by decide +kernel, by decide⟩
theorem cr_117_X12_next0 : CR 117 yX12_next0 := ⟨by decide +kernel, 12, 101, TX12, by decide +kernel, rfl, gd (List.mem_of_getElem? (i := 1840) (by decide +kernel)) rfl, gd (List.mem_of_getElem? (i := 54) (by decide +kernel)) rfl⟩
theorem af_X12_306_117 : AF RX12 306 117 39 := ⟨12, 101, RX12, TX12, by decide +kernel, by decide +kernel, rfl, by decide, gX12, gd (List.mem_of_getElem? (i := 1538) (by decide +kernel)) rfl⟩
theorem af_X12_375_117 : AF RX12 375 117 35 := ⟨12, 101, RX12, TX12, by decide +kernel, by decide +kernel, rfl, by decide, gX12, gd (List.mem_of_getElem? (i := 1534) (by decide +kernel)) rfl⟩
theorem ap_X12_336_117 : AFp RX12 336 117 45 .int := ⟨12, 101, RX12, TX12, tyX12, by decide +kernel, by decide +kernel, rfl, by decide, gX12, gd (List.mem_of_getElem? (i := 1544) (by decide +kernel)) rfl, tyX12_ok, nmX12, by decide +kernel, by decide +kernel⟩
theorem sr_117_45 : srF 117 45 = 0 := by decide +kernel
theorem af_X12_69_117 : AF RX12 69 117 20 := ⟨12, 101, RX12, TX12, by decide +kernel, by decide +kernel, rfl, by decide, gX12, gd (List.mem_of_getElem? (i := 1519) (by decide +kernel)) rfl⟩
theorem sr_117_20 : srF 117 20 = 137 := by decide +kernel
theorem kc_135 : 135 < KC := by decide +kernel
theorem sk_135 : skF 135 = (0, 16) := by decide +kernel
theorem af_X12_78_117 : AF RX12 78 117 23 := ⟨12, 101, RX12, TX12, by decide +kernel, by decide +kernel, rfl, by decide, gX12, gd (List.mem_of_getElem? (i := 1522) (by decide +kernel)) rfl⟩
theorem sr_117_23 : srF 117 23 = 140 := by decide +kernel
theorem af_X12_333_117 : AF RX12 333 117 36 := ⟨12, 101, RX12, TX12, by decide +kernel, by decide +kernel, rfl, by decide, gX12, gd (List.mem_of_getElem? (i := 1535) (by decide +kernel)) rfl⟩
theorem kc_138 : 138 < KC := by decide +kernel
theorem sk_138 : skF 138 = (0, 16) := by decide +kernel
theorem af_X12_81_117 : AF RX12 81 117 24 := ⟨12, 101, RX12, TX12, by decide +kernel, by decide +kernel, rfl, by decide, gX12, gd (List.mem_of_getElem? (i := 1523) (by decide +kernel)) rfl⟩
theorem sr_117_24 : srF 117 24 = 141 := by decide +kernel
theorem kc_139 : 139 < KC := by decide +kernel
theorem sk_139 : skF 139 = (0, 16) := by decide +kernel
theorem af_X12_84_117 : AF RX12 84 117 25 := ⟨12, 101, RX12, TX12, by decide +kernel, by decide +kernel, rfl, by decide, gX12, gd (List.mem_of_getElem? (i := 1524) (by decide +kernel)) rfl⟩
theorem sr_117_25 : srF 117 25 = 142 := by decide +kernel
theorem kc_140 : 140 < KC := by decide +kernel
theorem sk_140 : skF 140 = (0, 16) := by decide +kernel
theorem ap_X12_324_117 : AFp RX12 324 117 43 .int := ⟨12, 101, RX12, TX12, tyX12, by decide +kernel, by decide +kernel, rfl, by decide, gX12, gd (List.mem_of_getElem? (i := 1542) (by decide +kernel)) rfl, tyX12_ok, nmX12, by decide +kernel, by decide +kernel⟩
theorem sr_117_43 : srF 117 43 = 0 := by decide +kernel
theorem cq_X12_327 : CQ RX12 327 yX12_bad cX12_bad 2 (some .boolean) 1 := ⟨gd (List.mem_of_getElem? (i := 1886) (by decide +kernel)) rfl, gd (List.mem_of_getElem? (i := 124) (by decide +kernel)) rfl, gd (List.mem_of_getElem? (i := 1889) (by decide +kernel)) rfl, by decide +kernel, by decide⟩
theorem cr_117_X12_bad : CR 117 yX12_bad := ⟨by decide +kernel, 12, 101, TX12, by decide +kernel, rfl, gd (List.mem_of_getElem? (i := 1888) (by decide +kernel)) rfl, gd (List.mem_of_getElem? (i := 59) (by decide +kernel)) rfl⟩
theorem af_X12_87_117 : AF RX12 87 117 26 := ⟨12, 101, RX12, TX12, by decide +kernel, by decide +kernel, rfl, by decide, gX12, gd (List.mem_of_getElem? (i := 1525) (by decide +kernel)) rfl⟩
theorem sr_117_26 : srF 117 26 = 143 := by decide +kernel
theorem kc_141 : 141 < KC := by decide +kernel
theorem sk_141 : skF 141 = (0, 1020) := by decide +kernel
theorem cq_X12_342 : CQ RX12 342 yX12_lay cX12_lay 3 none 2 := ⟨gd (List.mem_of_getElem? (i := 1918) (by decide +kernel)) rfl, gd (List.mem_of_getElem? (i := 124) (by decide +kernel)) rfl, gd (List.mem_of_getElem? (i := 1921) (by decide +kernel)) rfl, by decide +kernel, by decide⟩
theorem cr_117_X12_lay : CR 117 yX12_lay := ⟨by decide +kernel, 12, 101, TX12, by decide +kernel, rfl, gd (List.mem_of_getElem? (i := 1920) (by decide +kernel)) rfl, gd (List.mem_of_getElem? (i := 67) (by decide +kernel)) rfl⟩
theorem cq_X12_346 : CQ RX12 346 yX12_unit cX12_unit 2 (some .boolean) 0 := ⟨gd (List.mem_of_getElem? (i := 1914) (by decide +kernel)) rfl, gd (List.mem_of_getElem? (i := 124) (by decide +kernel)) rfl, gd (List.mem_of_getElem? (i := 1917) (by decide +kernel)) rfl, by decide +kernel, by decide⟩
theorem cr_117_X12_unit : CR 117 yX12_unit := ⟨by decide +kernel, 12, 101, TX12, by decide +kernel, rfl, gd (List.mem_of_getElem? (i := 1916) (by decide +kernel)) rfl, gd (List.mem_of_getElem? (i := 66) (by decide +kernel)) rfl⟩
theorem cq_X12_349 : CQ RX12 349 yX12_number cX12_number 3 (some .boolean) 2 := ⟨gd (List.mem_of_getElem? (i := 1894) (by decide +kernel)) rfl, gd (List.mem_of_getElem? (i := 124) (by decide +kernel)) rfl, gd (List.mem_of_getElem? (i := 1897) (by decide +kernel)) rfl, by decide +kernel, by decide⟩
theorem cr_117_X12_number : CR 117 yX12_number := ⟨by decide +kernel, 12, 101, TX12, by decide +kernel, rfl, gd (List.mem_of_getElem? (i := 1896) (by decide +kernel)) rfl, gd (List.mem_of_getElem? (i := 61) (by decide +kernel)) rfl⟩
theorem cq_X12_338 : CQ RX12 338 yX12_product cX12_product 3 (some .boolean) 0 := ⟨gd (List.mem_of_getElem? (i := 1910) (by decide +kernel)) rfl, gd (List.mem_of_getElem? (i := 124) (by decide +kernel)) rfl, gd (List.mem_of_getElem? (i := 1913) (by decide +kernel)) rfl, by decide +kernel, by decide⟩
theorem cr_117_X12_product : CR 117 yX12_product := ⟨by decide +kernel, 12, 101, TX12, by decide +kernel, rfl, gd (List.mem_of_getElem? (i := 1912) (by decide +kernel)) rfl, gd (List.mem_of_getElem? (i := 65) (by decide +kernel)) rfl⟩
theorem cq_X12_368 : CQ RX12 368 yX12_sumUp cX12_sumUp 2 (some .boolean) 0 := ⟨gd (List.mem_of_getElem? (i := 1906) (by decide +kernel)) rfl, gd (List.mem_of_getElem? (i := 124) (by decide +kernel)) rfl, gd (List.mem_of_getElem? (i := 1909) (by decide +kernel)) rfl, by decide +kernel, by decide⟩
theorem cr_117_X12_sumUp : CR 117 yX12_sumUp := ⟨by decide +kernel, 12, 101, TX12, by decide +kernel, rfl, gd (List.mem_of_getElem? (i := 1908) (by decide +kernel)) rfl, gd (List.mem_of_getElem? (i := 64) (by decide +kernel)) rfl⟩
theorem af_X12_72_117 : AF RX12 72 117 21 := ⟨12, 101, RX12, TX12, by decide +kernel, by decide +kernel, rfl, by decide, gX12, gd (List.mem_of_getElem? (i := 1520) (by decide +kernel)) rfl⟩
theorem sr_117_21 : srF 117 21 = 138 := by decide +kernel
theorem af_X12_75_117 : AF RX12 75 117 22 := ⟨12, 101, RX12, TX12, by decide +kernel, by decide +kernel, rfl, by decide, gX12, gd (List.mem_of_getElem? (i := 1521) (by decide +kernel)) rfl⟩
theorem sr_117_22 : srF 117 22 = 139 := by decide +kernel
theorem kc_136 : 136 < KC := by decide +kernel
theorem sk_136 : skF 136 = (0, 16) := by decide +kernel
theorem kc_137 : 137 < KC := by decide +kernel
theorem sk_137 : skF 137 = (0, 16) := by decide +kernel
theorem cq_X12_371 : CQ RX12 371 yX12_hours cX12_hours 5 (some .boolean) 4 := ⟨gd (List.mem_of_getElem? (i := 1898) (by decide +kernel)) rfl, gd (List.mem_of_getElem? (i := 124) (by decide +kernel)) rfl, gd (List.mem_of_getElem? (i := 1901) (by decide +kernel)) rfl, by decide +kernel, by decide⟩
theorem cr_117_X12_hours : CR 117 yX12_hours := ⟨by decide +kernel, 12, 101, TX12, by decide +kernel, rfl, gd (List.mem_of_getElem? (i := 1900) (by decide +kernel)) rfl, gd (List.mem_of_getElem? (i := 62) (by decide +kernel)) rfl⟩
theorem af_X12_93_117 : AF RX12 93 117 28 := ⟨12, 101, RX12, TX12, by decide +kernel, by decide +kernel, rfl, by decide, gX12, gd (List.mem_of_getElem? (i := 1527) (by decide +kernel)) rfl⟩
theorem sr_117_28 : srF 117 28 = 145 := by decide +kernel
theorem kc_143 : 143 < KC := by decide +kernel
theorem sk_143 : skF 143 = (0, 60) := by decide +kernel
theorem cq_X12_378 : CQ RX12 378 yX12_aTunnel cX12_aTunnel 3 (some .boolean) 0 := ⟨gd (List.mem_of_getElem? (i := 1890) (by decide +kernel)) rfl, gd (List.mem_of_getElem? (i := 124) (by decide +kernel)) rfl, gd (List.mem_of_getElem? (i := 1893) (by decide +kernel)) rfl, by decide +kernel, by decide⟩
theorem cr_117_X12_aTunnel : CR 117 yX12_aTunnel := ⟨by decide +kernel, 12, 101, TX12, by decide +kernel, rfl, gd (List.mem_of_getElem? (i := 1892) (by decide +kernel)) rfl, gd (List.mem_of_getElem? (i := 60) (by decide +kernel)) rfl⟩
theorem cq_X12_365 : CQ RX12 365 yX12_need cX12_need 2 (some .boolean) 1 := ⟨gd (List.mem_of_getElem? (i := 1902) (by decide +kernel)) rfl, gd (List.mem_of_getElem? (i := 124) (by decide +kernel)) rfl, gd (List.mem_of_getElem? (i := 1905) (by decide +kernel)) rfl, by decide +kernel, by decide⟩
theorem cr_117_X12_need : CR 117 yX12_need := ⟨by decide +kernel, 12, 101, TX12, by decide +kernel, rfl, gd (List.mem_of_getElem? (i := 1904) (by decide +kernel)) rfl, gd (List.mem_of_getElem? (i := 63) (by decide +kernel)) rfl⟩
theorem cq_X12_356 : CQ RX12 356 yX12_one cX12_one 2 (some .boolean) 0 := ⟨gd (List.mem_of_getElem? (i := 1930) (by decide +kernel)) rfl, gd (List.mem_of_getElem? (i := 124) (by decide +kernel)) rfl, gd (List.mem_of_getElem? (i := 1933) (by decide +kernel)) rfl, by decide +kernel, by decide⟩
theorem cr_117_X12_one : CR 117 yX12_one := ⟨by decide +kernel, 12, 101, TX12, by decide +kernel, rfl, gd (List.mem_of_getElem? (i := 1932) (by decide +kernel)) rfl, gd (List.mem_of_getElem? (i := 70) (by decide +kernel)) rfl⟩
theorem cq_X12_353 : CQ RX12 353 yX12_every cX12_every 1 (some .boolean) 0 := ⟨gd (List.mem_of_getElem? (i := 1926) (by decide +kernel)) rfl, gd (List.mem_of_getElem? (i := 124) (by decide +kernel)) rfl, gd (List.mem_of_getElem? (i := 1929) (by decide +kernel)) rfl, by decide +kernel, by decide⟩
theorem cr_117_X12_every : CR 117 yX12_every := ⟨by decide +kernel, 12, 101, TX12, by decide +kernel, rfl, gd (List.mem_of_getElem? (i := 1928) (by decide +kernel)) rfl, gd (List.mem_of_getElem? (i := 69) (by decide +kernel)) rfl⟩
theorem af_X12_336_117 : AF RX12 336 117 45 := ⟨12, 101, RX12, TX12, by decide +kernel, by decide +kernel, rfl, by decide, gX12, gd (List.mem_of_getElem? (i := 1544) (by decide +kernel)) rfl⟩
theorem cq_X12_359 : CQ RX12 359 yX12_opens cX12_opens 1 (some .boolean) 0 := ⟨gd (List.mem_of_getElem? (i := 1934) (by decide +kernel)) rfl, gd (List.mem_of_getElem? (i := 124) (by decide +kernel)) rfl, gd (List.mem_of_getElem? (i := 1937) (by decide +kernel)) rfl, by decide +kernel, by decide⟩
theorem cr_117_X12_opens : CR 117 yX12_opens := ⟨by decide +kernel, 12, 101, TX12, by decide +kernel, rfl, gd (List.mem_of_getElem? (i := 1936) (by decide +kernel)) rfl, gd (List.mem_of_getElem? (i := 71) (by decide +kernel)) rfl⟩
theorem cq_X12_362 : CQ RX12 362 yX12_any cX12_any 1 (some .boolean) 0 := ⟨gd (List.mem_of_getElem? (i := 1922) (by decide +kernel)) rfl, gd (List.mem_of_getElem? (i := 124) (by decide +kernel)) rfl, gd (List.mem_of_getElem? (i := 1925) (by decide +kernel)) rfl, by decide +kernel, by decide⟩
theorem cr_117_X12_any : CR 117 yX12_any := ⟨by decide +kernel, 12, 101, TX12, by decide +kernel, rfl, gd (List.mem_of_getElem? (i := 1924) (by decide +kernel)) rfl, gd (List.mem_of_getElem? (i := 68) (by decide +kernel)) rfl⟩
theorem cq_X12_381 : CQ RX12 381 yX12_aLine cX12_aLine 3 (some .boolean) 0 := ⟨gd (List.mem_of_getElem? (i := 1882) (by decide +kernel)) rfl, gd (List.mem_of_getElem? (i := 124) (by decide +kernel)) rfl, gd (List.mem_of_getElem? (i := 1885) (by decide +kernel)) rfl, by decide +kernel, by decide⟩
theorem cr_117_X12_aLine : CR 117 yX12_aLine := ⟨by decide +kernel, 12, 101, TX12, by decide +kernel, rfl, gd (List.mem_of_getElem? (i := 1884) (by decide +kernel)) rfl, gd (List.mem_of_getElem? (i := 58) (by decide +kernel)) rfl⟩
theorem af_X12_321_117 : AF RX12 321 117 42 := ⟨12, 101, RX12, TX12, by decide +kernel, by decide +kernel, rfl, by decide, gX12, gd (List.mem_of_getElem? (i := 1541) (by decide +kernel)) rfl⟩
theorem ap_X12_384_117 : AFp RX12 384 117 44 .int := ⟨12, 101, RX12, TX12, tyX12, by decide +kernel, by decide +kernel, rfl, by decide, gX12, gd (List.mem_of_getElem? (i := 1543) (by decide +kernel)) rfl, tyX12_ok, nmX12, by decide +kernel, by decide +kernel⟩
theorem sr_117_44 : srF 117 44 = 0 := by decide +kernel
theorem af_X12_324_117 : AF RX12 324 117 43 := ⟨12, 101, RX12, TX12, by decide +kernel, by decide +kernel, rfl, by decide, gX12, gd (List.mem_of_getElem? (i := 1542) (by decide +kernel)) rfl⟩
theorem ap_X12_112_117 : AFp RX12 112 117 46 .int := ⟨12, 101, RX12, TX12, tyX12, by decide +kernel, by decide +kernel, rfl, by decide, gX12, gd (List.mem_of_getElem? (i := 1545) (by decide +kernel)) rfl, tyX12_ok, nmX12, by decide +kernel, by decide +kernel⟩
theorem sr_117_46 : srF 117 46 = 0 := by decide +kernel
theorem ap_X12_390_117 : AFp RX12 390 117 34 .int := ⟨12, 101, RX12, TX12, tyX12, by decide +kernel, by decide +kernel, rfl, by decide, gX12, gd (List.mem_of_getElem? (i := 1533) (by decide +kernel)) rfl, tyX12_ok, nmX12, by decide +kernel, by decide +kernel⟩
theorem sr_117_34 : srF 117 34 = 0 := by decide +kernel
theorem af_X12_390_117 : AF RX12 390 117 34 := ⟨12, 101, RX12, TX12, by decide +kernel, by decide +kernel, rfl, by decide, gX12, gd (List.mem_of_getElem? (i := 1533) (by decide +kernel)) rfl⟩
theorem af_X12_48_117 : AF RX12 48 117 13 := ⟨12, 101, RX12, TX12, by decide +kernel, by decide +kernel, rfl, by decide, gX12, gd (List.mem_of_getElem? (i := 1512) (by decide +kernel)) rfl⟩
theorem sr_117_13 : srF 117 13 = 130 := by decide +kernel
theorem kc_128 : 128 < KC := by decide +kernel
theorem sk_128 : skF 128 = (0, 16) := by decide +kernel
theorem af_X12_51_117 : AF RX12 51 117 14 := ⟨12, 101, RX12, TX12, by decide +kernel, by decide +kernel, rfl, by decide, gX12, gd (List.mem_of_getElem? (i := 1513) (by decide +kernel)) rfl⟩
theorem sr_117_14 : srF 117 14 = 131 := by decide +kernel
theorem kc_129 : 129 < KC := by decide +kernel
theorem sk_129 : skF 129 = (0, 16) := by decide +kernel
theorem af_X12_54_117 : AF RX12 54 117 15 := ⟨12, 101, RX12, TX12, by decide +kernel, by decide +kernel, rfl, by decide, gX12, gd (List.mem_of_getElem? (i := 1514) (by decide +kernel)) rfl⟩
theorem sr_117_15 : srF 117 15 = 132 := by decide +kernel
theorem kc_130 : 130 < KC := by decide +kernel
theorem sk_130 : skF 130 = (0, 16) := by decide +kernel
theorem af_X12_57_117 : AF RX12 57 117 16 := ⟨12, 101, RX12, TX12, by decide +kernel, by decide +kernel, rfl, by decide, gX12, gd (List.mem_of_getElem? (i := 1515) (by decide +kernel)) rfl⟩
theorem sr_117_16 : srF 117 16 = 133 := by decide +kernel
theorem kc_131 : 131 < KC := by decide +kernel
theorem sk_131 : skF 131 = (0, 16) := by decide +kernel
theorem af_X12_60_117 : AF RX12 60 117 17 := ⟨12, 101, RX12, TX12, by decide +kernel, by decide +kernel, rfl, by decide, gX12, gd (List.mem_of_getElem? (i := 1516) (by decide +kernel)) rfl⟩
theorem sr_117_17 : srF 117 17 = 134 := by decide +kernel
theorem kc_132 : 132 < KC := by decide +kernel
theorem sk_132 : skF 132 = (0, 16) := by decide +kernel
theorem af_X12_63_117 : AF RX12 63 117 18 := ⟨12, 101, RX12, TX12, by decide +kernel, by decide +kernel, rfl, by decide, gX12, gd (List.mem_of_getElem? (i := 1517) (by decide +kernel)) rfl⟩
theorem sr_117_18 : srF 117 18 = 135 := by decide +kernel
theorem kc_133 : 133 < KC := by decide +kernel
theorem sk_133 : skF 133 = (0, 16) := by decide +kernel
theorem af_X12_66_117 : AF RX12 66 117 19 := ⟨12, 101, RX12, TX12, by decide +kernel, by decide +kernel, rfl, by decide, gX12, gd (List.mem_of_getElem? (i := 1518) (by decide +kernel)) rfl⟩
theorem sr_117_19 : srF 117 19 = 136 := by decide +kernel
theorem kc_134 : 134 < KC := by decide +kernel
theorem sk_134 : skF 134 = (0, 1020) := by decide +kernel
theorem af_X12_96_117 : AF RX12 96 117 29 := ⟨12, 101, RX12, TX12, by decide +kernel, by decide +kernel, rfl, by decide, gX12, gd (List.mem_of_getElem? (i := 1528) (by decide +kernel)) rfl⟩
theorem sr_117_29 : srF 117 29 = 146 := by decide +kernel
theorem kc_144 : 144 < KC := by decide +kernel
theorem sk_144 : skF 144 = (1, 30) := by decide +kernel
theorem af_X12_90_117 : AF RX12 90 117 27 := ⟨12, 101, RX12, TX12, by decide +kernel, by decide +kernel, rfl, by decide, gX12, gd (List.mem_of_getElem? (i := 1526) (by decide +kernel)) rfl⟩
theorem sr_117_27 : srF 117 27 = 144 := by decide +kernel
theorem kc_142 : 142 < KC := by decide +kernel
theorem sk_142 : skF 142 = (0, 60) := by decide +kernel
theorem cq_X12_387 : CQ RX12 387 yX12_keeps cX12_keeps 2 none 0 := ⟨gd (List.mem_of_getElem? (i := 1938) (by decide +kernel)) rfl, gd (List.mem_of_getElem? (i := 124) (by decide +kernel)) rfl, gd (List.mem_of_getElem? (i := 1941) (by decide +kernel)) rfl, by decide +kernel, by decide⟩
theorem cr_117_X12_keeps : CR 117 yX12_keeps := ⟨by decide +kernel, 12, 101, TX12, by decide +kernel, rfl, gd (List.mem_of_getElem? (i := 1940) (by decide +kernel)) rfl, gd (List.mem_of_getElem? (i := 72) (by decide +kernel)) rfl⟩
theorem af_X12_112_117 : AF RX12 112 117 46 := ⟨12, 101, RX12, TX12, by decide +kernel, by decide +kernel, rfl, by decide, gX12, gd (List.mem_of_getElem? (i := 1545) (by decide +kernel)) rfl⟩
theorem af_X12_384_117 : AF RX12 384 117 44 := ⟨12, 101, RX12, TX12, by decide +kernel, by decide +kernel, rfl, by decide, gX12, gd (List.mem_of_getElem? (i := 1543) (by decide +kernel)) rfl⟩
theorem af_X12_109_117 : AF RX12 109 117 33 := ⟨12, 101, RX12, TX12, by decide +kernel, by decide +kernel, rfl, by decide, gX12, gd (List.mem_of_getElem? (i := 1532) (by decide +kernel)) rfl⟩
theorem sr_117_33 : srF 117 33 = 150 := by decide +kernel
theorem kc_148 : 148 < KC := by decide +kernel
theorem sk_148 : skF 148 = (0, 10) := by decide +kernel
theorem cq_X12_401 : CQ RX12 401 yX12_forgets cX12_forgets 2 none 0 := ⟨gd (List.mem_of_getElem? (i := 1954) (by decide +kernel)) rfl, gd (List.mem_of_getElem? (i := 124) (by decide +kernel)) rfl, gd (List.mem_of_getElem? (i := 1957) (by decide +kernel)) rfl, by decide +kernel, by decide⟩
theorem cr_117_X12_forgets : CR 117 yX12_forgets := ⟨by decide +kernel, 12, 101, TX12, by decide +kernel, rfl, gd (List.mem_of_getElem? (i := 1956) (by decide +kernel)) rfl, gd (List.mem_of_getElem? (i := 74) (by decide +kernel)) rfl⟩
theorem af_X12_44_117 : AF RX12 44 117 10 := ⟨12, 101, RX12, TX12, by decide +kernel, by decide +kernel, rfl, by decide, gX12, gd (List.mem_of_getElem? (i := 1509) (by decide +kernel)) rfl⟩
theorem af_X12_106_117 : AF RX12 106 117 32 := ⟨12, 101, RX12, TX12, by decide +kernel, by decide +kernel, rfl, by decide, gX12, gd (List.mem_of_getElem? (i := 1531) (by decide +kernel)) rfl⟩
theorem sr_117_32 : srF 117 32 = 149 := by decide +kernel
theorem kc_147 : 147 < KC := by decide +kernel
theorem sk_147 : skF 147 = (0, 520) := by decide +kernel
theorem cq_X12_393 : CQ RX12 393 yX12_both cX12_both 3 (some .int) 3 := ⟨gd (List.mem_of_getElem? (i := 1966) (by decide +kernel)) rfl, gd (List.mem_of_getElem? (i := 124) (by decide +kernel)) rfl, gd (List.mem_of_getElem? (i := 1968) (by decide +kernel)) rfl, by decide +kernel, by decide⟩
theorem st_X12_both : Cond.static yX12_both ∈ lw_gd := gd (List.mem_of_getElem? (i := 1967) (by decide +kernel)) rfl
theorem cq_X12_397 : CQ RX12 397 yX12_comesTo cX12_comesTo 7 (some .int) 2 := ⟨gd (List.mem_of_getElem? (i := 1962) (by decide +kernel)) rfl, gd (List.mem_of_getElem? (i := 124) (by decide +kernel)) rfl, gd (List.mem_of_getElem? (i := 1965) (by decide +kernel)) rfl, by decide +kernel, by decide⟩
theorem cr_117_X12_comesTo : CR 117 yX12_comesTo := ⟨by decide +kernel, 12, 101, TX12, by decide +kernel, rfl, gd (List.mem_of_getElem? (i := 1964) (by decide +kernel)) rfl, gd (List.mem_of_getElem? (i := 76) (by decide +kernel)) rfl⟩
theorem cq_X12_404 : CQ RX12 404 yX12_serves cX12_serves 3 (some .int) 1 := ⟨gd (List.mem_of_getElem? (i := 1958) (by decide +kernel)) rfl, gd (List.mem_of_getElem? (i := 124) (by decide +kernel)) rfl, gd (List.mem_of_getElem? (i := 1961) (by decide +kernel)) rfl, by decide +kernel, by decide⟩
theorem cr_117_X12_serves : CR 117 yX12_serves := ⟨by decide +kernel, 12, 101, TX12, by decide +kernel, rfl, gd (List.mem_of_getElem? (i := 1960) (by decide +kernel)) rfl, gd (List.mem_of_getElem? (i := 75) (by decide +kernel)) rfl⟩
theorem cq_X12_407 : CQ RX12 407 yX12_locksLine cX12_locksLine 2 (some .int) 1 := ⟨gd (List.mem_of_getElem? (i := 1950) (by decide +kernel)) rfl, gd (List.mem_of_getElem? (i := 124) (by decide +kernel)) rfl, gd (List.mem_of_getElem? (i := 1953) (by decide +kernel)) rfl, by decide +kernel, by decide⟩
theorem cr_117_X12_locksLine : CR 117 yX12_locksLine := ⟨by decide +kernel, 12, 101, TX12, by decide +kernel, rfl, gd (List.mem_of_getElem? (i := 1952) (by decide +kernel)) rfl, gd (List.mem_of_getElem? (i := 73) (by decide +kernel)) rfl⟩
theorem cq_X12_435 : CQ RX12 435 yX12_isBoat cX12_isBoat 2 (some .boolean) 1 := ⟨gd (List.mem_of_getElem? (i := 1973) (by decide +kernel)) rfl, gd (List.mem_of_getElem? (i := 124) (by decide +kernel)) rfl, gd (List.mem_of_getElem? (i := 1976) (by decide +kernel)) rfl, by decide +kernel, by decide⟩
theorem cr_117_X12_isBoat : CR 117 yX12_isBoat := ⟨by decide +kernel, 12, 101, TX12, by decide +kernel, rfl, gd (List.mem_of_getElem? (i := 1975) (by decide +kernel)) rfl, gd (List.mem_of_getElem? (i := 77) (by decide +kernel)) rfl⟩
theorem cq_X12_438 : CQ RX12 438 yX12_isTime cX12_isTime 1 (some .boolean) 1 := ⟨gd (List.mem_of_getElem? (i := 1977) (by decide +kernel)) rfl, gd (List.mem_of_getElem? (i := 124) (by decide +kernel)) rfl, gd (List.mem_of_getElem? (i := 1979) (by decide +kernel)) rfl, by decide +kernel, by decide⟩
theorem st_X12_isTime : Cond.static yX12_isTime ∈ lw_gd := gd (List.mem_of_getElem? (i := 1978) (by decide +kernel)) rfl
theorem cq_X12_410 : CQ RX12 410 yX12_isStopped cX12_isStopped 4 (some .boolean) 2 := ⟨gd (List.mem_of_getElem? (i := 1996) (by decide +kernel)) rfl, gd (List.mem_of_getElem? (i := 124) (by decide +kernel)) rfl, gd (List.mem_of_getElem? (i := 1999) (by decide +kernel)) rfl, by decide +kernel, by decide⟩
theorem cr_117_X12_isStopped : CR 117 yX12_isStopped := ⟨by decide +kernel, 12, 101, TX12, by decide +kernel, rfl, gd (List.mem_of_getElem? (i := 1998) (by decide +kernel)) rfl, gd (List.mem_of_getElem? (i := 82) (by decide +kernel)) rfl⟩
theorem cq_X12_413 : CQ RX12 413 yX12_mayBegin cX12_mayBegin 6 (some .boolean) 4 := ⟨gd (List.mem_of_getElem? (i := 1992) (by decide +kernel)) rfl, gd (List.mem_of_getElem? (i := 124) (by decide +kernel)) rfl, gd (List.mem_of_getElem? (i := 1995) (by decide +kernel)) rfl, by decide +kernel, by decide⟩
theorem cr_117_X12_mayBegin : CR 117 yX12_mayBegin := ⟨by decide +kernel, 12, 101, TX12, by decide +kernel, rfl, gd (List.mem_of_getElem? (i := 1994) (by decide +kernel)) rfl, gd (List.mem_of_getElem? (i := 81) (by decide +kernel)) rfl⟩
theorem cq_X12_417 : CQ RX12 417 yX12_endOf cX12_endOf 6 (some .int) 4 := ⟨gd (List.mem_of_getElem? (i := 1988) (by decide +kernel)) rfl, gd (List.mem_of_getElem? (i := 124) (by decide +kernel)) rfl, gd (List.mem_of_getElem? (i := 1991) (by decide +kernel)) rfl, by decide +kernel, by decide⟩
theorem cr_117_X12_endOf : CR 117 yX12_endOf := ⟨by decide +kernel, 12, 101, TX12, by decide +kernel, rfl, gd (List.mem_of_getElem? (i := 1990) (by decide +kernel)) rfl, gd (List.mem_of_getElem? (i := 80) (by decide +kernel)) rfl⟩
theorem af_X12_421_117 : AF RX12 421 117 47 := ⟨12, 101, RX12, TX12, by decide +kernel, by decide +kernel, rfl, by decide, gX12, gd (List.mem_of_getElem? (i := 1546) (by decide +kernel)) rfl⟩
theorem sr_117_47 : srF 117 47 = 0 := by decide +kernel
theorem af_X12_425_117 : AF RX12 425 117 48 := ⟨12, 101, RX12, TX12, by decide +kernel, by decide +kernel, rfl, by decide, gX12, gd (List.mem_of_getElem? (i := 1547) (by decide +kernel)) rfl⟩
theorem sr_117_48 : srF 117 48 = 0 := by decide +kernel
theorem cq_X12_428 : CQ RX12 428 yX12_harmOf cX12_harmOf 5 (some .int) 2 := ⟨gd (List.mem_of_getElem? (i := 2000) (by decide +kernel)) rfl, gd (List.mem_of_getElem? (i := 124) (by decide +kernel)) rfl, gd (List.mem_of_getElem? (i := 2003) (by decide +kernel)) rfl, by decide +kernel, by decide⟩
theorem cr_117_X12_harmOf : CR 117 yX12_harmOf := ⟨by decide +kernel, 12, 101, TX12, by decide +kernel, rfl, gd (List.mem_of_getElem? (i := 2002) (by decide +kernel)) rfl, gd (List.mem_of_getElem? (i := 83) (by decide +kernel)) rfl⟩
theorem ap_X12_425_117 : AFp RX12 425 117 48 .int := ⟨12, 101, RX12, TX12, tyX12, by decide +kernel, by decide +kernel, rfl, by decide, gX12, gd (List.mem_of_getElem? (i := 1547) (by decide +kernel)) rfl, tyX12_ok, nmX12, by decide +kernel, by decide +kernel⟩
theorem cq_X12_431 : CQ RX12 431 yX12_through cX12_through 8 (some .int) 4 := ⟨gd (List.mem_of_getElem? (i := 1984) (by decide +kernel)) rfl, gd (List.mem_of_getElem? (i := 124) (by decide +kernel)) rfl, gd (List.mem_of_getElem? (i := 1987) (by decide +kernel)) rfl, by decide +kernel, by decide⟩
theorem cr_117_X12_through : CR 117 yX12_through := ⟨by decide +kernel, 12, 101, TX12, by decide +kernel, rfl, gd (List.mem_of_getElem? (i := 1986) (by decide +kernel)) rfl, gd (List.mem_of_getElem? (i := 79) (by decide +kernel)) rfl⟩
theorem cq_X12_441 : CQ RX12 441 yX12_led cX12_led 7 (some .int) 4 := ⟨gd (List.mem_of_getElem? (i := 1980) (by decide +kernel)) rfl, gd (List.mem_of_getElem? (i := 124) (by decide +kernel)) rfl, gd (List.mem_of_getElem? (i := 1983) (by decide +kernel)) rfl, by decide +kernel, by decide⟩
theorem cr_117_X12_led : CR 117 yX12_led := ⟨by decide +kernel, 12, 101, TX12, by decide +kernel, rfl, gd (List.mem_of_getElem? (i := 1982) (by decide +kernel)) rfl, gd (List.mem_of_getElem? (i := 78) (by decide +kernel)) rfl⟩
theorem ap_X12_421_117 : AFp RX12 421 117 47 .boolean := ⟨12, 101, RX12, TX12, tyX12, by decide +kernel, by decide +kernel, rfl, by decide, gX12, gd (List.mem_of_getElem? (i := 1546) (by decide +kernel)) rfl, tyX12_ok, nmX12, by decide +kernel, by decide +kernel⟩
theorem af_X12_444_117 : AF RX12 444 117 49 := ⟨12, 101, RX12, TX12, by decide +kernel, by decide +kernel, rfl, by decide, gX12, gd (List.mem_of_getElem? (i := 1548) (by decide +kernel)) rfl⟩
theorem sr_117_49 : srF 117 49 = 0 := by decide +kernel
theorem af_X12_115_117 : AF RX12 115 117 50 := ⟨12, 101, RX12, TX12, by decide +kernel, by decide +kernel, rfl, by decide, gX12, gd (List.mem_of_getElem? (i := 1549) (by decide +kernel)) rfl⟩
theorem sr_117_50 : srF 117 50 = 151 := by decide +kernel
theorem kc_149 : 149 < KC := by decide +kernel
theorem sk_149 : skF 149 = (0, 20) := by decide +kernel
theorem af_X12_118_117 : AF RX12 118 117 51 := ⟨12, 101, RX12, TX12, by decide +kernel, by decide +kernel, rfl, by decide, gX12, gd (List.mem_of_getElem? (i := 1550) (by decide +kernel)) rfl⟩
theorem sr_117_51 : srF 117 51 = 152 := by decide +kernel
theorem kc_150 : 150 < KC := by decide +kernel
theorem sk_150 : skF 150 = (0, 20) := by decide +kernel
theorem af_X12_121_117 : AF RX12 121 117 52 := ⟨12, 101, RX12, TX12, by decide +kernel, by decide +kernel, rfl, by decide, gX12, gd (List.mem_of_getElem? (i := 1551) (by decide +kernel)) rfl⟩
theorem sr_117_52 : srF 117 52 = 153 := by decide +kernel
theorem kc_151 : 151 < KC := by decide +kernel
theorem sk_151 : skF 151 = (0, 20) := by decide +kernel
theorem af_X12_124_117 : AF RX12 124 117 53 := ⟨12, 101, RX12, TX12, by decide +kernel, by decide +kernel, rfl, by decide, gX12, gd (List.mem_of_getElem? (i := 1552) (by decide +kernel)) rfl⟩
theorem sr_117_53 : srF 117 53 = 154 := by decide +kernel
theorem kc_152 : 152 < KC := by decide +kernel
theorem sk_152 : skF 152 = (0, 20) := by decide +kernel
theorem af_X12_127_117 : AF RX12 127 117 54 := ⟨12, 101, RX12, TX12, by decide +kernel, by decide +kernel, rfl, by decide, gX12, gd (List.mem_of_getElem? (i := 1553) (by decide +kernel)) rfl⟩
theorem sr_117_54 : srF 117 54 = 155 := by decide +kernel
theorem kc_153 : 153 < KC := by decide +kernel
theorem sk_153 : skF 153 = (0, 20) := by decide +kernel
theorem ap_X12_444_117 : AFp RX12 444 117 49 .int := ⟨12, 101, RX12, TX12, tyX12, by decide +kernel, by decide +kernel, rfl, by decide, gX12, gd (List.mem_of_getElem? (i := 1548) (by decide +kernel)) rfl, tyX12_ok, nmX12, by decide +kernel, by decide +kernel⟩
theorem cq_X12_447 : CQ RX12 447 yX12_lateOf cX12_lateOf 3 (some .int) 1 := ⟨gd (List.mem_of_getElem? (i := 2024) (by decide +kernel)) rfl, gd (List.mem_of_getElem? (i := 124) (by decide +kernel)) rfl, gd (List.mem_of_getElem? (i := 2027) (by decide +kernel)) rfl, by decide +kernel, by decide⟩
theorem cr_117_X12_lateOf : CR 117 yX12_lateOf := ⟨by decide +kernel, 12, 101, TX12, by decide +kernel, rfl, gd (List.mem_of_getElem? (i := 2026) (by decide +kernel)) rfl, gd (List.mem_of_getElem? (i := 84) (by decide +kernel)) rfl⟩
theorem cw_X12_450 : Cond.constant RX12 450 (Int32.ofInt (-1000000)) ∈ lw_gd := gd (List.mem_of_getElem? (i := 2036) (by decide +kernel)) rfl
theorem ap_X12_454_117 : AFp RX12 454 117 100 .boolean := ⟨12, 101, RX12, TX12, tyX12, by decide +kernel, by decide +kernel, rfl, by decide, gX12, gd (List.mem_of_getElem? (i := 1599) (by decide +kernel)) rfl, tyX12_ok, nmX12, by decide +kernel, by decide +kernel⟩
theorem sr_117_100 : srF 117 100 = 0 := by decide +kernel
theorem cq_X12_451 : CQ RX12 451 yX12_price cX12_price 5 (some .int) 3 := ⟨gd (List.mem_of_getElem? (i := 2041) (by decide +kernel)) rfl, gd (List.mem_of_getElem? (i := 124) (by decide +kernel)) rfl, gd (List.mem_of_getElem? (i := 2044) (by decide +kernel)) rfl, by decide +kernel, by decide⟩
theorem cr_117_X12_price : CR 117 yX12_price := ⟨by decide +kernel, 12, 101, TX12, by decide +kernel, rfl, gd (List.mem_of_getElem? (i := 2042) (by decide +kernel)) rfl, gd (List.mem_of_getElem? (i := 2043) (by decide +kernel)) rfl⟩
theorem af_X12_454_117 : AF RX12 454 117 100 := ⟨12, 101, RX12, TX12, by decide +kernel, by decide +kernel, rfl, by decide, gX12, gd (List.mem_of_getElem? (i := 1599) (by decide +kernel)) rfl⟩
theorem cw_X12_457 : Cond.constantLong RX12 457 (Int64.ofInt 7) ∈ lw_gd := gd (List.mem_of_getElem? (i := 2045) (by decide +kernel)) rfl
theorem cq_X12_462 : CQ RX12 462 yX12_refund cX12_refund 5 (some .int) 1 := ⟨gd (List.mem_of_getElem? (i := 2037) (by decide +kernel)) rfl, gd (List.mem_of_getElem? (i := 124) (by decide +kernel)) rfl, gd (List.mem_of_getElem? (i := 2040) (by decide +kernel)) rfl, by decide +kernel, by decide⟩
theorem cr_117_X12_refund : CR 117 yX12_refund := ⟨by decide +kernel, 12, 101, TX12, by decide +kernel, rfl, gd (List.mem_of_getElem? (i := 2039) (by decide +kernel)) rfl, gd (List.mem_of_getElem? (i := 86) (by decide +kernel)) rfl⟩
theorem cq_X12_459 : CQ RX12 459 yX12_turningBack cX12_turningBack 8 (some .int) 1 := ⟨gd (List.mem_of_getElem? (i := 2032) (by decide +kernel)) rfl, gd (List.mem_of_getElem? (i := 124) (by decide +kernel)) rfl, gd (List.mem_of_getElem? (i := 2035) (by decide +kernel)) rfl, by decide +kernel, by decide⟩
theorem cr_117_X12_turningBack : CR 117 yX12_turningBack := ⟨by decide +kernel, 12, 101, TX12, by decide +kernel, rfl, gd (List.mem_of_getElem? (i := 2034) (by decide +kernel)) rfl, gd (List.mem_of_getElem? (i := 85) (by decide +kernel)) rfl⟩
theorem af_X12_130_117 : AF RX12 130 117 55 := ⟨12, 101, RX12, TX12, by decide +kernel, by decide +kernel, rfl, by decide, gX12, gd (List.mem_of_getElem? (i := 1554) (by decide +kernel)) rfl⟩
theorem sr_117_55 : srF 117 55 = 156 := by decide +kernel
theorem kc_154 : 154 < KC := by decide +kernel
theorem sk_154 : skF 154 = (1, 16) := by decide +kernel
theorem af_X12_133_117 : AF RX12 133 117 56 := ⟨12, 101, RX12, TX12, by decide +kernel, by decide +kernel, rfl, by decide, gX12, gd (List.mem_of_getElem? (i := 1555) (by decide +kernel)) rfl⟩
theorem sr_117_56 : srF 117 56 = 157 := by decide +kernel
theorem kc_155 : 155 < KC := by decide +kernel
theorem sk_155 : skF 155 = (0, 10) := by decide +kernel
theorem af_X12_139_117 : AF RX12 139 117 58 := ⟨12, 101, RX12, TX12, by decide +kernel, by decide +kernel, rfl, by decide, gX12, gd (List.mem_of_getElem? (i := 1557) (by decide +kernel)) rfl⟩
theorem sr_117_58 : srF 117 58 = 159 := by decide +kernel
theorem kc_157 : 157 < KC := by decide +kernel
theorem sk_157 : skF 157 = (0, 100) := by decide +kernel
theorem af_X12_136_117 : AF RX12 136 117 57 := ⟨12, 101, RX12, TX12, by decide +kernel, by decide +kernel, rfl, by decide, gX12, gd (List.mem_of_getElem? (i := 1556) (by decide +kernel)) rfl⟩
theorem sr_117_57 : srF 117 57 = 158 := by decide +kernel
theorem kc_156 : 156 < KC := by decide +kernel
theorem sk_156 : skF 156 = (0, 100) := by decide +kernel
theorem cq_X12_469 : CQ RX12 469 yX12_isSpan cX12_isSpan 2 (some .boolean) 2 := ⟨gd (List.mem_of_getElem? (i := 2066) (by decide +kernel)) rfl, gd (List.mem_of_getElem? (i := 124) (by decide +kernel)) rfl, gd (List.mem_of_getElem? (i := 2068) (by decide +kernel)) rfl, by decide +kernel, by decide⟩
theorem st_X12_isSpan : Cond.static yX12_isSpan ∈ lw_gd := gd (List.mem_of_getElem? (i := 2067) (by decide +kernel)) rfl
theorem cq_X12_465 : CQ RX12 465 yX12_between cX12_between 11 (some .boolean) 5 := ⟨gd (List.mem_of_getElem? (i := 2073) (by decide +kernel)) rfl, gd (List.mem_of_getElem? (i := 124) (by decide +kernel)) rfl, gd (List.mem_of_getElem? (i := 2076) (by decide +kernel)) rfl, by decide +kernel, by decide⟩
theorem cr_117_X12_between : CR 117 yX12_between := ⟨by decide +kernel, 12, 101, TX12, by decide +kernel, rfl, gd (List.mem_of_getElem? (i := 2075) (by decide +kernel)) rfl, gd (List.mem_of_getElem? (i := 88) (by decide +kernel)) rfl⟩
theorem cq_X12_472 : CQ RX12 472 yX12_canHaveBeen cX12_canHaveBeen 6 (some .boolean) 4 := ⟨gd (List.mem_of_getElem? (i := 2069) (by decide +kernel)) rfl, gd (List.mem_of_getElem? (i := 124) (by decide +kernel)) rfl, gd (List.mem_of_getElem? (i := 2072) (by decide +kernel)) rfl, by decide +kernel, by decide⟩
theorem cr_117_X12_canHaveBeen : CR 117 yX12_canHaveBeen := ⟨by decide +kernel, 12, 101, TX12, by decide +kernel, rfl, gd (List.mem_of_getElem? (i := 2071) (by decide +kernel)) rfl, gd (List.mem_of_getElem? (i := 87) (by decide +kernel)) rfl⟩
theorem af_X12_475_117 : AF RX12 475 117 59 := ⟨12, 101, RX12, TX12, by decide +kernel, by decide +kernel, rfl, by decide, gX12, gd (List.mem_of_getElem? (i := 1558) (by decide +kernel)) rfl⟩
theorem sr_117_59 : srF 117 59 = 0 := by decide +kernel
theorem af_X12_142_117 : AF RX12 142 117 60 := ⟨12, 101, RX12, TX12, by decide +kernel, by decide +kernel, rfl, by decide, gX12, gd (List.mem_of_getElem? (i := 1559) (by decide +kernel)) rfl⟩
theorem sr_117_60 : srF 117 60 = 160 := by decide +kernel
theorem kc_158 : 158 < KC := by decide +kernel
theorem sk_158 : skF 158 = (0, 7) := by decide +kernel
theorem ap_X12_475_117 : AFp RX12 475 117 59 .int := ⟨12, 101, RX12, TX12, tyX12, by decide +kernel, by decide +kernel, rfl, by decide, gX12, gd (List.mem_of_getElem? (i := 1558) (by decide +kernel)) rfl, tyX12_ok, nmX12, by decide +kernel, by decide +kernel⟩
theorem af_X12_145_117 : AF RX12 145 117 61 := ⟨12, 101, RX12, TX12, by decide +kernel, by decide +kernel, rfl, by decide, gX12, gd (List.mem_of_getElem? (i := 1560) (by decide +kernel)) rfl⟩
theorem sr_117_61 : srF 117 61 = 161 := by decide +kernel
theorem kc_159 : 159 < KC := by decide +kernel
theorem sk_159 : skF 159 = (0, 7) := by decide +kernel
theorem ap_X12_481_117 : AFp RX12 481 117 64 .int := ⟨12, 101, RX12, TX12, tyX12, by decide +kernel, by decide +kernel, rfl, by decide, gX12, gd (List.mem_of_getElem? (i := 1563) (by decide +kernel)) rfl, tyX12_ok, nmX12, by decide +kernel, by decide +kernel⟩
theorem sr_117_64 : srF 117 64 = 0 := by decide +kernel
theorem af_X12_148_117 : AF RX12 148 117 62 := ⟨12, 101, RX12, TX12, by decide +kernel, by decide +kernel, rfl, by decide, gX12, gd (List.mem_of_getElem? (i := 1561) (by decide +kernel)) rfl⟩
theorem sr_117_62 : srF 117 62 = 162 := by decide +kernel
theorem kc_160 : 160 < KC := by decide +kernel
theorem sk_160 : skF 160 = (0, 7) := by decide +kernel
theorem cq_X12_478 : CQ RX12 478 yX12_waits cX12_waits 6 (some .int) 0 := ⟨gd (List.mem_of_getElem? (i := 2097) (by decide +kernel)) rfl, gd (List.mem_of_getElem? (i := 124) (by decide +kernel)) rfl, gd (List.mem_of_getElem? (i := 2100) (by decide +kernel)) rfl, by decide +kernel, by decide⟩
theorem cr_117_X12_waits : CR 117 yX12_waits := ⟨by decide +kernel, 12, 101, TX12, by decide +kernel, rfl, gd (List.mem_of_getElem? (i := 2099) (by decide +kernel)) rfl, gd (List.mem_of_getElem? (i := 90) (by decide +kernel)) rfl⟩
theorem af_X12_481_117 : AF RX12 481 117 64 := ⟨12, 101, RX12, TX12, by decide +kernel, by decide +kernel, rfl, by decide, gX12, gd (List.mem_of_getElem? (i := 1563) (by decide +kernel)) rfl⟩
theorem cq_X12_484 : CQ RX12 484 yX12_orders cX12_orders 5 none 2 := ⟨gd (List.mem_of_getElem? (i := 2093) (by decide +kernel)) rfl, gd (List.mem_of_getElem? (i := 124) (by decide +kernel)) rfl, gd (List.mem_of_getElem? (i := 2096) (by decide +kernel)) rfl, by decide +kernel, by decide⟩
theorem cr_117_X12_orders : CR 117 yX12_orders := ⟨by decide +kernel, 12, 101, TX12, by decide +kernel, rfl, gd (List.mem_of_getElem? (i := 2095) (by decide +kernel)) rfl, gd (List.mem_of_getElem? (i := 89) (by decide +kernel)) rfl⟩
theorem af_X12_151_117 : AF RX12 151 117 63 := ⟨12, 101, RX12, TX12, by decide +kernel, by decide +kernel, rfl, by decide, gX12, gd (List.mem_of_getElem? (i := 1562) (by decide +kernel)) rfl⟩
theorem sr_117_63 : srF 117 63 = 163 := by decide +kernel
theorem kc_161 : 161 < KC := by decide +kernel
theorem sk_161 : skF 161 = (0, 7) := by decide +kernel
theorem cq_X12_487 : CQ RX12 487 yX12_asTheyCome cX12_asTheyCome 2 none 0 := ⟨gd (List.mem_of_getElem? (i := 2101) (by decide +kernel)) rfl, gd (List.mem_of_getElem? (i := 124) (by decide +kernel)) rfl, gd (List.mem_of_getElem? (i := 2104) (by decide +kernel)) rfl, by decide +kernel, by decide⟩
theorem cr_117_X12_asTheyCome : CR 117 yX12_asTheyCome := ⟨by decide +kernel, 12, 101, TX12, by decide +kernel, rfl, gd (List.mem_of_getElem? (i := 2103) (by decide +kernel)) rfl, gd (List.mem_of_getElem? (i := 91) (by decide +kernel)) rfl⟩
theorem cq_X12_490 : CQ RX12 490 yX12_lockfuls cX12_lockfuls 3 (some .int) 0 := ⟨gd (List.mem_of_getElem? (i := 2105) (by decide +kernel)) rfl, gd (List.mem_of_getElem? (i := 124) (by decide +kernel)) rfl, gd (List.mem_of_getElem? (i := 2108) (by decide +kernel)) rfl, by decide +kernel, by decide⟩
theorem cr_117_X12_lockfuls : CR 117 yX12_lockfuls := ⟨by decide +kernel, 12, 101, TX12, by decide +kernel, rfl, gd (List.mem_of_getElem? (i := 2107) (by decide +kernel)) rfl, gd (List.mem_of_getElem? (i := 92) (by decide +kernel)) rfl⟩
theorem af_X12_493_117 : AF RX12 493 117 65 := ⟨12, 101, RX12, TX12, by decide +kernel, by decide +kernel, rfl, by decide, gX12, gd (List.mem_of_getElem? (i := 1564) (by decide +kernel)) rfl⟩
theorem sr_117_65 : srF 117 65 = 0 := by decide +kernel
theorem af_X12_154_117 : AF RX12 154 117 68 := ⟨12, 101, RX12, TX12, by decide +kernel, by decide +kernel, rfl, by decide, gX12, gd (List.mem_of_getElem? (i := 1567) (by decide +kernel)) rfl⟩
theorem sr_117_68 : srF 117 68 = 164 := by decide +kernel
theorem kc_162 : 162 < KC := by decide +kernel
theorem sk_162 : skF 162 = (0, 8) := by decide +kernel
theorem af_X12_157_117 : AF RX12 157 117 69 := ⟨12, 101, RX12, TX12, by decide +kernel, by decide +kernel, rfl, by decide, gX12, gd (List.mem_of_getElem? (i := 1568) (by decide +kernel)) rfl⟩
theorem sr_117_69 : srF 117 69 = 165 := by decide +kernel
theorem kc_163 : 163 < KC := by decide +kernel
theorem sk_163 : skF 163 = (0, 8) := by decide +kernel
theorem af_X12_160_117 : AF RX12 160 117 70 := ⟨12, 101, RX12, TX12, by decide +kernel, by decide +kernel, rfl, by decide, gX12, gd (List.mem_of_getElem? (i := 1569) (by decide +kernel)) rfl⟩
theorem sr_117_70 : srF 117 70 = 166 := by decide +kernel
theorem kc_164 : 164 < KC := by decide +kernel
theorem sk_164 : skF 164 = (0, 8) := by decide +kernel
theorem af_X12_163_117 : AF RX12 163 117 71 := ⟨12, 101, RX12, TX12, by decide +kernel, by decide +kernel, rfl, by decide, gX12, gd (List.mem_of_getElem? (i := 1570) (by decide +kernel)) rfl⟩
theorem sr_117_71 : srF 117 71 = 167 := by decide +kernel
theorem kc_165 : 165 < KC := by decide +kernel
theorem sk_165 : skF 165 = (0, 8) := by decide +kernel
theorem ap_X12_493_117 : AFp RX12 493 117 65 .int := ⟨12, 101, RX12, TX12, tyX12, by decide +kernel, by decide +kernel, rfl, by decide, gX12, gd (List.mem_of_getElem? (i := 1564) (by decide +kernel)) rfl, tyX12_ok, nmX12, by decide +kernel, by decide +kernel⟩
theorem af_X12_181_117 : AF RX12 181 117 77 := ⟨12, 101, RX12, TX12, by decide +kernel, by decide +kernel, rfl, by decide, gX12, gd (List.mem_of_getElem? (i := 1576) (by decide +kernel)) rfl⟩
theorem sr_117_77 : srF 117 77 = 173 := by decide +kernel
theorem kc_171 : 171 < KC := by decide +kernel
theorem sk_171 : skF 171 = (0, 4) := by decide +kernel
theorem af_X12_184_117 : AF RX12 184 117 78 := ⟨12, 101, RX12, TX12, by decide +kernel, by decide +kernel, rfl, by decide, gX12, gd (List.mem_of_getElem? (i := 1577) (by decide +kernel)) rfl⟩
theorem sr_117_78 : srF 117 78 = 174 := by decide +kernel
theorem kc_172 : 172 < KC := by decide +kernel
theorem sk_172 : skF 172 = (0, 4) := by decide +kernel
theorem cq_X12_505 : CQ RX12 505 yX12_asks cX12_asks 3 none 1 := ⟨gd (List.mem_of_getElem? (i := 2117) (by decide +kernel)) rfl, gd (List.mem_of_getElem? (i := 124) (by decide +kernel)) rfl, gd (List.mem_of_getElem? (i := 2120) (by decide +kernel)) rfl, by decide +kernel, by decide⟩
theorem cr_117_X12_asks : CR 117 yX12_asks := ⟨by decide +kernel, 12, 101, TX12, by decide +kernel, rfl, gd (List.mem_of_getElem? (i := 2119) (by decide +kernel)) rfl, gd (List.mem_of_getElem? (i := 93) (by decide +kernel)) rfl⟩
theorem af_X12_166_117 : AF RX12 166 117 72 := ⟨12, 101, RX12, TX12, by decide +kernel, by decide +kernel, rfl, by decide, gX12, gd (List.mem_of_getElem? (i := 1571) (by decide +kernel)) rfl⟩
theorem sr_117_72 : srF 117 72 = 168 := by decide +kernel
theorem kc_166 : 166 < KC := by decide +kernel
theorem sk_166 : skF 166 = (0, 8) := by decide +kernel
theorem cq_X12_512 : CQ RX12 512 yX12_sorts cX12_sorts 3 none 0 := ⟨gd (List.mem_of_getElem? (i := 2125) (by decide +kernel)) rfl, gd (List.mem_of_getElem? (i := 124) (by decide +kernel)) rfl, gd (List.mem_of_getElem? (i := 2128) (by decide +kernel)) rfl, by decide +kernel, by decide⟩
theorem cr_117_X12_sorts : CR 117 yX12_sorts := ⟨by decide +kernel, 12, 101, TX12, by decide +kernel, rfl, gd (List.mem_of_getElem? (i := 2127) (by decide +kernel)) rfl, gd (List.mem_of_getElem? (i := 95) (by decide +kernel)) rfl⟩
theorem af_X12_175_117 : AF RX12 175 117 75 := ⟨12, 101, RX12, TX12, by decide +kernel, by decide +kernel, rfl, by decide, gX12, gd (List.mem_of_getElem? (i := 1574) (by decide +kernel)) rfl⟩
theorem sr_117_75 : srF 117 75 = 171 := by decide +kernel
theorem kc_169 : 169 < KC := by decide +kernel
theorem sk_169 : skF 169 = (0, 4) := by decide +kernel
theorem af_X12_178_117 : AF RX12 178 117 76 := ⟨12, 101, RX12, TX12, by decide +kernel, by decide +kernel, rfl, by decide, gX12, gd (List.mem_of_getElem? (i := 1575) (by decide +kernel)) rfl⟩
theorem sr_117_76 : srF 117 76 = 172 := by decide +kernel
theorem kc_170 : 170 < KC := by decide +kernel
theorem sk_170 : skF 170 = (0, 4) := by decide +kernel
theorem ap_X12_496_117 : AFp RX12 496 117 66 .int := ⟨12, 101, RX12, TX12, tyX12, by decide +kernel, by decide +kernel, rfl, by decide, gX12, gd (List.mem_of_getElem? (i := 1565) (by decide +kernel)) rfl, tyX12_ok, nmX12, by decide +kernel, by decide +kernel⟩
theorem sr_117_66 : srF 117 66 = 0 := by decide +kernel
theorem ap_X12_499_117 : AFp RX12 499 117 67 .int := ⟨12, 101, RX12, TX12, tyX12, by decide +kernel, by decide +kernel, rfl, by decide, gX12, gd (List.mem_of_getElem? (i := 1566) (by decide +kernel)) rfl, tyX12_ok, nmX12, by decide +kernel, by decide +kernel⟩
theorem sr_117_67 : srF 117 67 = 0 := by decide +kernel
theorem af_X12_169_117 : AF RX12 169 117 73 := ⟨12, 101, RX12, TX12, by decide +kernel, by decide +kernel, rfl, by decide, gX12, gd (List.mem_of_getElem? (i := 1572) (by decide +kernel)) rfl⟩
theorem sr_117_73 : srF 117 73 = 169 := by decide +kernel
theorem kc_167 : 167 < KC := by decide +kernel
theorem sk_167 : skF 167 = (0, 8) := by decide +kernel
theorem cq_X12_502 : CQ RX12 502 yX12_gives cX12_gives 8 none 3 := ⟨gd (List.mem_of_getElem? (i := 2129) (by decide +kernel)) rfl, gd (List.mem_of_getElem? (i := 124) (by decide +kernel)) rfl, gd (List.mem_of_getElem? (i := 2132) (by decide +kernel)) rfl, by decide +kernel, by decide⟩
theorem cr_117_X12_gives : CR 117 yX12_gives := ⟨by decide +kernel, 12, 101, TX12, by decide +kernel, rfl, gd (List.mem_of_getElem? (i := 2131) (by decide +kernel)) rfl, gd (List.mem_of_getElem? (i := 96) (by decide +kernel)) rfl⟩
theorem af_X12_496_117 : AF RX12 496 117 66 := ⟨12, 101, RX12, TX12, by decide +kernel, by decide +kernel, rfl, by decide, gX12, gd (List.mem_of_getElem? (i := 1565) (by decide +kernel)) rfl⟩
theorem af_X12_499_117 : AF RX12 499 117 67 := ⟨12, 101, RX12, TX12, by decide +kernel, by decide +kernel, rfl, by decide, gX12, gd (List.mem_of_getElem? (i := 1566) (by decide +kernel)) rfl⟩
theorem af_X12_172_117 : AF RX12 172 117 74 := ⟨12, 101, RX12, TX12, by decide +kernel, by decide +kernel, rfl, by decide, gX12, gd (List.mem_of_getElem? (i := 1573) (by decide +kernel)) rfl⟩
theorem sr_117_74 : srF 117 74 = 170 := by decide +kernel
theorem kc_168 : 168 < KC := by decide +kernel
theorem sk_168 : skF 168 = (0, 8) := by decide +kernel
theorem cq_X12_509 : CQ RX12 509 yX12_givesBest cX12_givesBest 3 none 1 := ⟨gd (List.mem_of_getElem? (i := 2121) (by decide +kernel)) rfl, gd (List.mem_of_getElem? (i := 124) (by decide +kernel)) rfl, gd (List.mem_of_getElem? (i := 2124) (by decide +kernel)) rfl, by decide +kernel, by decide⟩
theorem cr_117_X12_givesBest : CR 117 yX12_givesBest := ⟨by decide +kernel, 12, 101, TX12, by decide +kernel, rfl, gd (List.mem_of_getElem? (i := 2123) (by decide +kernel)) rfl, gd (List.mem_of_getElem? (i := 94) (by decide +kernel)) rfl⟩
theorem af_X12_190_117 : AF RX12 190 117 80 := ⟨12, 101, RX12, TX12, by decide +kernel, by decide +kernel, rfl, by decide, gX12, gd (List.mem_of_getElem? (i := 1579) (by decide +kernel)) rfl⟩
theorem sr_117_80 : srF 117 80 = 176 := by decide +kernel
theorem kc_174 : 174 < KC := by decide +kernel
theorem sk_174 : skF 174 = (0, 10) := by decide +kernel
theorem af_X12_187_117 : AF RX12 187 117 79 := ⟨12, 101, RX12, TX12, by decide +kernel, by decide +kernel, rfl, by decide, gX12, gd (List.mem_of_getElem? (i := 1578) (by decide +kernel)) rfl⟩
theorem sr_117_79 : srF 117 79 = 175 := by decide +kernel
theorem kc_173 : 173 < KC := by decide +kernel
theorem sk_173 : skF 173 = (0, 10) := by decide +kernel
theorem ap_X12_515_117 : AFp RX12 515 117 84 .int := ⟨12, 101, RX12, TX12, tyX12, by decide +kernel, by decide +kernel, rfl, by decide, gX12, gd (List.mem_of_getElem? (i := 1583) (by decide +kernel)) rfl, tyX12_ok, nmX12, by decide +kernel, by decide +kernel⟩
theorem sr_117_84 : srF 117 84 = 0 := by decide +kernel
theorem af_X12_193_117 : AF RX12 193 117 81 := ⟨12, 101, RX12, TX12, by decide +kernel, by decide +kernel, rfl, by decide, gX12, gd (List.mem_of_getElem? (i := 1580) (by decide +kernel)) rfl⟩
theorem sr_117_81 : srF 117 81 = 177 := by decide +kernel
theorem af_X12_515_117 : AF RX12 515 117 84 := ⟨12, 101, RX12, TX12, by decide +kernel, by decide +kernel, rfl, by decide, gX12, gd (List.mem_of_getElem? (i := 1583) (by decide +kernel)) rfl⟩
theorem kc_175 : 175 < KC := by decide +kernel
theorem sk_175 : skF 175 = (0, 7) := by decide +kernel
theorem ap_X12_518_117 : AFp RX12 518 117 85 .int := ⟨12, 101, RX12, TX12, tyX12, by decide +kernel, by decide +kernel, rfl, by decide, gX12, gd (List.mem_of_getElem? (i := 1584) (by decide +kernel)) rfl, tyX12_ok, nmX12, by decide +kernel, by decide +kernel⟩
theorem sr_117_85 : srF 117 85 = 0 := by decide +kernel
theorem af_X12_518_117 : AF RX12 518 117 85 := ⟨12, 101, RX12, TX12, by decide +kernel, by decide +kernel, rfl, by decide, gX12, gd (List.mem_of_getElem? (i := 1584) (by decide +kernel)) rfl⟩
theorem af_X12_521_117 : AF RX12 521 117 86 := ⟨12, 101, RX12, TX12, by decide +kernel, by decide +kernel, rfl, by decide, gX12, gd (List.mem_of_getElem? (i := 1585) (by decide +kernel)) rfl⟩
theorem sr_117_86 : srF 117 86 = 0 := by decide +kernel
theorem af_X12_196_117 : AF RX12 196 117 82 := ⟨12, 101, RX12, TX12, by decide +kernel, by decide +kernel, rfl, by decide, gX12, gd (List.mem_of_getElem? (i := 1581) (by decide +kernel)) rfl⟩
theorem sr_117_82 : srF 117 82 = 178 := by decide +kernel
theorem kc_176 : 176 < KC := by decide +kernel
theorem sk_176 : skF 176 = (0, 7) := by decide +kernel
theorem cq_X12_524 : CQ RX12 524 yX12_docksOn cX12_docksOn 9 none 5 := ⟨gd (List.mem_of_getElem? (i := 2145) (by decide +kernel)) rfl, gd (List.mem_of_getElem? (i := 124) (by decide +kernel)) rfl, gd (List.mem_of_getElem? (i := 2148) (by decide +kernel)) rfl, by decide +kernel, by decide⟩
theorem cr_117_X12_docksOn : CR 117 yX12_docksOn := ⟨by decide +kernel, 12, 101, TX12, by decide +kernel, rfl, gd (List.mem_of_getElem? (i := 2147) (by decide +kernel)) rfl, gd (List.mem_of_getElem? (i := 97) (by decide +kernel)) rfl⟩
theorem ap_X12_521_117 : AFp RX12 521 117 86 .int := ⟨12, 101, RX12, TX12, tyX12, by decide +kernel, by decide +kernel, rfl, by decide, gX12, gd (List.mem_of_getElem? (i := 1585) (by decide +kernel)) rfl, tyX12_ok, nmX12, by decide +kernel, by decide +kernel⟩
theorem af_X12_199_117 : AF RX12 199 117 83 := ⟨12, 101, RX12, TX12, by decide +kernel, by decide +kernel, rfl, by decide, gX12, gd (List.mem_of_getElem? (i := 1582) (by decide +kernel)) rfl⟩
theorem sr_117_83 : srF 117 83 = 179 := by decide +kernel
theorem kc_177 : 177 < KC := by decide +kernel
theorem sk_177 : skF 177 = (0, 7) := by decide +kernel
theorem af_X12_528_117 : AF RX12 528 117 87 := ⟨12, 101, RX12, TX12, by decide +kernel, by decide +kernel, rfl, by decide, gX12, gd (List.mem_of_getElem? (i := 1586) (by decide +kernel)) rfl⟩
theorem sr_117_87 : srF 117 87 = 0 := by decide +kernel
theorem af_X12_202_117 : AF RX12 202 117 88 := ⟨12, 101, RX12, TX12, by decide +kernel, by decide +kernel, rfl, by decide, gX12, gd (List.mem_of_getElem? (i := 1587) (by decide +kernel)) rfl⟩
theorem sr_117_88 : srF 117 88 = 180 := by decide +kernel
theorem kc_178 : 178 < KC := by decide +kernel
theorem sk_178 : skF 178 = (0, 8) := by decide +kernel
theorem ap_X12_528_117 : AFp RX12 528 117 87 .int := ⟨12, 101, RX12, TX12, tyX12, by decide +kernel, by decide +kernel, rfl, by decide, gX12, gd (List.mem_of_getElem? (i := 1586) (by decide +kernel)) rfl, tyX12_ok, nmX12, by decide +kernel, by decide +kernel⟩
theorem ap_X12_531_117 : AFp RX12 531 117 90 .int := ⟨12, 101, RX12, TX12, tyX12, by decide +kernel, by decide +kernel, rfl, by decide, gX12, gd (List.mem_of_getElem? (i := 1589) (by decide +kernel)) rfl, tyX12_ok, nmX12, by decide +kernel, by decide +kernel⟩
theorem sr_117_90 : srF 117 90 = 0 := by decide +kernel
theorem af_X12_205_117 : AF RX12 205 117 89 := ⟨12, 101, RX12, TX12, by decide +kernel, by decide +kernel, rfl, by decide, gX12, gd (List.mem_of_getElem? (i := 1588) (by decide +kernel)) rfl⟩
theorem sr_117_89 : srF 117 89 = 181 := by decide +kernel
theorem kc_179 : 179 < KC := by decide +kernel
theorem sk_179 : skF 179 = (0, 3) := by decide +kernel
theorem cq_X12_534 : CQ RX12 534 yX12_lastEnd cX12_lastEnd 4 (some .int) 1 := ⟨gd (List.mem_of_getElem? (i := 2161) (by decide +kernel)) rfl, gd (List.mem_of_getElem? (i := 124) (by decide +kernel)) rfl, gd (List.mem_of_getElem? (i := 2164) (by decide +kernel)) rfl, by decide +kernel, by decide⟩
theorem cr_117_X12_lastEnd : CR 117 yX12_lastEnd := ⟨by decide +kernel, 12, 101, TX12, by decide +kernel, rfl, gd (List.mem_of_getElem? (i := 2163) (by decide +kernel)) rfl, gd (List.mem_of_getElem? (i := 99) (by decide +kernel)) rfl⟩
theorem af_X12_531_117 : AF RX12 531 117 90 := ⟨12, 101, RX12, TX12, by decide +kernel, by decide +kernel, rfl, by decide, gX12, gd (List.mem_of_getElem? (i := 1589) (by decide +kernel)) rfl⟩
theorem cq_X12_537 : CQ RX12 537 yX12_worked cX12_worked 5 (some .int) 1 := ⟨gd (List.mem_of_getElem? (i := 2157) (by decide +kernel)) rfl, gd (List.mem_of_getElem? (i := 124) (by decide +kernel)) rfl, gd (List.mem_of_getElem? (i := 2160) (by decide +kernel)) rfl, by decide +kernel, by decide⟩
theorem cr_117_X12_worked : CR 117 yX12_worked := ⟨by decide +kernel, 12, 101, TX12, by decide +kernel, rfl, gd (List.mem_of_getElem? (i := 2159) (by decide +kernel)) rfl, gd (List.mem_of_getElem? (i := 98) (by decide +kernel)) rfl⟩
theorem cq_X12_540 : CQ RX12 540 yX12_handOf cX12_handOf 6 (some .int) 3 := ⟨gd (List.mem_of_getElem? (i := 2165) (by decide +kernel)) rfl, gd (List.mem_of_getElem? (i := 124) (by decide +kernel)) rfl, gd (List.mem_of_getElem? (i := 2168) (by decide +kernel)) rfl, by decide +kernel, by decide⟩
theorem cr_117_X12_handOf : CR 117 yX12_handOf := ⟨by decide +kernel, 12, 101, TX12, by decide +kernel, rfl, gd (List.mem_of_getElem? (i := 2167) (by decide +kernel)) rfl, gd (List.mem_of_getElem? (i := 100) (by decide +kernel)) rfl⟩
theorem af_X12_208_117 : AF RX12 208 117 91 := ⟨12, 101, RX12, TX12, by decide +kernel, by decide +kernel, rfl, by decide, gX12, gd (List.mem_of_getElem? (i := 1590) (by decide +kernel)) rfl⟩
theorem sr_117_91 : srF 117 91 = 182 := by decide +kernel
theorem kc_180 : 180 < KC := by decide +kernel
theorem sk_180 : skF 180 = (0, 16) := by decide +kernel
theorem cq_X12_543 : CQ RX12 543 yX12_drive cX12_drive 5 (some .int) 2 := ⟨gd (List.mem_of_getElem? (i := 2181) (by decide +kernel)) rfl, gd (List.mem_of_getElem? (i := 124) (by decide +kernel)) rfl, gd (List.mem_of_getElem? (i := 2184) (by decide +kernel)) rfl, by decide +kernel, by decide⟩
theorem cr_117_X12_drive : CR 117 yX12_drive := ⟨by decide +kernel, 12, 101, TX12, by decide +kernel, rfl, gd (List.mem_of_getElem? (i := 2183) (by decide +kernel)) rfl, gd (List.mem_of_getElem? (i := 102) (by decide +kernel)) rfl⟩
theorem cq_X12_549 : CQ RX12 549 yX12_worstOf cX12_worstOf 4 (some .int) 1 := ⟨gd (List.mem_of_getElem? (i := 2185) (by decide +kernel)) rfl, gd (List.mem_of_getElem? (i := 124) (by decide +kernel)) rfl, gd (List.mem_of_getElem? (i := 2188) (by decide +kernel)) rfl, by decide +kernel, by decide⟩
theorem cr_117_X12_worstOf : CR 117 yX12_worstOf := ⟨by decide +kernel, 12, 101, TX12, by decide +kernel, rfl, gd (List.mem_of_getElem? (i := 2187) (by decide +kernel)) rfl, gd (List.mem_of_getElem? (i := 103) (by decide +kernel)) rfl⟩
theorem cq_X12_546 : CQ RX12 546 yX12_sumOf cX12_sumOf 4 (some .int) 1 := ⟨gd (List.mem_of_getElem? (i := 2177) (by decide +kernel)) rfl, gd (List.mem_of_getElem? (i := 124) (by decide +kernel)) rfl, gd (List.mem_of_getElem? (i := 2180) (by decide +kernel)) rfl, by decide +kernel, by decide⟩
theorem cr_117_X12_sumOf : CR 117 yX12_sumOf := ⟨by decide +kernel, 12, 101, TX12, by decide +kernel, rfl, gd (List.mem_of_getElem? (i := 2179) (by decide +kernel)) rfl, gd (List.mem_of_getElem? (i := 101) (by decide +kernel)) rfl⟩
theorem cq_X12_552 : CQ RX12 552 yX12_nearer cX12_nearer 4 (some .int) 3 := ⟨gd (List.mem_of_getElem? (i := 2193) (by decide +kernel)) rfl, gd (List.mem_of_getElem? (i := 124) (by decide +kernel)) rfl, gd (List.mem_of_getElem? (i := 2196) (by decide +kernel)) rfl, by decide +kernel, by decide⟩
theorem cr_117_X12_nearer : CR 117 yX12_nearer := ⟨by decide +kernel, 12, 101, TX12, by decide +kernel, rfl, gd (List.mem_of_getElem? (i := 2195) (by decide +kernel)) rfl, gd (List.mem_of_getElem? (i := 104) (by decide +kernel)) rfl⟩
theorem af_X12_555_117 : AF RX12 555 117 92 := ⟨12, 101, RX12, TX12, by decide +kernel, by decide +kernel, rfl, by decide, gX12, gd (List.mem_of_getElem? (i := 1591) (by decide +kernel)) rfl⟩
theorem sr_117_92 : srF 117 92 = 0 := by decide +kernel
theorem af_X12_211_117 : AF RX12 211 117 93 := ⟨12, 101, RX12, TX12, by decide +kernel, by decide +kernel, rfl, by decide, gX12, gd (List.mem_of_getElem? (i := 1592) (by decide +kernel)) rfl⟩
theorem sr_117_93 : srF 117 93 = 183 := by decide +kernel
theorem kc_181 : 181 < KC := by decide +kernel
theorem sk_181 : skF 181 = (0, 12) := by decide +kernel
theorem ap_X12_555_117 : AFp RX12 555 117 92 .int := ⟨12, 101, RX12, TX12, tyX12, by decide +kernel, by decide +kernel, rfl, by decide, gX12, gd (List.mem_of_getElem? (i := 1591) (by decide +kernel)) rfl, tyX12_ok, nmX12, by decide +kernel, by decide +kernel⟩
theorem af_X12_214_117 : AF RX12 214 117 94 := ⟨12, 101, RX12, TX12, by decide +kernel, by decide +kernel, rfl, by decide, gX12, gd (List.mem_of_getElem? (i := 1593) (by decide +kernel)) rfl⟩
theorem sr_117_94 : srF 117 94 = 184 := by decide +kernel
theorem kc_182 : 182 < KC := by decide +kernel
theorem sk_182 : skF 182 = (0, 12) := by decide +kernel
theorem af_X12_217_117 : AF RX12 217 117 95 := ⟨12, 101, RX12, TX12, by decide +kernel, by decide +kernel, rfl, by decide, gX12, gd (List.mem_of_getElem? (i := 1594) (by decide +kernel)) rfl⟩
theorem sr_117_95 : srF 117 95 = 185 := by decide +kernel
theorem kc_183 : 183 < KC := by decide +kernel
theorem sk_183 : skF 183 = (0, 12) := by decide +kernel
theorem af_X12_220_117 : AF RX12 220 117 96 := ⟨12, 101, RX12, TX12, by decide +kernel, by decide +kernel, rfl, by decide, gX12, gd (List.mem_of_getElem? (i := 1595) (by decide +kernel)) rfl⟩
theorem sr_117_96 : srF 117 96 = 186 := by decide +kernel
theorem kc_184 : 184 < KC := by decide +kernel
theorem sk_184 : skF 184 = (0, 2) := by decide +kernel
theorem af_X12_223_117 : AF RX12 223 117 97 := ⟨12, 101, RX12, TX12, by decide +kernel, by decide +kernel, rfl, by decide, gX12, gd (List.mem_of_getElem? (i := 1596) (by decide +kernel)) rfl⟩
theorem sr_117_97 : srF 117 97 = 187 := by decide +kernel
theorem kc_185 : 185 < KC := by decide +kernel
theorem sk_185 : skF 185 = (0, 2) := by decide +kernel
theorem cq_X12_558 : CQ RX12 558 yX12_arrives cX12_arrives 4 (some .int) 2 := ⟨gd (List.mem_of_getElem? (i := 2205) (by decide +kernel)) rfl, gd (List.mem_of_getElem? (i := 124) (by decide +kernel)) rfl, gd (List.mem_of_getElem? (i := 2208) (by decide +kernel)) rfl, by decide +kernel, by decide⟩
theorem cr_117_X12_arrives : CR 117 yX12_arrives := ⟨by decide +kernel, 12, 101, TX12, by decide +kernel, rfl, gd (List.mem_of_getElem? (i := 2207) (by decide +kernel)) rfl, gd (List.mem_of_getElem? (i := 105) (by decide +kernel)) rfl⟩
theorem cq_X12_567 : CQ RX12 567 yX12_canAsk cX12_canAsk 4 (some .boolean) 4 := ⟨gd (List.mem_of_getElem? (i := 2213) (by decide +kernel)) rfl, gd (List.mem_of_getElem? (i := 124) (by decide +kernel)) rfl, gd (List.mem_of_getElem? (i := 2215) (by decide +kernel)) rfl, by decide +kernel, by decide⟩
theorem st_X12_canAsk : Cond.static yX12_canAsk ∈ lw_gd := gd (List.mem_of_getElem? (i := 2214) (by decide +kernel)) rfl
theorem af_X12_226_117 : AF RX12 226 117 98 := ⟨12, 101, RX12, TX12, by decide +kernel, by decide +kernel, rfl, by decide, gX12, gd (List.mem_of_getElem? (i := 1597) (by decide +kernel)) rfl⟩
theorem sr_117_98 : srF 117 98 = 188 := by decide +kernel
theorem cw_X12_561 : Cond.constant RX12 561 (Int32.ofInt 1000000) ∈ lw_gd := gd (List.mem_of_getElem? (i := 2220) (by decide +kernel)) rfl
theorem kc_186 : 186 < KC := by decide +kernel
theorem sk_186 : skF 186 = (0, 1000) := by decide +kernel
theorem cq_X12_570 : CQ RX12 570 yX12_starts cX12_starts 2 none 0 := ⟨gd (List.mem_of_getElem? (i := 2216) (by decide +kernel)) rfl, gd (List.mem_of_getElem? (i := 124) (by decide +kernel)) rfl, gd (List.mem_of_getElem? (i := 2219) (by decide +kernel)) rfl, by decide +kernel, by decide⟩
theorem cr_117_X12_starts : CR 117 yX12_starts := ⟨by decide +kernel, 12, 101, TX12, by decide +kernel, rfl, gd (List.mem_of_getElem? (i := 2218) (by decide +kernel)) rfl, gd (List.mem_of_getElem? (i := 106) (by decide +kernel)) rfl⟩
theorem af_X12_229_117 : AF RX12 229 117 99 := ⟨12, 101, RX12, TX12, by decide +kernel, by decide +kernel, rfl, by decide, gX12, gd (List.mem_of_getElem? (i := 1598) (by decide +kernel)) rfl⟩
theorem sr_117_99 : srF 117 99 = 189 := by decide +kernel
theorem kc_187 : 187 < KC := by decide +kernel
theorem sk_187 : skF 187 = (0, 1000) := by decide +kernel
theorem cw_X12_562 : Cond.constantLong RX12 562 (Int64.ofInt 100) ∈ lw_gd := gd (List.mem_of_getElem? (i := 2225) (by decide +kernel)) rfl
theorem cq_X12_564 : CQ RX12 564 yX12_falls cX12_falls 5 none 3 := ⟨gd (List.mem_of_getElem? (i := 2226) (by decide +kernel)) rfl, gd (List.mem_of_getElem? (i := 124) (by decide +kernel)) rfl, gd (List.mem_of_getElem? (i := 2229) (by decide +kernel)) rfl, by decide +kernel, by decide⟩
theorem cr_117_X12_falls : CR 117 yX12_falls := ⟨by decide +kernel, 12, 101, TX12, by decide +kernel, rfl, gd (List.mem_of_getElem? (i := 2228) (by decide +kernel)) rfl, gd (List.mem_of_getElem? (i := 108) (by decide +kernel)) rfl⟩
theorem cq_X12_573 : CQ RX12 573 yX12_aDay cX12_aDay 8 none 4 := ⟨gd (List.mem_of_getElem? (i := 2221) (by decide +kernel)) rfl, gd (List.mem_of_getElem? (i := 124) (by decide +kernel)) rfl, gd (List.mem_of_getElem? (i := 2224) (by decide +kernel)) rfl, by decide +kernel, by decide⟩
theorem cr_117_X12_aDay : CR 117 yX12_aDay := ⟨by decide +kernel, 12, 101, TX12, by decide +kernel, rfl, gd (List.mem_of_getElem? (i := 2223) (by decide +kernel)) rfl, gd (List.mem_of_getElem? (i := 107) (by decide +kernel)) rfl⟩
theorem cq_X12_577 : CQ RX12 577 yX12_kept cX12_kept 3 (some .int) 0 := ⟨gd (List.mem_of_getElem? (i := 2230) (by decide +kernel)) rfl, gd (List.mem_of_getElem? (i := 124) (by decide +kernel)) rfl, gd (List.mem_of_getElem? (i := 2233) (by decide +kernel)) rfl, by decide +kernel, by decide⟩
theorem cr_117_X12_kept : CR 117 yX12_kept := ⟨by decide +kernel, 12, 101, TX12, by decide +kernel, rfl, gd (List.mem_of_getElem? (i := 2232) (by decide +kernel)) rfl, gd (List.mem_of_getElem? (i := 109) (by decide +kernel)) rfl⟩
theorem cw_X12_580 : Cond.constant RX12 580 (Int32.ofInt 500000) ∈ lw_gd := gd (List.mem_of_getElem? (i := 2238) (by decide +kernel)) rfl
theorem cq_X11_99 : CQ RX11 99 yX11_within cX11_within 3 (some .boolean) 3 := ⟨gd (List.mem_of_getElem? (i := 682) (by decide +kernel)) rfl, gd (List.mem_of_getElem? (i := 111) (by decide +kernel)) rfl, gd (List.mem_of_getElem? (i := 684) (by decide +kernel)) rfl, by decide +kernel, by decide⟩
theorem st_X11_within : Cond.static yX11_within ∈ lw_gd := gd (List.mem_of_getElem? (i := 683) (by decide +kernel)) rfl
theorem gX11 : ∀ w ∈ u_ws RX11 TX11 12, w ∈ lw_gd := gd_all inX11 (by decide +kernel)
theorem af_X11_12_0 : AF RX11 12 0 0 := ⟨11, 12, RX11, TX11, by decide +kernel, by decide +kernel, rfl, by decide, gX11, gd (List.mem_of_getElem? (i := 641) (by decide +kernel)) rfl⟩
theorem sr_0_0 : srF 0 0 = 3 := by decide +kernel
theorem gX2 : ∀ w ∈ u_ws RX2 TX2 7, w ∈ lw_gd := gd_all inX2 (by decide +kernel)
theorem af_X11_117_1 : AF RX11 117 1 0 := ⟨2, 7, RX2, TX2, by decide +kernel, by decide +kernel, rfl, by decide, gX2, gd (List.mem_of_getElem? (i := 152) (by decide +kernel)) rfl⟩
theorem sr_1_0 : srF 1 0 = 15 := by decide +kernel
theorem kc_13 : 13 < KC := by decide +kernel
theorem sk_13 : skF 13 = (0, 15) := by decide +kernel
theorem af_X11_121_1 : AF RX11 121 1 1 := ⟨2, 7, RX2, TX2, by decide +kernel, by decide +kernel, rfl, by decide, gX2, gd (List.mem_of_getElem? (i := 155) (by decide +kernel)) rfl⟩
theorem sr_1_1 : srF 1 1 = 16 := by decide +kernel
theorem kc_14 : 14 < KC := by decide +kernel
theorem sk_14 : skF 14 = (0, 15) := by decide +kernel
theorem af_X11_124_1 : AF RX11 124 1 2 := ⟨2, 7, RX2, TX2, by decide +kernel, by decide +kernel, rfl, by decide, gX2, gd (List.mem_of_getElem? (i := 158) (by decide +kernel)) rfl⟩
theorem sr_1_2 : srF 1 2 = 17 := by decide +kernel
theorem kc_15 : 15 < KC := by decide +kernel
theorem sk_15 : skF 15 = (0, 15) := by decide +kernel
theorem ap_X11_127_1 : AFp RX11 127 1 5 .int := ⟨2, 7, RX2, TX2, tyX2, by decide +kernel, by decide +kernel, rfl, by decide, gX2, gd (List.mem_of_getElem? (i := 165) (by decide +kernel)) rfl, tyX2_ok, nmX2, by decide +kernel, by decide +kernel⟩
theorem sr_1_5 : srF 1 5 = 0 := by decide +kernel
theorem af_X11_40_0 : AF RX11 40 0 4 := ⟨11, 12, RX11, TX11, by decide +kernel, by decide +kernel, rfl, by decide, gX11, gd (List.mem_of_getElem? (i := 645) (by decide +kernel)) rfl⟩
theorem sr_0_4 : srF 0 4 = 7 := by decide +kernel
theorem gX9 : ∀ w ∈ u_ws RX9 TX9 8, w ∈ lw_gd := gd_all inX9 (by decide +kernel)
theorem af_X9_28_5 : AF RX9 28 5 1 := ⟨9, 8, RX9, TX9, by decide +kernel, by decide +kernel, rfl, by decide, gX9, gd (List.mem_of_getElem? (i := 298) (by decide +kernel)) rfl⟩
theorem sr_5_1 : srF 5 1 = 4 := by decide +kernel
theorem af_X9_24_5 : AF RX9 24 5 0 := ⟨9, 8, RX9, TX9, by decide +kernel, by decide +kernel, rfl, by decide, gX9, gd (List.mem_of_getElem? (i := 297) (by decide +kernel)) rfl⟩
theorem sr_5_0 : srF 5 0 = 3 := by decide +kernel
theorem af_X9_38_1 : AF RX9 38 1 5 := ⟨2, 7, RX2, TX2, by decide +kernel, by decide +kernel, rfl, by decide, gX2, gd (List.mem_of_getElem? (i := 164) (by decide +kernel)) rfl⟩
theorem gX6 : ∀ w ∈ u_ws RX6 TX6 15, w ∈ lw_gd := gd_all inX6 (by decide +kernel)
theorem af_X6_42_2 : AF RX6 42 2 13 := ⟨6, 15, RX6, TX6, by decide +kernel, by decide +kernel, rfl, by decide, gX6, gd (List.mem_of_getElem? (i := 219) (by decide +kernel)) rfl⟩
theorem sr_2_13 : srF 2 13 = 29 := by decide +kernel
theorem kc_27 : 27 < KC := by decide +kernel
theorem sk_27 : skF 27 = (0, 9) := by decide +kernel
theorem cf_X6_58 : CQ RX6 58 ⟨"java/util/Arrays", "fill", "([II)V"⟩ cJ7_fill_53178 4 none 2 := ⟨gd (List.mem_of_getElem? (i := 697) (by decide +kernel)) rfl, gd (List.mem_of_getElem? (i := 113) (by decide +kernel)) rfl, gd (List.mem_of_getElem? (i := 149) (by decide +kernel)) rfl, by decide +kernel, by decide⟩
theorem st_fill : Cond.static ⟨"java/util/Arrays", "fill", "([II)V"⟩ ∈ lw_gd := gd (List.mem_of_getElem? (i := 148) (by decide +kernel)) rfl
theorem cq_X9_44 : CQ RX9 44 yX6_askDay cX6_askDay 3 none 2 := ⟨gd (List.mem_of_getElem? (i := 693) (by decide +kernel)) rfl, gd (List.mem_of_getElem? (i := 114) (by decide +kernel)) rfl, gd (List.mem_of_getElem? (i := 696) (by decide +kernel)) rfl, by decide +kernel, by decide⟩
theorem cr_2_X6_askDay : CR 2 yX6_askDay := ⟨by decide +kernel, 6, 15, TX6, by decide +kernel, rfl, gd (List.mem_of_getElem? (i := 694) (by decide +kernel)) rfl, gd (List.mem_of_getElem? (i := 695) (by decide +kernel)) rfl⟩
theorem af_X6_52_2 : AF RX6 52 2 3 := ⟨6, 15, RX6, TX6, by decide +kernel, by decide +kernel, rfl, by decide, gX6, gd (List.mem_of_getElem? (i := 195) (by decide +kernel)) rfl⟩
theorem sr_2_3 : srF 2 3 = 0 := by decide +kernel
theorem af_X6_18_2 : AF RX6 18 2 4 := ⟨6, 15, RX6, TX6, by decide +kernel, by decide +kernel, rfl, by decide, gX6, gd (List.mem_of_getElem? (i := 197) (by decide +kernel)) rfl⟩
theorem sr_2_4 : srF 2 4 = 21 := by decide +kernel
theorem kc_19 : 19 < KC := by decide +kernel
theorem sk_19 : skF 19 = (0, 16) := by decide +kernel
theorem af_X6_24_2 : AF RX6 24 2 6 := ⟨6, 15, RX6, TX6, by decide +kernel, by decide +kernel, rfl, by decide, gX6, gd (List.mem_of_getElem? (i := 201) (by decide +kernel)) rfl⟩
theorem sr_2_6 : srF 2 6 = 23 := by decide +kernel
theorem kc_21 : 21 < KC := by decide +kernel
theorem sk_21 : skF 21 = (0, 16) := by decide +kernel
theorem af_X6_27_2 : AF RX6 27 2 7 := ⟨6, 15, RX6, TX6, by decide +kernel, by decide +kernel, rfl, by decide, gX6, gd (List.mem_of_getElem? (i := 203) (by decide +kernel)) rfl⟩
theorem sr_2_7 : srF 2 7 = 24 := by decide +kernel
theorem kc_22 : 22 < KC := by decide +kernel
theorem sk_22 : skF 22 = (0, 16) := by decide +kernel
theorem af_X6_45_2 : AF RX6 45 2 14 := ⟨6, 15, RX6, TX6, by decide +kernel, by decide +kernel, rfl, by decide, gX6, gd (List.mem_of_getElem? (i := 221) (by decide +kernel)) rfl⟩
theorem sr_2_14 : srF 2 14 = 30 := by decide +kernel
theorem kc_28 : 28 < KC := by decide +kernel
theorem sk_28 : skF 28 = (0, 32) := by decide +kernel
theorem af_X6_9_2 : AF RX6 9 2 0 := ⟨6, 15, RX6, TX6, by decide +kernel, by decide +kernel, rfl, by decide, gX6, gd (List.mem_of_getElem? (i := 191) (by decide +kernel)) rfl⟩
theorem sr_2_0 : srF 2 0 = 19 := by decide +kernel
theorem kc_17 : 17 < KC := by decide +kernel
theorem sk_17 : skF 17 = (0, 500) := by decide +kernel
theorem cq_X6_90 : CQ RX6 90 yX6_both cX6_both 3 (some .int) 3 := ⟨gd (List.mem_of_getElem? (i := 714) (by decide +kernel)) rfl, gd (List.mem_of_getElem? (i := 114) (by decide +kernel)) rfl, gd (List.mem_of_getElem? (i := 716) (by decide +kernel)) rfl, by decide +kernel, by decide⟩
theorem st_X6_both : Cond.static yX6_both ∈ lw_gd := gd (List.mem_of_getElem? (i := 715) (by decide +kernel)) rfl
theorem af_X6_15_2 : AF RX6 15 2 1 := ⟨6, 15, RX6, TX6, by decide +kernel, by decide +kernel, rfl, by decide, gX6, gd (List.mem_of_getElem? (i := 192) (by decide +kernel)) rfl⟩
theorem sr_2_1 : srF 2 1 = 20 := by decide +kernel
theorem kc_18 : 18 < KC := by decide +kernel
theorem sk_18 : skF 18 = (0, 500) := by decide +kernel
theorem ns_X6_78 : (RX6, 78) ∈ nestL := by decide +kernel
theorem in_X11 : Cond.initialized "WeekBoats" ∈ lw_gd := gd (List.mem_of_getElem? (i := 111) (by decide +kernel)) rfl
theorem cd_X11_within : Cond.code yX11_within cX11_within 3 (some .boolean) ∈ lw_gd := gd (List.mem_of_getElem? (i := 684) (by decide +kernel)) rfl
theorem cq_X6_82 : CQ RX6 82 yX6_askedOf cX6_askedOf 2 (some .int) 1 := ⟨gd (List.mem_of_getElem? (i := 706) (by decide +kernel)) rfl, gd (List.mem_of_getElem? (i := 114) (by decide +kernel)) rfl, gd (List.mem_of_getElem? (i := 709) (by decide +kernel)) rfl, by decide +kernel, by decide⟩
theorem cr_2_X6_askedOf : CR 2 yX6_askedOf := ⟨by decide +kernel, 6, 15, TX6, by decide +kernel, rfl, gd (List.mem_of_getElem? (i := 708) (by decide +kernel)) rfl, gd (List.mem_of_getElem? (i := 1) (by decide +kernel)) rfl⟩
theorem cq_X6_86 : CQ RX6 86 yX6_alone cX6_alone 3 (some .int) 3 := ⟨gd (List.mem_of_getElem? (i := 711) (by decide +kernel)) rfl, gd (List.mem_of_getElem? (i := 114) (by decide +kernel)) rfl, gd (List.mem_of_getElem? (i := 713) (by decide +kernel)) rfl, by decide +kernel, by decide⟩
theorem st_X6_alone : Cond.static yX6_alone ∈ lw_gd := gd (List.mem_of_getElem? (i := 712) (by decide +kernel)) rfl
theorem cq_X6_74 : CQ RX6 74 yX6_run cX6_run 6 (some .int) 2 := ⟨gd (List.mem_of_getElem? (i := 702) (by decide +kernel)) rfl, gd (List.mem_of_getElem? (i := 114) (by decide +kernel)) rfl, gd (List.mem_of_getElem? (i := 705) (by decide +kernel)) rfl, by decide +kernel, by decide⟩
theorem cr_2_X6_run : CR 2 yX6_run := ⟨by decide +kernel, 6, 15, TX6, by decide +kernel, rfl, gd (List.mem_of_getElem? (i := 704) (by decide +kernel)) rfl, gd (List.mem_of_getElem? (i := 0) (by decide +kernel)) rfl⟩
theorem cq_X9_50 : CQ RX9 50 yX6_serving cX6_serving 3 (some .int) 1 := ⟨gd (List.mem_of_getElem? (i := 698) (by decide +kernel)) rfl, gd (List.mem_of_getElem? (i := 114) (by decide +kernel)) rfl, gd (List.mem_of_getElem? (i := 701) (by decide +kernel)) rfl, by decide +kernel, by decide⟩
theorem cr_2_X6_serving : CR 2 yX6_serving := ⟨by decide +kernel, 6, 15, TX6, by decide +kernel, rfl, gd (List.mem_of_getElem? (i := 699) (by decide +kernel)) rfl, gd (List.mem_of_getElem? (i := 700) (by decide +kernel)) rfl⟩
theorem af_X9_9_5 : AF RX9 9 5 2 := ⟨9, 8, RX9, TX9, by decide +kernel, by decide +kernel, rfl, by decide, gX9, gd (List.mem_of_getElem? (i := 299) (by decide +kernel)) rfl⟩
theorem sr_5_2 : srF 5 2 = 46 := by decide +kernel
theorem af_X9_54_2 : AF RX9 54 2 8 := ⟨6, 15, RX6, TX6, by decide +kernel, by decide +kernel, rfl, by decide, gX6, gd (List.mem_of_getElem? (i := 206) (by decide +kernel)) rfl⟩
theorem sr_2_8 : srF 2 8 = 25 := by decide +kernel
theorem kc_23 : 23 < KC := by decide +kernel
theorem sk_23 : skF 23 = (0, 16) := by decide +kernel
theorem kc_44 : 44 < KC := by decide +kernel
theorem sk_44 : skF 44 = (0, 14) := by decide +kernel
theorem af_X9_15_5 : AF RX9 15 5 3 := ⟨9, 8, RX9, TX9, by decide +kernel, by decide +kernel, rfl, by decide, gX9, gd (List.mem_of_getElem? (i := 301) (by decide +kernel)) rfl⟩
theorem sr_5_3 : srF 5 3 = 47 := by decide +kernel
theorem af_X9_57_2 : AF RX9 57 2 9 := ⟨6, 15, RX6, TX6, by decide +kernel, by decide +kernel, rfl, by decide, gX6, gd (List.mem_of_getElem? (i := 209) (by decide +kernel)) rfl⟩
theorem sr_2_9 : srF 2 9 = 26 := by decide +kernel
theorem kc_24 : 24 < KC := by decide +kernel
theorem sk_24 : skF 24 = (0, 16) := by decide +kernel
theorem kc_45 : 45 < KC := by decide +kernel
theorem sk_45 : skF 45 = (0, 14) := by decide +kernel
theorem cq_X11_130 : CQ RX11 130 yX9_learnHours cX9_learnHours 3 none 0 := ⟨gd (List.mem_of_getElem? (i := 689) (by decide +kernel)) rfl, gd (List.mem_of_getElem? (i := 116) (by decide +kernel)) rfl, gd (List.mem_of_getElem? (i := 692) (by decide +kernel)) rfl, by decide +kernel, by decide⟩
theorem cr_5_X9_learnHours : CR 5 yX9_learnHours := ⟨by decide +kernel, 9, 8, TX9, by decide +kernel, rfl, gd (List.mem_of_getElem? (i := 690) (by decide +kernel)) rfl, gd (List.mem_of_getElem? (i := 691) (by decide +kernel)) rfl⟩
theorem af_X11_136_1 : AF RX11 136 1 4 := ⟨2, 7, RX2, TX2, by decide +kernel, by decide +kernel, rfl, by decide, gX2, gd (List.mem_of_getElem? (i := 162) (by decide +kernel)) rfl⟩
theorem sr_1_4 : srF 1 4 = 0 := by decide +kernel
theorem af_X2_21_1 : AF RX2 21 1 3 := ⟨2, 7, RX2, TX2, by decide +kernel, by decide +kernel, rfl, by decide, gX2, gd (List.mem_of_getElem? (i := 159) (by decide +kernel)) rfl⟩
theorem sr_1_3 : srF 1 3 = 18 := by decide +kernel
theorem kc_16 : 16 < KC := by decide +kernel
theorem sk_16 : skF 16 = (0, 15) := by decide +kernel
theorem af_X2_34_1 : AF RX2 34 1 4 := ⟨2, 7, RX2, TX2, by decide +kernel, by decide +kernel, rfl, by decide, gX2, gd (List.mem_of_getElem? (i := 161) (by decide +kernel)) rfl⟩
theorem ap_X2_34_1 : AFp RX2 34 1 4 .int := ⟨2, 7, RX2, TX2, tyX2, by decide +kernel, by decide +kernel, rfl, by decide, gX2, gd (List.mem_of_getElem? (i := 161) (by decide +kernel)) rfl, tyX2_ok, nmX2, by decide +kernel, by decide +kernel⟩
theorem cq_X11_139 : CQ RX11 139 yX2_stop cX2_stop 5 none 3 := ⟨gd (List.mem_of_getElem? (i := 725) (by decide +kernel)) rfl, gd (List.mem_of_getElem? (i := 112) (by decide +kernel)) rfl, gd (List.mem_of_getElem? (i := 728) (by decide +kernel)) rfl, by decide +kernel, by decide⟩
theorem cr_1_X2_stop : CR 1 yX2_stop := ⟨by decide +kernel, 2, 7, TX2, by decide +kernel, rfl, gd (List.mem_of_getElem? (i := 726) (by decide +kernel)) rfl, gd (List.mem_of_getElem? (i := 727) (by decide +kernel)) rfl⟩
theorem cf_X2_28 : CQ RX2 28 ⟨"java/util/Arrays", "fill", "([II)V"⟩ cJ7_fill_53178 4 none 2 := ⟨gd (List.mem_of_getElem? (i := 147) (by decide +kernel)) rfl, gd (List.mem_of_getElem? (i := 113) (by decide +kernel)) rfl, gd (List.mem_of_getElem? (i := 149) (by decide +kernel)) rfl, by decide +kernel, by decide⟩
theorem cq_X11_133 : CQ RX11 133 yX2_reopen cX2_reopen 1 none 0 := ⟨gd (List.mem_of_getElem? (i := 721) (by decide +kernel)) rfl, gd (List.mem_of_getElem? (i := 112) (by decide +kernel)) rfl, gd (List.mem_of_getElem? (i := 724) (by decide +kernel)) rfl, by decide +kernel, by decide⟩
theorem cr_1_X2_reopen : CR 1 yX2_reopen := ⟨by decide +kernel, 2, 7, TX2, by decide +kernel, rfl, gd (List.mem_of_getElem? (i := 722) (by decide +kernel)) rfl, gd (List.mem_of_getElem? (i := 723) (by decide +kernel)) rfl⟩
theorem cq_X11_143 : CQ RX11 143 yX11_isBerths cX11_isBerths 1 (some .boolean) 1 := ⟨gd (List.mem_of_getElem? (i := 733) (by decide +kernel)) rfl, gd (List.mem_of_getElem? (i := 111) (by decide +kernel)) rfl, gd (List.mem_of_getElem? (i := 735) (by decide +kernel)) rfl, by decide +kernel, by decide⟩
theorem st_X11_isBerths : Cond.static yX11_isBerths ∈ lw_gd := gd (List.mem_of_getElem? (i := 734) (by decide +kernel)) rfl
theorem cq_X11_111 : CQ RX11 111 yX11_isPoint cX11_isPoint 1 (some .boolean) 1 := ⟨gd (List.mem_of_getElem? (i := 736) (by decide +kernel)) rfl, gd (List.mem_of_getElem? (i := 111) (by decide +kernel)) rfl, gd (List.mem_of_getElem? (i := 738) (by decide +kernel)) rfl, by decide +kernel, by decide⟩
theorem st_X11_isPoint : Cond.static yX11_isPoint ∈ lw_gd := gd (List.mem_of_getElem? (i := 737) (by decide +kernel)) rfl
theorem af_X11_49_0 : AF RX11 49 0 5 := ⟨11, 12, RX11, TX11, by decide +kernel, by decide +kernel, rfl, by decide, gX11, gd (List.mem_of_getElem? (i := 646) (by decide +kernel)) rfl⟩
theorem sr_0_5 : srF 0 5 = 8 := by decide +kernel
theorem gX0 : ∀ w ∈ u_ws RX0 TX0 12, w ∈ lw_gd := gd_all inX0 (by decide +kernel)
theorem af_X0_50_6 : AF RX0 50 6 7 := ⟨0, 12, RX0, TX0, by decide +kernel, by decide +kernel, rfl, by decide, gX0, gd (List.mem_of_getElem? (i := 345) (by decide +kernel)) rfl⟩
theorem sr_6_7 : srF 6 7 = 0 := by decide +kernel
theorem af_X0_9_6 : AF RX0 9 6 3 := ⟨0, 12, RX0, TX0, by decide +kernel, by decide +kernel, rfl, by decide, gX0, gd (List.mem_of_getElem? (i := 337) (by decide +kernel)) rfl⟩
theorem sr_6_3 : srF 6 3 = 50 := by decide +kernel
theorem kc_48 : 48 < KC := by decide +kernel
theorem sk_48 : skF 48 = (0, 10) := by decide +kernel
theorem af_X0_15_6 : AF RX0 15 6 4 := ⟨0, 12, RX0, TX0, by decide +kernel, by decide +kernel, rfl, by decide, gX0, gd (List.mem_of_getElem? (i := 339) (by decide +kernel)) rfl⟩
theorem sr_6_4 : srF 6 4 = 51 := by decide +kernel
theorem kc_49 : 49 < KC := by decide +kernel
theorem sk_49 : skF 49 = (0, 10) := by decide +kernel
theorem af_X0_18_6 : AF RX0 18 6 5 := ⟨0, 12, RX0, TX0, by decide +kernel, by decide +kernel, rfl, by decide, gX0, gd (List.mem_of_getElem? (i := 340) (by decide +kernel)) rfl⟩
theorem sr_6_5 : srF 6 5 = 52 := by decide +kernel
theorem kc_50 : 50 < KC := by decide +kernel
theorem sk_50 : skF 50 = (0, 10) := by decide +kernel
theorem af_X0_21_6 : AF RX0 21 6 6 := ⟨0, 12, RX0, TX0, by decide +kernel, by decide +kernel, rfl, by decide, gX0, gd (List.mem_of_getElem? (i := 342) (by decide +kernel)) rfl⟩
theorem sr_6_6 : srF 6 6 = 53 := by decide +kernel
theorem kc_51 : 51 < KC := by decide +kernel
theorem sk_51 : skF 51 = (0, 10) := by decide +kernel
theorem ap_X0_50_6 : AFp RX0 50 6 7 .int := ⟨0, 12, RX0, TX0, tyX0, by decide +kernel, by decide +kernel, rfl, by decide, gX0, gd (List.mem_of_getElem? (i := 345) (by decide +kernel)) rfl, tyX0_ok, nmX0, by decide +kernel, by decide +kernel⟩
theorem cq_X11_146 : CQ RX11 146 yX0_add cX0_add 5 (some .int) 4 := ⟨gd (List.mem_of_getElem? (i := 739) (by decide +kernel)) rfl, gd (List.mem_of_getElem? (i := 117) (by decide +kernel)) rfl, gd (List.mem_of_getElem? (i := 742) (by decide +kernel)) rfl, by decide +kernel, by decide⟩
theorem cr_6_X0_add : CR 6 yX0_add := ⟨by decide +kernel, 0, 12, TX0, by decide +kernel, rfl, gd (List.mem_of_getElem? (i := 740) (by decide +kernel)) rfl, gd (List.mem_of_getElem? (i := 741) (by decide +kernel)) rfl⟩
theorem af_X11_31_0 : AF RX11 31 0 3 := ⟨11, 12, RX11, TX11, by decide +kernel, by decide +kernel, rfl, by decide, gX11, gd (List.mem_of_getElem? (i := 644) (by decide +kernel)) rfl⟩
theorem sr_0_3 : srF 0 3 = 6 := by decide +kernel
theorem gX4 : ∀ w ∈ u_ws RX4 TX4 9, w ∈ lw_gd := gd_all inX4 (by decide +kernel)
theorem af_X11_150_4 : AF RX11 150 4 2 := ⟨4, 9, RX4, TX4, by decide +kernel, by decide +kernel, rfl, by decide, gX4, gd (List.mem_of_getElem? (i := 262) (by decide +kernel)) rfl⟩
theorem sr_4_2 : srF 4 2 = 0 := by decide +kernel
theorem af_X4_29_4 : AF RX4 29 4 2 := ⟨4, 9, RX4, TX4, by decide +kernel, by decide +kernel, rfl, by decide, gX4, gd (List.mem_of_getElem? (i := 261) (by decide +kernel)) rfl⟩
theorem af_X4_9_4 : AF RX4 9 4 1 := ⟨4, 9, RX4, TX4, by decide +kernel, by decide +kernel, rfl, by decide, gX4, gd (List.mem_of_getElem? (i := 260) (by decide +kernel)) rfl⟩
theorem sr_4_1 : srF 4 1 = 43 := by decide +kernel
theorem kc_41 : 41 < KC := by decide +kernel
theorem sk_41 : skF 41 = (0, 500) := by decide +kernel
theorem ap_X4_29_4 : AFp RX4 29 4 2 .int := ⟨4, 9, RX4, TX4, tyX4, by decide +kernel, by decide +kernel, rfl, by decide, gX4, gd (List.mem_of_getElem? (i := 261) (by decide +kernel)) rfl, tyX4_ok, nmX4, by decide +kernel, by decide +kernel⟩
theorem cq_X11_153 : CQ RX11 153 yX4_put cX4_put 3 none 1 := ⟨gd (List.mem_of_getElem? (i := 747) (by decide +kernel)) rfl, gd (List.mem_of_getElem? (i := 115) (by decide +kernel)) rfl, gd (List.mem_of_getElem? (i := 750) (by decide +kernel)) rfl, by decide +kernel, by decide⟩
theorem cr_4_X4_put : CR 4 yX4_put := ⟨by decide +kernel, 4, 9, TX4, by decide +kernel, rfl, gd (List.mem_of_getElem? (i := 748) (by decide +kernel)) rfl, gd (List.mem_of_getElem? (i := 749) (by decide +kernel)) rfl⟩
theorem ap_X11_150_4 : AFp RX11 150 4 2 .int := ⟨4, 9, RX4, TX4, tyX4, by decide +kernel, by decide +kernel, rfl, by decide, gX4, gd (List.mem_of_getElem? (i := 262) (by decide +kernel)) rfl, tyX4_ok, nmX4, by decide +kernel, by decide +kernel⟩
theorem ap_X4_32_4 : AFp RX4 32 4 7 .int := ⟨4, 9, RX4, TX4, tyX4, by decide +kernel, by decide +kernel, rfl, by decide, gX4, gd (List.mem_of_getElem? (i := 267) (by decide +kernel)) rfl, tyX4_ok, nmX4, by decide +kernel, by decide +kernel⟩
theorem sr_4_7 : srF 4 7 = 0 := by decide +kernel
theorem ap_X4_21_4 : AFp RX4 21 4 8 .int := ⟨4, 9, RX4, TX4, tyX4, by decide +kernel, by decide +kernel, rfl, by decide, gX4, gd (List.mem_of_getElem? (i := 269) (by decide +kernel)) rfl, tyX4_ok, nmX4, by decide +kernel, by decide +kernel⟩
theorem sr_4_8 : srF 4 8 = 0 := by decide +kernel
theorem ap_X4_35_4 : AFp RX4 35 4 6 .int := ⟨4, 9, RX4, TX4, tyX4, by decide +kernel, by decide +kernel, rfl, by decide, gX4, gd (List.mem_of_getElem? (i := 266) (by decide +kernel)) rfl, tyX4_ok, nmX4, by decide +kernel, by decide +kernel⟩
theorem sr_4_6 : srF 4 6 = 0 := by decide +kernel
theorem af_X4_25_4 : AF RX4 25 4 0 := ⟨4, 9, RX4, TX4, by decide +kernel, by decide +kernel, rfl, by decide, gX4, gd (List.mem_of_getElem? (i := 259) (by decide +kernel)) rfl⟩
theorem sr_4_0 : srF 4 0 = 5 := by decide +kernel
theorem ap_X6_48_3 : AFp RX6 48 3 2 .int := ⟨6, 15, RX6, TX6, tyX6, by decide +kernel, by decide +kernel, rfl, by decide, gX6, gd (List.mem_of_getElem? (i := 193) (by decide +kernel)) rfl, tyX6_ok, nmX6, by decide +kernel, by decide +kernel⟩
theorem sr_3_2 : srF 3 2 = 0 := by decide +kernel
theorem ap_X6_52_3 : AFp RX6 52 3 3 .int := ⟨6, 15, RX6, TX6, tyX6, by decide +kernel, by decide +kernel, rfl, by decide, gX6, gd (List.mem_of_getElem? (i := 195) (by decide +kernel)) rfl, tyX6_ok, nmX6, by decide +kernel, by decide +kernel⟩
theorem sr_3_3 : srF 3 3 = 0 := by decide +kernel
theorem ap_X6_55_3 : AFp RX6 55 3 10 .int := ⟨6, 15, RX6, TX6, tyX6, by decide +kernel, by decide +kernel, rfl, by decide, gX6, gd (List.mem_of_getElem? (i := 211) (by decide +kernel)) rfl, tyX6_ok, nmX6, by decide +kernel, by decide +kernel⟩
theorem sr_3_10 : srF 3 10 = 0 := by decide +kernel
theorem af_X6_36_3 : AF RX6 36 3 11 := ⟨6, 15, RX6, TX6, by decide +kernel, by decide +kernel, rfl, by decide, gX6, gd (List.mem_of_getElem? (i := 213) (by decide +kernel)) rfl⟩
theorem sr_3_11 : srF 3 11 = 39 := by decide +kernel
theorem kc_37 : 37 < KC := by decide +kernel
theorem sk_37 : skF 37 = (0, 30) := by decide +kernel
theorem af_X6_39_3 : AF RX6 39 3 12 := ⟨6, 15, RX6, TX6, by decide +kernel, by decide +kernel, rfl, by decide, gX6, gd (List.mem_of_getElem? (i := 216) (by decide +kernel)) rfl⟩
theorem sr_3_12 : srF 3 12 = 40 := by decide +kernel
theorem kc_38 : 38 < KC := by decide +kernel
theorem sk_38 : skF 38 = (0, 30) := by decide +kernel
theorem cq_X4_38 : CQ RX4 38 yX6_clear cX6_clear 1 none 0 := ⟨gd (List.mem_of_getElem? (i := 763) (by decide +kernel)) rfl, gd (List.mem_of_getElem? (i := 114) (by decide +kernel)) rfl, gd (List.mem_of_getElem? (i := 766) (by decide +kernel)) rfl, by decide +kernel, by decide⟩
theorem cr_3_X6_clear : CR 3 yX6_clear := ⟨by decide +kernel, 6, 15, TX6, by decide +kernel, rfl, gd (List.mem_of_getElem? (i := 764) (by decide +kernel)) rfl, gd (List.mem_of_getElem? (i := 765) (by decide +kernel)) rfl⟩
theorem ap_X4_52_4 : AFp RX4 52 4 5 .int := ⟨4, 9, RX4, TX4, tyX4, by decide +kernel, by decide +kernel, rfl, by decide, gX4, gd (List.mem_of_getElem? (i := 265) (by decide +kernel)) rfl, tyX4_ok, nmX4, by decide +kernel, by decide +kernel⟩
theorem sr_4_5 : srF 4 5 = 0 := by decide +kernel
theorem ns_X4_87 : (RX4, 87) ∈ nestL := by decide +kernel
theorem cq_X4_55 : CQ RX4 55 yX4_isLetter cX4_isLetter 1 (some .boolean) 1 := ⟨gd (List.mem_of_getElem? (i := 771) (by decide +kernel)) rfl, gd (List.mem_of_getElem? (i := 115) (by decide +kernel)) rfl, gd (List.mem_of_getElem? (i := 773) (by decide +kernel)) rfl, by decide +kernel, by decide⟩
theorem st_X4_isLetter : Cond.static yX4_isLetter ∈ lw_gd := gd (List.mem_of_getElem? (i := 772) (by decide +kernel)) rfl
theorem cq_X4_71 : CQ RX4 71 yX4_isDigit cX4_isDigit 1 (some .boolean) 1 := ⟨gd (List.mem_of_getElem? (i := 840) (by decide +kernel)) rfl, gd (List.mem_of_getElem? (i := 115) (by decide +kernel)) rfl, gd (List.mem_of_getElem? (i := 842) (by decide +kernel)) rfl, by decide +kernel, by decide⟩
theorem st_X4_isDigit : Cond.static yX4_isDigit ∈ lw_gd := gd (List.mem_of_getElem? (i := 841) (by decide +kernel)) rfl
theorem sw_X4_80 : (RX4, 80, ";+-*/()<=>", 1) ∈ strL := List.mem_of_getElem? (i := 1) (by decide +kernel)
theorem cq_X4_82 : CQ RX4 82 yJ0_indexOf_0f7a4 cJ0_indexOf_0f7a4 2 (some .int) 1 := ⟨gd (List.mem_of_getElem? (i := 852) (by decide +kernel)) rfl, gd (List.mem_of_getElem? (i := 125) (by decide +kernel)) rfl, gd (List.mem_of_getElem? (i := 855) (by decide +kernel)) rfl, by decide +kernel, by decide⟩
theorem af_X4_52_4 : AF RX4 52 4 5 := ⟨4, 9, RX4, TX4, by decide +kernel, by decide +kernel, rfl, by decide, gX4, gd (List.mem_of_getElem? (i := 265) (by decide +kernel)) rfl⟩
theorem af_X4_15_4 : AF RX4 15 4 3 := ⟨4, 9, RX4, TX4, by decide +kernel, by decide +kernel, rfl, by decide, gX4, gd (List.mem_of_getElem? (i := 263) (by decide +kernel)) rfl⟩
theorem sr_4_3 : srF 4 3 = 44 := by decide +kernel
theorem kc_42 : 42 < KC := by decide +kernel
theorem sk_42 : skF 42 = (0, 501) := by decide +kernel
theorem af_X4_18_4 : AF RX4 18 4 4 := ⟨4, 9, RX4, TX4, by decide +kernel, by decide +kernel, rfl, by decide, gX4, gd (List.mem_of_getElem? (i := 264) (by decide +kernel)) rfl⟩
theorem sr_4_4 : srF 4 4 = 45 := by decide +kernel
theorem kc_43 : 43 < KC := by decide +kernel
theorem sk_43 : skF 43 = (0, 501) := by decide +kernel
theorem cq_X4_67 : CQ RX4 67 yX4_add cX4_add 3 none 2 := ⟨gd (List.mem_of_getElem? (i := 836) (by decide +kernel)) rfl, gd (List.mem_of_getElem? (i := 115) (by decide +kernel)) rfl, gd (List.mem_of_getElem? (i := 839) (by decide +kernel)) rfl, by decide +kernel, by decide⟩
theorem cr_4_X4_add : CR 4 yX4_add := ⟨by decide +kernel, 4, 9, TX4, by decide +kernel, rfl, gd (List.mem_of_getElem? (i := 838) (by decide +kernel)) rfl, gd (List.mem_of_getElem? (i := 6) (by decide +kernel)) rfl⟩
theorem cq_X4_74 : CQ RX4 74 yX4_endOfDigits cX4_endOfDigits 4 (some .int) 1 := ⟨gd (List.mem_of_getElem? (i := 843) (by decide +kernel)) rfl, gd (List.mem_of_getElem? (i := 115) (by decide +kernel)) rfl, gd (List.mem_of_getElem? (i := 846) (by decide +kernel)) rfl, by decide +kernel, by decide⟩
theorem cr_4_X4_endOfDigits : CR 4 yX4_endOfDigits := ⟨by decide +kernel, 4, 9, TX4, by decide +kernel, rfl, gd (List.mem_of_getElem? (i := 845) (by decide +kernel)) rfl, gd (List.mem_of_getElem? (i := 7) (by decide +kernel)) rfl⟩
theorem cq_X4_77 : CQ RX4 77 yX4_numberOf cX4_numberOf 5 (some .int) 2 := ⟨gd (List.mem_of_getElem? (i := 847) (by decide +kernel)) rfl, gd (List.mem_of_getElem? (i := 115) (by decide +kernel)) rfl, gd (List.mem_of_getElem? (i := 850) (by decide +kernel)) rfl, by decide +kernel, by decide⟩
theorem cr_4_X4_numberOf : CR 4 yX4_numberOf := ⟨by decide +kernel, 4, 9, TX4, by decide +kernel, rfl, gd (List.mem_of_getElem? (i := 849) (by decide +kernel)) rfl, gd (List.mem_of_getElem? (i := 8) (by decide +kernel)) rfl⟩
theorem cq_X4_59 : CQ RX4 59 yX4_endOfWord cX4_endOfWord 4 (some .int) 1 := ⟨gd (List.mem_of_getElem? (i := 775) (by decide +kernel)) rfl, gd (List.mem_of_getElem? (i := 115) (by decide +kernel)) rfl, gd (List.mem_of_getElem? (i := 778) (by decide +kernel)) rfl, by decide +kernel, by decide⟩
theorem cr_4_X4_endOfWord : CR 4 yX4_endOfWord := ⟨by decide +kernel, 4, 9, TX4, by decide +kernel, rfl, gd (List.mem_of_getElem? (i := 777) (by decide +kernel)) rfl, gd (List.mem_of_getElem? (i := 3) (by decide +kernel)) rfl⟩
theorem sw_X4_91 : (RX4, 91, "locks tunnel price hold harm up down when or and not day week water berths away age depth said taught ", 0) ∈ strL := List.mem_of_getElem? (i := 0) (by decide +kernel)
theorem cq_X4_93 : CQ RX4 93 yJ0_length_8abf5 cJ0_length_8abf5 1 (some .int) 0 := ⟨gd (List.mem_of_getElem? (i := 784) (by decide +kernel)) rfl, gd (List.mem_of_getElem? (i := 125) (by decide +kernel)) rfl, gd (List.mem_of_getElem? (i := 787) (by decide +kernel)) rfl, by decide +kernel, by decide⟩
theorem cq_X4_96 : CQ RX4 96 yJ0_charAt_5068e cJ0_charAt_5068e 2 (some .char) 1 := ⟨gd (List.mem_of_getElem? (i := 794) (by decide +kernel)) rfl, gd (List.mem_of_getElem? (i := 125) (by decide +kernel)) rfl, gd (List.mem_of_getElem? (i := 797) (by decide +kernel)) rfl, by decide +kernel, by decide⟩
theorem cq_X4_100 : CQ RX4 100 yX4_isSame cX4_isSame 5 (some .boolean) 3 := ⟨gd (List.mem_of_getElem? (i := 832) (by decide +kernel)) rfl, gd (List.mem_of_getElem? (i := 115) (by decide +kernel)) rfl, gd (List.mem_of_getElem? (i := 835) (by decide +kernel)) rfl, by decide +kernel, by decide⟩
theorem cr_4_X4_isSame : CR 4 yX4_isSame := ⟨by decide +kernel, 4, 9, TX4, by decide +kernel, rfl, gd (List.mem_of_getElem? (i := 834) (by decide +kernel)) rfl, gd (List.mem_of_getElem? (i := 5) (by decide +kernel)) rfl⟩
theorem cq_X4_63 : CQ RX4 63 yX4_wordOf cX4_wordOf 6 (some .int) 2 := ⟨gd (List.mem_of_getElem? (i := 779) (by decide +kernel)) rfl, gd (List.mem_of_getElem? (i := 115) (by decide +kernel)) rfl, gd (List.mem_of_getElem? (i := 782) (by decide +kernel)) rfl, by decide +kernel, by decide⟩
theorem cr_4_X4_wordOf : CR 4 yX4_wordOf := ⟨by decide +kernel, 4, 9, TX4, by decide +kernel, rfl, gd (List.mem_of_getElem? (i := 781) (by decide +kernel)) rfl, gd (List.mem_of_getElem? (i := 4) (by decide +kernel)) rfl⟩
theorem cq_X4_43 : CQ RX4 43 yX4_scan cX4_scan 5 none 0 := ⟨gd (List.mem_of_getElem? (i := 767) (by decide +kernel)) rfl, gd (List.mem_of_getElem? (i := 115) (by decide +kernel)) rfl, gd (List.mem_of_getElem? (i := 770) (by decide +kernel)) rfl, by decide +kernel, by decide⟩
theorem cr_4_X4_scan : CR 4 yX4_scan := ⟨by decide +kernel, 4, 9, TX4, by decide +kernel, rfl, gd (List.mem_of_getElem? (i := 769) (by decide +kernel)) rfl, gd (List.mem_of_getElem? (i := 2) (by decide +kernel)) rfl⟩
theorem af_X4_32_4 : AF RX4 32 4 7 := ⟨4, 9, RX4, TX4, by decide +kernel, by decide +kernel, rfl, by decide, gX4, gd (List.mem_of_getElem? (i := 267) (by decide +kernel)) rfl⟩
theorem af_X4_35_4 : AF RX4 35 4 6 := ⟨4, 9, RX4, TX4, by decide +kernel, by decide +kernel, rfl, by decide, gX4, gd (List.mem_of_getElem? (i := 266) (by decide +kernel)) rfl⟩
theorem af_X4_49_3 : AF RX4 49 3 3 := ⟨6, 15, RX6, TX6, by decide +kernel, by decide +kernel, rfl, by decide, gX6, gd (List.mem_of_getElem? (i := 196) (by decide +kernel)) rfl⟩
theorem cq_X4_107 : CQ RX4 107 yX4_goOn cX4_goOn 1 none 0 := ⟨gd (List.mem_of_getElem? (i := 919) (by decide +kernel)) rfl, gd (List.mem_of_getElem? (i := 115) (by decide +kernel)) rfl, gd (List.mem_of_getElem? (i := 922) (by decide +kernel)) rfl, by decide +kernel, by decide⟩
theorem cr_4_X4_goOn : CR 4 yX4_goOn := ⟨by decide +kernel, 4, 9, TX4, by decide +kernel, rfl, gd (List.mem_of_getElem? (i := 921) (by decide +kernel)) rfl, gd (List.mem_of_getElem? (i := 11) (by decide +kernel)) rfl⟩
theorem af_X4_110_3 : AF RX4 110 3 4 := ⟨6, 15, RX6, TX6, by decide +kernel, by decide +kernel, rfl, by decide, gX6, gd (List.mem_of_getElem? (i := 198) (by decide +kernel)) rfl⟩
theorem sr_3_4 : srF 3 4 = 33 := by decide +kernel
theorem kc_31 : 31 < KC := by decide +kernel
theorem sk_31 : skF 31 = (0, 16) := by decide +kernel
theorem af_X4_113_3 : AF RX4 113 3 5 := ⟨6, 15, RX6, TX6, by decide +kernel, by decide +kernel, rfl, by decide, gX6, gd (List.mem_of_getElem? (i := 200) (by decide +kernel)) rfl⟩
theorem sr_3_5 : srF 3 5 = 34 := by decide +kernel
theorem af_X4_116_3 : AF RX4 116 3 2 := ⟨6, 15, RX6, TX6, by decide +kernel, by decide +kernel, rfl, by decide, gX6, gd (List.mem_of_getElem? (i := 194) (by decide +kernel)) rfl⟩
theorem kc_32 : 32 < KC := by decide +kernel
theorem sk_32 : skF 32 = (0, 16) := by decide +kernel
theorem cq_X4_103 : CQ RX4 103 yX4_fail cX4_fail 2 none 1 := ⟨gd (List.mem_of_getElem? (i := 915) (by decide +kernel)) rfl, gd (List.mem_of_getElem? (i := 115) (by decide +kernel)) rfl, gd (List.mem_of_getElem? (i := 918) (by decide +kernel)) rfl, by decide +kernel, by decide⟩
theorem cr_4_X4_fail : CR 4 yX4_fail := ⟨by decide +kernel, 4, 9, TX4, by decide +kernel, rfl, gd (List.mem_of_getElem? (i := 917) (by decide +kernel)) rfl, gd (List.mem_of_getElem? (i := 10) (by decide +kernel)) rfl⟩
theorem af_X6_48_3 : AF RX6 48 3 2 := ⟨6, 15, RX6, TX6, by decide +kernel, by decide +kernel, rfl, by decide, gX6, gd (List.mem_of_getElem? (i := 193) (by decide +kernel)) rfl⟩
theorem af_X6_9_3 : AF RX6 9 3 0 := ⟨6, 15, RX6, TX6, by decide +kernel, by decide +kernel, rfl, by decide, gX6, gd (List.mem_of_getElem? (i := 191) (by decide +kernel)) rfl⟩
theorem sr_3_0 : srF 3 0 = 31 := by decide +kernel
theorem kc_29 : 29 < KC := by decide +kernel
theorem sk_29 : skF 29 = (0, 500) := by decide +kernel
theorem af_X6_15_3 : AF RX6 15 3 1 := ⟨6, 15, RX6, TX6, by decide +kernel, by decide +kernel, rfl, by decide, gX6, gd (List.mem_of_getElem? (i := 192) (by decide +kernel)) rfl⟩
theorem sr_3_1 : srF 3 1 = 32 := by decide +kernel
theorem kc_30 : 30 < KC := by decide +kernel
theorem sk_30 : skF 30 = (0, 500) := by decide +kernel
theorem cq_X4_164 : CQ RX4 164 yX6_put cX6_put 3 none 2 := ⟨gd (List.mem_of_getElem? (i := 951) (by decide +kernel)) rfl, gd (List.mem_of_getElem? (i := 114) (by decide +kernel)) rfl, gd (List.mem_of_getElem? (i := 954) (by decide +kernel)) rfl, by decide +kernel, by decide⟩
theorem cr_3_X6_put : CR 3 yX6_put := ⟨by decide +kernel, 6, 15, TX6, by decide +kernel, rfl, gd (List.mem_of_getElem? (i := 952) (by decide +kernel)) rfl, gd (List.mem_of_getElem? (i := 953) (by decide +kernel)) rfl⟩
theorem cq_X4_179 : CQ RX4 179 yX4_readUnit cX4_readUnit 2 none 0 := ⟨gd (List.mem_of_getElem? (i := 947) (by decide +kernel)) rfl, gd (List.mem_of_getElem? (i := 115) (by decide +kernel)) rfl, gd (List.mem_of_getElem? (i := 950) (by decide +kernel)) rfl, by decide +kernel, by decide⟩
theorem cr_4_X4_readUnit : CR 4 yX4_readUnit := ⟨by decide +kernel, 4, 9, TX4, by decide +kernel, rfl, gd (List.mem_of_getElem? (i := 949) (by decide +kernel)) rfl, gd (List.mem_of_getElem? (i := 17) (by decide +kernel)) rfl⟩
theorem cq_X4_137 : CQ RX4 137 yX4_is cX4_is 2 (some .boolean) 1 := ⟨gd (List.mem_of_getElem? (i := 931) (by decide +kernel)) rfl, gd (List.mem_of_getElem? (i := 115) (by decide +kernel)) rfl, gd (List.mem_of_getElem? (i := 934) (by decide +kernel)) rfl, by decide +kernel, by decide⟩
theorem cr_4_X4_is : CR 4 yX4_is := ⟨by decide +kernel, 4, 9, TX4, by decide +kernel, rfl, gd (List.mem_of_getElem? (i := 933) (by decide +kernel)) rfl, gd (List.mem_of_getElem? (i := 14) (by decide +kernel)) rfl⟩
theorem cq_X4_182 : CQ RX4 182 yX4_readPart cX4_readPart 2 none 0 := ⟨gd (List.mem_of_getElem? (i := 955) (by decide +kernel)) rfl, gd (List.mem_of_getElem? (i := 115) (by decide +kernel)) rfl, gd (List.mem_of_getElem? (i := 958) (by decide +kernel)) rfl, by decide +kernel, by decide⟩
theorem cr_4_X4_readPart : CR 4 yX4_readPart := ⟨by decide +kernel, 4, 9, TX4, by decide +kernel, rfl, gd (List.mem_of_getElem? (i := 957) (by decide +kernel)) rfl, gd (List.mem_of_getElem? (i := 18) (by decide +kernel)) rfl⟩
theorem cq_X4_176 : CQ RX4 176 yX4_readProduct cX4_readProduct 3 none 0 := ⟨gd (List.mem_of_getElem? (i := 943) (by decide +kernel)) rfl, gd (List.mem_of_getElem? (i := 115) (by decide +kernel)) rfl, gd (List.mem_of_getElem? (i := 946) (by decide +kernel)) rfl, by decide +kernel, by decide⟩
theorem cr_4_X4_readProduct : CR 4 yX4_readProduct := ⟨by decide +kernel, 4, 9, TX4, by decide +kernel, rfl, gd (List.mem_of_getElem? (i := 945) (by decide +kernel)) rfl, gd (List.mem_of_getElem? (i := 16) (by decide +kernel)) rfl⟩
theorem cq_X4_131 : CQ RX4 131 yX4_readSum cX4_readSum 3 none 0 := ⟨gd (List.mem_of_getElem? (i := 939) (by decide +kernel)) rfl, gd (List.mem_of_getElem? (i := 115) (by decide +kernel)) rfl, gd (List.mem_of_getElem? (i := 942) (by decide +kernel)) rfl, by decide +kernel, by decide⟩
theorem cr_4_X4_readSum : CR 4 yX4_readSum := ⟨by decide +kernel, 4, 9, TX4, by decide +kernel, rfl, gd (List.mem_of_getElem? (i := 941) (by decide +kernel)) rfl, gd (List.mem_of_getElem? (i := 15) (by decide +kernel)) rfl⟩
theorem af_X4_122_3 : AF RX4 122 3 8 := ⟨6, 15, RX6, TX6, by decide +kernel, by decide +kernel, rfl, by decide, gX6, gd (List.mem_of_getElem? (i := 207) (by decide +kernel)) rfl⟩
theorem sr_3_8 : srF 3 8 = 37 := by decide +kernel
theorem cq_X4_125 : CQ RX4 125 yX4_numberUpTo cX4_numberUpTo 3 (some .int) 1 := ⟨gd (List.mem_of_getElem? (i := 927) (by decide +kernel)) rfl, gd (List.mem_of_getElem? (i := 115) (by decide +kernel)) rfl, gd (List.mem_of_getElem? (i := 930) (by decide +kernel)) rfl, by decide +kernel, by decide⟩
theorem cr_4_X4_numberUpTo : CR 4 yX4_numberUpTo := ⟨by decide +kernel, 4, 9, TX4, by decide +kernel, rfl, gd (List.mem_of_getElem? (i := 929) (by decide +kernel)) rfl, gd (List.mem_of_getElem? (i := 13) (by decide +kernel)) rfl⟩
theorem kc_35 : 35 < KC := by decide +kernel
theorem sk_35 : skF 35 = (0, 16) := by decide +kernel
theorem af_X4_128_3 : AF RX4 128 3 9 := ⟨6, 15, RX6, TX6, by decide +kernel, by decide +kernel, rfl, by decide, gX6, gd (List.mem_of_getElem? (i := 210) (by decide +kernel)) rfl⟩
theorem sr_3_9 : srF 3 9 = 38 := by decide +kernel
theorem kc_36 : 36 < KC := by decide +kernel
theorem sk_36 : skF 36 = (0, 16) := by decide +kernel
theorem af_X6_55_3 : AF RX6 55 3 10 := ⟨6, 15, RX6, TX6, by decide +kernel, by decide +kernel, rfl, by decide, gX6, gd (List.mem_of_getElem? (i := 211) (by decide +kernel)) rfl⟩
theorem cq_X4_149 : CQ RX4 149 yX6_hasTunnel cX6_hasTunnel 2 (some .boolean) 1 := ⟨gd (List.mem_of_getElem? (i := 935) (by decide +kernel)) rfl, gd (List.mem_of_getElem? (i := 114) (by decide +kernel)) rfl, gd (List.mem_of_getElem? (i := 938) (by decide +kernel)) rfl, by decide +kernel, by decide⟩
theorem cr_3_X6_hasTunnel : CR 3 yX6_hasTunnel := ⟨by decide +kernel, 6, 15, TX6, by decide +kernel, rfl, gd (List.mem_of_getElem? (i := 936) (by decide +kernel)) rfl, gd (List.mem_of_getElem? (i := 937) (by decide +kernel)) rfl⟩
theorem af_X4_152_3 : AF RX4 152 3 10 := ⟨6, 15, RX6, TX6, by decide +kernel, by decide +kernel, rfl, by decide, gX6, gd (List.mem_of_getElem? (i := 212) (by decide +kernel)) rfl⟩
theorem ap_X4_152_3 : AFp RX4 152 3 10 .int := ⟨6, 15, RX6, TX6, tyX6, by decide +kernel, by decide +kernel, rfl, by decide, gX6, gd (List.mem_of_getElem? (i := 212) (by decide +kernel)) rfl, tyX6_ok, nmX6, by decide +kernel, by decide +kernel⟩
theorem af_X4_155_3 : AF RX4 155 3 11 := ⟨6, 15, RX6, TX6, by decide +kernel, by decide +kernel, rfl, by decide, gX6, gd (List.mem_of_getElem? (i := 215) (by decide +kernel)) rfl⟩
theorem af_X4_158_3 : AF RX4 158 3 12 := ⟨6, 15, RX6, TX6, by decide +kernel, by decide +kernel, rfl, by decide, gX6, gd (List.mem_of_getElem? (i := 218) (by decide +kernel)) rfl⟩
theorem cq_X4_119 : CQ RX4 119 yX4_readTunnel cX4_readTunnel 3 none 0 := ⟨gd (List.mem_of_getElem? (i := 923) (by decide +kernel)) rfl, gd (List.mem_of_getElem? (i := 115) (by decide +kernel)) rfl, gd (List.mem_of_getElem? (i := 926) (by decide +kernel)) rfl, by decide +kernel, by decide⟩
theorem cr_4_X4_readTunnel : CR 4 yX4_readTunnel := ⟨by decide +kernel, 4, 9, TX4, by decide +kernel, rfl, gd (List.mem_of_getElem? (i := 925) (by decide +kernel)) rfl, gd (List.mem_of_getElem? (i := 12) (by decide +kernel)) rfl⟩
theorem af_X4_134_3 : AF RX4 134 3 6 := ⟨6, 15, RX6, TX6, by decide +kernel, by decide +kernel, rfl, by decide, gX6, gd (List.mem_of_getElem? (i := 202) (by decide +kernel)) rfl⟩
theorem sr_3_6 : srF 3 6 = 35 := by decide +kernel
theorem kc_33 : 33 < KC := by decide +kernel
theorem sk_33 : skF 33 = (0, 16) := by decide +kernel
theorem cq_X4_170 : CQ RX4 170 yX4_openOneMore cX4_openOneMore 2 none 1 := ⟨gd (List.mem_of_getElem? (i := 971) (by decide +kernel)) rfl, gd (List.mem_of_getElem? (i := 115) (by decide +kernel)) rfl, gd (List.mem_of_getElem? (i := 974) (by decide +kernel)) rfl, by decide +kernel, by decide⟩
theorem cr_4_X4_openOneMore : CR 4 yX4_openOneMore := ⟨by decide +kernel, 4, 9, TX4, by decide +kernel, rfl, gd (List.mem_of_getElem? (i := 973) (by decide +kernel)) rfl, gd (List.mem_of_getElem? (i := 22) (by decide +kernel)) rfl⟩
theorem cq_X4_173 : CQ RX4 173 yX4_demandComparing cX4_demandComparing 1 none 0 := ⟨gd (List.mem_of_getElem? (i := 979) (by decide +kernel)) rfl, gd (List.mem_of_getElem? (i := 115) (by decide +kernel)) rfl, gd (List.mem_of_getElem? (i := 982) (by decide +kernel)) rfl, by decide +kernel, by decide⟩
theorem cr_4_X4_demandComparing : CR 4 yX4_demandComparing := ⟨by decide +kernel, 4, 9, TX4, by decide +kernel, rfl, gd (List.mem_of_getElem? (i := 981) (by decide +kernel)) rfl, gd (List.mem_of_getElem? (i := 24) (by decide +kernel)) rfl⟩
theorem cq_X4_140 : CQ RX4 140 yX4_readEither cX4_readEither 3 none 1 := ⟨gd (List.mem_of_getElem? (i := 959) (by decide +kernel)) rfl, gd (List.mem_of_getElem? (i := 115) (by decide +kernel)) rfl, gd (List.mem_of_getElem? (i := 962) (by decide +kernel)) rfl, by decide +kernel, by decide⟩
theorem cr_4_X4_readEither : CR 4 yX4_readEither := ⟨by decide +kernel, 4, 9, TX4, by decide +kernel, rfl, gd (List.mem_of_getElem? (i := 961) (by decide +kernel)) rfl, gd (List.mem_of_getElem? (i := 19) (by decide +kernel)) rfl⟩
theorem cq_X4_146 : CQ RX4 146 yX4_demand cX4_demand 2 none 1 := ⟨gd (List.mem_of_getElem? (i := 975) (by decide +kernel)) rfl, gd (List.mem_of_getElem? (i := 115) (by decide +kernel)) rfl, gd (List.mem_of_getElem? (i := 978) (by decide +kernel)) rfl, by decide +kernel, by decide⟩
theorem cr_4_X4_demand : CR 4 yX4_demand := ⟨by decide +kernel, 4, 9, TX4, by decide +kernel, rfl, gd (List.mem_of_getElem? (i := 977) (by decide +kernel)) rfl, gd (List.mem_of_getElem? (i := 23) (by decide +kernel)) rfl⟩
theorem cq_X4_167 : CQ RX4 167 yX4_readOne cX4_readOne 4 none 1 := ⟨gd (List.mem_of_getElem? (i := 967) (by decide +kernel)) rfl, gd (List.mem_of_getElem? (i := 115) (by decide +kernel)) rfl, gd (List.mem_of_getElem? (i := 970) (by decide +kernel)) rfl, by decide +kernel, by decide⟩
theorem cr_4_X4_readOne : CR 4 yX4_readOne := ⟨by decide +kernel, 4, 9, TX4, by decide +kernel, rfl, gd (List.mem_of_getElem? (i := 969) (by decide +kernel)) rfl, gd (List.mem_of_getElem? (i := 21) (by decide +kernel)) rfl⟩
theorem cq_X4_161 : CQ RX4 161 yX4_readAll cX4_readAll 3 none 1 := ⟨gd (List.mem_of_getElem? (i := 963) (by decide +kernel)) rfl, gd (List.mem_of_getElem? (i := 115) (by decide +kernel)) rfl, gd (List.mem_of_getElem? (i := 966) (by decide +kernel)) rfl, by decide +kernel, by decide⟩
theorem cr_4_X4_readAll : CR 4 yX4_readAll := ⟨by decide +kernel, 4, 9, TX4, by decide +kernel, rfl, gd (List.mem_of_getElem? (i := 965) (by decide +kernel)) rfl, gd (List.mem_of_getElem? (i := 20) (by decide +kernel)) rfl⟩
theorem af_X4_143_3 : AF RX4 143 3 7 := ⟨6, 15, RX6, TX6, by decide +kernel, by decide +kernel, rfl, by decide, gX6, gd (List.mem_of_getElem? (i := 204) (by decide +kernel)) rfl⟩
theorem sr_3_7 : srF 3 7 = 36 := by decide +kernel
theorem kc_34 : 34 < KC := by decide +kernel
theorem sk_34 : skF 34 = (0, 16) := by decide +kernel
theorem ap_X4_49_3 : AFp RX4 49 3 3 .int := ⟨6, 15, RX6, TX6, tyX6, by decide +kernel, by decide +kernel, rfl, by decide, gX6, gd (List.mem_of_getElem? (i := 196) (by decide +kernel)) rfl, tyX6_ok, nmX6, by decide +kernel, by decide +kernel⟩
theorem cq_X4_46 : CQ RX4 46 yX4_readLine cX4_readLine 3 none 0 := ⟨gd (List.mem_of_getElem? (i := 911) (by decide +kernel)) rfl, gd (List.mem_of_getElem? (i := 115) (by decide +kernel)) rfl, gd (List.mem_of_getElem? (i := 914) (by decide +kernel)) rfl, by decide +kernel, by decide⟩
theorem cr_4_X4_readLine : CR 4 yX4_readLine := ⟨by decide +kernel, 4, 9, TX4, by decide +kernel, rfl, gd (List.mem_of_getElem? (i := 913) (by decide +kernel)) rfl, gd (List.mem_of_getElem? (i := 9) (by decide +kernel)) rfl⟩
theorem cq_X11_157 : CQ RX11 157 yX4_read cX4_read 2 (some .int) 0 := ⟨gd (List.mem_of_getElem? (i := 759) (by decide +kernel)) rfl, gd (List.mem_of_getElem? (i := 115) (by decide +kernel)) rfl, gd (List.mem_of_getElem? (i := 762) (by decide +kernel)) rfl, by decide +kernel, by decide⟩
theorem cr_4_X4_read : CR 4 yX4_read := ⟨by decide +kernel, 4, 9, TX4, by decide +kernel, rfl, gd (List.mem_of_getElem? (i := 760) (by decide +kernel)) rfl, gd (List.mem_of_getElem? (i := 761) (by decide +kernel)) rfl⟩
theorem af_X11_19_0 : AF RX11 19 0 1 := ⟨11, 12, RX11, TX11, by decide +kernel, by decide +kernel, rfl, by decide, gX11, gd (List.mem_of_getElem? (i := 642) (by decide +kernel)) rfl⟩
theorem sr_0_1 : srF 0 1 = 4 := by decide +kernel
theorem af_X11_23_0 : AF RX11 23 0 2 := ⟨11, 12, RX11, TX11, by decide +kernel, by decide +kernel, rfl, by decide, gX11, gd (List.mem_of_getElem? (i := 643) (by decide +kernel)) rfl⟩
theorem sr_0_2 : srF 0 2 = 5 := by decide +kernel
theorem ap_X6_48_2 : AFp RX6 48 2 2 .int := ⟨6, 15, RX6, TX6, tyX6, by decide +kernel, by decide +kernel, rfl, by decide, gX6, gd (List.mem_of_getElem? (i := 193) (by decide +kernel)) rfl, tyX6_ok, nmX6, by decide +kernel, by decide +kernel⟩
theorem sr_2_2 : srF 2 2 = 0 := by decide +kernel
theorem af_X6_52_3 : AF RX6 52 3 3 := ⟨6, 15, RX6, TX6, by decide +kernel, by decide +kernel, rfl, by decide, gX6, gd (List.mem_of_getElem? (i := 195) (by decide +kernel)) rfl⟩
theorem ap_X6_52_2 : AFp RX6 52 2 3 .int := ⟨6, 15, RX6, TX6, tyX6, by decide +kernel, by decide +kernel, rfl, by decide, gX6, gd (List.mem_of_getElem? (i := 195) (by decide +kernel)) rfl, tyX6_ok, nmX6, by decide +kernel, by decide +kernel⟩
theorem ap_X6_55_2 : AFp RX6 55 2 10 .int := ⟨6, 15, RX6, TX6, tyX6, by decide +kernel, by decide +kernel, rfl, by decide, gX6, gd (List.mem_of_getElem? (i := 211) (by decide +kernel)) rfl, tyX6_ok, nmX6, by decide +kernel, by decide +kernel⟩
theorem sr_2_10 : srF 2 10 = 0 := by decide +kernel
theorem cc_X6_64 : Cond.methodLink RX6 64 arraycopyName ∈ lw_gd := gd (List.mem_of_getElem? (i := 987) (by decide +kernel)) rfl
theorem ac_n : Cond.native arraycopyName ∈ lw_gd := gd (List.mem_of_getElem? (i := 989) (by decide +kernel)) rfl
theorem ac_s : Cond.static arraycopyName ∈ lw_gd := gd (List.mem_of_getElem? (i := 988) (by decide +kernel)) rfl
theorem ac_i : Cond.initialized "java/lang/System" ∈ lw_gd := gd (List.mem_of_getElem? (i := 131) (by decide +kernel)) rfl
theorem af_X6_18_3 : AF RX6 18 3 4 := ⟨6, 15, RX6, TX6, by decide +kernel, by decide +kernel, rfl, by decide, gX6, gd (List.mem_of_getElem? (i := 197) (by decide +kernel)) rfl⟩
theorem af_X6_21_3 : AF RX6 21 3 5 := ⟨6, 15, RX6, TX6, by decide +kernel, by decide +kernel, rfl, by decide, gX6, gd (List.mem_of_getElem? (i := 199) (by decide +kernel)) rfl⟩
theorem af_X6_21_2 : AF RX6 21 2 5 := ⟨6, 15, RX6, TX6, by decide +kernel, by decide +kernel, rfl, by decide, gX6, gd (List.mem_of_getElem? (i := 199) (by decide +kernel)) rfl⟩
theorem sr_2_5 : srF 2 5 = 22 := by decide +kernel
theorem kc_20 : 20 < KC := by decide +kernel
theorem sk_20 : skF 20 = (0, 16) := by decide +kernel
theorem af_X6_24_3 : AF RX6 24 3 6 := ⟨6, 15, RX6, TX6, by decide +kernel, by decide +kernel, rfl, by decide, gX6, gd (List.mem_of_getElem? (i := 201) (by decide +kernel)) rfl⟩
theorem af_X6_27_3 : AF RX6 27 3 7 := ⟨6, 15, RX6, TX6, by decide +kernel, by decide +kernel, rfl, by decide, gX6, gd (List.mem_of_getElem? (i := 203) (by decide +kernel)) rfl⟩
theorem af_X6_30_3 : AF RX6 30 3 8 := ⟨6, 15, RX6, TX6, by decide +kernel, by decide +kernel, rfl, by decide, gX6, gd (List.mem_of_getElem? (i := 205) (by decide +kernel)) rfl⟩
theorem af_X6_30_2 : AF RX6 30 2 8 := ⟨6, 15, RX6, TX6, by decide +kernel, by decide +kernel, rfl, by decide, gX6, gd (List.mem_of_getElem? (i := 205) (by decide +kernel)) rfl⟩
theorem af_X6_33_3 : AF RX6 33 3 9 := ⟨6, 15, RX6, TX6, by decide +kernel, by decide +kernel, rfl, by decide, gX6, gd (List.mem_of_getElem? (i := 208) (by decide +kernel)) rfl⟩
theorem af_X6_33_2 : AF RX6 33 2 9 := ⟨6, 15, RX6, TX6, by decide +kernel, by decide +kernel, rfl, by decide, gX6, gd (List.mem_of_getElem? (i := 208) (by decide +kernel)) rfl⟩
theorem af_X6_36_2 : AF RX6 36 2 11 := ⟨6, 15, RX6, TX6, by decide +kernel, by decide +kernel, rfl, by decide, gX6, gd (List.mem_of_getElem? (i := 213) (by decide +kernel)) rfl⟩
theorem sr_2_11 : srF 2 11 = 27 := by decide +kernel
theorem kc_25 : 25 < KC := by decide +kernel
theorem sk_25 : skF 25 = (0, 30) := by decide +kernel
theorem af_X6_39_2 : AF RX6 39 2 12 := ⟨6, 15, RX6, TX6, by decide +kernel, by decide +kernel, rfl, by decide, gX6, gd (List.mem_of_getElem? (i := 216) (by decide +kernel)) rfl⟩
theorem sr_2_12 : srF 2 12 = 28 := by decide +kernel
theorem kc_26 : 26 < KC := by decide +kernel
theorem sk_26 : skF 26 = (0, 30) := by decide +kernel
theorem cq_X11_161 : CQ RX11 161 yX6_takeOver cX6_takeOver 2 none 1 := ⟨gd (List.mem_of_getElem? (i := 983) (by decide +kernel)) rfl, gd (List.mem_of_getElem? (i := 114) (by decide +kernel)) rfl, gd (List.mem_of_getElem? (i := 986) (by decide +kernel)) rfl, by decide +kernel, by decide⟩
theorem cr_2_X6_takeOver : CR 2 yX6_takeOver := ⟨by decide +kernel, 6, 15, TX6, by decide +kernel, rfl, gd (List.mem_of_getElem? (i := 984) (by decide +kernel)) rfl, gd (List.mem_of_getElem? (i := 985) (by decide +kernel)) rfl⟩
theorem af_X11_167_4 : AF RX11 167 4 8 := ⟨4, 9, RX4, TX4, by decide +kernel, by decide +kernel, rfl, by decide, gX4, gd (List.mem_of_getElem? (i := 270) (by decide +kernel)) rfl⟩
theorem af_X11_164_4 : AF RX11 164 4 7 := ⟨4, 9, RX4, TX4, by decide +kernel, by decide +kernel, rfl, by decide, gX4, gd (List.mem_of_getElem? (i := 268) (by decide +kernel)) rfl⟩
theorem af_X11_173_5 : AF RX11 173 5 3 := ⟨9, 8, RX9, TX9, by decide +kernel, by decide +kernel, rfl, by decide, gX9, gd (List.mem_of_getElem? (i := 302) (by decide +kernel)) rfl⟩
theorem af_X11_170_5 : AF RX11 170 5 2 := ⟨9, 8, RX9, TX9, by decide +kernel, by decide +kernel, rfl, by decide, gX9, gd (List.mem_of_getElem? (i := 300) (by decide +kernel)) rfl⟩
theorem af_X11_103_6 : AF RX11 103 6 7 := ⟨0, 12, RX0, TX0, by decide +kernel, by decide +kernel, rfl, by decide, gX0, gd (List.mem_of_getElem? (i := 346) (by decide +kernel)) rfl⟩
theorem cq_X11_107 : CQ RX11 107 yX11_isBoat cX11_isBoat 2 (some .boolean) 1 := ⟨gd (List.mem_of_getElem? (i := 1007) (by decide +kernel)) rfl, gd (List.mem_of_getElem? (i := 111) (by decide +kernel)) rfl, gd (List.mem_of_getElem? (i := 1010) (by decide +kernel)) rfl, by decide +kernel, by decide⟩
theorem cr_0_X11_isBoat : CR 0 yX11_isBoat := ⟨by decide +kernel, 11, 12, TX11, by decide +kernel, rfl, gd (List.mem_of_getElem? (i := 1009) (by decide +kernel)) rfl, gd (List.mem_of_getElem? (i := 26) (by decide +kernel)) rfl⟩
theorem cq_X11_114 : CQ RX11 114 yX11_isTime cX11_isTime 1 (some .boolean) 1 := ⟨gd (List.mem_of_getElem? (i := 1011) (by decide +kernel)) rfl, gd (List.mem_of_getElem? (i := 111) (by decide +kernel)) rfl, gd (List.mem_of_getElem? (i := 1013) (by decide +kernel)) rfl, by decide +kernel, by decide⟩
theorem st_X11_isTime : Cond.static yX11_isTime ∈ lw_gd := gd (List.mem_of_getElem? (i := 1012) (by decide +kernel)) rfl
theorem cq_X11_176 : CQ RX11 176 yX11_isWay cX11_isWay 5 (some .boolean) 4 := ⟨gd (List.mem_of_getElem? (i := 1003) (by decide +kernel)) rfl, gd (List.mem_of_getElem? (i := 111) (by decide +kernel)) rfl, gd (List.mem_of_getElem? (i := 1006) (by decide +kernel)) rfl, by decide +kernel, by decide⟩
theorem cr_0_X11_isWay : CR 0 yX11_isWay := ⟨by decide +kernel, 11, 12, TX11, by decide +kernel, rfl, gd (List.mem_of_getElem? (i := 1005) (by decide +kernel)) rfl, gd (List.mem_of_getElem? (i := 25) (by decide +kernel)) rfl⟩
theorem af_X11_180_6 : AF RX11 180 6 6 := ⟨0, 12, RX0, TX0, by decide +kernel, by decide +kernel, rfl, by decide, gX0, gd (List.mem_of_getElem? (i := 344) (by decide +kernel)) rfl⟩
theorem ap_X9_60_5 : AFp RX9 60 5 6 .int := ⟨9, 8, RX9, TX9, tyX9, by decide +kernel, by decide +kernel, rfl, by decide, gX9, gd (List.mem_of_getElem? (i := 307) (by decide +kernel)) rfl, tyX9_ok, nmX9, by decide +kernel, by decide +kernel⟩
theorem sr_5_6 : srF 5 6 = 0 := by decide +kernel
theorem ap_X9_63_5 : AFp RX9 63 5 7 .boolean := ⟨9, 8, RX9, TX9, tyX9, by decide +kernel, by decide +kernel, rfl, by decide, gX9, gd (List.mem_of_getElem? (i := 308) (by decide +kernel)) rfl, tyX9_ok, nmX9, by decide +kernel, by decide +kernel⟩
theorem sr_5_7 : srF 5 7 = 0 := by decide +kernel
theorem af_X9_21_5 : AF RX9 21 5 5 := ⟨9, 8, RX9, TX9, by decide +kernel, by decide +kernel, rfl, by decide, gX9, gd (List.mem_of_getElem? (i := 305) (by decide +kernel)) rfl⟩
theorem sr_5_5 : srF 5 5 = 49 := by decide +kernel
theorem kc_47 : 47 < KC := by decide +kernel
theorem sk_47 : skF 47 = (0, 14) := by decide +kernel
theorem cf_X9_32 : CQ RX9 32 ⟨"java/util/Arrays", "fill", "([II)V"⟩ cJ7_fill_53178 4 none 2 := ⟨gd (List.mem_of_getElem? (i := 296) (by decide +kernel)) rfl, gd (List.mem_of_getElem? (i := 113) (by decide +kernel)) rfl, gd (List.mem_of_getElem? (i := 149) (by decide +kernel)) rfl, by decide +kernel, by decide⟩
theorem cq_X9_67 : CQ RX9 67 yX9_setOut cX9_setOut 3 none 2 := ⟨gd (List.mem_of_getElem? (i := 1018) (by decide +kernel)) rfl, gd (List.mem_of_getElem? (i := 116) (by decide +kernel)) rfl, gd (List.mem_of_getElem? (i := 1021) (by decide +kernel)) rfl, by decide +kernel, by decide⟩
theorem cr_5_X9_setOut : CR 5 yX9_setOut := ⟨by decide +kernel, 9, 8, TX9, by decide +kernel, rfl, gd (List.mem_of_getElem? (i := 1020) (by decide +kernel)) rfl, gd (List.mem_of_getElem? (i := 27) (by decide +kernel)) rfl⟩
theorem af_X9_78_1 : AF RX9 78 1 0 := ⟨2, 7, RX2, TX2, by decide +kernel, by decide +kernel, rfl, by decide, gX2, gd (List.mem_of_getElem? (i := 151) (by decide +kernel)) rfl⟩
theorem af_X6_55_2 : AF RX6 55 2 10 := ⟨6, 15, RX6, TX6, by decide +kernel, by decide +kernel, rfl, by decide, gX6, gd (List.mem_of_getElem? (i := 211) (by decide +kernel)) rfl⟩
theorem cq_X6_70 : CQ RX6 70 yX6_hasTunnel cX6_hasTunnel 2 (some .boolean) 1 := ⟨gd (List.mem_of_getElem? (i := 1030) (by decide +kernel)) rfl, gd (List.mem_of_getElem? (i := 114) (by decide +kernel)) rfl, gd (List.mem_of_getElem? (i := 938) (by decide +kernel)) rfl, by decide +kernel, by decide⟩
theorem cr_2_X6_hasTunnel : CR 2 yX6_hasTunnel := ⟨by decide +kernel, 6, 15, TX6, by decide +kernel, rfl, gd (List.mem_of_getElem? (i := 936) (by decide +kernel)) rfl, gd (List.mem_of_getElem? (i := 937) (by decide +kernel)) rfl⟩
theorem cq_X9_81 : CQ RX9 81 yX6_isTunnel cX6_isTunnel 2 (some .boolean) 1 := ⟨gd (List.mem_of_getElem? (i := 1026) (by decide +kernel)) rfl, gd (List.mem_of_getElem? (i := 114) (by decide +kernel)) rfl, gd (List.mem_of_getElem? (i := 1029) (by decide +kernel)) rfl, by decide +kernel, by decide⟩
theorem cr_2_X6_isTunnel : CR 2 yX6_isTunnel := ⟨by decide +kernel, 6, 15, TX6, by decide +kernel, rfl, gd (List.mem_of_getElem? (i := 1027) (by decide +kernel)) rfl, gd (List.mem_of_getElem? (i := 1028) (by decide +kernel)) rfl⟩
theorem af_X9_118_2 : AF RX9 118 2 11 := ⟨6, 15, RX6, TX6, by decide +kernel, by decide +kernel, rfl, by decide, gX6, gd (List.mem_of_getElem? (i := 214) (by decide +kernel)) rfl⟩
theorem cq_X9_96 : CQ RX9 96 yX9_firstHour cX9_firstHour 4 (some .int) 3 := ⟨gd (List.mem_of_getElem? (i := 1039) (by decide +kernel)) rfl, gd (List.mem_of_getElem? (i := 116) (by decide +kernel)) rfl, gd (List.mem_of_getElem? (i := 1042) (by decide +kernel)) rfl, by decide +kernel, by decide⟩
theorem cr_5_X9_firstHour : CR 5 yX9_firstHour := ⟨by decide +kernel, 9, 8, TX9, by decide +kernel, rfl, gd (List.mem_of_getElem? (i := 1041) (by decide +kernel)) rfl, gd (List.mem_of_getElem? (i := 31) (by decide +kernel)) rfl⟩
theorem cm_X9_99 : Cond.methodLink RX9 99 Lib.Math.max.name ∈ lw_gd := gd (List.mem_of_getElem? (i := 1043) (by decide +kernel)) rfl
theorem mst_max : Cond.static Lib.Math.max.name ∈ lw_gd := gd (List.mem_of_getElem? (i := 868) (by decide +kernel)) rfl
theorem mini : Cond.initialized "java/lang/Math" ∈ lw_gd := gd (List.mem_of_getElem? (i := 129) (by decide +kernel)) rfl
theorem mcd_max : Cond.code Lib.Math.max.name Lib.Math.max.code 2 (some .int) ∈ lw_gd := gd (List.mem_of_getElem? (i := 869) (by decide +kernel)) rfl
theorem af_X9_121_2 : AF RX9 121 2 12 := ⟨6, 15, RX6, TX6, by decide +kernel, by decide +kernel, rfl, by decide, gX6, gd (List.mem_of_getElem? (i := 217) (by decide +kernel)) rfl⟩
theorem cq_X9_105 : CQ RX9 105 yX9_hourBehind cX9_hourBehind 4 (some .int) 3 := ⟨gd (List.mem_of_getElem? (i := 1044) (by decide +kernel)) rfl, gd (List.mem_of_getElem? (i := 116) (by decide +kernel)) rfl, gd (List.mem_of_getElem? (i := 1047) (by decide +kernel)) rfl, by decide +kernel, by decide⟩
theorem cr_5_X9_hourBehind : CR 5 yX9_hourBehind := ⟨by decide +kernel, 9, 8, TX9, by decide +kernel, rfl, gd (List.mem_of_getElem? (i := 1046) (by decide +kernel)) rfl, gd (List.mem_of_getElem? (i := 32) (by decide +kernel)) rfl⟩
theorem cm_X9_108 : Cond.methodLink RX9 108 Lib.Math.min.name ∈ lw_gd := gd (List.mem_of_getElem? (i := 1048) (by decide +kernel)) rfl
theorem mst_min : Cond.static Lib.Math.min.name ∈ lw_gd := gd (List.mem_of_getElem? (i := 871) (by decide +kernel)) rfl
theorem mcd_min : Cond.code Lib.Math.min.name Lib.Math.min.code 2 (some .int) ∈ lw_gd := gd (List.mem_of_getElem? (i := 872) (by decide +kernel)) rfl
theorem af_X9_63_5 : AF RX9 63 5 7 := ⟨9, 8, RX9, TX9, by decide +kernel, by decide +kernel, rfl, by decide, gX9, gd (List.mem_of_getElem? (i := 308) (by decide +kernel)) rfl⟩
theorem af_X9_115_1 : AF RX9 115 1 3 := ⟨2, 7, RX2, TX2, by decide +kernel, by decide +kernel, rfl, by decide, gX2, gd (List.mem_of_getElem? (i := 160) (by decide +kernel)) rfl⟩
theorem cq_X9_111 : CQ RX9 111 yX9_isStopped cX9_isStopped 3 (some .boolean) 2 := ⟨gd (List.mem_of_getElem? (i := 1049) (by decide +kernel)) rfl, gd (List.mem_of_getElem? (i := 116) (by decide +kernel)) rfl, gd (List.mem_of_getElem? (i := 1052) (by decide +kernel)) rfl, by decide +kernel, by decide⟩
theorem cr_5_X9_isStopped : CR 5 yX9_isStopped := ⟨by decide +kernel, 9, 8, TX9, by decide +kernel, rfl, gd (List.mem_of_getElem? (i := 1051) (by decide +kernel)) rfl, gd (List.mem_of_getElem? (i := 33) (by decide +kernel)) rfl⟩
theorem cq_X9_92 : CQ RX9 92 yX9_begins cX9_begins 8 (some .int) 3 := ⟨gd (List.mem_of_getElem? (i := 1035) (by decide +kernel)) rfl, gd (List.mem_of_getElem? (i := 116) (by decide +kernel)) rfl, gd (List.mem_of_getElem? (i := 1038) (by decide +kernel)) rfl, by decide +kernel, by decide⟩
theorem cr_5_X9_begins : CR 5 yX9_begins := ⟨by decide +kernel, 9, 8, TX9, by decide +kernel, rfl, gd (List.mem_of_getElem? (i := 1037) (by decide +kernel)) rfl, gd (List.mem_of_getElem? (i := 30) (by decide +kernel)) rfl⟩
theorem cq_X9_85 : CQ RX9 85 yX9_step cX9_step 6 (some .int) 4 := ⟨gd (List.mem_of_getElem? (i := 1031) (by decide +kernel)) rfl, gd (List.mem_of_getElem? (i := 116) (by decide +kernel)) rfl, gd (List.mem_of_getElem? (i := 1034) (by decide +kernel)) rfl, by decide +kernel, by decide⟩
theorem cr_5_X9_step : CR 5 yX9_step := ⟨by decide +kernel, 9, 8, TX9, by decide +kernel, rfl, gd (List.mem_of_getElem? (i := 1033) (by decide +kernel)) rfl, gd (List.mem_of_getElem? (i := 29) (by decide +kernel)) rfl⟩
theorem af_X9_89_1 : AF RX9 89 1 1 := ⟨2, 7, RX2, TX2, by decide +kernel, by decide +kernel, rfl, by decide, gX2, gd (List.mem_of_getElem? (i := 154) (by decide +kernel)) rfl⟩
theorem af_X9_60_5 : AF RX9 60 5 6 := ⟨9, 8, RX9, TX9, by decide +kernel, by decide +kernel, rfl, by decide, gX9, gd (List.mem_of_getElem? (i := 307) (by decide +kernel)) rfl⟩
theorem cq_X9_71 : CQ RX9 71 yX9_pass cX9_pass 7 (some .int) 3 := ⟨gd (List.mem_of_getElem? (i := 1022) (by decide +kernel)) rfl, gd (List.mem_of_getElem? (i := 116) (by decide +kernel)) rfl, gd (List.mem_of_getElem? (i := 1025) (by decide +kernel)) rfl, by decide +kernel, by decide⟩
theorem cr_5_X9_pass : CR 5 yX9_pass := ⟨by decide +kernel, 9, 8, TX9, by decide +kernel, rfl, gd (List.mem_of_getElem? (i := 1024) (by decide +kernel)) rfl, gd (List.mem_of_getElem? (i := 28) (by decide +kernel)) rfl⟩
theorem cq_X11_183 : CQ RX11 183 yX9_comesTo cX9_comesTo 8 (some .int) 5 := ⟨gd (List.mem_of_getElem? (i := 1014) (by decide +kernel)) rfl, gd (List.mem_of_getElem? (i := 116) (by decide +kernel)) rfl, gd (List.mem_of_getElem? (i := 1017) (by decide +kernel)) rfl, by decide +kernel, by decide⟩
theorem cr_5_X9_comesTo : CR 5 yX9_comesTo := ⟨by decide +kernel, 9, 8, TX9, by decide +kernel, rfl, gd (List.mem_of_getElem? (i := 1015) (by decide +kernel)) rfl, gd (List.mem_of_getElem? (i := 1016) (by decide +kernel)) rfl⟩
theorem af_X9_18_5 : AF RX9 18 5 4 := ⟨9, 8, RX9, TX9, by decide +kernel, by decide +kernel, rfl, by decide, gX9, gd (List.mem_of_getElem? (i := 303) (by decide +kernel)) rfl⟩
theorem sr_5_4 : srF 5 4 = 48 := by decide +kernel
theorem kc_46 : 46 < KC := by decide +kernel
theorem sk_46 : skF 46 = (0, 16) := by decide +kernel
theorem cq_X11_187 : CQ RX11 187 yX9_reach cX9_reach 5 none 3 := ⟨gd (List.mem_of_getElem? (i := 1057) (by decide +kernel)) rfl, gd (List.mem_of_getElem? (i := 116) (by decide +kernel)) rfl, gd (List.mem_of_getElem? (i := 1060) (by decide +kernel)) rfl, by decide +kernel, by decide⟩
theorem cr_5_X9_reach : CR 5 yX9_reach := ⟨by decide +kernel, 9, 8, TX9, by decide +kernel, rfl, gd (List.mem_of_getElem? (i := 1058) (by decide +kernel)) rfl, gd (List.mem_of_getElem? (i := 1059) (by decide +kernel)) rfl⟩
theorem cq_X11_190 : CQ RX11 190 yX9_reached cX9_reached 4 (some .int) 1 := ⟨gd (List.mem_of_getElem? (i := 1061) (by decide +kernel)) rfl, gd (List.mem_of_getElem? (i := 116) (by decide +kernel)) rfl, gd (List.mem_of_getElem? (i := 1064) (by decide +kernel)) rfl, by decide +kernel, by decide⟩
theorem cr_5_X9_reached : CR 5 yX9_reached := ⟨by decide +kernel, 9, 8, TX9, by decide +kernel, rfl, gd (List.mem_of_getElem? (i := 1062) (by decide +kernel)) rfl, gd (List.mem_of_getElem? (i := 1063) (by decide +kernel)) rfl⟩
theorem af_X0_46_6 : AF RX0 46 6 2 := ⟨0, 12, RX0, TX0, by decide +kernel, by decide +kernel, rfl, by decide, gX0, gd (List.mem_of_getElem? (i := 336) (by decide +kernel)) rfl⟩
theorem sr_6_2 : srF 6 2 = 7 := by decide +kernel
theorem af_X0_98_5 : AF RX0 98 5 5 := ⟨9, 8, RX9, TX9, by decide +kernel, by decide +kernel, rfl, by decide, gX9, gd (List.mem_of_getElem? (i := 306) (by decide +kernel)) rfl⟩
theorem af_X0_42_6 : AF RX0 42 6 1 := ⟨0, 12, RX0, TX0, by decide +kernel, by decide +kernel, rfl, by decide, gX0, gd (List.mem_of_getElem? (i := 335) (by decide +kernel)) rfl⟩
theorem sr_6_1 : srF 6 1 = 4 := by decide +kernel
theorem af_X0_38_6 : AF RX0 38 6 0 := ⟨0, 12, RX0, TX0, by decide +kernel, by decide +kernel, rfl, by decide, gX0, gd (List.mem_of_getElem? (i := 334) (by decide +kernel)) rfl⟩
theorem sr_6_0 : srF 6 0 = 3 := by decide +kernel
theorem af_X0_104_1 : AF RX0 104 1 5 := ⟨2, 7, RX2, TX2, by decide +kernel, by decide +kernel, rfl, by decide, gX2, gd (List.mem_of_getElem? (i := 166) (by decide +kernel)) rfl⟩
theorem cq_X0_109 : CQ RX0 109 yX6_askDay cX6_askDay 3 none 2 := ⟨gd (List.mem_of_getElem? (i := 1077) (by decide +kernel)) rfl, gd (List.mem_of_getElem? (i := 114) (by decide +kernel)) rfl, gd (List.mem_of_getElem? (i := 696) (by decide +kernel)) rfl, by decide +kernel, by decide⟩
theorem af_X0_115_2 : AF RX0 115 2 13 := ⟨6, 15, RX6, TX6, by decide +kernel, by decide +kernel, rfl, by decide, gX6, gd (List.mem_of_getElem? (i := 220) (by decide +kernel)) rfl⟩
theorem cq_X0_118 : CQ RX0 118 yX6_serving cX6_serving 3 (some .int) 1 := ⟨gd (List.mem_of_getElem? (i := 1078) (by decide +kernel)) rfl, gd (List.mem_of_getElem? (i := 114) (by decide +kernel)) rfl, gd (List.mem_of_getElem? (i := 701) (by decide +kernel)) rfl, by decide +kernel, by decide⟩
theorem cq_X0_121 : CQ RX0 121 yX6_valueOf cX6_valueOf 2 (some .int) 1 := ⟨gd (List.mem_of_getElem? (i := 1079) (by decide +kernel)) rfl, gd (List.mem_of_getElem? (i := 114) (by decide +kernel)) rfl, gd (List.mem_of_getElem? (i := 1082) (by decide +kernel)) rfl, by decide +kernel, by decide⟩
theorem cr_2_X6_valueOf : CR 2 yX6_valueOf := ⟨by decide +kernel, 6, 15, TX6, by decide +kernel, rfl, gd (List.mem_of_getElem? (i := 1080) (by decide +kernel)) rfl, gd (List.mem_of_getElem? (i := 1081) (by decide +kernel)) rfl⟩
theorem cm_X0_124 : Cond.methodLink RX0 124 Lib.Math.min.name ∈ lw_gd := gd (List.mem_of_getElem? (i := 1083) (by decide +kernel)) rfl
theorem cm_X0_71 : Cond.methodLink RX0 71 Lib.Math.max.name ∈ lw_gd := gd (List.mem_of_getElem? (i := 1084) (by decide +kernel)) rfl
theorem cq_X0_101 : CQ RX0 101 yX0_harmOfLock cX0_harmOfLock 4 (some .int) 2 := ⟨gd (List.mem_of_getElem? (i := 1073) (by decide +kernel)) rfl, gd (List.mem_of_getElem? (i := 117) (by decide +kernel)) rfl, gd (List.mem_of_getElem? (i := 1076) (by decide +kernel)) rfl, by decide +kernel, by decide⟩
theorem cr_6_X0_harmOfLock : CR 6 yX0_harmOfLock := ⟨by decide +kernel, 0, 12, TX0, by decide +kernel, rfl, gd (List.mem_of_getElem? (i := 1075) (by decide +kernel)) rfl, gd (List.mem_of_getElem? (i := 34) (by decide +kernel)) rfl⟩
theorem cq_X11_194 : CQ RX11 194 yX0_harmOfLatestWay cX0_harmOfLatestWay 4 (some .int) 1 := ⟨gd (List.mem_of_getElem? (i := 1069) (by decide +kernel)) rfl, gd (List.mem_of_getElem? (i := 117) (by decide +kernel)) rfl, gd (List.mem_of_getElem? (i := 1072) (by decide +kernel)) rfl, by decide +kernel, by decide⟩
theorem cr_6_X0_harmOfLatestWay : CR 6 yX0_harmOfLatestWay := ⟨by decide +kernel, 0, 12, TX0, by decide +kernel, rfl, gd (List.mem_of_getElem? (i := 1070) (by decide +kernel)) rfl, gd (List.mem_of_getElem? (i := 1071) (by decide +kernel)) rfl⟩
theorem af_X11_58_0 : AF RX11 58 0 6 := ⟨11, 12, RX11, TX11, by decide +kernel, by decide +kernel, rfl, by decide, gX11, gd (List.mem_of_getElem? (i := 647) (by decide +kernel)) rfl⟩
theorem sr_0_6 : srF 0 6 = 9 := by decide +kernel
theorem gX7 : ∀ w ∈ u_ws RX7 TX7 9, w ∈ lw_gd := gd_all inX7 (by decide +kernel)
theorem af_X11_197_7 : AF RX11 197 7 8 := ⟨7, 9, RX7, TX7, by decide +kernel, by decide +kernel, rfl, by decide, gX7, gd (List.mem_of_getElem? (i := 392) (by decide +kernel)) rfl⟩
theorem sr_7_8 : srF 7 8 = 0 := by decide +kernel
theorem cw_X11_198 : Cond.constant RX11 198 (Int32.ofInt (-1000000)) ∈ lw_gd := gd (List.mem_of_getElem? (i := 1089) (by decide +kernel)) rfl
theorem af_X7_35_7 : AF RX7 35 7 2 := ⟨7, 9, RX7, TX7, by decide +kernel, by decide +kernel, rfl, by decide, gX7, gd (List.mem_of_getElem? (i := 385) (by decide +kernel)) rfl⟩
theorem sr_7_2 : srF 7 2 = 7 := by decide +kernel
theorem af_X7_27_7 : AF RX7 27 7 0 := ⟨7, 9, RX7, TX7, by decide +kernel, by decide +kernel, rfl, by decide, gX7, gd (List.mem_of_getElem? (i := 383) (by decide +kernel)) rfl⟩
theorem sr_7_0 : srF 7 0 = 8 := by decide +kernel
theorem af_X7_43_6 : AF RX7 43 6 6 := ⟨0, 12, RX0, TX0, by decide +kernel, by decide +kernel, rfl, by decide, gX0, gd (List.mem_of_getElem? (i := 343) (by decide +kernel)) rfl⟩
theorem af_X7_9_7 : AF RX7 9 7 3 := ⟨7, 9, RX7, TX7, by decide +kernel, by decide +kernel, rfl, by decide, gX7, gd (List.mem_of_getElem? (i := 386) (by decide +kernel)) rfl⟩
theorem sr_7_3 : srF 7 3 = 78 := by decide +kernel
theorem kc_76 : 76 < KC := by decide +kernel
theorem sk_76 : skF 76 = (0, 20) := by decide +kernel
theorem af_X7_15_7 : AF RX7 15 7 4 := ⟨7, 9, RX7, TX7, by decide +kernel, by decide +kernel, rfl, by decide, gX7, gd (List.mem_of_getElem? (i := 387) (by decide +kernel)) rfl⟩
theorem sr_7_4 : srF 7 4 = 79 := by decide +kernel
theorem kc_77 : 77 < KC := by decide +kernel
theorem sk_77 : skF 77 = (0, 20) := by decide +kernel
theorem af_X7_18_7 : AF RX7 18 7 5 := ⟨7, 9, RX7, TX7, by decide +kernel, by decide +kernel, rfl, by decide, gX7, gd (List.mem_of_getElem? (i := 388) (by decide +kernel)) rfl⟩
theorem sr_7_5 : srF 7 5 = 80 := by decide +kernel
theorem kc_78 : 78 < KC := by decide +kernel
theorem sk_78 : skF 78 = (0, 20) := by decide +kernel
theorem af_X7_21_7 : AF RX7 21 7 6 := ⟨7, 9, RX7, TX7, by decide +kernel, by decide +kernel, rfl, by decide, gX7, gd (List.mem_of_getElem? (i := 389) (by decide +kernel)) rfl⟩
theorem sr_7_6 : srF 7 6 = 81 := by decide +kernel
theorem kc_79 : 79 < KC := by decide +kernel
theorem sk_79 : skF 79 = (0, 20) := by decide +kernel
theorem cq_X7_48 : CQ RX7 48 yX9_comesTo cX9_comesTo 8 (some .int) 5 := ⟨gd (List.mem_of_getElem? (i := 1102) (by decide +kernel)) rfl, gd (List.mem_of_getElem? (i := 116) (by decide +kernel)) rfl, gd (List.mem_of_getElem? (i := 1017) (by decide +kernel)) rfl, by decide +kernel, by decide⟩
theorem af_X7_24_7 : AF RX7 24 7 7 := ⟨7, 9, RX7, TX7, by decide +kernel, by decide +kernel, rfl, by decide, gX7, gd (List.mem_of_getElem? (i := 390) (by decide +kernel)) rfl⟩
theorem sr_7_7 : srF 7 7 = 82 := by decide +kernel
theorem kc_80 : 80 < KC := by decide +kernel
theorem sk_80 : skF 80 = (0, 20) := by decide +kernel
theorem cm_X7_54 : Cond.methodLink RX7 54 Lib.Math.max.name ∈ lw_gd := gd (List.mem_of_getElem? (i := 1111) (by decide +kernel)) rfl
theorem cq_X7_60 : CQ RX7 60 yX7_lateBy cX7_lateBy 4 (some .int) 2 := ⟨gd (List.mem_of_getElem? (i := 1107) (by decide +kernel)) rfl, gd (List.mem_of_getElem? (i := 118) (by decide +kernel)) rfl, gd (List.mem_of_getElem? (i := 1110) (by decide +kernel)) rfl, by decide +kernel, by decide⟩
theorem cr_7_X7_lateBy : CR 7 yX7_lateBy := ⟨by decide +kernel, 7, 9, TX7, by decide +kernel, rfl, gd (List.mem_of_getElem? (i := 1108) (by decide +kernel)) rfl, gd (List.mem_of_getElem? (i := 1109) (by decide +kernel)) rfl⟩
theorem cq_X0_127 : CQ RX0 127 yX6_askWeek cX6_askWeek 2 none 1 := ⟨gd (List.mem_of_getElem? (i := 1116) (by decide +kernel)) rfl, gd (List.mem_of_getElem? (i := 114) (by decide +kernel)) rfl, gd (List.mem_of_getElem? (i := 1119) (by decide +kernel)) rfl, by decide +kernel, by decide⟩
theorem cr_2_X6_askWeek : CR 2 yX6_askWeek := ⟨by decide +kernel, 6, 15, TX6, by decide +kernel, rfl, gd (List.mem_of_getElem? (i := 1117) (by decide +kernel)) rfl, gd (List.mem_of_getElem? (i := 1118) (by decide +kernel)) rfl⟩
theorem cq_X7_73 : CQ RX7 73 yX0_priceLine cX0_priceLine 4 (some .int) 3 := ⟨gd (List.mem_of_getElem? (i := 1112) (by decide +kernel)) rfl, gd (List.mem_of_getElem? (i := 117) (by decide +kernel)) rfl, gd (List.mem_of_getElem? (i := 1115) (by decide +kernel)) rfl, by decide +kernel, by decide⟩
theorem cr_6_X0_priceLine : CR 6 yX0_priceLine := ⟨by decide +kernel, 0, 12, TX0, by decide +kernel, rfl, gd (List.mem_of_getElem? (i := 1113) (by decide +kernel)) rfl, gd (List.mem_of_getElem? (i := 1114) (by decide +kernel)) rfl⟩
theorem cm_X7_77 : Cond.methodLink RX7 77 Lib.Math.min.name ∈ lw_gd := gd (List.mem_of_getElem? (i := 1120) (by decide +kernel)) rfl
theorem af_X7_31_7 : AF RX7 31 7 1 := ⟨7, 9, RX7, TX7, by decide +kernel, by decide +kernel, rfl, by decide, gX7, gd (List.mem_of_getElem? (i := 384) (by decide +kernel)) rfl⟩
theorem sr_7_1 : srF 7 1 = 4 := by decide +kernel
theorem cq_X7_80 : CQ RX7 80 yX6_valueOf cX6_valueOf 2 (some .int) 1 := ⟨gd (List.mem_of_getElem? (i := 1121) (by decide +kernel)) rfl, gd (List.mem_of_getElem? (i := 114) (by decide +kernel)) rfl, gd (List.mem_of_getElem? (i := 1082) (by decide +kernel)) rfl, by decide +kernel, by decide⟩
theorem cw_X7_85 : Cond.constantLong RX7 85 (Int64.ofInt 7) ∈ lw_gd := gd (List.mem_of_getElem? (i := 1122) (by decide +kernel)) rfl
theorem cw_X7_64 : Cond.constant RX7 64 (Int32.ofInt (-1000000)) ∈ lw_gd := gd (List.mem_of_getElem? (i := 1094) (by decide +kernel)) rfl
theorem cq_X11_202 : CQ RX11 202 yX7_refund cX7_refund 6 (some .int) 1 := ⟨gd (List.mem_of_getElem? (i := 1103) (by decide +kernel)) rfl, gd (List.mem_of_getElem? (i := 118) (by decide +kernel)) rfl, gd (List.mem_of_getElem? (i := 1106) (by decide +kernel)) rfl, by decide +kernel, by decide⟩
theorem cr_7_X7_refund : CR 7 yX7_refund := ⟨by decide +kernel, 7, 9, TX7, by decide +kernel, rfl, gd (List.mem_of_getElem? (i := 1104) (by decide +kernel)) rfl, gd (List.mem_of_getElem? (i := 1105) (by decide +kernel)) rfl⟩
theorem cm_X7_65 : Cond.methodLink RX7 65 Lib.Math.abs.name ∈ lw_gd := gd (List.mem_of_getElem? (i := 1095) (by decide +kernel)) rfl
theorem mst_abs : Cond.static Lib.Math.abs.name ∈ lw_gd := gd (List.mem_of_getElem? (i := 1096) (by decide +kernel)) rfl
theorem mcd_abs : Cond.code Lib.Math.abs.name Lib.Math.abs.code 1 (some .int) ∈ lw_gd := gd (List.mem_of_getElem? (i := 1097) (by decide +kernel)) rfl
theorem cq_X7_69 : CQ RX7 69 yX7_isBackInTime cX7_isBackInTime 6 (some .boolean) 2 := ⟨gd (List.mem_of_getElem? (i := 1098) (by decide +kernel)) rfl, gd (List.mem_of_getElem? (i := 118) (by decide +kernel)) rfl, gd (List.mem_of_getElem? (i := 1101) (by decide +kernel)) rfl, by decide +kernel, by decide⟩
theorem cr_7_X7_isBackInTime : CR 7 yX7_isBackInTime := ⟨by decide +kernel, 7, 9, TX7, by decide +kernel, rfl, gd (List.mem_of_getElem? (i := 1100) (by decide +kernel)) rfl, gd (List.mem_of_getElem? (i := 35) (by decide +kernel)) rfl⟩
theorem cq_X11_199 : CQ RX11 199 yX7_turningBack cX7_turningBack 7 (some .int) 1 := ⟨gd (List.mem_of_getElem? (i := 1090) (by decide +kernel)) rfl, gd (List.mem_of_getElem? (i := 118) (by decide +kernel)) rfl, gd (List.mem_of_getElem? (i := 1093) (by decide +kernel)) rfl, by decide +kernel, by decide⟩
theorem cr_7_X7_turningBack : CR 7 yX7_turningBack := ⟨by decide +kernel, 7, 9, TX7, by decide +kernel, rfl, gd (List.mem_of_getElem? (i := 1091) (by decide +kernel)) rfl, gd (List.mem_of_getElem? (i := 1092) (by decide +kernel)) rfl⟩
theorem cq_X11_205 : CQ RX11 205 yX7_lateBy cX7_lateBy 4 (some .int) 2 := ⟨gd (List.mem_of_getElem? (i := 1127) (by decide +kernel)) rfl, gd (List.mem_of_getElem? (i := 118) (by decide +kernel)) rfl, gd (List.mem_of_getElem? (i := 1110) (by decide +kernel)) rfl, by decide +kernel, by decide⟩
theorem af_X2_37_1 : AF RX2 37 1 6 := ⟨2, 7, RX2, TX2, by decide +kernel, by decide +kernel, rfl, by decide, gX2, gd (List.mem_of_getElem? (i := 167) (by decide +kernel)) rfl⟩
theorem sr_1_6 : srF 1 6 = 0 := by decide +kernel
theorem ap_X2_37_1 : AFp RX2 37 1 6 .int := ⟨2, 7, RX2, TX2, tyX2, by decide +kernel, by decide +kernel, rfl, by decide, gX2, gd (List.mem_of_getElem? (i := 167) (by decide +kernel)) rfl, tyX2_ok, nmX2, by decide +kernel, by decide +kernel⟩
theorem cq_X11_209 : CQ RX11 209 yX2_setPump cX2_setPump 3 none 2 := ⟨gd (List.mem_of_getElem? (i := 1132) (by decide +kernel)) rfl, gd (List.mem_of_getElem? (i := 112) (by decide +kernel)) rfl, gd (List.mem_of_getElem? (i := 1135) (by decide +kernel)) rfl, by decide +kernel, by decide⟩
theorem cr_1_X2_setPump : CR 1 yX2_setPump := ⟨by decide +kernel, 2, 7, TX2, by decide +kernel, rfl, gd (List.mem_of_getElem? (i := 1133) (by decide +kernel)) rfl, gd (List.mem_of_getElem? (i := 1134) (by decide +kernel)) rfl⟩
theorem af_X9_75_1 : AF RX9 75 1 6 := ⟨2, 7, RX2, TX2, by decide +kernel, by decide +kernel, rfl, by decide, gX2, gd (List.mem_of_getElem? (i := 168) (by decide +kernel)) rfl⟩
theorem cq_X11_213 : CQ RX11 213 yX9_nextPump cX9_nextPump 4 (some .int) 0 := ⟨gd (List.mem_of_getElem? (i := 1140) (by decide +kernel)) rfl, gd (List.mem_of_getElem? (i := 116) (by decide +kernel)) rfl, gd (List.mem_of_getElem? (i := 1143) (by decide +kernel)) rfl, by decide +kernel, by decide⟩
theorem cr_5_X9_nextPump : CR 5 yX9_nextPump := ⟨by decide +kernel, 9, 8, TX9, by decide +kernel, rfl, gd (List.mem_of_getElem? (i := 1141) (by decide +kernel)) rfl, gd (List.mem_of_getElem? (i := 1142) (by decide +kernel)) rfl⟩
theorem af_X11_216_5 : AF RX11 216 5 4 := ⟨9, 8, RX9, TX9, by decide +kernel, by decide +kernel, rfl, by decide, gX9, gd (List.mem_of_getElem? (i := 304) (by decide +kernel)) rfl⟩
theorem af_X7_39_7 : AF RX7 39 7 8 := ⟨7, 9, RX7, TX7, by decide +kernel, by decide +kernel, rfl, by decide, gX7, gd (List.mem_of_getElem? (i := 391) (by decide +kernel)) rfl⟩
theorem ap_X7_39_7 : AFp RX7 39 7 8 .int := ⟨7, 9, RX7, TX7, tyX7, by decide +kernel, by decide +kernel, rfl, by decide, gX7, gd (List.mem_of_getElem? (i := 391) (by decide +kernel)) rfl, tyX7_ok, nmX7, by decide +kernel, by decide +kernel⟩
theorem cq_X11_219 : CQ RX11 219 yX7_add cX7_add 6 (some .int) 5 := ⟨gd (List.mem_of_getElem? (i := 1152) (by decide +kernel)) rfl, gd (List.mem_of_getElem? (i := 118) (by decide +kernel)) rfl, gd (List.mem_of_getElem? (i := 1155) (by decide +kernel)) rfl, by decide +kernel, by decide⟩
theorem cr_7_X7_add : CR 7 yX7_add := ⟨by decide +kernel, 7, 9, TX7, by decide +kernel, rfl, gd (List.mem_of_getElem? (i := 1153) (by decide +kernel)) rfl, gd (List.mem_of_getElem? (i := 1154) (by decide +kernel)) rfl⟩
theorem cq_X11_222 : CQ RX11 222 yX7_howManyLate cX7_howManyLate 3 (some .int) 0 := ⟨gd (List.mem_of_getElem? (i := 1160) (by decide +kernel)) rfl, gd (List.mem_of_getElem? (i := 118) (by decide +kernel)) rfl, gd (List.mem_of_getElem? (i := 1163) (by decide +kernel)) rfl, by decide +kernel, by decide⟩
theorem cr_7_X7_howManyLate : CR 7 yX7_howManyLate := ⟨by decide +kernel, 7, 9, TX7, by decide +kernel, rfl, gd (List.mem_of_getElem? (i := 1161) (by decide +kernel)) rfl, gd (List.mem_of_getElem? (i := 1162) (by decide +kernel)) rfl⟩
theorem af_X0_32_6 : AF RX0 32 6 10 := ⟨0, 12, RX0, TX0, by decide +kernel, by decide +kernel, rfl, by decide, gX0, gd (List.mem_of_getElem? (i := 349) (by decide +kernel)) rfl⟩
theorem sr_6_10 : srF 6 10 = 76 := by decide +kernel
theorem kc_74 : 74 < KC := by decide +kernel
theorem sk_74 : skF 74 = (0, 10) := by decide +kernel
theorem af_X0_29_6 : AF RX0 29 6 9 := ⟨0, 12, RX0, TX0, by decide +kernel, by decide +kernel, rfl, by decide, gX0, gd (List.mem_of_getElem? (i := 348) (by decide +kernel)) rfl⟩
theorem sr_6_9 : srF 6 9 = 65 := by decide +kernel
theorem kc_63 : 63 < KC := by decide +kernel
theorem sk_63 : skF 63 = (2, 10) := by decide +kernel
theorem sb_63 : ∀ j, j < 10 → srF 63 j = 64 + j + 2 := by decide +kernel
theorem s2_64 : ∀ j, j < 10 → 64 + j < KC ∧ skF (64 + j) = (0, 10) := by decide +kernel
theorem af_X0_26_6 : AF RX0 26 6 8 := ⟨0, 12, RX0, TX0, by decide +kernel, by decide +kernel, rfl, by decide, gX0, gd (List.mem_of_getElem? (i := 347) (by decide +kernel)) rfl⟩
theorem sr_6_8 : srF 6 8 = 54 := by decide +kernel
theorem kc_52 : 52 < KC := by decide +kernel
theorem sk_52 : skF 52 = (2, 10) := by decide +kernel
theorem sb_52 : ∀ j, j < 10 → srF 52 j = 53 + j + 2 := by decide +kernel
theorem s2_53 : ∀ j, j < 10 → 53 + j < KC ∧ skF (53 + j) = (0, 10) := by decide +kernel
theorem cq_X11_225 : CQ RX11 225 yX0_addLog cX0_addLog 5 (some .int) 3 := ⟨gd (List.mem_of_getElem? (i := 1168) (by decide +kernel)) rfl, gd (List.mem_of_getElem? (i := 117) (by decide +kernel)) rfl, gd (List.mem_of_getElem? (i := 1171) (by decide +kernel)) rfl, by decide +kernel, by decide⟩
theorem cr_6_X0_addLog : CR 6 yX0_addLog := ⟨by decide +kernel, 0, 12, TX0, by decide +kernel, rfl, gd (List.mem_of_getElem? (i := 1169) (by decide +kernel)) rfl, gd (List.mem_of_getElem? (i := 1170) (by decide +kernel)) rfl⟩
theorem cq_X0_58 : CQ RX0 58 yX0_placeOf cX0_placeOf 3 (some .int) 2 := ⟨gd (List.mem_of_getElem? (i := 1184) (by decide +kernel)) rfl, gd (List.mem_of_getElem? (i := 117) (by decide +kernel)) rfl, gd (List.mem_of_getElem? (i := 1187) (by decide +kernel)) rfl, by decide +kernel, by decide⟩
theorem cr_6_X0_placeOf : CR 6 yX0_placeOf := ⟨by decide +kernel, 0, 12, TX0, by decide +kernel, rfl, gd (List.mem_of_getElem? (i := 1186) (by decide +kernel)) rfl, gd (List.mem_of_getElem? (i := 37) (by decide +kernel)) rfl⟩
theorem cq_X0_62 : CQ RX0 62 yX0_timeOf cX0_timeOf 3 (some .int) 2 := ⟨gd (List.mem_of_getElem? (i := 1188) (by decide +kernel)) rfl, gd (List.mem_of_getElem? (i := 117) (by decide +kernel)) rfl, gd (List.mem_of_getElem? (i := 1191) (by decide +kernel)) rfl, by decide +kernel, by decide⟩
theorem cr_6_X0_timeOf : CR 6 yX0_timeOf := ⟨by decide +kernel, 0, 12, TX0, by decide +kernel, rfl, gd (List.mem_of_getElem? (i := 1190) (by decide +kernel)) rfl, gd (List.mem_of_getElem? (i := 38) (by decide +kernel)) rfl⟩
theorem cq_X0_65 : CQ RX0 65 yX9_comesTo cX9_comesTo 8 (some .int) 5 := ⟨gd (List.mem_of_getElem? (i := 1192) (by decide +kernel)) rfl, gd (List.mem_of_getElem? (i := 116) (by decide +kernel)) rfl, gd (List.mem_of_getElem? (i := 1017) (by decide +kernel)) rfl, by decide +kernel, by decide⟩
theorem cq_X0_54 : CQ RX0 54 yX0_canBetween cX0_canBetween 12 (some .boolean) 5 := ⟨gd (List.mem_of_getElem? (i := 1180) (by decide +kernel)) rfl, gd (List.mem_of_getElem? (i := 117) (by decide +kernel)) rfl, gd (List.mem_of_getElem? (i := 1183) (by decide +kernel)) rfl, by decide +kernel, by decide⟩
theorem cr_6_X0_canBetween : CR 6 yX0_canBetween := ⟨by decide +kernel, 0, 12, TX0, by decide +kernel, rfl, gd (List.mem_of_getElem? (i := 1182) (by decide +kernel)) rfl, gd (List.mem_of_getElem? (i := 36) (by decide +kernel)) rfl⟩
theorem cq_X11_229 : CQ RX11 229 yX0_canHaveBeen cX0_canHaveBeen 6 (some .boolean) 4 := ⟨gd (List.mem_of_getElem? (i := 1176) (by decide +kernel)) rfl, gd (List.mem_of_getElem? (i := 117) (by decide +kernel)) rfl, gd (List.mem_of_getElem? (i := 1179) (by decide +kernel)) rfl, by decide +kernel, by decide⟩
theorem cr_6_X0_canHaveBeen : CR 6 yX0_canHaveBeen := ⟨by decide +kernel, 0, 12, TX0, by decide +kernel, rfl, gd (List.mem_of_getElem? (i := 1177) (by decide +kernel)) rfl, gd (List.mem_of_getElem? (i := 1178) (by decide +kernel)) rfl⟩
theorem cw_J6_265 : Cond.constant RJ6 265 (Int32.ofInt 1431655765) ∈ lw_gd := gd (List.mem_of_getElem? (i := 1200) (by decide +kernel)) rfl
theorem cw_J6_266 : Cond.constant RJ6 266 (Int32.ofInt 858993459) ∈ lw_gd := gd (List.mem_of_getElem? (i := 1201) (by decide +kernel)) rfl
theorem cw_J6_267 : Cond.constant RJ6 267 (Int32.ofInt 252645135) ∈ lw_gd := gd (List.mem_of_getElem? (i := 1202) (by decide +kernel)) rfl
theorem cq_X11_232 : CQ RX11 232 yJ6_bitCount_0f7a4 cJ6_bitCount_0f7a4 1 (some .int) 1 := ⟨gd (List.mem_of_getElem? (i := 1197) (by decide +kernel)) rfl, gd (List.mem_of_getElem? (i := 132) (by decide +kernel)) rfl, gd (List.mem_of_getElem? (i := 1199) (by decide +kernel)) rfl, by decide +kernel, by decide⟩
theorem st_J6_bitCount_0f7a4 : Cond.static yJ6_bitCount_0f7a4 ∈ lw_gd := gd (List.mem_of_getElem? (i := 1198) (by decide +kernel)) rfl
theorem af_X0_35_6 : AF RX0 35 6 11 := ⟨0, 12, RX0, TX0, by decide +kernel, by decide +kernel, rfl, by decide, gX0, gd (List.mem_of_getElem? (i := 350) (by decide +kernel)) rfl⟩
theorem sr_6_11 : srF 6 11 = 77 := by decide +kernel
theorem kc_75 : 75 < KC := by decide +kernel
theorem sk_75 : skF 75 = (0, 16) := by decide +kernel
theorem cf_X0_76 : CQ RX0 76 ⟨"java/util/Arrays", "fill", "([II)V"⟩ cJ7_fill_53178 4 none 2 := ⟨gd (List.mem_of_getElem? (i := 1211) (by decide +kernel)) rfl, gd (List.mem_of_getElem? (i := 113) (by decide +kernel)) rfl, gd (List.mem_of_getElem? (i := 149) (by decide +kernel)) rfl, by decide +kernel, by decide⟩
theorem cq_X0_82 : CQ RX0 82 yX0_lastLog cX0_lastLog 5 (some .int) 2 := ⟨gd (List.mem_of_getElem? (i := 1212) (by decide +kernel)) rfl, gd (List.mem_of_getElem? (i := 117) (by decide +kernel)) rfl, gd (List.mem_of_getElem? (i := 1215) (by decide +kernel)) rfl, by decide +kernel, by decide⟩
theorem cr_6_X0_lastLog : CR 6 yX0_lastLog := ⟨by decide +kernel, 0, 12, TX0, by decide +kernel, rfl, gd (List.mem_of_getElem? (i := 1214) (by decide +kernel)) rfl, gd (List.mem_of_getElem? (i := 39) (by decide +kernel)) rfl⟩
theorem cq_X0_85 : CQ RX0 85 yX9_reach cX9_reach 5 none 3 := ⟨gd (List.mem_of_getElem? (i := 1216) (by decide +kernel)) rfl, gd (List.mem_of_getElem? (i := 116) (by decide +kernel)) rfl, gd (List.mem_of_getElem? (i := 1060) (by decide +kernel)) rfl, by decide +kernel, by decide⟩
theorem cq_X0_89 : CQ RX0 89 yX9_reached cX9_reached 4 (some .int) 1 := ⟨gd (List.mem_of_getElem? (i := 1217) (by decide +kernel)) rfl, gd (List.mem_of_getElem? (i := 116) (by decide +kernel)) rfl, gd (List.mem_of_getElem? (i := 1064) (by decide +kernel)) rfl, by decide +kernel, by decide⟩
theorem cq_X11_237 : CQ RX11 237 yX0_settleTonight cX0_settleTonight 6 none 1 := ⟨gd (List.mem_of_getElem? (i := 1207) (by decide +kernel)) rfl, gd (List.mem_of_getElem? (i := 117) (by decide +kernel)) rfl, gd (List.mem_of_getElem? (i := 1210) (by decide +kernel)) rfl, by decide +kernel, by decide⟩
theorem cr_6_X0_settleTonight : CR 6 yX0_settleTonight := ⟨by decide +kernel, 0, 12, TX0, by decide +kernel, rfl, gd (List.mem_of_getElem? (i := 1208) (by decide +kernel)) rfl, gd (List.mem_of_getElem? (i := 1209) (by decide +kernel)) rfl⟩
theorem cq_X0_93 : CQ RX0 93 yJ6_bitCount_0f7a4 cJ6_bitCount_0f7a4 1 (some .int) 1 := ⟨gd (List.mem_of_getElem? (i := 1222) (by decide +kernel)) rfl, gd (List.mem_of_getElem? (i := 132) (by decide +kernel)) rfl, gd (List.mem_of_getElem? (i := 1199) (by decide +kernel)) rfl, by decide +kernel, by decide⟩
theorem cq_X11_243 : CQ RX11 243 yX0_crowd cX0_crowd 3 (some .int) 0 := ⟨gd (List.mem_of_getElem? (i := 1218) (by decide +kernel)) rfl, gd (List.mem_of_getElem? (i := 117) (by decide +kernel)) rfl, gd (List.mem_of_getElem? (i := 1221) (by decide +kernel)) rfl, by decide +kernel, by decide⟩
theorem cr_6_X0_crowd : CR 6 yX0_crowd := ⟨by decide +kernel, 0, 12, TX0, by decide +kernel, rfl, gd (List.mem_of_getElem? (i := 1219) (by decide +kernel)) rfl, gd (List.mem_of_getElem? (i := 1220) (by decide +kernel)) rfl⟩
theorem af_X11_240_6 : AF RX11 240 6 11 := ⟨0, 12, RX0, TX0, by decide +kernel, by decide +kernel, rfl, by decide, gX0, gd (List.mem_of_getElem? (i := 351) (by decide +kernel)) rfl⟩
theorem af_X11_65_0 : AF RX11 65 0 7 := ⟨11, 12, RX11, TX11, by decide +kernel, by decide +kernel, rfl, by decide, gX11, gd (List.mem_of_getElem? (i := 648) (by decide +kernel)) rfl⟩
theorem sr_0_7 : srF 0 7 = 10 := by decide +kernel
theorem gX3 : ∀ w ∈ u_ws RX3 TX3 7, w ∈ lw_gd := gd_all inX3 (by decide +kernel)
theorem af_X3_24_8 : AF RX3 24 8 2 := ⟨3, 7, RX3, TX3, by decide +kernel, by decide +kernel, rfl, by decide, gX3, gd (List.mem_of_getElem? (i := 420) (by decide +kernel)) rfl⟩
theorem sr_8_2 : srF 8 2 = 0 := by decide +kernel
theorem af_X3_9_8 : AF RX3 9 8 0 := ⟨3, 7, RX3, TX3, by decide +kernel, by decide +kernel, rfl, by decide, gX3, gd (List.mem_of_getElem? (i := 418) (by decide +kernel)) rfl⟩
theorem sr_8_0 : srF 8 0 = 83 := by decide +kernel
theorem kc_81 : 81 < KC := by decide +kernel
theorem sk_81 : skF 81 = (0, 7) := by decide +kernel
theorem af_X3_15_8 : AF RX3 15 8 1 := ⟨3, 7, RX3, TX3, by decide +kernel, by decide +kernel, rfl, by decide, gX3, gd (List.mem_of_getElem? (i := 419) (by decide +kernel)) rfl⟩
theorem sr_8_1 : srF 8 1 = 84 := by decide +kernel
theorem kc_82 : 82 < KC := by decide +kernel
theorem sk_82 : skF 82 = (0, 7) := by decide +kernel
theorem ap_X3_24_8 : AFp RX3 24 8 2 .int := ⟨3, 7, RX3, TX3, tyX3, by decide +kernel, by decide +kernel, rfl, by decide, gX3, gd (List.mem_of_getElem? (i := 420) (by decide +kernel)) rfl, tyX3_ok, nmX3, by decide +kernel, by decide +kernel⟩
theorem af_X3_21_8 : AF RX3 21 8 6 := ⟨3, 7, RX3, TX3, by decide +kernel, by decide +kernel, rfl, by decide, gX3, gd (List.mem_of_getElem? (i := 427) (by decide +kernel)) rfl⟩
theorem sr_8_6 : srF 8 6 = 86 := by decide +kernel
theorem kc_84 : 84 < KC := by decide +kernel
theorem sk_84 : skF 84 = (0, 7) := by decide +kernel
theorem cm_X3_45 : Cond.methodLink RX3 45 Lib.Math.max.name ∈ lw_gd := gd (List.mem_of_getElem? (i := 1243) (by decide +kernel)) rfl
theorem cq_X3_51 : CQ RX3 51 yX3_minutesOf cX3_minutesOf 3 (some .int) 2 := ⟨gd (List.mem_of_getElem? (i := 1244) (by decide +kernel)) rfl, gd (List.mem_of_getElem? (i := 119) (by decide +kernel)) rfl, gd (List.mem_of_getElem? (i := 1247) (by decide +kernel)) rfl, by decide +kernel, by decide⟩
theorem cr_8_X3_minutesOf : CR 8 yX3_minutesOf := ⟨by decide +kernel, 3, 7, TX3, by decide +kernel, rfl, gd (List.mem_of_getElem? (i := 1246) (by decide +kernel)) rfl, gd (List.mem_of_getElem? (i := 42) (by decide +kernel)) rfl⟩
theorem cq_X3_37 : CQ RX3 37 yX3_waitOf cX3_waitOf 6 (some .int) 1 := ⟨gd (List.mem_of_getElem? (i := 1239) (by decide +kernel)) rfl, gd (List.mem_of_getElem? (i := 119) (by decide +kernel)) rfl, gd (List.mem_of_getElem? (i := 1242) (by decide +kernel)) rfl, by decide +kernel, by decide⟩
theorem cr_8_X3_waitOf : CR 8 yX3_waitOf := ⟨by decide +kernel, 3, 7, TX3, by decide +kernel, rfl, gd (List.mem_of_getElem? (i := 1241) (by decide +kernel)) rfl, gd (List.mem_of_getElem? (i := 41) (by decide +kernel)) rfl⟩
theorem ap_X3_28_8 : AFp RX3 28 8 3 .int := ⟨3, 7, RX3, TX3, tyX3, by decide +kernel, by decide +kernel, rfl, by decide, gX3, gd (List.mem_of_getElem? (i := 422) (by decide +kernel)) rfl, tyX3_ok, nmX3, by decide +kernel, by decide +kernel⟩
theorem sr_8_3 : srF 8 3 = 0 := by decide +kernel
theorem af_X3_28_8 : AF RX3 28 8 3 := ⟨3, 7, RX3, TX3, by decide +kernel, by decide +kernel, rfl, by decide, gX3, gd (List.mem_of_getElem? (i := 422) (by decide +kernel)) rfl⟩
theorem ap_X3_31_8 : AFp RX3 31 8 4 .int := ⟨3, 7, RX3, TX3, tyX3, by decide +kernel, by decide +kernel, rfl, by decide, gX3, gd (List.mem_of_getElem? (i := 424) (by decide +kernel)) rfl, tyX3_ok, nmX3, by decide +kernel, by decide +kernel⟩
theorem sr_8_4 : srF 8 4 = 0 := by decide +kernel
theorem af_X3_18_8 : AF RX3 18 8 5 := ⟨3, 7, RX3, TX3, by decide +kernel, by decide +kernel, rfl, by decide, gX3, gd (List.mem_of_getElem? (i := 426) (by decide +kernel)) rfl⟩
theorem sr_8_5 : srF 8 5 = 85 := by decide +kernel
theorem kc_83 : 83 < KC := by decide +kernel
theorem sk_83 : skF 83 = (0, 7) := by decide +kernel
theorem cc_X3_55 : Cond.methodLink RX3 55 arraycopyName ∈ lw_gd := gd (List.mem_of_getElem? (i := 1251) (by decide +kernel)) rfl
theorem af_X3_31_8 : AF RX3 31 8 4 := ⟨3, 7, RX3, TX3, by decide +kernel, by decide +kernel, rfl, by decide, gX3, gd (List.mem_of_getElem? (i := 424) (by decide +kernel)) rfl⟩
theorem cq_X3_41 : CQ RX3 41 yX3_putNext cX3_putNext 8 none 5 := ⟨gd (List.mem_of_getElem? (i := 1248) (by decide +kernel)) rfl, gd (List.mem_of_getElem? (i := 119) (by decide +kernel)) rfl, gd (List.mem_of_getElem? (i := 1250) (by decide +kernel)) rfl, by decide +kernel, by decide⟩
theorem st_X3_putNext : Cond.static yX3_putNext ∈ lw_gd := gd (List.mem_of_getElem? (i := 1249) (by decide +kernel)) rfl
theorem cq_X3_34 : CQ RX3 34 yX3_findBest cX3_findBest 2 none 0 := ⟨gd (List.mem_of_getElem? (i := 1235) (by decide +kernel)) rfl, gd (List.mem_of_getElem? (i := 119) (by decide +kernel)) rfl, gd (List.mem_of_getElem? (i := 1238) (by decide +kernel)) rfl, by decide +kernel, by decide⟩
theorem cr_8_X3_findBest : CR 8 yX3_findBest := ⟨by decide +kernel, 3, 7, TX3, by decide +kernel, rfl, gd (List.mem_of_getElem? (i := 1237) (by decide +kernel)) rfl, gd (List.mem_of_getElem? (i := 40) (by decide +kernel)) rfl⟩
theorem cq_X11_249 : CQ RX11 249 yX3_add cX3_add 3 (some .int) 2 := ⟨gd (List.mem_of_getElem? (i := 1231) (by decide +kernel)) rfl, gd (List.mem_of_getElem? (i := 119) (by decide +kernel)) rfl, gd (List.mem_of_getElem? (i := 1234) (by decide +kernel)) rfl, by decide +kernel, by decide⟩
theorem cr_8_X3_add : CR 8 yX3_add := ⟨by decide +kernel, 3, 7, TX3, by decide +kernel, rfl, gd (List.mem_of_getElem? (i := 1232) (by decide +kernel)) rfl, gd (List.mem_of_getElem? (i := 1233) (by decide +kernel)) rfl⟩
theorem cq_X11_246 : CQ RX11 246 yX3_clear cX3_clear 1 none 0 := ⟨gd (List.mem_of_getElem? (i := 1227) (by decide +kernel)) rfl, gd (List.mem_of_getElem? (i := 119) (by decide +kernel)) rfl, gd (List.mem_of_getElem? (i := 1230) (by decide +kernel)) rfl, by decide +kernel, by decide⟩
theorem cr_8_X3_clear : CR 8 yX3_clear := ⟨by decide +kernel, 3, 7, TX3, by decide +kernel, rfl, gd (List.mem_of_getElem? (i := 1228) (by decide +kernel)) rfl, gd (List.mem_of_getElem? (i := 1229) (by decide +kernel)) rfl⟩
theorem af_X11_252_8 : AF RX11 252 8 3 := ⟨3, 7, RX3, TX3, by decide +kernel, by decide +kernel, rfl, by decide, gX3, gd (List.mem_of_getElem? (i := 423) (by decide +kernel)) rfl⟩
theorem af_X11_255_8 : AF RX11 255 8 4 := ⟨3, 7, RX3, TX3, by decide +kernel, by decide +kernel, rfl, by decide, gX3, gd (List.mem_of_getElem? (i := 425) (by decide +kernel)) rfl⟩
theorem cq_X11_258 : CQ RX11 258 yX3_lockfulsAsCome cX3_lockfulsAsCome 3 (some .int) 0 := ⟨gd (List.mem_of_getElem? (i := 1256) (by decide +kernel)) rfl, gd (List.mem_of_getElem? (i := 119) (by decide +kernel)) rfl, gd (List.mem_of_getElem? (i := 1259) (by decide +kernel)) rfl, by decide +kernel, by decide⟩
theorem cr_8_X3_lockfulsAsCome : CR 8 yX3_lockfulsAsCome := ⟨by decide +kernel, 3, 7, TX3, by decide +kernel, rfl, gd (List.mem_of_getElem? (i := 1257) (by decide +kernel)) rfl, gd (List.mem_of_getElem? (i := 1258) (by decide +kernel)) rfl⟩
theorem cq_X11_261 : CQ RX11 261 yX3_lockfulsAtBest cX3_lockfulsAtBest 3 (some .int) 0 := ⟨gd (List.mem_of_getElem? (i := 1260) (by decide +kernel)) rfl, gd (List.mem_of_getElem? (i := 119) (by decide +kernel)) rfl, gd (List.mem_of_getElem? (i := 1263) (by decide +kernel)) rfl, by decide +kernel, by decide⟩
theorem cr_8_X3_lockfulsAtBest : CR 8 yX3_lockfulsAtBest := ⟨by decide +kernel, 3, 7, TX3, by decide +kernel, rfl, gd (List.mem_of_getElem? (i := 1261) (by decide +kernel)) rfl, gd (List.mem_of_getElem? (i := 1262) (by decide +kernel)) rfl⟩
theorem ns_X3_61 : (RX3, 61) ∈ nestL := by decide +kernel
theorem cq_X11_264 : CQ RX11 264 yX3_atBest cX3_atBest 2 (some .int) 1 := ⟨gd (List.mem_of_getElem? (i := 1264) (by decide +kernel)) rfl, gd (List.mem_of_getElem? (i := 119) (by decide +kernel)) rfl, gd (List.mem_of_getElem? (i := 1267) (by decide +kernel)) rfl, by decide +kernel, by decide⟩
theorem cr_8_X3_atBest : CR 8 yX3_atBest := ⟨by decide +kernel, 3, 7, TX3, by decide +kernel, rfl, gd (List.mem_of_getElem? (i := 1265) (by decide +kernel)) rfl, gd (List.mem_of_getElem? (i := 1266) (by decide +kernel)) rfl⟩
theorem cq_X11_267 : CQ RX11 267 yX11_isWeek cX11_isWeek 1 (some .boolean) 1 := ⟨gd (List.mem_of_getElem? (i := 1273) (by decide +kernel)) rfl, gd (List.mem_of_getElem? (i := 111) (by decide +kernel)) rfl, gd (List.mem_of_getElem? (i := 1275) (by decide +kernel)) rfl, by decide +kernel, by decide⟩
theorem st_X11_isWeek : Cond.static yX11_isWeek ∈ lw_gd := gd (List.mem_of_getElem? (i := 1274) (by decide +kernel)) rfl
theorem af_X11_72_0 : AF RX11 72 0 8 := ⟨11, 12, RX11, TX11, by decide +kernel, by decide +kernel, rfl, by decide, gX11, gd (List.mem_of_getElem? (i := 649) (by decide +kernel)) rfl⟩
theorem sr_0_8 : srF 0 8 = 11 := by decide +kernel
theorem gX1 : ∀ w ∈ u_ws RX1 TX1 17, w ∈ lw_gd := gd_all inX1 (by decide +kernel)
theorem af_X1_48_9 : AF RX1 48 9 4 := ⟨1, 17, RX1, TX1, by decide +kernel, by decide +kernel, rfl, by decide, gX1, gd (List.mem_of_getElem? (i := 453) (by decide +kernel)) rfl⟩
theorem sr_9_4 : srF 9 4 = 0 := by decide +kernel
theorem af_X1_9_9 : AF RX1 9 9 0 := ⟨1, 17, RX1, TX1, by decide +kernel, by decide +kernel, rfl, by decide, gX1, gd (List.mem_of_getElem? (i := 449) (by decide +kernel)) rfl⟩
theorem sr_9_0 : srF 9 0 = 87 := by decide +kernel
theorem kc_85 : 85 < KC := by decide +kernel
theorem sk_85 : skF 85 = (0, 8) := by decide +kernel
theorem af_X1_15_9 : AF RX1 15 9 1 := ⟨1, 17, RX1, TX1, by decide +kernel, by decide +kernel, rfl, by decide, gX1, gd (List.mem_of_getElem? (i := 450) (by decide +kernel)) rfl⟩
theorem sr_9_1 : srF 9 1 = 88 := by decide +kernel
theorem kc_86 : 86 < KC := by decide +kernel
theorem sk_86 : skF 86 = (0, 8) := by decide +kernel
theorem af_X1_18_9 : AF RX1 18 9 2 := ⟨1, 17, RX1, TX1, by decide +kernel, by decide +kernel, rfl, by decide, gX1, gd (List.mem_of_getElem? (i := 451) (by decide +kernel)) rfl⟩
theorem sr_9_2 : srF 9 2 = 89 := by decide +kernel
theorem kc_87 : 87 < KC := by decide +kernel
theorem sk_87 : skF 87 = (0, 8) := by decide +kernel
theorem af_X1_21_9 : AF RX1 21 9 3 := ⟨1, 17, RX1, TX1, by decide +kernel, by decide +kernel, rfl, by decide, gX1, gd (List.mem_of_getElem? (i := 452) (by decide +kernel)) rfl⟩
theorem sr_9_3 : srF 9 3 = 90 := by decide +kernel
theorem kc_88 : 88 < KC := by decide +kernel
theorem sk_88 : skF 88 = (0, 8) := by decide +kernel
theorem ap_X1_48_9 : AFp RX1 48 9 4 .int := ⟨1, 17, RX1, TX1, tyX1, by decide +kernel, by decide +kernel, rfl, by decide, gX1, gd (List.mem_of_getElem? (i := 453) (by decide +kernel)) rfl, tyX1_ok, nmX1, by decide +kernel, by decide +kernel⟩
theorem ap_X1_52_9 : AFp RX1 52 9 11 .int := ⟨1, 17, RX1, TX1, tyX1, by decide +kernel, by decide +kernel, rfl, by decide, gX1, gd (List.mem_of_getElem? (i := 461) (by decide +kernel)) rfl, tyX1_ok, nmX1, by decide +kernel, by decide +kernel⟩
theorem sr_9_11 : srF 9 11 = 0 := by decide +kernel
theorem af_X1_24_9 : AF RX1 24 9 5 := ⟨1, 17, RX1, TX1, by decide +kernel, by decide +kernel, rfl, by decide, gX1, gd (List.mem_of_getElem? (i := 455) (by decide +kernel)) rfl⟩
theorem sr_9_5 : srF 9 5 = 91 := by decide +kernel
theorem kc_89 : 89 < KC := by decide +kernel
theorem sk_89 : skF 89 = (0, 8) := by decide +kernel
theorem cq_X1_55 : CQ RX1 55 yX1_putInOrder cX1_putInOrder 4 none 0 := ⟨gd (List.mem_of_getElem? (i := 1280) (by decide +kernel)) rfl, gd (List.mem_of_getElem? (i := 120) (by decide +kernel)) rfl, gd (List.mem_of_getElem? (i := 1283) (by decide +kernel)) rfl, by decide +kernel, by decide⟩
theorem cr_9_X1_putInOrder : CR 9 yX1_putInOrder := ⟨by decide +kernel, 1, 17, TX1, by decide +kernel, rfl, gd (List.mem_of_getElem? (i := 1282) (by decide +kernel)) rfl, gd (List.mem_of_getElem? (i := 43) (by decide +kernel)) rfl⟩
theorem cq_X11_270 : CQ RX11 270 yX1_add cX1_add 5 (some .int) 4 := ⟨gd (List.mem_of_getElem? (i := 1276) (by decide +kernel)) rfl, gd (List.mem_of_getElem? (i := 120) (by decide +kernel)) rfl, gd (List.mem_of_getElem? (i := 1279) (by decide +kernel)) rfl, by decide +kernel, by decide⟩
theorem cr_9_X1_add : CR 9 yX1_add := ⟨by decide +kernel, 1, 17, TX1, by decide +kernel, rfl, gd (List.mem_of_getElem? (i := 1277) (by decide +kernel)) rfl, gd (List.mem_of_getElem? (i := 1278) (by decide +kernel)) rfl⟩
theorem af_X11_287_6 : AF RX11 287 6 3 := ⟨0, 12, RX0, TX0, by decide +kernel, by decide +kernel, rfl, by decide, gX0, gd (List.mem_of_getElem? (i := 338) (by decide +kernel)) rfl⟩
theorem af_X11_290_6 : AF RX11 290 6 5 := ⟨0, 12, RX0, TX0, by decide +kernel, by decide +kernel, rfl, by decide, gX0, gd (List.mem_of_getElem? (i := 341) (by decide +kernel)) rfl⟩
theorem af_X1_27_9 : AF RX1 27 9 6 := ⟨1, 17, RX1, TX1, by decide +kernel, by decide +kernel, rfl, by decide, gX1, gd (List.mem_of_getElem? (i := 456) (by decide +kernel)) rfl⟩
theorem sr_9_6 : srF 9 6 = 92 := by decide +kernel
theorem kc_90 : 90 < KC := by decide +kernel
theorem sk_90 : skF 90 = (0, 4) := by decide +kernel
theorem af_X1_30_9 : AF RX1 30 9 7 := ⟨1, 17, RX1, TX1, by decide +kernel, by decide +kernel, rfl, by decide, gX1, gd (List.mem_of_getElem? (i := 457) (by decide +kernel)) rfl⟩
theorem sr_9_7 : srF 9 7 = 93 := by decide +kernel
theorem kc_91 : 91 < KC := by decide +kernel
theorem sk_91 : skF 91 = (0, 4) := by decide +kernel
theorem cq_X11_293 : CQ RX11 293 yX1_hire cX1_hire 4 none 3 := ⟨gd (List.mem_of_getElem? (i := 1292) (by decide +kernel)) rfl, gd (List.mem_of_getElem? (i := 120) (by decide +kernel)) rfl, gd (List.mem_of_getElem? (i := 1295) (by decide +kernel)) rfl, by decide +kernel, by decide⟩
theorem cr_9_X1_hire : CR 9 yX1_hire := ⟨by decide +kernel, 1, 17, TX1, by decide +kernel, rfl, gd (List.mem_of_getElem? (i := 1293) (by decide +kernel)) rfl, gd (List.mem_of_getElem? (i := 1294) (by decide +kernel)) rfl⟩
theorem cq_X11_271 : CQ RX11 271 yX11_hireFirst cX11_hireFirst 3 none 1 := ⟨gd (List.mem_of_getElem? (i := 1288) (by decide +kernel)) rfl, gd (List.mem_of_getElem? (i := 111) (by decide +kernel)) rfl, gd (List.mem_of_getElem? (i := 1291) (by decide +kernel)) rfl, by decide +kernel, by decide⟩
theorem cr_0_X11_hireFirst : CR 0 yX11_hireFirst := ⟨by decide +kernel, 11, 12, TX11, by decide +kernel, rfl, gd (List.mem_of_getElem? (i := 1290) (by decide +kernel)) rfl, gd (List.mem_of_getElem? (i := 44) (by decide +kernel)) rfl⟩
theorem af_X1_52_9 : AF RX1 52 9 11 := ⟨1, 17, RX1, TX1, by decide +kernel, by decide +kernel, rfl, by decide, gX1, gd (List.mem_of_getElem? (i := 461) (by decide +kernel)) rfl⟩
theorem cm_X1_58 : Cond.methodLink RX1 58 Lib.Math.min.name ∈ lw_gd := gd (List.mem_of_getElem? (i := 1300) (by decide +kernel)) rfl
theorem ap_X1_64_9 : AFp RX1 64 9 10 .int := ⟨1, 17, RX1, TX1, tyX1, by decide +kernel, by decide +kernel, rfl, by decide, gX1, gd (List.mem_of_getElem? (i := 460) (by decide +kernel)) rfl, tyX1_ok, nmX1, by decide +kernel, by decide +kernel⟩
theorem sr_9_10 : srF 9 10 = 0 := by decide +kernel
theorem ap_X1_67_9 : AFp RX1 67 9 15 .int := ⟨1, 17, RX1, TX1, tyX1, by decide +kernel, by decide +kernel, rfl, by decide, gX1, gd (List.mem_of_getElem? (i := 466) (by decide +kernel)) rfl, tyX1_ok, nmX1, by decide +kernel, by decide +kernel⟩
theorem sr_9_15 : srF 9 15 = 0 := by decide +kernel
theorem ap_X1_70_9 : AFp RX1 70 9 16 .int := ⟨1, 17, RX1, TX1, tyX1, by decide +kernel, by decide +kernel, rfl, by decide, gX1, gd (List.mem_of_getElem? (i := 468) (by decide +kernel)) rfl, tyX1_ok, nmX1, by decide +kernel, by decide +kernel⟩
theorem sr_9_16 : srF 9 16 = 0 := by decide +kernel
theorem af_X1_64_9 : AF RX1 64 9 10 := ⟨1, 17, RX1, TX1, by decide +kernel, by decide +kernel, rfl, by decide, gX1, gd (List.mem_of_getElem? (i := 460) (by decide +kernel)) rfl⟩
theorem af_X1_33_9 : AF RX1 33 9 8 := ⟨1, 17, RX1, TX1, by decide +kernel, by decide +kernel, rfl, by decide, gX1, gd (List.mem_of_getElem? (i := 458) (by decide +kernel)) rfl⟩
theorem sr_9_8 : srF 9 8 = 94 := by decide +kernel
theorem kc_92 : 92 < KC := by decide +kernel
theorem sk_92 : skF 92 = (0, 4) := by decide +kernel
theorem af_X1_36_9 : AF RX1 36 9 9 := ⟨1, 17, RX1, TX1, by decide +kernel, by decide +kernel, rfl, by decide, gX1, gd (List.mem_of_getElem? (i := 459) (by decide +kernel)) rfl⟩
theorem sr_9_9 : srF 9 9 = 95 := by decide +kernel
theorem kc_93 : 93 < KC := by decide +kernel
theorem sk_93 : skF 93 = (0, 4) := by decide +kernel
theorem af_X1_39_9 : AF RX1 39 9 12 := ⟨1, 17, RX1, TX1, by decide +kernel, by decide +kernel, rfl, by decide, gX1, gd (List.mem_of_getElem? (i := 462) (by decide +kernel)) rfl⟩
theorem sr_9_12 : srF 9 12 = 96 := by decide +kernel
theorem kc_94 : 94 < KC := by decide +kernel
theorem sk_94 : skF 94 = (0, 9) := by decide +kernel
theorem cq_X1_81 : CQ RX1 81 yX1_canCome cX1_canCome 5 (some .boolean) 2 := ⟨gd (List.mem_of_getElem? (i := 1305) (by decide +kernel)) rfl, gd (List.mem_of_getElem? (i := 120) (by decide +kernel)) rfl, gd (List.mem_of_getElem? (i := 1308) (by decide +kernel)) rfl, by decide +kernel, by decide⟩
theorem cr_9_X1_canCome : CR 9 yX1_canCome := ⟨by decide +kernel, 1, 17, TX1, by decide +kernel, rfl, gd (List.mem_of_getElem? (i := 1307) (by decide +kernel)) rfl, gd (List.mem_of_getElem? (i := 46) (by decide +kernel)) rfl⟩
theorem cq_X1_73 : CQ RX1 73 yX1_canEverBeGiven cX1_canEverBeGiven 3 (some .boolean) 1 := ⟨gd (List.mem_of_getElem? (i := 1301) (by decide +kernel)) rfl, gd (List.mem_of_getElem? (i := 120) (by decide +kernel)) rfl, gd (List.mem_of_getElem? (i := 1304) (by decide +kernel)) rfl, by decide +kernel, by decide⟩
theorem cr_9_X1_canEverBeGiven : CR 9 yX1_canEverBeGiven := ⟨by decide +kernel, 1, 17, TX1, by decide +kernel, rfl, gd (List.mem_of_getElem? (i := 1303) (by decide +kernel)) rfl, gd (List.mem_of_getElem? (i := 45) (by decide +kernel)) rfl⟩
theorem af_X1_67_9 : AF RX1 67 9 15 := ⟨1, 17, RX1, TX1, by decide +kernel, by decide +kernel, rfl, by decide, gX1, gd (List.mem_of_getElem? (i := 466) (by decide +kernel)) rfl⟩
theorem af_X1_70_9 : AF RX1 70 9 16 := ⟨1, 17, RX1, TX1, by decide +kernel, by decide +kernel, rfl, by decide, gX1, gd (List.mem_of_getElem? (i := 468) (by decide +kernel)) rfl⟩
theorem af_X1_42_9 : AF RX1 42 9 13 := ⟨1, 17, RX1, TX1, by decide +kernel, by decide +kernel, rfl, by decide, gX1, gd (List.mem_of_getElem? (i := 463) (by decide +kernel)) rfl⟩
theorem sr_9_13 : srF 9 13 = 97 := by decide +kernel
theorem af_X1_45_9 : AF RX1 45 9 14 := ⟨1, 17, RX1, TX1, by decide +kernel, by decide +kernel, rfl, by decide, gX1, gd (List.mem_of_getElem? (i := 464) (by decide +kernel)) rfl⟩
theorem sr_9_14 : srF 9 14 = 98 := by decide +kernel
theorem kc_95 : 95 < KC := by decide +kernel
theorem sk_95 : skF 95 = (0, 8) := by decide +kernel
theorem kc_96 : 96 < KC := by decide +kernel
theorem sk_96 : skF 96 = (0, 8) := by decide +kernel
theorem cc_X1_92 : Cond.methodLink RX1 92 arraycopyName ∈ lw_gd := gd (List.mem_of_getElem? (i := 1316) (by decide +kernel)) rfl
theorem cq_X1_85 : CQ RX1 85 yX1_compare cX1_compare 4 none 1 := ⟨gd (List.mem_of_getElem? (i := 1312) (by decide +kernel)) rfl, gd (List.mem_of_getElem? (i := 120) (by decide +kernel)) rfl, gd (List.mem_of_getElem? (i := 1315) (by decide +kernel)) rfl, by decide +kernel, by decide⟩
theorem cr_9_X1_compare : CR 9 yX1_compare := ⟨by decide +kernel, 1, 17, TX1, by decide +kernel, rfl, gd (List.mem_of_getElem? (i := 1314) (by decide +kernel)) rfl, gd (List.mem_of_getElem? (i := 47) (by decide +kernel)) rfl⟩
theorem cq_X1_89 : CQ RX1 89 yX1_canHave cX1_canHave 3 (some .boolean) 2 := ⟨gd (List.mem_of_getElem? (i := 1317) (by decide +kernel)) rfl, gd (List.mem_of_getElem? (i := 120) (by decide +kernel)) rfl, gd (List.mem_of_getElem? (i := 1320) (by decide +kernel)) rfl, by decide +kernel, by decide⟩
theorem cr_9_X1_canHave : CR 9 yX1_canHave := ⟨by decide +kernel, 1, 17, TX1, by decide +kernel, rfl, gd (List.mem_of_getElem? (i := 1319) (by decide +kernel)) rfl, gd (List.mem_of_getElem? (i := 48) (by decide +kernel)) rfl⟩
theorem cq_X1_77 : CQ RX1 77 yX1_giveNext cX1_giveNext 8 none 3 := ⟨gd (List.mem_of_getElem? (i := 1309) (by decide +kernel)) rfl, gd (List.mem_of_getElem? (i := 120) (by decide +kernel)) rfl, gd (List.mem_of_getElem? (i := 1311) (by decide +kernel)) rfl, by decide +kernel, by decide⟩
theorem st_X1_giveNext : Cond.static yX1_giveNext ∈ lw_gd := gd (List.mem_of_getElem? (i := 1310) (by decide +kernel)) rfl
theorem cq_X11_274 : CQ RX11 274 yX1_giveBest cX1_giveBest 3 none 1 := ⟨gd (List.mem_of_getElem? (i := 1296) (by decide +kernel)) rfl, gd (List.mem_of_getElem? (i := 120) (by decide +kernel)) rfl, gd (List.mem_of_getElem? (i := 1299) (by decide +kernel)) rfl, by decide +kernel, by decide⟩
theorem cr_9_X1_giveBest : CR 9 yX1_giveBest := ⟨by decide +kernel, 1, 17, TX1, by decide +kernel, rfl, gd (List.mem_of_getElem? (i := 1297) (by decide +kernel)) rfl, gd (List.mem_of_getElem? (i := 1298) (by decide +kernel)) rfl⟩
theorem af_X11_283_9 : AF RX11 283 9 4 := ⟨1, 17, RX1, TX1, by decide +kernel, by decide +kernel, rfl, by decide, gX1, gd (List.mem_of_getElem? (i := 454) (by decide +kernel)) rfl⟩
theorem af_X11_284_9 : AF RX11 284 9 14 := ⟨1, 17, RX1, TX1, by decide +kernel, by decide +kernel, rfl, by decide, gX1, gd (List.mem_of_getElem? (i := 465) (by decide +kernel)) rfl⟩
theorem af_X11_280_9 : AF RX11 280 9 16 := ⟨1, 17, RX1, TX1, by decide +kernel, by decide +kernel, rfl, by decide, gX1, gd (List.mem_of_getElem? (i := 469) (by decide +kernel)) rfl⟩
theorem af_X11_277_9 : AF RX11 277 9 15 := ⟨1, 17, RX1, TX1, by decide +kernel, by decide +kernel, rfl, by decide, gX1, gd (List.mem_of_getElem? (i := 467) (by decide +kernel)) rfl⟩
theorem af_X11_79_0 : AF RX11 79 0 9 := ⟨11, 12, RX11, TX11, by decide +kernel, by decide +kernel, rfl, by decide, gX11, gd (List.mem_of_getElem? (i := 650) (by decide +kernel)) rfl⟩
theorem sr_0_9 : srF 0 9 = 12 := by decide +kernel
theorem gX10 : ∀ w ∈ u_ws RX10 TX10 15, w ∈ lw_gd := gd_all inX10 (by decide +kernel)
theorem af_X10_15_10 : AF RX10 15 10 1 := ⟨10, 15, RX10, TX10, by decide +kernel, by decide +kernel, rfl, by decide, gX10, gd (List.mem_of_getElem? (i := 512) (by decide +kernel)) rfl⟩
theorem sr_10_1 : srF 10 1 = 100 := by decide +kernel
theorem kc_98 : 98 < KC := by decide +kernel
theorem sk_98 : skF 98 = (0, 10) := by decide +kernel
theorem cq_X10_42 : CQ RX10 42 yX10_othersInDock cX10_othersInDock 4 (some .int) 1 := ⟨gd (List.mem_of_getElem? (i := 1333) (by decide +kernel)) rfl, gd (List.mem_of_getElem? (i := 121) (by decide +kernel)) rfl, gd (List.mem_of_getElem? (i := 1336) (by decide +kernel)) rfl, by decide +kernel, by decide⟩
theorem cr_10_X10_othersInDock : CR 10 yX10_othersInDock := ⟨by decide +kernel, 10, 15, TX10, by decide +kernel, rfl, gd (List.mem_of_getElem? (i := 1335) (by decide +kernel)) rfl, gd (List.mem_of_getElem? (i := 49) (by decide +kernel)) rfl⟩
theorem af_X10_9_10 : AF RX10 9 10 0 := ⟨10, 15, RX10, TX10, by decide +kernel, by decide +kernel, rfl, by decide, gX10, gd (List.mem_of_getElem? (i := 511) (by decide +kernel)) rfl⟩
theorem sr_10_0 : srF 10 0 = 99 := by decide +kernel
theorem kc_97 : 97 < KC := by decide +kernel
theorem sk_97 : skF 97 = (0, 10) := by decide +kernel
theorem cq_X11_296 : CQ RX11 296 yX10_tellDock cX10_tellDock 4 (some .boolean) 3 := ⟨gd (List.mem_of_getElem? (i := 1329) (by decide +kernel)) rfl, gd (List.mem_of_getElem? (i := 121) (by decide +kernel)) rfl, gd (List.mem_of_getElem? (i := 1332) (by decide +kernel)) rfl, by decide +kernel, by decide⟩
theorem cr_10_X10_tellDock : CR 10 yX10_tellDock := ⟨by decide +kernel, 10, 15, TX10, by decide +kernel, rfl, gd (List.mem_of_getElem? (i := 1330) (by decide +kernel)) rfl, gd (List.mem_of_getElem? (i := 1331) (by decide +kernel)) rfl⟩
theorem ap_X10_46_10 : AFp RX10 46 10 2 .int := ⟨10, 15, RX10, TX10, tyX10, by decide +kernel, by decide +kernel, rfl, by decide, gX10, gd (List.mem_of_getElem? (i := 513) (by decide +kernel)) rfl, tyX10_ok, nmX10, by decide +kernel, by decide +kernel⟩
theorem sr_10_2 : srF 10 2 = 0 := by decide +kernel
theorem af_X10_46_10 : AF RX10 46 10 2 := ⟨10, 15, RX10, TX10, by decide +kernel, by decide +kernel, rfl, by decide, gX10, gd (List.mem_of_getElem? (i := 513) (by decide +kernel)) rfl⟩
theorem af_X10_18_10 : AF RX10 18 10 3 := ⟨10, 15, RX10, TX10, by decide +kernel, by decide +kernel, rfl, by decide, gX10, gd (List.mem_of_getElem? (i := 515) (by decide +kernel)) rfl⟩
theorem sr_10_3 : srF 10 3 = 101 := by decide +kernel
theorem kc_99 : 99 < KC := by decide +kernel
theorem sk_99 : skF 99 = (0, 7) := by decide +kernel
theorem af_X10_21_10 : AF RX10 21 10 4 := ⟨10, 15, RX10, TX10, by decide +kernel, by decide +kernel, rfl, by decide, gX10, gd (List.mem_of_getElem? (i := 516) (by decide +kernel)) rfl⟩
theorem sr_10_4 : srF 10 4 = 102 := by decide +kernel
theorem kc_100 : 100 < KC := by decide +kernel
theorem sk_100 : skF 100 = (0, 128) := by decide +kernel
theorem af_X10_24_10 : AF RX10 24 10 5 := ⟨10, 15, RX10, TX10, by decide +kernel, by decide +kernel, rfl, by decide, gX10, gd (List.mem_of_getElem? (i := 518) (by decide +kernel)) rfl⟩
theorem sr_10_5 : srF 10 5 = 103 := by decide +kernel
theorem kc_101 : 101 < KC := by decide +kernel
theorem sk_101 : skF 101 = (0, 128) := by decide +kernel
theorem af_X10_27_10 : AF RX10 27 10 6 := ⟨10, 15, RX10, TX10, by decide +kernel, by decide +kernel, rfl, by decide, gX10, gd (List.mem_of_getElem? (i := 520) (by decide +kernel)) rfl⟩
theorem sr_10_6 : srF 10 6 = 104 := by decide +kernel
theorem kc_102 : 102 < KC := by decide +kernel
theorem sk_102 : skF 102 = (0, 128) := by decide +kernel
theorem cq_X10_54 : CQ RX10 54 yX10_isBetter cX10_isBetter 4 (some .boolean) 3 := ⟨gd (List.mem_of_getElem? (i := 1349) (by decide +kernel)) rfl, gd (List.mem_of_getElem? (i := 121) (by decide +kernel)) rfl, gd (List.mem_of_getElem? (i := 1352) (by decide +kernel)) rfl, by decide +kernel, by decide⟩
theorem cr_10_X10_isBetter : CR 10 yX10_isBetter := ⟨by decide +kernel, 10, 15, TX10, by decide +kernel, rfl, gd (List.mem_of_getElem? (i := 1351) (by decide +kernel)) rfl, gd (List.mem_of_getElem? (i := 51) (by decide +kernel)) rfl⟩
theorem cq_X10_50 : CQ RX10 50 yX10_chooseNext cX10_chooseNext 7 none 1 := ⟨gd (List.mem_of_getElem? (i := 1345) (by decide +kernel)) rfl, gd (List.mem_of_getElem? (i := 121) (by decide +kernel)) rfl, gd (List.mem_of_getElem? (i := 1348) (by decide +kernel)) rfl, by decide +kernel, by decide⟩
theorem cr_10_X10_chooseNext : CR 10 yX10_chooseNext := ⟨by decide +kernel, 10, 15, TX10, by decide +kernel, rfl, gd (List.mem_of_getElem? (i := 1347) (by decide +kernel)) rfl, gd (List.mem_of_getElem? (i := 50) (by decide +kernel)) rfl⟩
theorem cq_X11_299 : CQ RX11 299 yX10_orderDock cX10_orderDock 3 none 0 := ⟨gd (List.mem_of_getElem? (i := 1341) (by decide +kernel)) rfl, gd (List.mem_of_getElem? (i := 121) (by decide +kernel)) rfl, gd (List.mem_of_getElem? (i := 1344) (by decide +kernel)) rfl, by decide +kernel, by decide⟩
theorem cr_10_X10_orderDock : CR 10 yX10_orderDock := ⟨by decide +kernel, 10, 15, TX10, by decide +kernel, rfl, gd (List.mem_of_getElem? (i := 1342) (by decide +kernel)) rfl, gd (List.mem_of_getElem? (i := 1343) (by decide +kernel)) rfl⟩
theorem af_X11_302_10 : AF RX11 302 10 4 := ⟨10, 15, RX10, TX10, by decide +kernel, by decide +kernel, rfl, by decide, gX10, gd (List.mem_of_getElem? (i := 517) (by decide +kernel)) rfl⟩
theorem af_X11_305_10 : AF RX11 305 10 5 := ⟨10, 15, RX10, TX10, by decide +kernel, by decide +kernel, rfl, by decide, gX10, gd (List.mem_of_getElem? (i := 519) (by decide +kernel)) rfl⟩
theorem af_X11_308_10 : AF RX11 308 10 2 := ⟨10, 15, RX10, TX10, by decide +kernel, by decide +kernel, rfl, by decide, gX10, gd (List.mem_of_getElem? (i := 514) (by decide +kernel)) rfl⟩
theorem ns_X10_58 : (RX10, 58) ∈ nestL := by decide +kernel
theorem cq_X11_311 : CQ RX11 311 yX10_dockedAt cX10_dockedAt 4 (some .int) 1 := ⟨gd (List.mem_of_getElem? (i := 1353) (by decide +kernel)) rfl, gd (List.mem_of_getElem? (i := 121) (by decide +kernel)) rfl, gd (List.mem_of_getElem? (i := 1356) (by decide +kernel)) rfl, by decide +kernel, by decide⟩
theorem cr_10_X10_dockedAt : CR 10 yX10_dockedAt := ⟨by decide +kernel, 10, 15, TX10, by decide +kernel, rfl, gd (List.mem_of_getElem? (i := 1354) (by decide +kernel)) rfl, gd (List.mem_of_getElem? (i := 1355) (by decide +kernel)) rfl⟩
theorem af_X10_61_10 : AF RX10 61 10 7 := ⟨10, 15, RX10, TX10, by decide +kernel, by decide +kernel, rfl, by decide, gX10, gd (List.mem_of_getElem? (i := 521) (by decide +kernel)) rfl⟩
theorem sr_10_7 : srF 10 7 = 0 := by decide +kernel
theorem af_X10_30_10 : AF RX10 30 10 8 := ⟨10, 15, RX10, TX10, by decide +kernel, by decide +kernel, rfl, by decide, gX10, gd (List.mem_of_getElem? (i := 523) (by decide +kernel)) rfl⟩
theorem sr_10_8 : srF 10 8 = 105 := by decide +kernel
theorem kc_103 : 103 < KC := by decide +kernel
theorem sk_103 : skF 103 = (0, 8) := by decide +kernel
theorem ap_X10_61_10 : AFp RX10 61 10 7 .int := ⟨10, 15, RX10, TX10, tyX10, by decide +kernel, by decide +kernel, rfl, by decide, gX10, gd (List.mem_of_getElem? (i := 521) (by decide +kernel)) rfl, tyX10_ok, nmX10, by decide +kernel, by decide +kernel⟩
theorem cq_X11_317 : CQ RX11 317 yX10_addJob cX10_addJob 2 (some .int) 1 := ⟨gd (List.mem_of_getElem? (i := 1362) (by decide +kernel)) rfl, gd (List.mem_of_getElem? (i := 121) (by decide +kernel)) rfl, gd (List.mem_of_getElem? (i := 1365) (by decide +kernel)) rfl, by decide +kernel, by decide⟩
theorem cr_10_X10_addJob : CR 10 yX10_addJob := ⟨by decide +kernel, 10, 15, TX10, by decide +kernel, rfl, gd (List.mem_of_getElem? (i := 1363) (by decide +kernel)) rfl, gd (List.mem_of_getElem? (i := 1364) (by decide +kernel)) rfl⟩
theorem ap_X11_314_10 : AFp RX11 314 10 7 .int := ⟨10, 15, RX10, TX10, tyX10, by decide +kernel, by decide +kernel, rfl, by decide, gX10, gd (List.mem_of_getElem? (i := 522) (by decide +kernel)) rfl, tyX10_ok, nmX10, by decide +kernel, by decide +kernel⟩
theorem af_X11_314_10 : AF RX11 314 10 7 := ⟨10, 15, RX10, TX10, by decide +kernel, by decide +kernel, rfl, by decide, gX10, gd (List.mem_of_getElem? (i := 522) (by decide +kernel)) rfl⟩
theorem af_X10_33_10 : AF RX10 33 10 9 := ⟨10, 15, RX10, TX10, by decide +kernel, by decide +kernel, rfl, by decide, gX10, gd (List.mem_of_getElem? (i := 524) (by decide +kernel)) rfl⟩
theorem sr_10_9 : srF 10 9 = 106 := by decide +kernel
theorem kc_104 : 104 < KC := by decide +kernel
theorem sk_104 : skF 104 = (0, 3) := by decide +kernel
theorem cf_X10_64 : CQ RX10 64 ⟨"java/util/Arrays", "fill", "([II)V"⟩ cJ7_fill_53178 4 none 2 := ⟨gd (List.mem_of_getElem? (i := 1374) (by decide +kernel)) rfl, gd (List.mem_of_getElem? (i := 113) (by decide +kernel)) rfl, gd (List.mem_of_getElem? (i := 149) (by decide +kernel)) rfl, by decide +kernel, by decide⟩
theorem ap_X10_70_10 : AFp RX10 70 10 13 .int := ⟨10, 15, RX10, TX10, tyX10, by decide +kernel, by decide +kernel, rfl, by decide, gX10, gd (List.mem_of_getElem? (i := 530) (by decide +kernel)) rfl, tyX10_ok, nmX10, by decide +kernel, by decide +kernel⟩
theorem sr_10_13 : srF 10 13 = 0 := by decide +kernel
theorem ap_X10_73_10 : AFp RX10 73 10 14 .int := ⟨10, 15, RX10, TX10, tyX10, by decide +kernel, by decide +kernel, rfl, by decide, gX10, gd (List.mem_of_getElem? (i := 532) (by decide +kernel)) rfl, tyX10_ok, nmX10, by decide +kernel, by decide +kernel⟩
theorem sr_10_14 : srF 10 14 = 0 := by decide +kernel
theorem af_X10_70_10 : AF RX10 70 10 13 := ⟨10, 15, RX10, TX10, by decide +kernel, by decide +kernel, rfl, by decide, gX10, gd (List.mem_of_getElem? (i := 530) (by decide +kernel)) rfl⟩
theorem cm_X10_76 : Cond.methodLink RX10 76 Lib.Math.max.name ∈ lw_gd := gd (List.mem_of_getElem? (i := 1375) (by decide +kernel)) rfl
theorem af_X10_73_10 : AF RX10 73 10 14 := ⟨10, 15, RX10, TX10, by decide +kernel, by decide +kernel, rfl, by decide, gX10, gd (List.mem_of_getElem? (i := 532) (by decide +kernel)) rfl⟩
theorem cq_X11_320 : CQ RX11 320 yX10_workInOrder cX10_workInOrder 5 none 1 := ⟨gd (List.mem_of_getElem? (i := 1370) (by decide +kernel)) rfl, gd (List.mem_of_getElem? (i := 121) (by decide +kernel)) rfl, gd (List.mem_of_getElem? (i := 1373) (by decide +kernel)) rfl, by decide +kernel, by decide⟩
theorem cr_10_X10_workInOrder : CR 10 yX10_workInOrder := ⟨by decide +kernel, 10, 15, TX10, by decide +kernel, rfl, gd (List.mem_of_getElem? (i := 1371) (by decide +kernel)) rfl, gd (List.mem_of_getElem? (i := 1372) (by decide +kernel)) rfl⟩
theorem af_X11_326_10 : AF RX11 326 10 14 := ⟨10, 15, RX10, TX10, by decide +kernel, by decide +kernel, rfl, by decide, gX10, gd (List.mem_of_getElem? (i := 533) (by decide +kernel)) rfl⟩
theorem af_X11_323_10 : AF RX11 323 10 13 := ⟨10, 15, RX10, TX10, by decide +kernel, by decide +kernel, rfl, by decide, gX10, gd (List.mem_of_getElem? (i := 531) (by decide +kernel)) rfl⟩
theorem cw_X10_84 : Cond.constant RX10 84 (Int32.ofInt 2147483647) ∈ lw_gd := gd (List.mem_of_getElem? (i := 1380) (by decide +kernel)) rfl
theorem ap_X10_85_10 : AFp RX10 85 10 12 .int := ⟨10, 15, RX10, TX10, tyX10, by decide +kernel, by decide +kernel, rfl, by decide, gX10, gd (List.mem_of_getElem? (i := 528) (by decide +kernel)) rfl, tyX10_ok, nmX10, by decide +kernel, by decide +kernel⟩
theorem sr_10_12 : srF 10 12 = 0 := by decide +kernel
theorem af_X10_85_10 : AF RX10 85 10 12 := ⟨10, 15, RX10, TX10, by decide +kernel, by decide +kernel, rfl, by decide, gX10, gd (List.mem_of_getElem? (i := 528) (by decide +kernel)) rfl⟩
theorem af_X10_36_10 : AF RX10 36 10 10 := ⟨10, 15, RX10, TX10, by decide +kernel, by decide +kernel, rfl, by decide, gX10, gd (List.mem_of_getElem? (i := 525) (by decide +kernel)) rfl⟩
theorem sr_10_10 : srF 10 10 = 107 := by decide +kernel
theorem af_X10_39_10 : AF RX10 39 10 11 := ⟨10, 15, RX10, TX10, by decide +kernel, by decide +kernel, rfl, by decide, gX10, gd (List.mem_of_getElem? (i := 526) (by decide +kernel)) rfl⟩
theorem sr_10_11 : srF 10 11 = 108 := by decide +kernel
theorem kc_105 : 105 < KC := by decide +kernel
theorem sk_105 : skF 105 = (0, 8) := by decide +kernel
theorem kc_106 : 106 < KC := by decide +kernel
theorem sk_106 : skF 106 = (0, 8) := by decide +kernel
theorem cc_X10_92 : Cond.methodLink RX10 92 arraycopyName ∈ lw_gd := gd (List.mem_of_getElem? (i := 1384) (by decide +kernel)) rfl
theorem cq_X10_88 : CQ RX10 88 yX10_shareNext cX10_shareNext 5 none 4 := ⟨gd (List.mem_of_getElem? (i := 1381) (by decide +kernel)) rfl, gd (List.mem_of_getElem? (i := 121) (by decide +kernel)) rfl, gd (List.mem_of_getElem? (i := 1383) (by decide +kernel)) rfl, by decide +kernel, by decide⟩
theorem st_X10_shareNext : Cond.static yX10_shareNext ∈ lw_gd := gd (List.mem_of_getElem? (i := 1382) (by decide +kernel)) rfl
theorem cq_X11_329 : CQ RX11 329 yX10_shareBest cX10_shareBest 2 none 1 := ⟨gd (List.mem_of_getElem? (i := 1376) (by decide +kernel)) rfl, gd (List.mem_of_getElem? (i := 121) (by decide +kernel)) rfl, gd (List.mem_of_getElem? (i := 1379) (by decide +kernel)) rfl, by decide +kernel, by decide⟩
theorem cr_10_X10_shareBest : CR 10 yX10_shareBest := ⟨by decide +kernel, 10, 15, TX10, by decide +kernel, rfl, gd (List.mem_of_getElem? (i := 1377) (by decide +kernel)) rfl, gd (List.mem_of_getElem? (i := 1378) (by decide +kernel)) rfl⟩
theorem af_X11_335_10 : AF RX11 335 10 11 := ⟨10, 15, RX10, TX10, by decide +kernel, by decide +kernel, rfl, by decide, gX10, gd (List.mem_of_getElem? (i := 527) (by decide +kernel)) rfl⟩
theorem af_X11_332_10 : AF RX11 332 10 12 := ⟨10, 15, RX10, TX10, by decide +kernel, by decide +kernel, rfl, by decide, gX10, gd (List.mem_of_getElem? (i := 529) (by decide +kernel)) rfl⟩
theorem af_X11_88_0 : AF RX11 88 0 10 := ⟨11, 12, RX11, TX11, by decide +kernel, by decide +kernel, rfl, by decide, gX11, gd (List.mem_of_getElem? (i := 651) (by decide +kernel)) rfl⟩
theorem sr_0_10 : srF 0 10 = 13 := by decide +kernel
theorem gX8 : ∀ w ∈ u_ws RX8 TX8 15, w ∈ lw_gd := gd_all inX8 (by decide +kernel)
theorem af_X11_338_11 : AF RX11 338 11 1 := ⟨8, 15, RX8, TX8, by decide +kernel, by decide +kernel, rfl, by decide, gX8, gd (List.mem_of_getElem? (i := 573) (by decide +kernel)) rfl⟩
theorem sr_11_1 : srF 11 1 = 109 := by decide +kernel
theorem kc_107 : 107 < KC := by decide +kernel
theorem sk_107 : skF 107 = (0, 16) := by decide +kernel
theorem af_X8_15_11 : AF RX8 15 11 2 := ⟨8, 15, RX8, TX8, by decide +kernel, by decide +kernel, rfl, by decide, gX8, gd (List.mem_of_getElem? (i := 574) (by decide +kernel)) rfl⟩
theorem sr_11_2 : srF 11 2 = 110 := by decide +kernel
theorem kc_108 : 108 < KC := by decide +kernel
theorem sk_108 : skF 108 = (0, 16) := by decide +kernel
theorem af_X8_36_11 : AF RX8 36 11 0 := ⟨8, 15, RX8, TX8, by decide +kernel, by decide +kernel, rfl, by decide, gX8, gd (List.mem_of_getElem? (i := 571) (by decide +kernel)) rfl⟩
theorem sr_11_0 : srF 11 0 = 3 := by decide +kernel
theorem af_X8_40_1 : AF RX8 40 1 2 := ⟨2, 7, RX2, TX2, by decide +kernel, by decide +kernel, rfl, by decide, gX2, gd (List.mem_of_getElem? (i := 157) (by decide +kernel)) rfl⟩
theorem cq_X11_341 : CQ RX11 341 yX8_measure cX8_measure 2 none 0 := ⟨gd (List.mem_of_getElem? (i := 1393) (by decide +kernel)) rfl, gd (List.mem_of_getElem? (i := 122) (by decide +kernel)) rfl, gd (List.mem_of_getElem? (i := 1396) (by decide +kernel)) rfl, by decide +kernel, by decide⟩
theorem cr_11_X8_measure : CR 11 yX8_measure := ⟨by decide +kernel, 8, 15, TX8, by decide +kernel, rfl, gd (List.mem_of_getElem? (i := 1394) (by decide +kernel)) rfl, gd (List.mem_of_getElem? (i := 1395) (by decide +kernel)) rfl⟩
theorem af_X8_9_11 : AF RX8 9 11 1 := ⟨8, 15, RX8, TX8, by decide +kernel, by decide +kernel, rfl, by decide, gX8, gd (List.mem_of_getElem? (i := 572) (by decide +kernel)) rfl⟩
theorem cm_X8_45 : Cond.methodLink RX8 45 Lib.Math.abs.name ∈ lw_gd := gd (List.mem_of_getElem? (i := 1409) (by decide +kernel)) rfl
theorem cq_X8_51 : CQ RX8 51 yX8_minutes cX8_minutes 3 (some .int) 2 := ⟨gd (List.mem_of_getElem? (i := 1405) (by decide +kernel)) rfl, gd (List.mem_of_getElem? (i := 122) (by decide +kernel)) rfl, gd (List.mem_of_getElem? (i := 1408) (by decide +kernel)) rfl, by decide +kernel, by decide⟩
theorem cr_11_X8_minutes : CR 11 yX8_minutes := ⟨by decide +kernel, 8, 15, TX8, by decide +kernel, rfl, gd (List.mem_of_getElem? (i := 1407) (by decide +kernel)) rfl, gd (List.mem_of_getElem? (i := 52) (by decide +kernel)) rfl⟩
theorem cm_X8_61 : Cond.methodLink RX8 61 Lib.Math.max.name ∈ lw_gd := gd (List.mem_of_getElem? (i := 1416) (by decide +kernel)) rfl
theorem cq_X11_350 : CQ RX11 350 yX8_worstFrom cX8_worstFrom 4 (some .int) 1 := ⟨gd (List.mem_of_getElem? (i := 1412) (by decide +kernel)) rfl, gd (List.mem_of_getElem? (i := 122) (by decide +kernel)) rfl, gd (List.mem_of_getElem? (i := 1415) (by decide +kernel)) rfl, by decide +kernel, by decide⟩
theorem cr_11_X8_worstFrom : CR 11 yX8_worstFrom := ⟨by decide +kernel, 8, 15, TX8, by decide +kernel, rfl, gd (List.mem_of_getElem? (i := 1413) (by decide +kernel)) rfl, gd (List.mem_of_getElem? (i := 1414) (by decide +kernel)) rfl⟩
theorem cm_X8_55 : Cond.methodLink RX8 55 Lib.Math.min.name ∈ lw_gd := gd (List.mem_of_getElem? (i := 1410) (by decide +kernel)) rfl
theorem cq_X11_347 : CQ RX11 347 yX8_sumFrom cX8_sumFrom 5 (some .int) 2 := ⟨gd (List.mem_of_getElem? (i := 1411) (by decide +kernel)) rfl, gd (List.mem_of_getElem? (i := 122) (by decide +kernel)) rfl, gd (List.mem_of_getElem? (i := 1404) (by decide +kernel)) rfl, by decide +kernel, by decide⟩
theorem cr_11_X8_sumFrom : CR 11 yX8_sumFrom := ⟨by decide +kernel, 8, 15, TX8, by decide +kernel, rfl, gd (List.mem_of_getElem? (i := 1402) (by decide +kernel)) rfl, gd (List.mem_of_getElem? (i := 1403) (by decide +kernel)) rfl⟩
theorem cq_X8_58 : CQ RX8 58 yX8_sumFrom cX8_sumFrom 5 (some .int) 2 := ⟨gd (List.mem_of_getElem? (i := 1401) (by decide +kernel)) rfl, gd (List.mem_of_getElem? (i := 122) (by decide +kernel)) rfl, gd (List.mem_of_getElem? (i := 1404) (by decide +kernel)) rfl, by decide +kernel, by decide⟩
theorem cq_X11_344 : CQ RX11 344 yX8_bestPoint cX8_bestPoint 3 (some .int) 0 := ⟨gd (List.mem_of_getElem? (i := 1397) (by decide +kernel)) rfl, gd (List.mem_of_getElem? (i := 122) (by decide +kernel)) rfl, gd (List.mem_of_getElem? (i := 1400) (by decide +kernel)) rfl, by decide +kernel, by decide⟩
theorem cr_11_X8_bestPoint : CR 11 yX8_bestPoint := ⟨by decide +kernel, 8, 15, TX8, by decide +kernel, rfl, gd (List.mem_of_getElem? (i := 1398) (by decide +kernel)) rfl, gd (List.mem_of_getElem? (i := 1399) (by decide +kernel)) rfl⟩
theorem ap_X8_64_11 : AFp RX8 64 11 3 .int := ⟨8, 15, RX8, TX8, tyX8, by decide +kernel, by decide +kernel, rfl, by decide, gX8, gd (List.mem_of_getElem? (i := 575) (by decide +kernel)) rfl, tyX8_ok, nmX8, by decide +kernel, by decide +kernel⟩
theorem sr_11_3 : srF 11 3 = 0 := by decide +kernel
theorem ap_X8_68_11 : AFp RX8 68 11 4 .int := ⟨8, 15, RX8, TX8, tyX8, by decide +kernel, by decide +kernel, rfl, by decide, gX8, gd (List.mem_of_getElem? (i := 577) (by decide +kernel)) rfl, tyX8_ok, nmX8, by decide +kernel, by decide +kernel⟩
theorem sr_11_4 : srF 11 4 = 0 := by decide +kernel
theorem af_X8_68_11 : AF RX8 68 11 4 := ⟨8, 15, RX8, TX8, by decide +kernel, by decide +kernel, rfl, by decide, gX8, gd (List.mem_of_getElem? (i := 577) (by decide +kernel)) rfl⟩
theorem cq_X11_353 : CQ RX11 353 yX8_findCouple cX8_findCouple 4 none 0 := ⟨gd (List.mem_of_getElem? (i := 1421) (by decide +kernel)) rfl, gd (List.mem_of_getElem? (i := 122) (by decide +kernel)) rfl, gd (List.mem_of_getElem? (i := 1424) (by decide +kernel)) rfl, by decide +kernel, by decide⟩
theorem cr_11_X8_findCouple : CR 11 yX8_findCouple := ⟨by decide +kernel, 8, 15, TX8, by decide +kernel, rfl, gd (List.mem_of_getElem? (i := 1422) (by decide +kernel)) rfl, gd (List.mem_of_getElem? (i := 1423) (by decide +kernel)) rfl⟩
theorem af_X11_359_11 : AF RX11 359 11 4 := ⟨8, 15, RX8, TX8, by decide +kernel, by decide +kernel, rfl, by decide, gX8, gd (List.mem_of_getElem? (i := 578) (by decide +kernel)) rfl⟩
theorem af_X11_356_11 : AF RX11 356 11 3 := ⟨8, 15, RX8, TX8, by decide +kernel, by decide +kernel, rfl, by decide, gX8, gd (List.mem_of_getElem? (i := 576) (by decide +kernel)) rfl⟩
theorem af_X8_71_11 : AF RX8 71 11 5 := ⟨8, 15, RX8, TX8, by decide +kernel, by decide +kernel, rfl, by decide, gX8, gd (List.mem_of_getElem? (i := 579) (by decide +kernel)) rfl⟩
theorem sr_11_5 : srF 11 5 = 0 := by decide +kernel
theorem af_X8_18_11 : AF RX8 18 11 6 := ⟨8, 15, RX8, TX8, by decide +kernel, by decide +kernel, rfl, by decide, gX8, gd (List.mem_of_getElem? (i := 581) (by decide +kernel)) rfl⟩
theorem sr_11_6 : srF 11 6 = 111 := by decide +kernel
theorem kc_109 : 109 < KC := by decide +kernel
theorem sk_109 : skF 109 = (0, 12) := by decide +kernel
theorem af_X8_21_11 : AF RX8 21 11 7 := ⟨8, 15, RX8, TX8, by decide +kernel, by decide +kernel, rfl, by decide, gX8, gd (List.mem_of_getElem? (i := 582) (by decide +kernel)) rfl⟩
theorem sr_11_7 : srF 11 7 = 112 := by decide +kernel
theorem kc_110 : 110 < KC := by decide +kernel
theorem sk_110 : skF 110 = (0, 12) := by decide +kernel
theorem af_X8_24_11 : AF RX8 24 11 8 := ⟨8, 15, RX8, TX8, by decide +kernel, by decide +kernel, rfl, by decide, gX8, gd (List.mem_of_getElem? (i := 583) (by decide +kernel)) rfl⟩
theorem sr_11_8 : srF 11 8 = 113 := by decide +kernel
theorem kc_111 : 111 < KC := by decide +kernel
theorem sk_111 : skF 111 = (0, 12) := by decide +kernel
theorem ap_X8_71_11 : AFp RX8 71 11 5 .int := ⟨8, 15, RX8, TX8, tyX8, by decide +kernel, by decide +kernel, rfl, by decide, gX8, gd (List.mem_of_getElem? (i := 579) (by decide +kernel)) rfl, tyX8_ok, nmX8, by decide +kernel, by decide +kernel⟩
theorem cq_X11_365 : CQ RX11 365 yX8_addCall cX8_addCall 4 (some .int) 3 := ⟨gd (List.mem_of_getElem? (i := 1429) (by decide +kernel)) rfl, gd (List.mem_of_getElem? (i := 122) (by decide +kernel)) rfl, gd (List.mem_of_getElem? (i := 1432) (by decide +kernel)) rfl, by decide +kernel, by decide⟩
theorem cr_11_X8_addCall : CR 11 yX8_addCall := ⟨by decide +kernel, 8, 15, TX8, by decide +kernel, rfl, gd (List.mem_of_getElem? (i := 1430) (by decide +kernel)) rfl, gd (List.mem_of_getElem? (i := 1431) (by decide +kernel)) rfl⟩
theorem ap_X11_362_11 : AFp RX11 362 11 5 .int := ⟨8, 15, RX8, TX8, tyX8, by decide +kernel, by decide +kernel, rfl, by decide, gX8, gd (List.mem_of_getElem? (i := 580) (by decide +kernel)) rfl, tyX8_ok, nmX8, by decide +kernel, by decide +kernel⟩
theorem af_X8_30_11 : AF RX8 30 11 10 := ⟨8, 15, RX8, TX8, by decide +kernel, by decide +kernel, rfl, by decide, gX8, gd (List.mem_of_getElem? (i := 585) (by decide +kernel)) rfl⟩
theorem sr_11_10 : srF 11 10 = 115 := by decide +kernel
theorem kc_113 : 113 < KC := by decide +kernel
theorem sk_113 : skF 113 = (0, 2) := by decide +kernel
theorem af_X8_33_11 : AF RX8 33 11 11 := ⟨8, 15, RX8, TX8, by decide +kernel, by decide +kernel, rfl, by decide, gX8, gd (List.mem_of_getElem? (i := 586) (by decide +kernel)) rfl⟩
theorem sr_11_11 : srF 11 11 = 116 := by decide +kernel
theorem kc_114 : 114 < KC := by decide +kernel
theorem sk_114 : skF 114 = (0, 2) := by decide +kernel
theorem cf_X8_74 : CQ RX8 74 ⟨"java/util/Arrays", "fill", "([II)V"⟩ cJ7_fill_53178 4 none 2 := ⟨gd (List.mem_of_getElem? (i := 1441) (by decide +kernel)) rfl, gd (List.mem_of_getElem? (i := 113) (by decide +kernel)) rfl, gd (List.mem_of_getElem? (i := 149) (by decide +kernel)) rfl, by decide +kernel, by decide⟩
theorem ap_X8_80_11 : AFp RX8 80 11 12 .int := ⟨8, 15, RX8, TX8, tyX8, by decide +kernel, by decide +kernel, rfl, by decide, gX8, gd (List.mem_of_getElem? (i := 587) (by decide +kernel)) rfl, tyX8_ok, nmX8, by decide +kernel, by decide +kernel⟩
theorem sr_11_12 : srF 11 12 = 0 := by decide +kernel
theorem ap_X8_83_11 : AFp RX8 83 11 13 .int := ⟨8, 15, RX8, TX8, tyX8, by decide +kernel, by decide +kernel, rfl, by decide, gX8, gd (List.mem_of_getElem? (i := 589) (by decide +kernel)) rfl, tyX8_ok, nmX8, by decide +kernel, by decide +kernel⟩
theorem sr_11_13 : srF 11 13 = 0 := by decide +kernel
theorem ap_X8_86_11 : AFp RX8 86 11 14 .int := ⟨8, 15, RX8, TX8, tyX8, by decide +kernel, by decide +kernel, rfl, by decide, gX8, gd (List.mem_of_getElem? (i := 591) (by decide +kernel)) rfl, tyX8_ok, nmX8, by decide +kernel, by decide +kernel⟩
theorem sr_11_14 : srF 11 14 = 0 := by decide +kernel
theorem cq_X8_89 : CQ RX8 89 yX8_comesAt cX8_comesAt 3 (some .int) 2 := ⟨gd (List.mem_of_getElem? (i := 1442) (by decide +kernel)) rfl, gd (List.mem_of_getElem? (i := 122) (by decide +kernel)) rfl, gd (List.mem_of_getElem? (i := 1445) (by decide +kernel)) rfl, by decide +kernel, by decide⟩
theorem cr_11_X8_comesAt : CR 11 yX8_comesAt := ⟨by decide +kernel, 8, 15, TX8, by decide +kernel, rfl, gd (List.mem_of_getElem? (i := 1444) (by decide +kernel)) rfl, gd (List.mem_of_getElem? (i := 53) (by decide +kernel)) rfl⟩
theorem af_X8_27_11 : AF RX8 27 11 9 := ⟨8, 15, RX8, TX8, by decide +kernel, by decide +kernel, rfl, by decide, gX8, gd (List.mem_of_getElem? (i := 584) (by decide +kernel)) rfl⟩
theorem sr_11_9 : srF 11 9 = 114 := by decide +kernel
theorem kc_112 : 112 < KC := by decide +kernel
theorem sk_112 : skF 112 = (0, 12) := by decide +kernel
theorem af_X8_80_11 : AF RX8 80 11 12 := ⟨8, 15, RX8, TX8, by decide +kernel, by decide +kernel, rfl, by decide, gX8, gd (List.mem_of_getElem? (i := 587) (by decide +kernel)) rfl⟩
theorem af_X8_83_11 : AF RX8 83 11 13 := ⟨8, 15, RX8, TX8, by decide +kernel, by decide +kernel, rfl, by decide, gX8, gd (List.mem_of_getElem? (i := 589) (by decide +kernel)) rfl⟩
theorem af_X8_86_11 : AF RX8 86 11 14 := ⟨8, 15, RX8, TX8, by decide +kernel, by decide +kernel, rfl, by decide, gX8, gd (List.mem_of_getElem? (i := 591) (by decide +kernel)) rfl⟩
theorem cq_X11_368 : CQ RX11 368 yX8_takeCalls cX8_takeCalls 6 none 2 := ⟨gd (List.mem_of_getElem? (i := 1437) (by decide +kernel)) rfl, gd (List.mem_of_getElem? (i := 122) (by decide +kernel)) rfl, gd (List.mem_of_getElem? (i := 1440) (by decide +kernel)) rfl, by decide +kernel, by decide⟩
theorem cr_11_X8_takeCalls : CR 11 yX8_takeCalls := ⟨by decide +kernel, 8, 15, TX8, by decide +kernel, rfl, gd (List.mem_of_getElem? (i := 1438) (by decide +kernel)) rfl, gd (List.mem_of_getElem? (i := 1439) (by decide +kernel)) rfl⟩
theorem af_X11_372_11 : AF RX11 372 11 12 := ⟨8, 15, RX8, TX8, by decide +kernel, by decide +kernel, rfl, by decide, gX8, gd (List.mem_of_getElem? (i := 588) (by decide +kernel)) rfl⟩
theorem af_X11_375_11 : AF RX11 375 11 13 := ⟨8, 15, RX8, TX8, by decide +kernel, by decide +kernel, rfl, by decide, gX8, gd (List.mem_of_getElem? (i := 590) (by decide +kernel)) rfl⟩
theorem af_X11_378_11 : AF RX11 378 11 14 := ⟨8, 15, RX8, TX8, by decide +kernel, by decide +kernel, rfl, by decide, gX8, gd (List.mem_of_getElem? (i := 592) (by decide +kernel)) rfl⟩
theorem ns_X8_92 : (RX8, 92) ∈ nestL := by decide +kernel
theorem cq_X11_381 : CQ RX11 381 yX8_takerOf cX8_takerOf 2 (some .int) 1 := ⟨gd (List.mem_of_getElem? (i := 1446) (by decide +kernel)) rfl, gd (List.mem_of_getElem? (i := 122) (by decide +kernel)) rfl, gd (List.mem_of_getElem? (i := 1449) (by decide +kernel)) rfl, by decide +kernel, by decide⟩
theorem cr_11_X8_takerOf : CR 11 yX8_takerOf := ⟨by decide +kernel, 8, 15, TX8, by decide +kernel, rfl, gd (List.mem_of_getElem? (i := 1447) (by decide +kernel)) rfl, gd (List.mem_of_getElem? (i := 1448) (by decide +kernel)) rfl⟩
theorem cq_X11_384 : CQ RX11 384 yX11_isWeather cX11_isWeather 4 (some .boolean) 4 := ⟨gd (List.mem_of_getElem? (i := 1455) (by decide +kernel)) rfl, gd (List.mem_of_getElem? (i := 111) (by decide +kernel)) rfl, gd (List.mem_of_getElem? (i := 1457) (by decide +kernel)) rfl, by decide +kernel, by decide⟩
theorem st_X11_isWeather : Cond.static yX11_isWeather ∈ lw_gd := gd (List.mem_of_getElem? (i := 1456) (by decide +kernel)) rfl
theorem af_X11_95_0 : AF RX11 95 0 11 := ⟨11, 12, RX11, TX11, by decide +kernel, by decide +kernel, rfl, by decide, gX11, gd (List.mem_of_getElem? (i := 652) (by decide +kernel)) rfl⟩
theorem sr_0_11 : srF 0 11 = 14 := by decide +kernel
theorem af_X11_127_1 : AF RX11 127 1 5 := ⟨2, 7, RX2, TX2, by decide +kernel, by decide +kernel, rfl, by decide, gX2, gd (List.mem_of_getElem? (i := 165) (by decide +kernel)) rfl⟩
theorem gX5 : ∀ w ∈ u_ws RX5 TX5 3, w ∈ lw_gd := gd_all inX5 (by decide +kernel)
theorem af_X5_9_12 : AF RX5 9 12 0 := ⟨5, 3, RX5, TX5, by decide +kernel, by decide +kernel, rfl, by decide, gX5, gd (List.mem_of_getElem? (i := 630) (by decide +kernel)) rfl⟩
theorem sr_12_0 : srF 12 0 = 1 := by decide +kernel
theorem cf_X5_18 : CQ RX5 18 ⟨"java/util/Arrays", "fill", "([II)V"⟩ cJ7_fill_53178 4 none 2 := ⟨gd (List.mem_of_getElem? (i := 1462) (by decide +kernel)) rfl, gd (List.mem_of_getElem? (i := 113) (by decide +kernel)) rfl, gd (List.mem_of_getElem? (i := 149) (by decide +kernel)) rfl, by decide +kernel, by decide⟩
theorem cw_X5_24 : Cond.constant RX5 24 (Int32.ofInt 1000000) ∈ lw_gd := gd (List.mem_of_getElem? (i := 1463) (by decide +kernel)) rfl
theorem ap_X5_25_12 : AFp RX5 25 12 2 .int := ⟨5, 3, RX5, TX5, tyX5, by decide +kernel, by decide +kernel, rfl, by decide, gX5, gd (List.mem_of_getElem? (i := 632) (by decide +kernel)) rfl, tyX5_ok, nmX5, by decide +kernel, by decide +kernel⟩
theorem sr_12_2 : srF 12 2 = 0 := by decide +kernel
theorem af_X5_25_12 : AF RX5 25 12 2 := ⟨5, 3, RX5, TX5, by decide +kernel, by decide +kernel, rfl, by decide, gX5, gd (List.mem_of_getElem? (i := 632) (by decide +kernel)) rfl⟩
theorem cq_X11_387 : CQ RX11 387 yX5_start cX5_start 3 none 2 := ⟨gd (List.mem_of_getElem? (i := 1458) (by decide +kernel)) rfl, gd (List.mem_of_getElem? (i := 123) (by decide +kernel)) rfl, gd (List.mem_of_getElem? (i := 1461) (by decide +kernel)) rfl, by decide +kernel, by decide⟩
theorem cr_12_X5_start : CR 12 yX5_start := ⟨by decide +kernel, 5, 3, TX5, by decide +kernel, rfl, gd (List.mem_of_getElem? (i := 1459) (by decide +kernel)) rfl, gd (List.mem_of_getElem? (i := 1460) (by decide +kernel)) rfl⟩
theorem af_X5_15_12 : AF RX5 15 12 1 := ⟨5, 3, RX5, TX5, by decide +kernel, by decide +kernel, rfl, by decide, gX5, gd (List.mem_of_getElem? (i := 631) (by decide +kernel)) rfl⟩
theorem sr_12_1 : srF 12 1 = 1 := by decide +kernel
theorem cm_X5_29 : Cond.methodLink RX5 29 Lib.Math.max.name ∈ lw_gd := gd (List.mem_of_getElem? (i := 1468) (by decide +kernel)) rfl
theorem cm_X5_35 : Cond.methodLink RX5 35 Lib.Math.min.name ∈ lw_gd := gd (List.mem_of_getElem? (i := 1469) (by decide +kernel)) rfl
theorem ap_X5_9_12 : AFp RX5 9 12 0 (.array .int) := ⟨5, 3, RX5, TX5, tyX5, by decide +kernel, by decide +kernel, rfl, by decide, gX5, gd (List.mem_of_getElem? (i := 630) (by decide +kernel)) rfl, tyX5_ok, nmX5, by decide +kernel, by decide +kernel⟩
theorem ap_X5_15_12 : AFp RX5 15 12 1 (.array .int) := ⟨5, 3, RX5, TX5, tyX5, by decide +kernel, by decide +kernel, rfl, by decide, gX5, gd (List.mem_of_getElem? (i := 631) (by decide +kernel)) rfl, tyX5_ok, nmX5, by decide +kernel, by decide +kernel⟩
theorem cq_X11_390 : CQ RX11 390 yX5_passDay cX5_passDay 8 none 4 := ⟨gd (List.mem_of_getElem? (i := 1464) (by decide +kernel)) rfl, gd (List.mem_of_getElem? (i := 123) (by decide +kernel)) rfl, gd (List.mem_of_getElem? (i := 1467) (by decide +kernel)) rfl, by decide +kernel, by decide⟩
theorem cr_12_X5_passDay : CR 12 yX5_passDay := ⟨by decide +kernel, 5, 3, TX5, by decide +kernel, rfl, gd (List.mem_of_getElem? (i := 1465) (by decide +kernel)) rfl, gd (List.mem_of_getElem? (i := 1466) (by decide +kernel)) rfl⟩
theorem af_X11_394_12 : AF RX11 394 12 2 := ⟨5, 3, RX5, TX5, by decide +kernel, by decide +kernel, rfl, by decide, gX5, gd (List.mem_of_getElem? (i := 633) (by decide +kernel)) rfl⟩
theorem cw_X11_397 : Cond.constant RX11 397 (Int32.ofInt 500000) ∈ lw_gd := gd (List.mem_of_getElem? (i := 1474) (by decide +kernel)) rfl
theorem cq_X11_398 : CQ RX11 398 yX0_priceLine cX0_priceLine 4 (some .int) 3 := ⟨gd (List.mem_of_getElem? (i := 1479) (by decide +kernel)) rfl, gd (List.mem_of_getElem? (i := 117) (by decide +kernel)) rfl, gd (List.mem_of_getElem? (i := 1115) (by decide +kernel)) rfl, by decide +kernel, by decide⟩
theorem cq_X11_402 : CQ RX11 402 yX6_valueOf cX6_valueOf 2 (some .int) 1 := ⟨gd (List.mem_of_getElem? (i := 1480) (by decide +kernel)) rfl, gd (List.mem_of_getElem? (i := 114) (by decide +kernel)) rfl, gd (List.mem_of_getElem? (i := 1082) (by decide +kernel)) rfl, by decide +kernel, by decide⟩
theorem cq_X11_405 : CQ RX11 405 yX0_holdLine cX0_holdLine 5 (some .int) 4 := ⟨gd (List.mem_of_getElem? (i := 1485) (by decide +kernel)) rfl, gd (List.mem_of_getElem? (i := 117) (by decide +kernel)) rfl, gd (List.mem_of_getElem? (i := 1488) (by decide +kernel)) rfl, by decide +kernel, by decide⟩
theorem cr_6_X0_holdLine : CR 6 yX0_holdLine := ⟨by decide +kernel, 0, 12, TX0, by decide +kernel, rfl, gd (List.mem_of_getElem? (i := 1486) (by decide +kernel)) rfl, gd (List.mem_of_getElem? (i := 1487) (by decide +kernel)) rfl⟩
theorem af_X11_408_8 : AF RX11 408 8 2 := ⟨3, 7, RX3, TX3, by decide +kernel, by decide +kernel, rfl, by decide, gX3, gd (List.mem_of_getElem? (i := 421) (by decide +kernel)) rfl⟩
theorem af_X11_362_11 : AF RX11 362 11 5 := ⟨8, 15, RX8, TX8, by decide +kernel, by decide +kernel, rfl, by decide, gX8, gd (List.mem_of_getElem? (i := 580) (by decide +kernel)) rfl⟩
