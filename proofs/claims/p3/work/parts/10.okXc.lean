theorem Rules_takeOver_ok {z : AZ} {g : AG} {r : Int × AG} (h : Rules_takeOver g = some r) : AMf z yX6_takeOver cX6_takeOver 2 none 1 [rv z 2, rv z 3] g r := by
  intro d hdd
  refine AM.of (by decide +kernel) (Nat.le_of_ble_eq_true rfl) ?_
  show AW z (RX6, cX6_takeOver, 2, none) d (QD none r) 0 [(0, rv z 2), (1, rv z 3)] [] g
  unfold Rules_takeOver at h
  refine AW.aloadr_n 0 dX6_takeOver_0 rfl ?_
  refine AW.aloadr_n 1 dX6_takeOver_1 rfl ?_
  refine AW.getI af_X6_48_3 sr_3_2 dX6_takeOver_2 ?_
  obtain ⟨g1, e2, h⟩ := hBe h
  refine AW.putI ap_X6_48_2 sr_2_2 dX6_takeOver_5 e2 ?_
  refine AW.aloadr_n 0 dX6_takeOver_8 rfl ?_
  refine AW.aloadr_n 1 dX6_takeOver_9 rfl ?_
  refine AW.getI af_X6_52_3 sr_3_3 dX6_takeOver_10 ?_
  obtain ⟨g3, e4, h⟩ := hBe h
  refine AW.putI ap_X6_52_2 sr_2_3 dX6_takeOver_13 e4 ?_
  refine AW.aloadr_n 0 dX6_takeOver_16 rfl ?_
  refine AW.aloadr_n 1 dX6_takeOver_17 rfl ?_
  refine AW.getI af_X6_55_3 sr_3_10 dX6_takeOver_18 ?_
  obtain ⟨g5, e6, h⟩ := hBe h
  refine AW.putI ap_X6_55_2 sr_2_10 dX6_takeOver_21 e6 ?_
  refine AW.aloadr_n 1 dX6_takeOver_24 rfl ?_
  refine AW.getR af_X6_9_3 sr_3_0 dX6_takeOver_25 ?_
  refine AW.iconst dX6_takeOver_28 ?_
  refine AW.aloadr_n 0 dX6_takeOver_29 rfl ?_
  refine AW.getR af_X6_9_2 sr_2_0 dX6_takeOver_30 ?_
  refine AW.iconst dX6_takeOver_33 ?_
  refine AW.sipush dX6_takeOver_34 (by decide) (by decide) ?_
  obtain ⟨g8, e9, h⟩ := hBe h
  refine AW.copyi cc_X6_64 ac_n ac_s ac_i kc_29 sk_29 kc_17 sk_17 (by decide) (Nat.le_of_ble_eq_true rfl) (Nat.le_trans (by decide) hdd) dX6_takeOver_37 e9 ?_
  refine AW.aloadr_n 1 dX6_takeOver_40 rfl ?_
  refine AW.getR af_X6_15_3 sr_3_1 dX6_takeOver_41 ?_
  refine AW.iconst dX6_takeOver_44 ?_
  refine AW.aloadr_n 0 dX6_takeOver_45 rfl ?_
  refine AW.getR af_X6_15_2 sr_2_1 dX6_takeOver_46 ?_
  refine AW.iconst dX6_takeOver_49 ?_
  refine AW.sipush dX6_takeOver_50 (by decide) (by decide) ?_
  obtain ⟨g11, e12, h⟩ := hBe h
  refine AW.copyi cc_X6_64 ac_n ac_s ac_i kc_30 sk_30 kc_18 sk_18 (by decide) (Nat.le_of_ble_eq_true rfl) (Nat.le_trans (by decide) hdd) dX6_takeOver_53 e12 ?_
  refine AW.aloadr_n 1 dX6_takeOver_56 rfl ?_
  refine AW.getR af_X6_18_3 sr_3_4 dX6_takeOver_57 ?_
  refine AW.iconst dX6_takeOver_60 ?_
  refine AW.aloadr_n 0 dX6_takeOver_61 rfl ?_
  refine AW.getR af_X6_18_2 sr_2_4 dX6_takeOver_62 ?_
  refine AW.iconst dX6_takeOver_65 ?_
  refine AW.bipush dX6_takeOver_66 (by decide) (by decide) ?_
  obtain ⟨g14, e15, h⟩ := hBe h
  refine AW.copyi cc_X6_64 ac_n ac_s ac_i kc_31 sk_31 kc_19 sk_19 (by decide) (Nat.le_of_ble_eq_true rfl) (Nat.le_trans (by decide) hdd) dX6_takeOver_68 e15 ?_
  refine AW.aloadr_n 1 dX6_takeOver_71 rfl ?_
  refine AW.getR af_X6_21_3 sr_3_5 dX6_takeOver_72 ?_
  refine AW.iconst dX6_takeOver_75 ?_
  refine AW.aloadr_n 0 dX6_takeOver_76 rfl ?_
  refine AW.getR af_X6_21_2 sr_2_5 dX6_takeOver_77 ?_
  refine AW.iconst dX6_takeOver_80 ?_
  refine AW.bipush dX6_takeOver_81 (by decide) (by decide) ?_
  obtain ⟨g17, e18, h⟩ := hBe h
  refine AW.copyi cc_X6_64 ac_n ac_s ac_i kc_32 sk_32 kc_20 sk_20 (by decide) (Nat.le_of_ble_eq_true rfl) (Nat.le_trans (by decide) hdd) dX6_takeOver_83 e18 ?_
  refine AW.aloadr_n 1 dX6_takeOver_86 rfl ?_
  refine AW.getR af_X6_24_3 sr_3_6 dX6_takeOver_87 ?_
  refine AW.iconst dX6_takeOver_90 ?_
  refine AW.aloadr_n 0 dX6_takeOver_91 rfl ?_
  refine AW.getR af_X6_24_2 sr_2_6 dX6_takeOver_92 ?_
  refine AW.iconst dX6_takeOver_95 ?_
  refine AW.bipush dX6_takeOver_96 (by decide) (by decide) ?_
  obtain ⟨g20, e21, h⟩ := hBe h
  refine AW.copyi cc_X6_64 ac_n ac_s ac_i kc_33 sk_33 kc_21 sk_21 (by decide) (Nat.le_of_ble_eq_true rfl) (Nat.le_trans (by decide) hdd) dX6_takeOver_98 e21 ?_
  refine AW.aloadr_n 1 dX6_takeOver_101 rfl ?_
  refine AW.getR af_X6_27_3 sr_3_7 dX6_takeOver_102 ?_
  refine AW.iconst dX6_takeOver_105 ?_
  refine AW.aloadr_n 0 dX6_takeOver_106 rfl ?_
  refine AW.getR af_X6_27_2 sr_2_7 dX6_takeOver_107 ?_
  refine AW.iconst dX6_takeOver_110 ?_
  refine AW.bipush dX6_takeOver_111 (by decide) (by decide) ?_
  obtain ⟨g23, e24, h⟩ := hBe h
  refine AW.copyi cc_X6_64 ac_n ac_s ac_i kc_34 sk_34 kc_22 sk_22 (by decide) (Nat.le_of_ble_eq_true rfl) (Nat.le_trans (by decide) hdd) dX6_takeOver_113 e24 ?_
  refine AW.aloadr_n 1 dX6_takeOver_116 rfl ?_
  refine AW.getR af_X6_30_3 sr_3_8 dX6_takeOver_117 ?_
  refine AW.iconst dX6_takeOver_120 ?_
  refine AW.aloadr_n 0 dX6_takeOver_121 rfl ?_
  refine AW.getR af_X6_30_2 sr_2_8 dX6_takeOver_122 ?_
  refine AW.iconst dX6_takeOver_125 ?_
  refine AW.bipush dX6_takeOver_126 (by decide) (by decide) ?_
  obtain ⟨g26, e27, h⟩ := hBe h
  refine AW.copyi cc_X6_64 ac_n ac_s ac_i kc_35 sk_35 kc_23 sk_23 (by decide) (Nat.le_of_ble_eq_true rfl) (Nat.le_trans (by decide) hdd) dX6_takeOver_128 e27 ?_
  refine AW.aloadr_n 1 dX6_takeOver_131 rfl ?_
  refine AW.getR af_X6_33_3 sr_3_9 dX6_takeOver_132 ?_
  refine AW.iconst dX6_takeOver_135 ?_
  refine AW.aloadr_n 0 dX6_takeOver_136 rfl ?_
  refine AW.getR af_X6_33_2 sr_2_9 dX6_takeOver_137 ?_
  refine AW.iconst dX6_takeOver_140 ?_
  refine AW.bipush dX6_takeOver_141 (by decide) (by decide) ?_
  obtain ⟨g29, e30, h⟩ := hBe h
  refine AW.copyi cc_X6_64 ac_n ac_s ac_i kc_36 sk_36 kc_24 sk_24 (by decide) (Nat.le_of_ble_eq_true rfl) (Nat.le_trans (by decide) hdd) dX6_takeOver_143 e30 ?_
  refine AW.aloadr_n 1 dX6_takeOver_146 rfl ?_
  refine AW.getR af_X6_36_3 sr_3_11 dX6_takeOver_147 ?_
  refine AW.iconst dX6_takeOver_150 ?_
  refine AW.aloadr_n 0 dX6_takeOver_151 rfl ?_
  refine AW.getR af_X6_36_2 sr_2_11 dX6_takeOver_152 ?_
  refine AW.iconst dX6_takeOver_155 ?_
  refine AW.bipush dX6_takeOver_156 (by decide) (by decide) ?_
  obtain ⟨g32, e33, h⟩ := hBe h
  refine AW.copyi cc_X6_64 ac_n ac_s ac_i kc_37 sk_37 kc_25 sk_25 (by decide) (Nat.le_of_ble_eq_true rfl) (Nat.le_trans (by decide) hdd) dX6_takeOver_158 e33 ?_
  refine AW.aloadr_n 1 dX6_takeOver_161 rfl ?_
  refine AW.getR af_X6_39_3 sr_3_12 dX6_takeOver_162 ?_
  refine AW.iconst dX6_takeOver_165 ?_
  refine AW.aloadr_n 0 dX6_takeOver_166 rfl ?_
  refine AW.getR af_X6_39_2 sr_2_12 dX6_takeOver_167 ?_
  refine AW.iconst dX6_takeOver_170 ?_
  refine AW.bipush dX6_takeOver_171 (by decide) (by decide) ?_
  obtain ⟨g35, e36, h⟩ := hBe h
  refine AW.copyi cc_X6_64 ac_n ac_s ac_i kc_38 sk_38 kc_26 sk_26 (by decide) (Nat.le_of_ble_eq_true rfl) (Nat.le_trans (by decide) hdd) dX6_takeOver_173 e36 ?_
  exact AW.vret1 rfl dX6_takeOver_176 h rfl
theorem X_rules_ok {z : AZ} {g : AG} {r : Int × AG} (h : X_rules g = some r) : AMf z yX11_rules cX11_rules 2 (some .int) 43 [rv z 0] g r := by
  intro d hdd
  refine AM.of (by decide +kernel) (Nat.le_of_ble_eq_true rfl) ?_
  show AW z (RX11, cX11_rules, 2, (some .int)) d (QD (some .int) r) 0 [(0, rv z 0)] [] g
  unfold X_rules at h
  refine AW.aloadr_n 0 dX11_rules_0 rfl ?_
  refine AW.getR af_X11_31_0 sr_0_3 dX11_rules_1 ?_
  obtain ⟨r1, e2, h⟩ := hC h
  refine AW.callVi (As := []) (st := []) (Parser_read_ok e2) cq_X11_157 cr_4_X4_read (Nat.le_trans (by decide) hdd) rfl dX11_rules_4 rfl (Nat.le_of_ble_eq_true rfl) ?_
  refine AW.istore_n (lv1 := [(1, iv r1.1), (0, rv z 0)]) dX11_rules_7 (by decide) rfl ?_
  refine AW.iload_n 0 dX11_rules_8 rfl ?_
  refine AW.iconst dX11_rules_9 ?_
  refine AW.icmp_ne (tgt := 15) dX11_rules_10 (by decide) (fun c3 => ?_) (fun c3 => ?_)
  · replace h := hF h c3
    refine AW.aloadr_n 1 dX11_rules_15 rfl ?_
    refine AW.getR af_X11_19_0 sr_0_1 dX11_rules_16 ?_
    refine AW.aloadr_n 1 dX11_rules_19 rfl ?_
    refine AW.getR af_X11_23_0 sr_0_2 dX11_rules_20 ?_
    obtain ⟨r4, e5, h⟩ := hC h
    refine AW.callVv (As := [rv z 3]) (st := []) (Rules_takeOver_ok e5) cq_X11_161 cr_2_X6_takeOver (Nat.le_trans (by decide) hdd) rfl dX11_rules_23 rfl (Nat.le_of_ble_eq_true rfl) ?_
    refine AW.aloadr_n 1 dX11_rules_26 rfl ?_
    refine AW.getR af_X11_40_0 sr_0_4 dX11_rules_27 ?_
    obtain ⟨r6, e7, h⟩ := hC h
    refine AW.callVv (As := []) (st := []) (Voyage_learnHours_ok e7) cq_X11_130 cr_5_X9_learnHours (Nat.le_trans (by decide) hdd) rfl dX11_rules_30 rfl (Nat.le_of_ble_eq_true rfl) ?_
    refine AW.iload_n 0 dX11_rules_33 rfl ?_
    exact AW.iret1 rfl dX11_rules_34 h rfl
  · replace h := hT h c3
    refine AW.iconst dX11_rules_13 ?_
    exact AW.iret1 rfl dX11_rules_14 h rfl
theorem X_fault_ok {z : AZ} {x1 : Int} {g : AG} : AMf z yX11_fault cX11_fault 2 (some .int) 0 [rv z 0, iv x1] g ((X_fault x1 g), g) := by
  intro d hdd
  refine AM.of (by decide +kernel) (Nat.le_of_ble_eq_true rfl) ?_
  show AW z (RX11, cX11_fault, 2, (some .int)) d (QD (some .int) ((X_fault x1 g), g)) 0 [(0, rv z 0), (1, iv x1)] [] g
  refine AW.iload_n 1 dX11_fault_0 rfl ?_
  refine AW.if_ne (tgt := 12) dX11_fault_1 (by decide) (fun c1 => ?_) (fun c1 => ?_)
  · refine AW.iload_n 1 dX11_fault_12 rfl ?_
    refine AW.iconst dX11_fault_13 ?_
    refine AW.join (tgt := 28) (lv1 := [(0, rv z 0), (1, iv x1)]) (st1 := [iv (if nw x1 = 1 then (g 4 8) else (-1))]) (g1 := g) ?_ (fun J14 => ?_)
    · exact AW.iret rfl dX11_fault_28 ⟨congrArg (fun v => some (iv v)) (show X_fault x1 g = (if nw x1 = 1 then (g 4 8) else (-1)) from ((if_neg c1))).symm, rfl⟩
    refine AW.icmp_ne (tgt := 27) dX11_fault_14 (by decide) (fun c2 => ?_) (fun c2 => ?_)
    · refine AW.iconst dX11_fault_27 ?_
      exact AW.val (if_neg c2) J14
    · refine AW.aloadr_n 0 dX11_fault_17 rfl ?_
      refine AW.getR af_X11_31_0 sr_0_3 dX11_fault_18 ?_
      refine AW.getI af_X11_167_4 sr_4_8 dX11_fault_21 ?_
      refine AW.goto (tgt := 28) dX11_fault_24 (by decide) ?_
      exact AW.val (if_pos c2) J14
  · refine AW.aloadr_n 0 dX11_fault_4 rfl ?_
    refine AW.getR af_X11_31_0 sr_0_3 dX11_fault_5 ?_
    refine AW.getI af_X11_164_4 sr_4_7 dX11_fault_8 ?_
    exact AW.iret rfl dX11_fault_11 ⟨congrArg (fun v => some (iv v)) (show X_fault x1 g = (g 4 7) from ((if_pos c1))).symm, rfl⟩
theorem X_open_ok {z : AZ} {x1 : Int} {x2 : Int} {g : AG} {r : Int} (h : X_open x1 x2 g = some r) : AMf z yX11_open cX11_open 3 (some .int) 1 [rv z 0, iv x1, iv x2] g (r, g) := by
  intro d hdd
  refine AM.of (by decide +kernel) (Nat.le_of_ble_eq_true rfl) ?_
  show AW z (RX11, cX11_open, 3, (some .int)) d (QD (some .int) (r, g)) 0 [(0, rv z 0), (1, iv x1), (2, iv x2)] [] g
  unfold X_open at h
  refine AW.iload_n 1 dX11_open_0 rfl ?_
  refine AW.iconst dX11_open_1 ?_
  refine AW.bipush dX11_open_2 (by decide) (by decide) ?_
  refine AW.callSi (As := [iv x1, iv 0, iv 13]) (st := []) X_within_ok cq_X11_99 st_X11_within (Nat.le_trans (by decide) hdd) rfl dX11_open_4 rfl (Nat.le_of_ble_eq_true rfl) ?_
  refine AW.if_ne (tgt := 12) dX11_open_7 (by decide) (fun c1 => ?_) (fun c1 => ?_)
  · replace h := hF h c1
    refine AW.iload_n 2 dX11_open_12 rfl ?_
    refine AW.if_ne (tgt := 26) dX11_open_13 (by decide) (fun c2 => ?_) (fun c2 => ?_)
    · replace h := hF h c2
      refine AW.iload_n 2 dX11_open_26 rfl ?_
      refine AW.iconst dX11_open_27 ?_
      obtain ⟨r5, e6, h⟩ := hC h
      refine AW.join (tgt := 44) (lv1 := []) (st1 := [iv r5]) (g1 := g) ?_ (fun J28 => ?_)
      · exact AW.iret2 rfl dX11_open_44 h rfl
      replace h := e6
      refine AW.icmp_ne (tgt := 43) dX11_open_28 (by decide) (fun c3 => ?_) (fun c3 => ?_)
      · replace h := hF h c3
        refine AW.iconst dX11_open_43 ?_
        refine AW.sub (lv1 := []) [] rfl ?_
        cases h
        exact J28
      · replace h := hT h c3
        refine AW.aloadr_n 0 dX11_open_31 rfl ?_
        refine AW.getR af_X11_40_0 sr_0_4 dX11_open_32 ?_
        refine AW.getR af_X11_173_5 sr_5_3 dX11_open_35 ?_
        refine AW.iload_n 1 dX11_open_38 rfl ?_
        obtain ⟨k4, h⟩ := hK h
        refine AW.iald kc_45 sk_45 k4 dX11_open_39 ?_
        refine AW.goto (tgt := 44) dX11_open_40 (by decide) ?_
        refine AW.sub (lv1 := []) [] rfl ?_
        cases h
        exact J28
    · replace h := hT h c2
      refine AW.aloadr_n 0 dX11_open_16 rfl ?_
      refine AW.getR af_X11_40_0 sr_0_4 dX11_open_17 ?_
      refine AW.getR af_X11_170_5 sr_5_2 dX11_open_20 ?_
      refine AW.iload_n 1 dX11_open_23 rfl ?_
      obtain ⟨k7, h⟩ := hK h
      refine AW.iald kc_44 sk_44 k7 dX11_open_24 ?_
      exact AW.iret2 rfl dX11_open_25 h rfl
  · replace h := hT h c1
    refine AW.iconst dX11_open_10 ?_
    exact AW.iret2 rfl dX11_open_11 h rfl
theorem X_isBoat_ok {z : AZ} {x1 : Int} {g : AG} : AMf z yX11_isBoat cX11_isBoat 2 (some .boolean) 1 [rv z 0, iv x1] g ((X_isBoat x1 g), g) := by
  intro d hdd
  refine AM.of (by decide +kernel) (Nat.le_of_ble_eq_true rfl) ?_
  show AW z (RX11, cX11_isBoat, 2, (some .boolean)) d (QD (some .boolean) ((X_isBoat x1 g), g)) 0 [(0, rv z 0), (1, iv x1)] [] g
  refine AW.iload_n 1 dX11_isBoat_0 rfl ?_
  refine AW.iconst dX11_isBoat_1 ?_
  refine AW.aloadr_n 0 dX11_isBoat_2 rfl ?_
  refine AW.getR af_X11_49_0 sr_0_5 dX11_isBoat_3 ?_
  refine AW.getI af_X11_103_6 sr_6_7 dX11_isBoat_6 ?_
  refine AW.iconst dX11_isBoat_9 ?_
  refine AW.isub dX11_isBoat_10 ?_
  refine AW.callSi (As := [iv x1, iv 0, iv ((g 6 7) - 1)]) (st := []) X_within_ok cq_X11_99 st_X11_within (Nat.le_trans (by decide) hdd) rfl dX11_isBoat_11 rfl (Nat.le_of_ble_eq_true rfl) ?_
  exact AW.zret rfl X_within_01 dX11_isBoat_14 ⟨congrArg (fun v => some (iv v)) (show X_isBoat x1 g = (X_within x1 0 ((g 6 7) - 1)) from rfl).symm, rfl⟩
theorem X_isTime_ok {z : AZ} {x0 : Int} {g : AG} : AMf z yX11_isTime cX11_isTime 1 (some .boolean) 1 [iv x0] g ((X_isTime x0), g) := by
  intro d hdd
  refine AM.of (by decide +kernel) (Nat.le_of_ble_eq_true rfl) ?_
  show AW z (RX11, cX11_isTime, 1, (some .boolean)) d (QD (some .boolean) ((X_isTime x0), g)) 0 [(0, iv x0)] [] g
  refine AW.iload_n 0 dX11_isTime_0 rfl ?_
  refine AW.iconst dX11_isTime_1 ?_
  refine AW.sipush dX11_isTime_2 (by decide) (by decide) ?_
  refine AW.callSi (As := [iv x0, iv 0, iv 20159]) (st := []) X_within_ok cq_X11_99 st_X11_within (Nat.le_trans (by decide) hdd) rfl dX11_isTime_5 rfl (Nat.le_of_ble_eq_true rfl) ?_
  exact AW.zret rfl X_within_01 dX11_isTime_8 ⟨congrArg (fun v => some (iv v)) (show X_isTime x0  = (X_within x0 0 20159) from rfl).symm, rfl⟩
theorem X_isWay_ok {z : AZ} {x1 : Int} {x2 : Int} {x3 : Int} {x4 : Int} {g : AG} : AMf z yX11_isWay cX11_isWay 5 (some .boolean) 2 [rv z 0, iv x1, iv x2, iv x3, iv x4] g ((X_isWay x1 x2 x3 x4 g), g) := by
  intro d hdd
  refine AM.of (by decide +kernel) (Nat.le_of_ble_eq_true rfl) ?_
  show AW z (RX11, cX11_isWay, 5, (some .boolean)) d (QD (some .boolean) ((X_isWay x1 x2 x3 x4 g), g)) 0 [(0, rv z 0), (1, iv x1), (2, iv x2), (3, iv x3), (4, iv x4)] [] g
  refine AW.aloadr_n 0 dX11_isWay_0 rfl ?_
  refine AW.iload_n 1 dX11_isWay_1 rfl ?_
  refine AW.callVi (As := [iv x1]) (st := []) X_isBoat_ok cq_X11_107 cr_0_X11_isBoat (Nat.le_trans (by decide) hdd) rfl dX11_isWay_2 rfl (Nat.le_of_ble_eq_true rfl) ?_
  refine AW.join (tgt := 35) (lv1 := [(0, rv z 0), (1, iv x1), (2, iv x2), (3, iv x3), (4, iv x4)]) (st1 := [iv (if nw (X_isBoat x1 g) = 0 then 0 else (if nw (X_isPoint x2) = 0 then 0 else (if nw (X_isPoint x3) = 0 then 0 else (if nw (X_isTime x4) = 0 then 0 else 1))))]) (g1 := g) ?_ (fun J5 => ?_)
  · exact AW.zret rfl (by (repeat' split) <;> first | exact Or.inl rfl | exact Or.inr rfl) dX11_isWay_35 ⟨congrArg (fun v => some (iv v)) (show X_isWay x1 x2 x3 x4 g = (if nw (X_isBoat x1 g) = 0 then 0 else (if nw (X_isPoint x2) = 0 then 0 else (if nw (X_isPoint x3) = 0 then 0 else (if nw (X_isTime x4) = 0 then 0 else 1)))) from rfl).symm, rfl⟩
  refine AW.if_eq (tgt := 34) dX11_isWay_5 (by decide) (fun c1 => ?_) (fun c1 => ?_)
  · refine AW.iconst dX11_isWay_34 ?_
    exact AW.val (if_pos c1) J5
  · refine AW.iload_n 2 dX11_isWay_8 rfl ?_
    refine AW.callSi (As := [iv x2]) (st := []) X_isPoint_ok cq_X11_111 st_X11_isPoint (Nat.le_trans (by decide) hdd) rfl dX11_isWay_9 rfl (Nat.le_of_ble_eq_true rfl) ?_
    refine AW.if_eq (tgt := 34) dX11_isWay_12 (by decide) (fun c2 => ?_) (fun c2 => ?_)
    · refine AW.iconst dX11_isWay_34 ?_
      exact AW.val ((if_neg c1).trans (if_pos c2)) J5
    · refine AW.iload_n 3 dX11_isWay_15 rfl ?_
      refine AW.callSi (As := [iv x3]) (st := []) X_isPoint_ok cq_X11_111 st_X11_isPoint (Nat.le_trans (by decide) hdd) rfl dX11_isWay_16 rfl (Nat.le_of_ble_eq_true rfl) ?_
      refine AW.if_eq (tgt := 34) dX11_isWay_19 (by decide) (fun c3 => ?_) (fun c3 => ?_)
      · refine AW.iconst dX11_isWay_34 ?_
        exact AW.val ((if_neg c1).trans ((if_neg c2).trans (if_pos c3))) J5
      · refine AW.iload 4 dX11_isWay_22 rfl ?_
        refine AW.callSi (As := [iv x4]) (st := []) X_isTime_ok cq_X11_114 st_X11_isTime (Nat.le_trans (by decide) hdd) rfl dX11_isWay_24 rfl (Nat.le_of_ble_eq_true rfl) ?_
        refine AW.if_eq (tgt := 34) dX11_isWay_27 (by decide) (fun c4 => ?_) (fun c4 => ?_)
        · refine AW.iconst dX11_isWay_34 ?_
          exact AW.val ((if_neg c1).trans ((if_neg c2).trans ((if_neg c3).trans (if_pos c4)))) J5
        · refine AW.iconst dX11_isWay_30 ?_
          refine AW.goto (tgt := 35) dX11_isWay_31 (by decide) ?_
          exact AW.val ((if_neg c1).trans ((if_neg c2).trans ((if_neg c3).trans (if_neg c4)))) J5
theorem Voyage_setOut_ok {z : AZ} {x1 : Int} {x2 : Int} {g : AG} {r : Int × AG} (h : Voyage_setOut x1 x2 g = some r) : AMf z yX9_setOut cX9_setOut 3 none 1 [rv z 5, iv x1, iv x2] g r := by
  intro d hdd
  refine AM.of (by decide +kernel) (Nat.le_of_ble_eq_true rfl) ?_
  show AW z (RX9, cX9_setOut, 3, none) d (QD none r) 0 [(0, rv z 5), (1, iv x1), (2, iv x2)] [] g
  unfold Voyage_setOut at h
  refine AW.aloadr_n 0 dX9_setOut_0 rfl ?_
  refine AW.bipush dX9_setOut_1 (by decide) (by decide) ?_
  refine AW.bipush dX9_setOut_3 (by decide) (by decide) ?_
  refine AW.iload_n 1 dX9_setOut_5 rfl ?_
  refine AW.isub dX9_setOut_6 ?_
  refine AW.bipush dX9_setOut_7 (by decide) (by decide) ?_
  refine AW.idiv dX9_setOut_9 (by decide) ?_
  refine AW.iadd dX9_setOut_10 ?_
  obtain ⟨g1, e2, h⟩ := hBe h
  refine AW.putI ap_X9_60_5 sr_5_6 dX9_setOut_11 e2 ?_
  refine AW.aloadr_n 0 dX9_setOut_14 rfl ?_
  refine AW.iload_n 2 dX9_setOut_15 rfl ?_
  obtain ⟨k3, h⟩ := hK h
  obtain ⟨g4, e5, h⟩ := hBe h
  refine AW.putZ ap_X9_63_5 sr_5_7 k3 dX9_setOut_16 e5 ?_
  refine AW.aloadr_n 0 dX9_setOut_19 rfl ?_
  refine AW.getR af_X9_21_5 sr_5_5 dX9_setOut_20 ?_
  refine AW.iconst dX9_setOut_23 ?_
  obtain ⟨g6, e7, h⟩ := hBe h
  refine AW.callSv (st := []) (fill_ok kc_47 sk_47 (by decide)) cf_X9_32 st_fill (Nat.le_trans (by decide) hdd) rfl dX9_setOut_24 rfl (Nat.le_of_ble_eq_true rfl) ?_
  rw [← e7]
  exact AW.vret1 rfl dX9_setOut_27 h rfl
theorem Rules_hasTunnel_2_ok {z : AZ} {x1 : Int} {g : AG} : AMf z yX6_hasTunnel cX6_hasTunnel 2 (some .boolean) 0 [rv z 2, iv x1] g ((Rules_hasTunnel_2 x1 g), g) := by
  intro d hdd
  refine AM.of (by decide +kernel) (Nat.le_of_ble_eq_true rfl) ?_
  show AW z (RX6, cX6_hasTunnel, 2, (some .boolean)) d (QD (some .boolean) ((Rules_hasTunnel_2 x1 g), g)) 0 [(0, rv z 2), (1, iv x1)] [] g
  refine AW.aloadr_n 0 dX6_hasTunnel_0 rfl ?_
  refine AW.getI af_X6_55_2 sr_2_10 dX6_hasTunnel_1 ?_
  refine AW.iload_n 1 dX6_hasTunnel_4 rfl ?_
  refine AW.ishr dX6_hasTunnel_5 ?_
  refine AW.iconst dX6_hasTunnel_6 ?_
  refine AW.iand dX6_hasTunnel_7 ?_
  refine AW.join (tgt := 16) (lv1 := [(0, rv z 2), (1, iv x1)]) (st1 := [iv (if nw (andI (shrI (g 2 10) x1) 1) = 0 then 0 else 1)]) (g1 := g) ?_ (fun J8 => ?_)
  · exact AW.zret rfl (by (repeat' split) <;> first | exact Or.inl rfl | exact Or.inr rfl) dX6_hasTunnel_16 ⟨congrArg (fun v => some (iv v)) (show Rules_hasTunnel_2 x1 g = (if nw (andI (shrI (g 2 10) x1) 1) = 0 then 0 else 1) from rfl).symm, rfl⟩
  refine AW.if_eq (tgt := 15) dX6_hasTunnel_8 (by decide) (fun c1 => ?_) (fun c1 => ?_)
  · refine AW.iconst dX6_hasTunnel_15 ?_
    exact AW.val (if_pos c1) J8
  · refine AW.iconst dX6_hasTunnel_11 ?_
    refine AW.goto (tgt := 16) dX6_hasTunnel_12 (by decide) ?_
    exact AW.val (if_neg c1) J8
theorem Rules_isTunnel_ok {z : AZ} {x1 : Int} {g : AG} : AMf z yX6_isTunnel cX6_isTunnel 2 (some .boolean) 1 [rv z 2, iv x1] g ((Rules_isTunnel x1 g), g) := by
  intro d hdd
  refine AM.of (by decide +kernel) (Nat.le_of_ble_eq_true rfl) ?_
  show AW z (RX6, cX6_isTunnel, 2, (some .boolean)) d (QD (some .boolean) ((Rules_isTunnel x1 g), g)) 0 [(0, rv z 2), (1, iv x1)] [] g
  refine AW.aloadr_n 0 dX6_isTunnel_0 rfl ?_
  refine AW.iload_n 1 dX6_isTunnel_1 rfl ?_
  refine AW.callVi (As := [iv x1]) (st := []) Rules_hasTunnel_2_ok cq_X6_70 cr_2_X6_hasTunnel (Nat.le_trans (by decide) hdd) rfl dX6_isTunnel_2 rfl (Nat.le_of_ble_eq_true rfl) ?_
  refine AW.join (tgt := 24) (lv1 := [(0, rv z 2), (1, iv x1)]) (st1 := [iv (if nw (Rules_hasTunnel_2 x1 g) = 0 then (if nw (Rules_hasTunnel_2 (15 + x1) g) = 0 then 0 else 1) else 1)]) (g1 := g) ?_ (fun J5 => ?_)
  · exact AW.zret rfl (by (repeat' split) <;> first | exact Or.inl rfl | exact Or.inr rfl) dX6_isTunnel_24 ⟨congrArg (fun v => some (iv v)) (show Rules_isTunnel x1 g = (if nw (Rules_hasTunnel_2 x1 g) = 0 then (if nw (Rules_hasTunnel_2 (15 + x1) g) = 0 then 0 else 1) else 1) from rfl).symm, rfl⟩
  refine AW.if_ne (tgt := 19) dX6_isTunnel_5 (by decide) (fun c1 => ?_) (fun c1 => ?_)
  · refine AW.iconst dX6_isTunnel_19 ?_
    refine AW.goto (tgt := 24) dX6_isTunnel_20 (by decide) ?_
    exact AW.val (if_neg c1) J5
  · refine AW.aloadr_n 0 dX6_isTunnel_8 rfl ?_
    refine AW.bipush dX6_isTunnel_9 (by decide) (by decide) ?_
    refine AW.iload_n 1 dX6_isTunnel_11 rfl ?_
    refine AW.iadd dX6_isTunnel_12 ?_
    refine AW.callVi (As := [iv (15 + x1)]) (st := []) Rules_hasTunnel_2_ok cq_X6_70 cr_2_X6_hasTunnel (Nat.le_trans (by decide) hdd) rfl dX6_isTunnel_13 rfl (Nat.le_of_ble_eq_true rfl) ?_
    refine AW.if_eq (tgt := 23) dX6_isTunnel_16 (by decide) (fun c2 => ?_) (fun c2 => ?_)
    · refine AW.iconst dX6_isTunnel_23 ?_
      exact AW.val ((if_pos c1).trans (if_pos c2)) J5
    · refine AW.iconst dX6_isTunnel_19 ?_
      refine AW.goto (tgt := 24) dX6_isTunnel_20 (by decide) ?_
      exact AW.val ((if_pos c1).trans (if_neg c2)) J5
theorem Voyage_firstHour_ok {z : AZ} {x1 : Int} {x2 : Int} {x3 : Int} {g : AG} {r : Int} (h : Voyage_firstHour x1 x2 x3 g = some r) : AMf z yX9_firstHour cX9_firstHour 4 (some .int) 0 [rv z 5, iv x1, iv x2, iv x3] g (r, g) := by
  intro d hdd
  refine AM.of (by decide +kernel) (Nat.le_of_ble_eq_true rfl) ?_
  show AW z (RX9, cX9_firstHour, 4, (some .int)) d (QD (some .int) (r, g)) 0 [(0, rv z 5), (1, iv x1), (2, iv x2), (3, iv x3)] [] g
  unfold Voyage_firstHour at h
  refine AW.iload_n 2 dX9_firstHour_0 rfl ?_
  by_cases c1 : nw x2 = 1
  · replace h := hT h c1
    refine AW.tsIn (tgt := 28) 1 dX9_firstHour_1 c1 (by decide) (by decide) (by rfl) (by decide) ?_
    refine AW.aloadr_n 0 dX9_firstHour_28 rfl ?_
    refine AW.getR af_X9_9_5 sr_5_2 dX9_firstHour_29 ?_
    refine AW.iload_n 3 dX9_firstHour_32 rfl ?_
    obtain ⟨k2, h⟩ := hK h
    refine AW.iald kc_44 sk_44 k2 dX9_firstHour_33 ?_
    exact AW.iret2 rfl dX9_firstHour_34 h rfl
  · replace h := hF h c1
    by_cases c3 : nw x2 = 2
    · replace h := hT h c3
      refine AW.tsIn (tgt := 35) 2 dX9_firstHour_1 c3 (by decide) (by decide) (by rfl) (by decide) ?_
      refine AW.aloadr_n 0 dX9_firstHour_35 rfl ?_
      refine AW.getR af_X9_28_5 sr_5_1 dX9_firstHour_36 ?_
      refine AW.getR af_X9_118_2 sr_2_11 dX9_firstHour_39 ?_
      refine AW.iload_n 1 dX9_firstHour_42 rfl ?_
      obtain ⟨k4, h⟩ := hK h
      refine AW.iald kc_25 sk_25 k4 dX9_firstHour_43 ?_
      exact AW.iret2 rfl dX9_firstHour_44 h rfl
    · replace h := hF h c3
      by_cases c5 : nw x2 = 3
      · replace h := hT h c5
        refine AW.tsIn (tgt := 45) 3 dX9_firstHour_1 c5 (by decide) (by decide) (by rfl) (by decide) ?_
        refine AW.aloadr_n 0 dX9_firstHour_45 rfl ?_
        refine AW.getR af_X9_28_5 sr_5_1 dX9_firstHour_46 ?_
        refine AW.getR af_X9_118_2 sr_2_11 dX9_firstHour_49 ?_
        refine AW.bipush dX9_firstHour_52 (by decide) (by decide) ?_
        refine AW.iload_n 1 dX9_firstHour_54 rfl ?_
        refine AW.iadd dX9_firstHour_55 ?_
        obtain ⟨k6, h⟩ := hK h
        refine AW.iald kc_25 sk_25 k6 dX9_firstHour_56 ?_
        exact AW.iret2 rfl dX9_firstHour_57 h rfl
      · replace h := hF h c5
        refine AW.tsOut (tgt := 58) dX9_firstHour_1 (by omega) (by decide) ?_
        refine AW.iconst dX9_firstHour_58 ?_
        exact AW.iret2 rfl dX9_firstHour_59 h rfl
theorem Voyage_hourBehind_ok {z : AZ} {x1 : Int} {x2 : Int} {x3 : Int} {g : AG} {r : Int} (h : Voyage_hourBehind x1 x2 x3 g = some r) : AMf z yX9_hourBehind cX9_hourBehind 4 (some .int) 0 [rv z 5, iv x1, iv x2, iv x3] g (r, g) := by
  intro d hdd
  refine AM.of (by decide +kernel) (Nat.le_of_ble_eq_true rfl) ?_
  show AW z (RX9, cX9_hourBehind, 4, (some .int)) d (QD (some .int) (r, g)) 0 [(0, rv z 5), (1, iv x1), (2, iv x2), (3, iv x3)] [] g
  unfold Voyage_hourBehind at h
  refine AW.iload_n 2 dX9_hourBehind_0 rfl ?_
  by_cases c1 : nw x2 = 1
  · replace h := hT h c1
    refine AW.tsIn (tgt := 28) 1 dX9_hourBehind_1 c1 (by decide) (by decide) (by rfl) (by decide) ?_
    refine AW.aloadr_n 0 dX9_hourBehind_28 rfl ?_
    refine AW.getR af_X9_15_5 sr_5_3 dX9_hourBehind_29 ?_
    refine AW.iload_n 3 dX9_hourBehind_32 rfl ?_
    obtain ⟨k2, h⟩ := hK h
    refine AW.iald kc_45 sk_45 k2 dX9_hourBehind_33 ?_
    exact AW.iret2 rfl dX9_hourBehind_34 h rfl
  · replace h := hF h c1
    by_cases c3 : nw x2 = 2
    · replace h := hT h c3
      refine AW.tsIn (tgt := 35) 2 dX9_hourBehind_1 c3 (by decide) (by decide) (by rfl) (by decide) ?_
      refine AW.aloadr_n 0 dX9_hourBehind_35 rfl ?_
      refine AW.getR af_X9_28_5 sr_5_1 dX9_hourBehind_36 ?_
      refine AW.getR af_X9_121_2 sr_2_12 dX9_hourBehind_39 ?_
      refine AW.iload_n 1 dX9_hourBehind_42 rfl ?_
      obtain ⟨k4, h⟩ := hK h
      refine AW.iald kc_26 sk_26 k4 dX9_hourBehind_43 ?_
      exact AW.iret2 rfl dX9_hourBehind_44 h rfl
    · replace h := hF h c3
      by_cases c5 : nw x2 = 3
      · replace h := hT h c5
        refine AW.tsIn (tgt := 45) 3 dX9_hourBehind_1 c5 (by decide) (by decide) (by rfl) (by decide) ?_
        refine AW.aloadr_n 0 dX9_hourBehind_45 rfl ?_
        refine AW.getR af_X9_28_5 sr_5_1 dX9_hourBehind_46 ?_
        refine AW.getR af_X9_121_2 sr_2_12 dX9_hourBehind_49 ?_
        refine AW.bipush dX9_hourBehind_52 (by decide) (by decide) ?_
        refine AW.iload_n 1 dX9_hourBehind_54 rfl ?_
        refine AW.iadd dX9_hourBehind_55 ?_
        obtain ⟨k6, h⟩ := hK h
        refine AW.iald kc_26 sk_26 k6 dX9_hourBehind_56 ?_
        exact AW.iret2 rfl dX9_hourBehind_57 h rfl
      · replace h := hF h c5
        refine AW.tsOut (tgt := 58) dX9_hourBehind_1 (by omega) (by decide) ?_
        refine AW.bipush dX9_hourBehind_58 (by decide) (by decide) ?_
        exact AW.iret2 rfl dX9_hourBehind_60 h rfl
theorem Voyage_isStopped_ok {z : AZ} {x1 : Int} {x2 : Int} {g : AG} {r : Int} (h : Voyage_isStopped x1 x2 g = some r) : AMf z yX9_isStopped cX9_isStopped 3 (some .boolean) 0 [rv z 5, iv x1, iv x2] g (r, g) := by
  intro d hdd
  refine AM.of (by decide +kernel) (Nat.le_of_ble_eq_true rfl) ?_
  show AW z (RX9, cX9_isStopped, 3, (some .boolean)) d (QD (some .boolean) (r, g)) 0 [(0, rv z 5), (1, iv x1), (2, iv x2)] [] g
  unfold Voyage_isStopped at h
  refine AW.aloadr_n 0 dX9_isStopped_0 rfl ?_
  refine AW.getI af_X9_63_5 sr_5_7 dX9_isStopped_1 ?_
  obtain ⟨r6, e7, h⟩ := hC h
  refine AW.join (tgt := 28) (lv1 := []) (st1 := [iv r6]) (g1 := g) ?_ (fun J4 => ?_)
  · obtain ⟨k8, h⟩ := hK h
    exact AW.zret2 rfl k8 dX9_isStopped_28 h rfl
  replace h := e7
  refine AW.if_eq (tgt := 27) dX9_isStopped_4 (by decide) (fun c1 => ?_) (fun c1 => ?_)
  · replace h := hT h c1
    refine AW.iconst dX9_isStopped_27 ?_
    refine AW.sub (lv1 := []) [] rfl ?_
    cases h
    exact J4
  · replace h := hF h c1
    refine AW.aloadr_n 0 dX9_isStopped_7 rfl ?_
    refine AW.getR af_X9_24_5 sr_5_0 dX9_isStopped_8 ?_
    refine AW.getR af_X9_115_1 sr_1_3 dX9_isStopped_11 ?_
    refine AW.iload_n 1 dX9_isStopped_14 rfl ?_
    obtain ⟨k2, h⟩ := hK h
    refine AW.iald kc_16 sk_16 k2 dX9_isStopped_15 ?_
    refine AW.iload_n 2 dX9_isStopped_16 rfl ?_
    refine AW.ishr dX9_isStopped_17 ?_
    refine AW.iconst dX9_isStopped_18 ?_
    refine AW.iand dX9_isStopped_19 ?_
    obtain ⟨t3, e4, h⟩ := hBe h
    refine AW.join (tgt := 28) (lv1 := [(0, rv z 5), (1, iv x1), (2, iv x2)]) (st1 := [iv t3]) (g1 := g) ?_ (fun J20 => ?_)
    · refine AW.sub (lv1 := []) [] rfl ?_
      cases h
      exact J4
    refine AW.if_eq (tgt := 27) dX9_isStopped_20 (by decide) (fun c5 => ?_) (fun c5 => ?_)
    · refine AW.iconst dX9_isStopped_27 ?_
      exact AW.val (e4.trans (if_pos c5)) J20
    · refine AW.iconst dX9_isStopped_23 ?_
      refine AW.goto (tgt := 28) dX9_isStopped_24 (by decide) ?_
      exact AW.val (e4.trans (if_neg c5)) J20
set_option synthInstance.maxHeartbeats 2000000 in
theorem Voyage_begins_b_ok {z : AZ} {d : Nat} (hdd : 1 ≤ d) {x1 : Int} {x2 : Int} {x3 : Int} {g : AG} : ∀ (tag : Nat) (x4 : Int) (r : Int), Voyage_begins_b x1 x2 x3 g tag x4 = some r → (tag = 1 → AW z (RX9, cX9_begins, 8, (some .int)) d (QD (some .int) (r, g)) 13 [(0, rv z 5), (1, iv x1), (2, iv x2), (3, iv x3), (4, iv x4)] [] g) ∧ (tag = 2 → AW z (RX9, cX9_begins, 8, (some .int)) d (QD (some .int) (r, g)) 98 [(0, rv z 5), (1, iv x1), (2, iv x2), (3, iv x3), (4, iv x4)] [] g) := by
  refine Voyage_begins_b.partial_correctness x1 x2 x3 g (fun tag x4 r => (tag = 1 → AW z (RX9, cX9_begins, 8, (some .int)) d (QD (some .int) (r, g)) 13 [(0, rv z 5), (1, iv x1), (2, iv x2), (3, iv x3), (4, iv x4)] [] g) ∧ (tag = 2 → AW z (RX9, cX9_begins, 8, (some .int)) d (QD (some .int) (r, g)) 98 [(0, rv z 5), (1, iv x1), (2, iv x2), (3, iv x3), (4, iv x4)] [] g)) ?_
  intro fb9 ih tag x4 r h
  refine ⟨fun h9 => ?_, fun h9 => ?_⟩
  · subst h9
    replace h := hT h rfl
    refine AW.iload 4 dX9_begins_13 rfl ?_
    refine AW.bipush dX9_begins_15 (by decide) (by decide) ?_
    refine AW.icmp_ge (tgt := 104) dX9_begins_17 (by decide) (fun c1 => ?_) (fun c1 => ?_)
    · replace h := hT h c1
      refine AW.iconst dX9_begins_104 ?_
      exact AW.iret2 rfl dX9_begins_105 h rfl
    · replace h := hF h c1
      refine AW.bipush dX9_begins_20 (by decide) (by decide) ?_
      refine AW.aloadr_n 0 dX9_begins_22 rfl ?_
      refine AW.iload_n 1 dX9_begins_23 rfl ?_
      refine AW.iload_n 2 dX9_begins_24 rfl ?_
      refine AW.iload 4 dX9_begins_25 rfl ?_
      obtain ⟨r2, e3, h⟩ := hC h
      refine AW.callVi (As := [iv x1, iv x2, iv x4]) (st := [iv 8]) (Voyage_firstHour_ok e3) cq_X9_96 cr_5_X9_firstHour (Nat.le_trans (by decide) hdd) rfl dX9_begins_27 rfl (Nat.le_of_ble_eq_true rfl) ?_
      refine AW.mmax (st := []) cm_X9_99 mst_max mini mcd_max (Nat.le_trans (by decide) hdd) (Nat.le_of_ble_eq_true rfl) dX9_begins_30 ?_
      refine AW.istore (lv1 := [(5, iv (mxI 8 r2)), (0, rv z 5), (1, iv x1), (2, iv x2), (3, iv x3), (4, iv x4)]) dX9_begins_33 (by decide) rfl ?_
      refine AW.bipush dX9_begins_35 (by decide) (by decide) ?_
      refine AW.aloadr_n 1 dX9_begins_37 rfl ?_
      refine AW.iload_n 2 dX9_begins_38 rfl ?_
      refine AW.iload_n 3 dX9_begins_39 rfl ?_
      refine AW.iload 5 dX9_begins_40 rfl ?_
      obtain ⟨r4, e5, h⟩ := hC h
      refine AW.callVi (As := [iv x1, iv x2, iv x4]) (st := [iv 20]) (Voyage_hourBehind_ok e5) cq_X9_105 cr_5_X9_hourBehind (Nat.le_trans (by decide) hdd) rfl dX9_begins_42 rfl (Nat.le_of_ble_eq_true rfl) ?_
      refine AW.mmin (st := []) cm_X9_108 mst_min mini mcd_min (Nat.le_trans (by decide) hdd) (Nat.le_of_ble_eq_true rfl) dX9_begins_45 ?_
      refine AW.istore (lv1 := [(6, iv (mnI 20 r4)), (5, iv (mxI 8 r2)), (0, rv z 5), (1, iv x1), (2, iv x2), (3, iv x3), (4, iv x4)]) dX9_begins_48 (by decide) rfl ?_
      refine AW.iload_n 5 dX9_begins_50 rfl ?_
      refine AW.iload 6 dX9_begins_51 rfl ?_
      refine AW.sipush dX9_begins_53 (by decide) (by decide) ?_
      refine AW.imul dX9_begins_56 ?_
      refine AW.iload 1 dX9_begins_57 rfl ?_
      refine AW.bipush dX9_begins_59 (by decide) (by decide) ?_
      refine AW.imul dX9_begins_61 ?_
      refine AW.iadd dX9_begins_62 ?_
      refine AW.mmax (st := []) cm_X9_99 mst_max mini mcd_max (Nat.le_trans (by decide) hdd) (Nat.le_of_ble_eq_true rfl) dX9_begins_63 ?_
      refine AW.istore (lv1 := [(7, iv (mxI x3 ((x4 * 1440) + ((mxI 8 r2) * 60)))), (6, iv (mnI 20 r4)), (5, iv (mxI 8 r2)), (0, rv z 5), (1, iv x1), (2, iv x2), (3, iv x3), (4, iv x4)]) dX9_begins_66 (by decide) rfl ?_
      refine AW.iload 0 dX9_begins_68 rfl ?_
      refine AW.iload 7 dX9_begins_70 rfl ?_
      refine AW.sipush dX9_begins_72 (by decide) (by decide) ?_
      refine AW.imul dX9_begins_75 ?_
      refine AW.iload 1 dX9_begins_76 rfl ?_
      refine AW.bipush dX9_begins_78 (by decide) (by decide) ?_
      refine AW.imul dX9_begins_80 ?_
      refine AW.iadd dX9_begins_81 ?_
      refine AW.icmp_ge (tgt := 98) dX9_begins_82 (by decide) (fun c6 => ?_) (fun c6 => ?_)
      · replace h := hT h c6
        refine AW.sub (lv1 := [(0, rv z 5), (1, iv x1), (2, iv x2), (3, iv x3), (4, iv x4)]) [3, 4, 5, 6, 7] rfl ?_
        exact (ih _ _ _ h).2 rfl
      · replace h := hF h c6
        refine AW.aloadr_n 3 dX9_begins_85 rfl ?_
        refine AW.iload_n 4 dX9_begins_86 rfl ?_
        refine AW.iload 7 dX9_begins_87 rfl ?_
        obtain ⟨r7, e8, h⟩ := hC h
        refine AW.callVi (As := [iv x1, iv x4]) (st := []) (Voyage_isStopped_ok e8) cq_X9_111 cr_5_X9_isStopped (Nat.le_trans (by decide) hdd) rfl dX9_begins_89 rfl (Nat.le_of_ble_eq_true rfl) ?_
        refine AW.if_ne (tgt := 98) dX9_begins_92 (by decide) (fun c9 => ?_) (fun c9 => ?_)
        · replace h := hF h c9
          refine AW.sub (lv1 := [(0, rv z 5), (1, iv x1), (2, iv x2), (3, iv x3), (4, iv x4)]) [3, 4, 5, 6, 7] rfl ?_
          exact (ih _ _ _ h).2 rfl
        · replace h := hT h c9
          refine AW.iload 0 dX9_begins_95 rfl ?_
          exact AW.iret2 rfl dX9_begins_97 h rfl
  · subst h9
    replace h := hF h (by decide)
    replace h := hT h rfl
    refine AW.iinc (lv1 := [(4, iv (x4 + 1)), (0, rv z 5), (1, iv x1), (2, iv x2), (3, iv x3)]) 4 dX9_begins_98 rfl (by decide) rfl ?_
    refine AW.goto (tgt := 13) dX9_begins_101 (by decide) ?_
    refine AW.sub (lv1 := [(0, rv z 5), (1, iv x1), (2, iv x2), (3, iv x3), (4, iv (x4 + 1))]) [1, 2, 3, 4, 0] rfl ?_
    exact (ih _ _ _ h).1 rfl
theorem Voyage_begins_ok {z : AZ} {x1 : Int} {x2 : Int} {x3 : Int} {g : AG} {r : Int} (h : Voyage_begins x1 x2 x3 g = some r) : AMf z yX9_begins cX9_begins 8 (some .int) 1 [rv z 5, iv x1, iv x2, iv x3] g (r, g) := by
  intro d hdd
  refine AM.of (by decide +kernel) (Nat.le_of_ble_eq_true rfl) ?_
  show AW z (RX9, cX9_begins, 8, (some .int)) d (QD (some .int) (r, g)) 0 [(0, rv z 5), (1, iv x1), (2, iv x2), (3, iv x3)] [] g
  unfold Voyage_begins at h
  refine AW.iload_n 3 dX9_begins_0 rfl ?_
  refine AW.if_ge (tgt := 6) dX9_begins_1 (by decide) (fun c1 => ?_) (fun c1 => ?_)
  · replace h := hT h c1
    refine AW.iload_n 3 dX9_begins_6 rfl ?_
    refine AW.sipush dX9_begins_7 (by decide) (by decide) ?_
    refine AW.idiv dX9_begins_10 (by decide) ?_
    refine AW.istore (lv1 := [(4, iv ((nw x3).tdiv 1440)), (0, rv z 5), (1, iv x1), (2, iv x2), (3, iv x3)]) dX9_begins_11 (by decide) rfl ?_
    refine AW.sub (lv1 := [(0, rv z 5), (1, iv x1), (2, iv x2), (3, iv x3), (4, iv ((nw x3).tdiv 1440))]) [1, 2, 3, 4, 0] rfl ?_
    exact (Voyage_begins_b_ok hdd _ _ _ h).1 rfl
  · replace h := hF h c1
    refine AW.iconst dX9_begins_4 ?_
    exact AW.iret2 rfl dX9_begins_5 h rfl
theorem Voyage_step_ok {z : AZ} {x1 : Int} {x2 : Int} {x3 : Int} {x4 : Int} {g : AG} {r : Int × AG} (h : Voyage_step x1 x2 x3 x4 g = some r) : AMf z yX9_step cX9_step 6 (some .int) 2 [rv z 5, iv x1, iv x2, iv x3, iv x4] g r := by
  intro d hdd
  refine AM.of (by decide +kernel) (Nat.le_of_ble_eq_true rfl) ?_
  show AW z (RX9, cX9_step, 6, (some .int)) d (QD (some .int) r) 0 [(0, rv z 5), (1, iv x1), (2, iv x2), (3, iv x3), (4, iv x4)] [] g
  unfold Voyage_step at h
  refine AW.aloadr_n 0 dX9_step_0 rfl ?_
  refine AW.iload_n 1 dX9_step_1 rfl ?_
  refine AW.iload_n 2 dX9_step_2 rfl ?_
  refine AW.iload_n 3 dX9_step_3 rfl ?_
  obtain ⟨r1, e2, h⟩ := hC h
  refine AW.callVi (As := [iv x1, iv x2, iv x3]) (st := []) (Voyage_begins_ok e2) cq_X9_92 cr_5_X9_begins (Nat.le_trans (by decide) hdd) rfl dX9_step_4 rfl (Nat.le_of_ble_eq_true rfl) ?_
  refine AW.istore (lv1 := [(5, iv r1), (0, rv z 5), (1, iv x1), (2, iv x2), (3, iv x3), (4, iv x4)]) dX9_step_7 (by decide) rfl ?_
  refine AW.iload 0 dX9_step_9 rfl ?_
  refine AW.iconst dX9_step_11 ?_
  refine AW.icmp_eq (tgt := 26) dX9_step_12 (by decide) (fun c3 => ?_) (fun c3 => ?_)
  · replace h := hT h c3
    refine AW.iconst dX9_step_26 ?_
    exact AW.iret1 rfl dX9_step_27 h rfl
  · replace h := hF h c3
    refine AW.iload 0 dX9_step_15 rfl ?_
    refine AW.iload 5 dX9_step_17 rfl ?_
    refine AW.iadd dX9_step_19 ?_
    refine AW.sipush dX9_step_20 (by decide) (by decide) ?_
    refine AW.icmp_lt (tgt := 28) dX9_step_23 (by decide) (fun c4 => ?_) (fun c4 => ?_)
    · replace h := hT h c4
      refine AW.iload_n 3 dX9_step_28 rfl ?_
      refine AW.iconst dX9_step_29 ?_
      obtain ⟨r9, e10, h⟩ := hC h
      refine AW.join (tgt := 48) (lv1 := [(4, iv x4), (5, iv r1)]) (st1 := []) (g1 := r9) ?_ (fun J30 => ?_)
      · refine AW.iload 1 dX9_step_48 rfl ?_
        refine AW.iload 0 dX9_step_50 rfl ?_
        refine AW.iadd dX9_step_52 ?_
        exact AW.iret1 rfl dX9_step_53 h rfl
      replace h := e10
      refine AW.icmp_ne (tgt := 48) dX9_step_30 (by decide) (fun c5 => ?_) (fun c5 => ?_)
      · replace h := hF h c5
        refine AW.sub (lv1 := [(4, iv x4), (5, iv r1)]) [5, 0] rfl ?_
        cases h
        exact J30
      · replace h := hT h c5
        refine AW.aloadr_n 1 dX9_step_33 rfl ?_
        refine AW.getR af_X9_21_5 sr_5_5 dX9_step_34 ?_
        refine AW.iload 0 dX9_step_37 rfl ?_
        refine AW.sipush dX9_step_39 (by decide) (by decide) ?_
        refine AW.idiv dX9_step_42 (by decide) ?_
        refine AW.dup2r dX9_step_43 ?_
        obtain ⟨k6, h⟩ := hK h
        refine AW.iald kc_47 sk_47 k6 dX9_step_44 ?_
        refine AW.iconst dX9_step_45 ?_
        refine AW.iadd dX9_step_46 ?_
        obtain ⟨g7, e8, h⟩ := hBe h
        refine AW.iast kc_47 sk_47 k6 dX9_step_47 e8 ?_
        refine AW.sub (lv1 := [(4, iv x4), (5, iv r1)]) [5, 0] rfl ?_
        cases h
        exact J30
    · replace h := hF h c4
      refine AW.iconst dX9_step_26 ?_
      exact AW.iret1 rfl dX9_step_27 h rfl
set_option synthInstance.maxHeartbeats 2000000 in
theorem Voyage_pass_b_ok {z : AZ} {d : Nat} (hdd : 3 ≤ d) {x1 : Int} {x4 : Int} : ∀ (tag : Nat) (x5 : Int) (x6 : Int) (g : AG) (r : Int × AG), Voyage_pass_b x1 x4 tag x5 x6 g = some r → (tag = 1 → AW z (RX9, cX9_pass, 7, (some .int)) d (QD (some .int) r) 28 [(0, rv z 5), (1, iv x1), (4, iv x4), (5, iv x5), (6, iv x6)] [] g) ∧ (tag = 2 → AW z (RX9, cX9_pass, 7, (some .int)) d (QD (some .int) r) 84 [(0, rv z 5), (1, iv x1), (5, iv x5)] [] g) ∧ (tag = 3 → AW z (RX9, cX9_pass, 7, (some .int)) d (QD (some .int) r) 87 [(0, rv z 5), (1, iv x1), (5, iv x5), (6, iv x6)] [] g) := by
  refine Voyage_pass_b.partial_correctness x1 x4 (fun tag x5 x6 g r => (tag = 1 → AW z (RX9, cX9_pass, 7, (some .int)) d (QD (some .int) r) 28 [(0, rv z 5), (1, iv x1), (4, iv x4), (5, iv x5), (6, iv x6)] [] g) ∧ (tag = 2 → AW z (RX9, cX9_pass, 7, (some .int)) d (QD (some .int) r) 84 [(0, rv z 5), (1, iv x1), (5, iv x5)] [] g) ∧ (tag = 3 → AW z (RX9, cX9_pass, 7, (some .int)) d (QD (some .int) r) 87 [(0, rv z 5), (1, iv x1), (5, iv x5), (6, iv x6)] [] g)) ?_
  intro fb9 ih tag x5 x6 g r h
  refine ⟨fun h9 => ?_, fun h9 => ?_, fun h9 => ?_⟩
  · subst h9
    replace h := hT h rfl
    refine AW.iload 4 dX9_pass_28 rfl ?_
    refine AW.iload 2 dX9_pass_30 rfl ?_
    refine AW.icmp_ge (tgt := 53) dX9_pass_32 (by decide) (fun c1 => ?_) (fun c1 => ?_)
    · replace h := hT h c1
      refine AW.goto (tgt := 84) dX9_pass_53 (by decide) ?_
      refine AW.sub (lv1 := [(0, rv z 5), (1, iv x1), (5, iv x5)]) [0, 1, 3] rfl ?_
      exact (ih _ _ _ _ _ h).2.1 rfl
    · replace h := hF h c1
      refine AW.aloadr_n 0 dX9_pass_35 rfl ?_
      refine AW.iload_n 1 dX9_pass_36 rfl ?_
      refine AW.iconst dX9_pass_37 ?_
      refine AW.iload 3 dX9_pass_38 rfl ?_
      refine AW.bipush dX9_pass_40 (by decide) (by decide) ?_
      obtain ⟨r2, e3, h⟩ := hC h
      refine AW.callVi (As := [iv x1, iv 0, iv x5, iv 20]) (st := []) (Voyage_step_ok e3) cq_X9_85 cr_5_X9_step (Nat.le_trans (by decide) hdd) rfl dX9_pass_42 rfl (Nat.le_of_ble_eq_true rfl) ?_
      refine AW.istore (lv1 := [(5, iv r2.1), (0, rv z 5), (1, iv x1), (4, iv x4), (6, iv x6)]) dX9_pass_45 (by decide) rfl ?_
      refine AW.iinc (lv1 := [(6, iv (x6 + 1)), (5, iv r2.1), (0, rv z 5), (1, iv x1), (4, iv x4)]) 4 dX9_pass_47 rfl (by decide) rfl ?_
      refine AW.goto (tgt := 28) dX9_pass_50 (by decide) ?_
      refine AW.sub (lv1 := [(0, rv z 5), (1, iv x1), (4, iv x4), (5, iv r2.1), (6, iv (x6 + 1))]) [2, 3, 4, 1, 0] rfl ?_
      exact (ih _ _ _ _ _ h).1 rfl
  · subst h9
    replace h := hF h (by decide)
    replace h := hT h rfl
    refine AW.iconst dX9_pass_84 ?_
    refine AW.istore (lv1 := [(6, iv 0), (0, rv z 5), (1, iv x1), (5, iv x5)]) dX9_pass_85 (by decide) rfl ?_
    refine AW.sub (lv1 := [(0, rv z 5), (1, iv x1), (5, iv x5), (6, iv 0)]) [1, 2, 3, 0] rfl ?_
    exact (ih _ _ _ _ _ h).2.2 rfl
  · subst h9
    replace h := hF h (by decide)
    replace h := hF h (by decide)
    replace h := hT h rfl
    refine AW.iload 3 dX9_pass_87 rfl ?_
    refine AW.aloadr_n 0 dX9_pass_89 rfl ?_
    refine AW.getR af_X9_24_5 sr_5_0 dX9_pass_90 ?_
    refine AW.getR af_X9_89_1 sr_1_1 dX9_pass_93 ?_
    refine AW.iload_n 1 dX9_pass_96 rfl ?_
    obtain ⟨k1, h⟩ := hK h
    refine AW.iald kc_14 sk_14 k1 dX9_pass_97 ?_
    refine AW.icmp_ge (tgt := 121) dX9_pass_98 (by decide) (fun c2 => ?_) (fun c2 => ?_)
    · replace h := hT h c2
      refine AW.iload 2 dX9_pass_121 rfl ?_
      exact AW.iret1 rfl dX9_pass_123 h rfl
    · replace h := hF h c2
      refine AW.aloadr_n 0 dX9_pass_101 rfl ?_
      refine AW.iload_n 1 dX9_pass_102 rfl ?_
      refine AW.iconst dX9_pass_103 ?_
      refine AW.iload 2 dX9_pass_104 rfl ?_
      refine AW.aloadr_n 0 dX9_pass_106 rfl ?_
      refine AW.getI af_X9_60_5 sr_5_6 dX9_pass_107 ?_
      obtain ⟨r3, e4, h⟩ := hC h
      refine AW.callVi (As := [iv x1, iv 1, iv x5, iv (g 5 6)]) (st := []) (Voyage_step_ok e4) cq_X9_85 cr_5_X9_step (Nat.le_trans (by decide) hdd) rfl dX9_pass_110 rfl (Nat.le_of_ble_eq_true rfl) ?_
      refine AW.istore (lv1 := [(5, iv r3.1), (0, rv z 5), (1, iv x1), (6, iv x6)]) dX9_pass_113 (by decide) rfl ?_
      refine AW.iinc (lv1 := [(6, iv (x6 + 1)), (5, iv r3.1), (0, rv z 5), (1, iv x1)]) 3 dX9_pass_115 rfl (by decide) rfl ?_
      refine AW.goto (tgt := 87) dX9_pass_118 (by decide) ?_
      refine AW.sub (lv1 := [(0, rv z 5), (1, iv x1), (5, iv r3.1), (6, iv (x6 + 1))]) [2, 3, 1, 0] rfl ?_
      exact (ih _ _ _ _ _ h).2.2 rfl
theorem Voyage_pass_ok {z : AZ} {x1 : Int} {x2 : Int} {x3 : Int} {g : AG} {r : Int × AG} (h : Voyage_pass x1 x2 x3 g = some r) : AMf z yX9_pass cX9_pass 7 (some .int) 3 [rv z 5, iv x1, iv x2, iv x3] g r := by
  intro d hdd
  refine AM.of (by decide +kernel) (Nat.le_of_ble_eq_true rfl) ?_
  show AW z (RX9, cX9_pass, 7, (some .int)) d (QD (some .int) r) 0 [(0, rv z 5), (1, iv x1), (2, iv x2), (3, iv x3)] [] g
  unfold Voyage_pass at h
  refine AW.aloadr_n 0 dX9_pass_0 rfl ?_
  refine AW.getR af_X9_24_5 sr_5_0 dX9_pass_1 ?_
  refine AW.getR af_X9_78_1 sr_1_0 dX9_pass_4 ?_
  refine AW.iload_n 1 dX9_pass_7 rfl ?_
  obtain ⟨k1, h⟩ := hK h
  refine AW.iald kc_13 sk_13 k1 dX9_pass_8 ?_
  refine AW.istore (lv1 := [(4, iv (g 13 (ix x1))), (0, rv z 5), (1, iv x1), (2, iv x2), (3, iv x3)]) dX9_pass_9 (by decide) rfl ?_
  refine AW.iload_n 4 dX9_pass_11 rfl ?_
  refine AW.istore (lv1 := [(5, iv x3), (4, iv (g 13 (ix x1))), (0, rv z 5), (1, iv x1), (2, iv x2), (3, iv x3)]) dX9_pass_12 (by decide) rfl ?_
  refine AW.aloadr_n 2 dX9_pass_14 rfl ?_
  refine AW.getR af_X9_28_5 sr_5_1 dX9_pass_15 ?_
  refine AW.iload_n 3 dX9_pass_18 rfl ?_
  refine AW.callVi (As := [iv x1]) (st := []) Rules_isTunnel_ok cq_X9_81 cr_2_X6_isTunnel (Nat.le_trans (by decide) hdd) rfl dX9_pass_19 rfl (Nat.le_of_ble_eq_true rfl) ?_
  refine AW.if_ne (tgt := 56) dX9_pass_22 (by decide) (fun c2 => ?_) (fun c2 => ?_)
  · replace h := hF h c2
    refine AW.iload 1 dX9_pass_56 rfl ?_
    obtain ⟨r9, e10, h⟩ := hC h
    refine AW.join (tgt := 84) (lv1 := [(0, rv z 5), (1, iv x1), (5, iv r9.1)]) (st1 := []) (g1 := r9.2) ?_ (fun J58 => ?_)
    · refine AW.iconst dX9_pass_84 ?_
      refine AW.istore (lv1 := [(6, iv 0), (0, rv z 5), (1, iv x1), (5, iv r9.1)]) dX9_pass_85 (by decide) rfl ?_
      refine AW.sub (lv1 := [(0, rv z 5), (1, iv x1), (5, iv r9.1), (6, iv 0)]) [1, 2, 3, 0] rfl ?_
      exact (Voyage_pass_b_ok hdd _ _ _ _ _ h).2.2 rfl
    replace h := e10
    refine AW.if_le (tgt := 84) dX9_pass_58 (by decide) (fun c3 => ?_) (fun c3 => ?_)
    · replace h := hT h c3
      refine AW.sub (lv1 := [(0, rv z 5), (1, iv x1), (5, iv x3)]) [2, 3, 0] rfl ?_
      cases h
      exact J58
    · replace h := hF h c3
      refine AW.aloadr_n 2 dX9_pass_61 rfl ?_
      refine AW.iload_n 3 dX9_pass_62 rfl ?_
      refine AW.iload_n 4 dX9_pass_63 rfl ?_
      obtain ⟨t4, e5, h⟩ := hBe h
      refine AW.join (tgt := 72) (lv1 := [(5, iv x3), (4, iv (g 13 (ix x1))), (0, rv z 5), (1, iv x1), (2, iv x2), (3, iv x3)]) (st1 := [iv t4, iv x1, rv z 5]) (g1 := g) ?_ (fun J64 => ?_)
      · refine AW.iload 0 dX9_pass_72 rfl ?_
        refine AW.bipush dX9_pass_74 (by decide) (by decide) ?_
        refine AW.iload 1 dX9_pass_76 rfl ?_
        refine AW.imul dX9_pass_78 ?_
        obtain ⟨r6, e7, h⟩ := hC h
        refine AW.callVi (As := [iv x1, iv t4, iv x3, iv (20 * (g 13 (ix x1)))]) (st := []) (Voyage_step_ok e7) cq_X9_85 cr_5_X9_step (Nat.le_trans (by decide) hdd) rfl dX9_pass_79 rfl (Nat.le_of_ble_eq_true rfl) ?_
        refine AW.istore (lv1 := [(5, iv r6.1), (4, iv (g 13 (ix x1))), (0, rv z 5), (1, iv x1), (2, iv x2), (3, iv x3)]) dX9_pass_82 (by decide) rfl ?_
        refine AW.sub (lv1 := [(0, rv z 5), (1, iv x1), (5, iv r6.1)]) [2, 3, 0] rfl ?_
        cases h
        exact J58
      refine AW.if_eq (tgt := 71) dX9_pass_64 (by decide) (fun c8 => ?_) (fun c8 => ?_)
      · refine AW.iconst dX9_pass_71 ?_
        exact AW.val (e5.trans (if_pos c8)) J64
      · refine AW.iconst dX9_pass_67 ?_
        refine AW.goto (tgt := 72) dX9_pass_68 (by decide) ?_
        exact AW.val (e5.trans (if_neg c8)) J64
  · replace h := hT h c2
    refine AW.iconst dX9_pass_25 ?_
    refine AW.istore (lv1 := [(6, iv 0), (5, iv x3), (4, iv (g 13 (ix x1))), (0, rv z 5), (1, iv x1), (2, iv x2), (3, iv x3)]) dX9_pass_26 (by decide) rfl ?_
    refine AW.sub (lv1 := [(0, rv z 5), (1, iv x1), (4, iv (g 13 (ix x1))), (5, iv x3), (6, iv 0)]) [3, 4, 2, 1, 0] rfl ?_
    exact (Voyage_pass_b_ok hdd _ _ _ _ _ h).1 rfl
set_option synthInstance.maxHeartbeats 2000000 in
theorem Voyage_comesTo_b_ok {z : AZ} {d : Nat} (hdd : 4 ≤ d) {x2 : Int} {x3 : Int} : ∀ (tag : Nat) (x6 : Int) (x7 : Int) (g : AG) (r : Int × AG), Voyage_comesTo_b x2 x3 tag x6 x7 g = some r → (tag = 1 → AW z (RX9, cX9_comesTo, 8, (some .int)) d (QD (some .int) r) 14 [(0, rv z 5), (2, iv x2), (3, iv x3), (6, iv x6), (7, iv x7)] [] g) ∧ (tag = 2 → AW z (RX9, cX9_comesTo, 8, (some .int)) d (QD (some .int) r) 40 [(0, rv z 5), (3, iv x3), (6, iv x6), (7, iv x7)] [] g) := by
  refine Voyage_comesTo_b.partial_correctness x2 x3 (fun tag x6 x7 g r => (tag = 1 → AW z (RX9, cX9_comesTo, 8, (some .int)) d (QD (some .int) r) 14 [(0, rv z 5), (2, iv x2), (3, iv x3), (6, iv x6), (7, iv x7)] [] g) ∧ (tag = 2 → AW z (RX9, cX9_comesTo, 8, (some .int)) d (QD (some .int) r) 40 [(0, rv z 5), (3, iv x3), (6, iv x6), (7, iv x7)] [] g)) ?_
  intro fb9 ih tag x6 x7 g r h
  refine ⟨fun h9 => ?_, fun h9 => ?_⟩
  · subst h9
    replace h := hT h rfl
    refine AW.iload 4 dX9_comesTo_14 rfl ?_
    refine AW.iload_n 2 dX9_comesTo_16 rfl ?_
    refine AW.icmp_ge (tgt := 37) dX9_comesTo_17 (by decide) (fun c1 => ?_) (fun c1 => ?_)
    · replace h := hT h c1
      refine AW.iload_n 1 dX9_comesTo_37 rfl ?_
      refine AW.istore (lv1 := [(7, iv x2), (0, rv z 5), (2, iv x2), (3, iv x3), (6, iv x6)]) dX9_comesTo_38 (by decide) rfl ?_
      refine AW.sub (lv1 := [(0, rv z 5), (3, iv x3), (6, iv x6), (7, iv x2)]) [1, 3, 4, 0] rfl ?_
      exact (ih _ _ _ _ _ h).2 rfl
    · replace h := hF h c1
      refine AW.aloadr_n 0 dX9_comesTo_20 rfl ?_
      refine AW.iload 4 dX9_comesTo_21 rfl ?_
      refine AW.iconst dX9_comesTo_23 ?_
      refine AW.iload 3 dX9_comesTo_24 rfl ?_
      obtain ⟨r2, e3, h⟩ := hC h
      refine AW.callVi (As := [iv x7, iv 1, iv x6]) (st := []) (Voyage_pass_ok e3) cq_X9_71 cr_5_X9_pass (Nat.le_trans (by decide) hdd) rfl dX9_comesTo_26 rfl (Nat.le_of_ble_eq_true rfl) ?_
      refine AW.istore (lv1 := [(6, iv r2.1), (0, rv z 5), (2, iv x2), (3, iv x3), (7, iv x7)]) dX9_comesTo_29 (by decide) rfl ?_
      refine AW.iinc (lv1 := [(7, iv (x7 + 1)), (6, iv r2.1), (0, rv z 5), (2, iv x2), (3, iv x3)]) 4 dX9_comesTo_31 rfl (by decide) rfl ?_
      refine AW.goto (tgt := 14) dX9_comesTo_34 (by decide) ?_
      refine AW.sub (lv1 := [(0, rv z 5), (2, iv x2), (3, iv x3), (6, iv r2.1), (7, iv (x7 + 1))]) [2, 3, 4, 1, 0] rfl ?_
      exact (ih _ _ _ _ _ h).1 rfl
  · subst h9
    replace h := hF h (by decide)
    replace h := hT h rfl
    refine AW.iload 3 dX9_comesTo_40 rfl ?_
    refine AW.iload_n 1 dX9_comesTo_42 rfl ?_
    refine AW.icmp_le (tgt := 65) dX9_comesTo_43 (by decide) (fun c1 => ?_) (fun c1 => ?_)
    · replace h := hT h c1
      refine AW.iload 2 dX9_comesTo_65 rfl ?_
      exact AW.iret1 rfl dX9_comesTo_67 h rfl
    · replace h := hF h c1
      refine AW.aloadr_n 0 dX9_comesTo_46 rfl ?_
      refine AW.iload 3 dX9_comesTo_47 rfl ?_
      refine AW.iconst dX9_comesTo_49 ?_
      refine AW.isub dX9_comesTo_50 ?_
      refine AW.iconst dX9_comesTo_51 ?_
      refine AW.iload 2 dX9_comesTo_52 rfl ?_
      obtain ⟨r2, e3, h⟩ := hC h
      refine AW.callVi (As := [iv (x7 - 1), iv 0, iv x6]) (st := []) (Voyage_pass_ok e3) cq_X9_71 cr_5_X9_pass (Nat.le_trans (by decide) hdd) rfl dX9_comesTo_54 rfl (Nat.le_of_ble_eq_true rfl) ?_
      refine AW.istore (lv1 := [(6, iv r2.1), (0, rv z 5), (3, iv x3), (7, iv x7)]) dX9_comesTo_57 (by decide) rfl ?_
      refine AW.iinc (lv1 := [(7, iv (x7 + (-1))), (6, iv r2.1), (0, rv z 5), (3, iv x3)]) 3 dX9_comesTo_59 rfl (by decide) rfl ?_
      refine AW.goto (tgt := 40) dX9_comesTo_62 (by decide) ?_
      refine AW.sub (lv1 := [(0, rv z 5), (3, iv x3), (6, iv r2.1), (7, iv (x7 + (-1)))]) [2, 3, 1, 0] rfl ?_
      exact (ih _ _ _ _ _ h).2 rfl
theorem Voyage_comesTo_ok {z : AZ} {x1 : Int} {x2 : Int} {x3 : Int} {x4 : Int} {x5 : Int} {g : AG} {r : Int × AG} (h : Voyage_comesTo x1 x2 x3 x4 x5 g = some r) : AMf z yX9_comesTo cX9_comesTo 8 (some .int) 4 [rv z 5, iv x1, iv x2, iv x3, iv x4, iv x5] g r := by
  intro d hdd
  refine AM.of (by decide +kernel) (Nat.le_of_ble_eq_true rfl) ?_
  show AW z (RX9, cX9_comesTo, 8, (some .int)) d (QD (some .int) r) 0 [(0, rv z 5), (1, iv x1), (2, iv x2), (3, iv x3), (4, iv x4), (5, iv x5)] [] g
  unfold Voyage_comesTo at h
  refine AW.aloadr_n 0 dX9_comesTo_0 rfl ?_
  refine AW.iload_n 1 dX9_comesTo_1 rfl ?_
  refine AW.iload 5 dX9_comesTo_2 rfl ?_
  obtain ⟨r1, e2, h⟩ := hC h
  refine AW.callVv (As := [iv x1, iv x5]) (st := []) (Voyage_setOut_ok e2) cq_X9_67 cr_5_X9_setOut (Nat.le_trans (by decide) hdd) rfl dX9_comesTo_4 rfl (Nat.le_of_ble_eq_true rfl) ?_
  refine AW.iload 4 dX9_comesTo_7 rfl ?_
  refine AW.istore (lv1 := [(6, iv x4), (0, rv z 5), (1, iv x1), (2, iv x2), (3, iv x3), (4, iv x4), (5, iv x5)]) dX9_comesTo_9 (by decide) rfl ?_
  refine AW.iload_n 3 dX9_comesTo_11 rfl ?_
  refine AW.istore (lv1 := [(7, iv x2), (6, iv x4), (0, rv z 5), (1, iv x1), (2, iv x2), (3, iv x3), (4, iv x4), (5, iv x5)]) dX9_comesTo_12 (by decide) rfl ?_
  refine AW.sub (lv1 := [(0, rv z 5), (2, iv x2), (3, iv x3), (6, iv x4), (7, iv x2)]) [2, 4, 5, 1, 0] rfl ?_
  exact (Voyage_comesTo_b_ok hdd _ _ _ _ _ h).1 rfl
theorem X_comes_ok {z : AZ} {x1 : Int} {x2 : Int} {x3 : Int} {x4 : Int} {g : AG} {r : Int × AG} (h : X_comes x1 x2 x3 x4 g = some r) : AMf z yX11_comes cX11_comes 5 (some .int) 5 [rv z 0, iv x1, iv x2, iv x3, iv x4] g r := by
  intro d hdd
  refine AM.of (by decide +kernel) (Nat.le_of_ble_eq_true rfl) ?_
  show AW z (RX11, cX11_comes, 5, (some .int)) d (QD (some .int) r) 0 [(0, rv z 0), (1, iv x1), (2, iv x2), (3, iv x3), (4, iv x4)] [] g
  unfold X_comes at h
  refine AW.aloadr_n 0 dX11_comes_0 rfl ?_
  refine AW.iload_n 1 dX11_comes_1 rfl ?_
  refine AW.iload_n 2 dX11_comes_2 rfl ?_
  refine AW.iload_n 3 dX11_comes_3 rfl ?_
  refine AW.iload 4 dX11_comes_4 rfl ?_
  refine AW.callVi (As := [iv x1, iv x2, iv x3, iv x4]) (st := []) X_isWay_ok cq_X11_176 cr_0_X11_isWay (Nat.le_trans (by decide) hdd) rfl dX11_comes_6 rfl (Nat.le_of_ble_eq_true rfl) ?_
  refine AW.if_ne (tgt := 14) dX11_comes_9 (by decide) (fun c1 => ?_) (fun c1 => ?_)
  · replace h := hF h c1
    refine AW.aloadr_n 0 dX11_comes_14 rfl ?_
    refine AW.getR af_X11_40_0 sr_0_4 dX11_comes_15 ?_
    refine AW.aloadr_n 0 dX11_comes_18 rfl ?_
    refine AW.getR af_X11_49_0 sr_0_5 dX11_comes_19 ?_
    refine AW.getR af_X11_180_6 sr_6_6 dX11_comes_22 ?_
    refine AW.iload_n 1 dX11_comes_25 rfl ?_
    obtain ⟨k2, h⟩ := hK h
    refine AW.iald kc_51 sk_51 k2 dX11_comes_26 ?_
    refine AW.iload_n 2 dX11_comes_27 rfl ?_
    refine AW.iload_n 3 dX11_comes_28 rfl ?_
    refine AW.iload 4 dX11_comes_29 rfl ?_
    refine AW.iconst dX11_comes_31 ?_
    obtain ⟨r3, e4, h⟩ := hC h
    refine AW.callVi (As := [iv (g 51 (ix x1)), iv x2, iv x3, iv x4, iv 1]) (st := []) (Voyage_comesTo_ok e4) cq_X11_183 cr_5_X9_comesTo (Nat.le_trans (by decide) hdd) rfl dX11_comes_32 rfl (Nat.le_of_ble_eq_true rfl) ?_
    exact AW.iret1 rfl dX11_comes_35 h rfl
  · replace h := hT h c1
    refine AW.iconst dX11_comes_12 ?_
    exact AW.iret1 rfl dX11_comes_13 h rfl
set_option synthInstance.maxHeartbeats 2000000 in
theorem Voyage_reach_b_ok {z : AZ} {d : Nat} (hdd : 4 ≤ d) {x2 : Int} : ∀ (tag : Nat) (x4 : Int) (g : AG) (r : Int × AG), Voyage_reach_b x2 tag x4 g = some r → (tag = 1 → AW z (RX9, cX9_reach, 5, none) d (QD none r) 16 [(0, rv z 5), (2, iv x2), (4, iv x4)] [] g) ∧ (tag = 2 → AW z (RX9, cX9_reach, 5, none) d (QD none r) 55 [(0, rv z 5), (4, iv x4)] [] g) := by
  refine Voyage_reach_b.partial_correctness x2 (fun tag x4 g r => (tag = 1 → AW z (RX9, cX9_reach, 5, none) d (QD none r) 16 [(0, rv z 5), (2, iv x2), (4, iv x4)] [] g) ∧ (tag = 2 → AW z (RX9, cX9_reach, 5, none) d (QD none r) 55 [(0, rv z 5), (4, iv x4)] [] g)) ?_
  intro fb9 ih tag x4 g r h
  refine ⟨fun h9 => ?_, fun h9 => ?_⟩
  · subst h9
    replace h := hT h rfl
    refine AW.iload 2 dX9_reach_16 rfl ?_
    refine AW.bipush dX9_reach_18 (by decide) (by decide) ?_
    refine AW.icmp_ge (tgt := 52) dX9_reach_20 (by decide) (fun c1 => ?_) (fun c1 => ?_)
    · replace h := hT h c1
      refine AW.iload_n 1 dX9_reach_52 rfl ?_
      refine AW.istore (lv1 := [(4, iv x2), (0, rv z 5), (2, iv x2)]) dX9_reach_53 (by decide) rfl ?_
      refine AW.sub (lv1 := [(0, rv z 5), (4, iv x2)]) [1, 0] rfl ?_
      exact (ih _ _ _ _ h).2 rfl
    · replace h := hF h c1
      refine AW.aloadr_n 0 dX9_reach_23 rfl ?_
      refine AW.getR af_X9_18_5 sr_5_4 dX9_reach_24 ?_
      refine AW.iload 2 dX9_reach_27 rfl ?_
      refine AW.iconst dX9_reach_29 ?_
      refine AW.iadd dX9_reach_30 ?_
      refine AW.aloadr_n 0 dX9_reach_31 rfl ?_
      refine AW.iload 2 dX9_reach_32 rfl ?_
      refine AW.iconst dX9_reach_34 ?_
      refine AW.aloadr_n 0 dX9_reach_35 rfl ?_
      refine AW.getR af_X9_18_5 sr_5_4 dX9_reach_36 ?_
      refine AW.iload 2 dX9_reach_39 rfl ?_
      obtain ⟨k2, h⟩ := hK h
      refine AW.iald kc_46 sk_46 k2 dX9_reach_41 ?_
      obtain ⟨r3, e4, h⟩ := hC h
      refine AW.callVi (As := [iv x4, iv 1, iv (g 46 (ix x4))]) (st := [iv (x4 + 1), rv z 46]) (Voyage_pass_ok e4) cq_X9_71 cr_5_X9_pass (Nat.le_trans (by decide) hdd) rfl dX9_reach_42 rfl (Nat.le_of_ble_eq_true rfl) ?_
      obtain ⟨k5, h⟩ := hK h
      obtain ⟨g6, e7, h⟩ := hBe h
      refine AW.iast kc_46 sk_46 k5 dX9_reach_45 e7 ?_
      refine AW.iinc (lv1 := [(4, iv (x4 + 1)), (0, rv z 5), (2, iv x2)]) 2 dX9_reach_46 rfl (by decide) rfl ?_
      refine AW.goto (tgt := 16) dX9_reach_49 (by decide) ?_
      refine AW.sub (lv1 := [(0, rv z 5), (2, iv x2), (4, iv (x4 + 1))]) [1, 2, 0] rfl ?_
      exact (ih _ _ _ _ h).1 rfl
  · subst h9
    replace h := hF h (by decide)
    replace h := hT h rfl
    refine AW.iload 1 dX9_reach_55 rfl ?_
    refine AW.if_le (tgt := 91) dX9_reach_57 (by decide) (fun c1 => ?_) (fun c1 => ?_)
    · replace h := hT h c1
      exact AW.vret1 rfl dX9_reach_91 h rfl
    · replace h := hF h c1
      refine AW.aloadr_n 0 dX9_reach_60 rfl ?_
      refine AW.getR af_X9_18_5 sr_5_4 dX9_reach_61 ?_
      refine AW.iload 1 dX9_reach_64 rfl ?_
      refine AW.iconst dX9_reach_66 ?_
      refine AW.isub dX9_reach_67 ?_
      refine AW.aloadr_n 0 dX9_reach_68 rfl ?_
      refine AW.iload 1 dX9_reach_69 rfl ?_
      refine AW.iconst dX9_reach_71 ?_
      refine AW.isub dX9_reach_72 ?_
      refine AW.iconst dX9_reach_73 ?_
      refine AW.aloadr_n 0 dX9_reach_74 rfl ?_
      refine AW.getR af_X9_18_5 sr_5_4 dX9_reach_75 ?_
      refine AW.iload 1 dX9_reach_78 rfl ?_
      obtain ⟨k2, h⟩ := hK h
      refine AW.iald kc_46 sk_46 k2 dX9_reach_80 ?_
      obtain ⟨r3, e4, h⟩ := hC h
      refine AW.callVi (As := [iv (x4 - 1), iv 0, iv (g 46 (ix x4))]) (st := [iv (x4 - 1), rv z 46]) (Voyage_pass_ok e4) cq_X9_71 cr_5_X9_pass (Nat.le_trans (by decide) hdd) rfl dX9_reach_81 rfl (Nat.le_of_ble_eq_true rfl) ?_
      obtain ⟨k5, h⟩ := hK h
      obtain ⟨g6, e7, h⟩ := hBe h
      refine AW.iast kc_46 sk_46 k5 dX9_reach_84 e7 ?_
      refine AW.iinc (lv1 := [(4, iv (x4 + (-1))), (0, rv z 5)]) 1 dX9_reach_85 rfl (by decide) rfl ?_
      refine AW.goto (tgt := 55) dX9_reach_88 (by decide) ?_
      refine AW.sub (lv1 := [(0, rv z 5), (4, iv (x4 + (-1)))]) [1, 0] rfl ?_
      exact (ih _ _ _ _ h).2 rfl
theorem Voyage_reach_ok {z : AZ} {x1 : Int} {x2 : Int} {x3 : Int} {g : AG} {r : Int × AG} (h : Voyage_reach x1 x2 x3 g = some r) : AMf z yX9_reach cX9_reach 5 none 4 [rv z 5, iv x1, iv x2, iv x3] g r := by
  intro d hdd
  refine AM.of (by decide +kernel) (Nat.le_of_ble_eq_true rfl) ?_
  show AW z (RX9, cX9_reach, 5, none) d (QD none r) 0 [(0, rv z 5), (1, iv x1), (2, iv x2), (3, iv x3)] [] g
  unfold Voyage_reach at h
  refine AW.aloadr_n 0 dX9_reach_0 rfl ?_
  refine AW.iload_n 1 dX9_reach_1 rfl ?_
  refine AW.iconst dX9_reach_2 ?_
  obtain ⟨r1, e2, h⟩ := hC h
  refine AW.callVv (As := [iv x1, iv 1]) (st := []) (Voyage_setOut_ok e2) cq_X9_67 cr_5_X9_setOut (Nat.le_trans (by decide) hdd) rfl dX9_reach_3 rfl (Nat.le_of_ble_eq_true rfl) ?_
  refine AW.aloadr_n 0 dX9_reach_6 rfl ?_
  refine AW.getR af_X9_18_5 sr_5_4 dX9_reach_7 ?_
  refine AW.iload_n 2 dX9_reach_10 rfl ?_
  refine AW.iload_n 3 dX9_reach_11 rfl ?_
  obtain ⟨k3, h⟩ := hK h
  obtain ⟨g4, e5, h⟩ := hBe h
  refine AW.iast kc_46 sk_46 k3 dX9_reach_12 e5 ?_
  refine AW.iload_n 2 dX9_reach_13 rfl ?_
  refine AW.istore (lv1 := [(4, iv x2), (0, rv z 5), (1, iv x1), (2, iv x2), (3, iv x3)]) dX9_reach_14 (by decide) rfl ?_
  refine AW.sub (lv1 := [(0, rv z 5), (2, iv x2), (4, iv x2)]) [1, 3, 0] rfl ?_
  exact (Voyage_reach_b_ok hdd _ _ _ _ h).1 rfl
set_option synthInstance.maxHeartbeats 2000000 in
theorem Voyage_reached_b_ok {z : AZ} {d : Nat} (hdd : 0 ≤ d) {x1 : Int} {g : AG} : ∀ (x2 : Int) (x3 : Int) (r : Int), Voyage_reached_b x1 g x2 x3 = some r → AW z (RX9, cX9_reached, 4, (some .int)) d (QD (some .int) (r, g)) 4 [(0, rv z 5), (1, iv x1), (2, iv x2), (3, iv x3)] [] g := by
  refine Voyage_reached_b.partial_correctness x1 g (fun x2 x3 r => AW z (RX9, cX9_reached, 4, (some .int)) d (QD (some .int) (r, g)) 4 [(0, rv z 5), (1, iv x1), (2, iv x2), (3, iv x3)] [] g) ?_
  intro fb9 ih x2 x3 r h
  refine AW.iload_n 3 dX9_reached_4 rfl ?_
  refine AW.bipush dX9_reached_5 (by decide) (by decide) ?_
  refine AW.icmp_ge (tgt := 42) dX9_reached_7 (by decide) (fun c1 => ?_) (fun c1 => ?_)
  · replace h := hT h c1
    refine AW.iload_n 2 dX9_reached_42 rfl ?_
    exact AW.iret2 rfl dX9_reached_43 h rfl
  · replace h := hF h c1
    refine AW.aloadr_n 0 dX9_reached_10 rfl ?_
    refine AW.getR af_X9_18_5 sr_5_4 dX9_reached_11 ?_
    refine AW.iload_n 3 dX9_reached_14 rfl ?_
    obtain ⟨k2, h⟩ := hK h
    refine AW.iald kc_46 sk_46 k2 dX9_reached_15 ?_
    refine AW.iconst dX9_reached_16 ?_
    obtain ⟨r5, e6, h⟩ := hC h
    refine AW.join (tgt := 36) (lv1 := [(0, rv z 5), (1, iv x1), (2, iv r5), (3, iv x3)]) (st1 := []) (g1 := g) ?_ (fun J17 => ?_)
    · refine AW.iinc (lv1 := [(3, iv (x3 + 1)), (0, rv z 5), (1, iv x1), (2, iv r5)]) 3 dX9_reached_36 rfl (by decide) rfl ?_
      refine AW.goto (tgt := 4) dX9_reached_39 (by decide) ?_
      refine AW.sub (lv1 := [(0, rv z 5), (1, iv x1), (2, iv r5), (3, iv (x3 + 1))]) [1, 2, 3, 0] rfl ?_
      exact ih _ _ _ h
    replace h := e6
    refine AW.icmp_eq (tgt := 36) dX9_reached_17 (by decide) (fun c3 => ?_) (fun c3 => ?_)
    · replace h := hT h c3
      cases h
      exact J17
    · replace h := hF h c3
      refine AW.aloadr_n 0 dX9_reached_20 rfl ?_
      refine AW.getR af_X9_18_5 sr_5_4 dX9_reached_21 ?_
      refine AW.iload_n 3 dX9_reached_24 rfl ?_
      refine AW.iald kc_46 sk_46 k2 dX9_reached_25 ?_
      refine AW.iload_n 1 dX9_reached_26 rfl ?_
      refine AW.icmp_gt (tgt := 36) dX9_reached_27 (by decide) (fun c4 => ?_) (fun c4 => ?_)
      · replace h := hT h c4
        cases h
        exact J17
      · replace h := hF h c4
        refine AW.iload_n 2 dX9_reached_30 rfl ?_
        refine AW.iconst dX9_reached_31 ?_
        refine AW.iload_n 3 dX9_reached_32 rfl ?_
        refine AW.ishl dX9_reached_33 ?_
        refine AW.ior dX9_reached_34 ?_
        refine AW.istore_n (lv1 := [(2, iv (orI x2 (shlI 1 x3))), (0, rv z 5), (1, iv x1), (3, iv x3)]) dX9_reached_35 (by decide) rfl ?_
        refine AW.sub (lv1 := [(0, rv z 5), (1, iv x1), (2, iv (orI x2 (shlI 1 x3))), (3, iv x3)]) [1, 2, 0, 3] rfl ?_
        cases h
        exact J17
theorem Voyage_reached_ok {z : AZ} {x1 : Int} {g : AG} {r : Int} (h : Voyage_reached x1 g = some r) : AMf z yX9_reached cX9_reached 4 (some .int) 0 [rv z 5, iv x1] g (r, g) := by
  intro d hdd
  refine AM.of (by decide +kernel) (Nat.le_of_ble_eq_true rfl) ?_
  show AW z (RX9, cX9_reached, 4, (some .int)) d (QD (some .int) (r, g)) 0 [(0, rv z 5), (1, iv x1)] [] g
  unfold Voyage_reached at h
  refine AW.iconst dX9_reached_0 ?_
  refine AW.istore_n (lv1 := [(2, iv 0), (0, rv z 5), (1, iv x1)]) dX9_reached_1 (by decide) rfl ?_
  refine AW.iconst dX9_reached_2 ?_
  refine AW.istore_n (lv1 := [(3, iv 0), (2, iv 0), (0, rv z 5), (1, iv x1)]) dX9_reached_3 (by decide) rfl ?_
  refine AW.sub (lv1 := [(0, rv z 5), (1, iv x1), (2, iv 0), (3, iv 0)]) [2, 3, 1, 0] rfl ?_
  exact Voyage_reached_b_ok hdd _ _ _ h
theorem X_maybe_ok {z : AZ} {x1 : Int} {x2 : Int} {x3 : Int} {x4 : Int} {g : AG} {r : Int × AG} (h : X_maybe x1 x2 x3 x4 g = some r) : AMf z yX11_maybe cX11_maybe 5 (some .int) 5 [rv z 0, iv x1, iv x2, iv x3, iv x4] g r := by
  intro d hdd
  refine AM.of (by decide +kernel) (Nat.le_of_ble_eq_true rfl) ?_
  show AW z (RX11, cX11_maybe, 5, (some .int)) d (QD (some .int) r) 0 [(0, rv z 0), (1, iv x1), (2, iv x2), (3, iv x3), (4, iv x4)] [] g
  unfold X_maybe at h
  refine AW.aloadr_n 0 dX11_maybe_0 rfl ?_
  refine AW.iload_n 1 dX11_maybe_1 rfl ?_
  refine AW.iload_n 2 dX11_maybe_2 rfl ?_
  refine AW.iload_n 2 dX11_maybe_3 rfl ?_
  refine AW.iload_n 3 dX11_maybe_4 rfl ?_
  refine AW.callVi (As := [iv x1, iv x2, iv x2, iv x3]) (st := []) X_isWay_ok cq_X11_176 cr_0_X11_isWay (Nat.le_trans (by decide) hdd) rfl dX11_maybe_5 rfl (Nat.le_of_ble_eq_true rfl) ?_
  refine AW.if_eq (tgt := 25) dX11_maybe_8 (by decide) (fun c1 => ?_) (fun c1 => ?_)
  · replace h := hT h c1
    refine AW.iconst dX11_maybe_25 ?_
    exact AW.iret1 rfl dX11_maybe_26 h rfl
  · replace h := hF h c1
    refine AW.iload 4 dX11_maybe_11 rfl ?_
    refine AW.callSi (As := [iv x4]) (st := []) X_isTime_ok cq_X11_114 st_X11_isTime (Nat.le_trans (by decide) hdd) rfl dX11_maybe_13 rfl (Nat.le_of_ble_eq_true rfl) ?_
    refine AW.if_eq (tgt := 25) dX11_maybe_16 (by decide) (fun c2 => ?_) (fun c2 => ?_)
    · replace h := hT h c2
      refine AW.iconst dX11_maybe_25 ?_
      exact AW.iret1 rfl dX11_maybe_26 h rfl
    · replace h := hF h c2
      refine AW.iload_n 3 dX11_maybe_19 rfl ?_
      refine AW.iload 4 dX11_maybe_20 rfl ?_
      refine AW.icmp_le (tgt := 27) dX11_maybe_22 (by decide) (fun c3 => ?_) (fun c3 => ?_)
      · replace h := hT h c3
        refine AW.aloadr_n 0 dX11_maybe_27 rfl ?_
        refine AW.getR af_X11_40_0 sr_0_4 dX11_maybe_28 ?_
        refine AW.aloadr_n 0 dX11_maybe_31 rfl ?_
        refine AW.getR af_X11_49_0 sr_0_5 dX11_maybe_32 ?_
        refine AW.getR af_X11_180_6 sr_6_6 dX11_maybe_35 ?_
        refine AW.iload_n 1 dX11_maybe_38 rfl ?_
        obtain ⟨k4, h⟩ := hK h
        refine AW.iald kc_51 sk_51 k4 dX11_maybe_39 ?_
        refine AW.iload_n 2 dX11_maybe_40 rfl ?_
        refine AW.iload_n 3 dX11_maybe_41 rfl ?_
        obtain ⟨r5, e6, h⟩ := hC h
        refine AW.callVv (As := [iv (g 51 (ix x1)), iv x2, iv x3]) (st := []) (Voyage_reach_ok e6) cq_X11_187 cr_5_X9_reach (Nat.le_trans (by decide) hdd) rfl dX11_maybe_42 rfl (Nat.le_of_ble_eq_true rfl) ?_
        refine AW.aloadr_n 0 dX11_maybe_45 rfl ?_
        refine AW.getR af_X11_40_0 sr_0_4 dX11_maybe_46 ?_
        refine AW.iload 4 dX11_maybe_49 rfl ?_
        obtain ⟨r7, e8, h⟩ := hC h
        refine AW.callVi (As := [iv x4]) (st := []) (Voyage_reached_ok e8) cq_X11_190 cr_5_X9_reached (Nat.le_trans (by decide) hdd) rfl dX11_maybe_51 rfl (Nat.le_of_ble_eq_true rfl) ?_
        exact AW.iret1 rfl dX11_maybe_54 h rfl
      · replace h := hF h c3
        refine AW.iconst dX11_maybe_25 ?_
        exact AW.iret1 rfl dX11_maybe_26 h rfl
theorem Rules_valueOf_ok {z : AZ} {x1 : Int} {g : AG} {r : Int × AG} (h : Rules_valueOf x1 g = some r) : AMf z yX6_valueOf cX6_valueOf 2 (some .int) 3 [rv z 2, iv x1] g r := by
  intro d hdd
  refine AM.of (by decide +kernel) (Nat.le_of_ble_eq_true rfl) ?_
  show AW z (RX6, cX6_valueOf, 2, (some .int)) d (QD (some .int) r) 0 [(0, rv z 2), (1, iv x1)] [] g
  unfold Rules_valueOf at h
  refine AW.iload_n 1 dX6_valueOf_0 rfl ?_
  refine AW.iconst dX6_valueOf_1 ?_
  refine AW.aloadr_n 0 dX6_valueOf_2 rfl ?_
  refine AW.getI af_X6_52_2 sr_2_3 dX6_valueOf_3 ?_
  refine AW.iconst dX6_valueOf_6 ?_
  refine AW.isub dX6_valueOf_7 ?_
  refine AW.callN0 (As := [iv x1, iv 0, iv ((g 2 3) - 1)]) (st := []) X_within_ok ns_X6_78 in_X11 cd_X11_within st_X11_within (by decide) (Nat.le_trans (by decide) hdd) rfl (Nat.le_of_ble_eq_true rfl) dX6_valueOf_8 rfl ?_
  obtain ⟨r5, e6, h⟩ := hC h
  refine AW.join (tgt := 34) (lv1 := []) (st1 := [iv r5.1]) (g1 := r5.2) ?_ (fun J11 => ?_)
  · exact AW.iret1 rfl dX6_valueOf_34 h rfl
  replace h := e6
  refine AW.if_eq (tgt := 33) dX6_valueOf_11 (by decide) (fun c1 => ?_) (fun c1 => ?_)
  · replace h := hT h c1
    refine AW.iconst dX6_valueOf_33 ?_
    refine AW.sub (lv1 := []) [] rfl ?_
    cases h
    exact J11
  · replace h := hF h c1
    refine AW.aloadr_n 0 dX6_valueOf_14 rfl ?_
    refine AW.aloadr_n 0 dX6_valueOf_15 rfl ?_
    refine AW.getR af_X6_21_2 sr_2_5 dX6_valueOf_16 ?_
    refine AW.iload_n 1 dX6_valueOf_19 rfl ?_
    obtain ⟨k2, h⟩ := hK h
    refine AW.iald kc_20 sk_20 k2 dX6_valueOf_20 ?_
    refine AW.aloadr_n 0 dX6_valueOf_21 rfl ?_
    refine AW.getR af_X6_24_2 sr_2_6 dX6_valueOf_22 ?_
    refine AW.iload_n 1 dX6_valueOf_25 rfl ?_
    refine AW.iald kc_21 sk_21 k2 dX6_valueOf_26 ?_
    obtain ⟨r3, e4, h⟩ := hC h
    refine AW.callVi (As := [iv (g 20 (ix x1)), iv (g 21 (ix x1))]) (st := []) (Rules_run_ok e4) cq_X6_74 cr_2_X6_run (Nat.le_trans (by decide) hdd) rfl dX6_valueOf_27 rfl (Nat.le_of_ble_eq_true rfl) ?_
    refine AW.goto (tgt := 34) dX6_valueOf_30 (by decide) ?_
    refine AW.sub (lv1 := []) [] rfl ?_
    cases h
    exact J11
theorem Boats_harmOfLock_ok {z : AZ} {x1 : Int} {x2 : Int} {g : AG} {r : Int × AG} (h : Boats_harmOfLock x1 x2 g = some r) : AMf z yX0_harmOfLock cX0_harmOfLock 4 (some .int) 4 [rv z 6, iv x1, iv x2] g r := by
  intro d hdd
  refine AM.of (by decide +kernel) (Nat.le_of_ble_eq_true rfl) ?_
  show AW z (RX0, cX0_harmOfLock, 4, (some .int)) d (QD (some .int) r) 0 [(0, rv z 6), (1, iv x1), (2, iv x2)] [] g
  unfold Boats_harmOfLock at h
  refine AW.aloadr_n 0 dX0_harmOfLock_0 rfl ?_
  refine AW.getR af_X0_42_6 sr_6_1 dX0_harmOfLock_1 ?_
  refine AW.iload_n 2 dX0_harmOfLock_4 rfl ?_
  refine AW.aloadr_n 0 dX0_harmOfLock_5 rfl ?_
  refine AW.getR af_X0_38_6 sr_6_0 dX0_harmOfLock_6 ?_
  refine AW.getI af_X0_104_1 sr_1_5 dX0_harmOfLock_9 ?_
  obtain ⟨r1, e2, h⟩ := hC h
  refine AW.callVv (As := [iv x2, iv (g 1 5)]) (st := []) (Rules_askDay_ok e2) cq_X0_109 cr_2_X6_askDay (Nat.le_trans (by decide) hdd) rfl dX0_harmOfLock_12 rfl (Nat.le_of_ble_eq_true rfl) ?_
  refine AW.aloadr_n 0 dX0_harmOfLock_15 rfl ?_
  refine AW.getR af_X0_42_6 sr_6_1 dX0_harmOfLock_16 ?_
  refine AW.getR af_X0_115_2 sr_2_13 dX0_harmOfLock_19 ?_
  refine AW.iconst dX0_harmOfLock_22 ?_
  refine AW.aloadr_n 0 dX0_harmOfLock_23 rfl ?_
  refine AW.getR af_X0_9_6 sr_6_3 dX0_harmOfLock_24 ?_
  refine AW.iload_n 1 dX0_harmOfLock_27 rfl ?_
  obtain ⟨k3, h⟩ := hK h
  refine AW.iald kc_48 sk_48 k3 dX0_harmOfLock_28 ?_
  obtain ⟨g4, e5, h⟩ := hBe h
  refine AW.iast kc_27 sk_27 (by decide) dX0_harmOfLock_29 e5 ?_
  refine AW.aloadr_n 0 dX0_harmOfLock_30 rfl ?_
  refine AW.getR af_X0_42_6 sr_6_1 dX0_harmOfLock_31 ?_
  refine AW.getR af_X0_115_2 sr_2_13 dX0_harmOfLock_34 ?_
  refine AW.iconst dX0_harmOfLock_37 ?_
  refine AW.aloadr_n 0 dX0_harmOfLock_38 rfl ?_
  refine AW.getR af_X0_15_6 sr_6_4 dX0_harmOfLock_39 ?_
  refine AW.iload_n 1 dX0_harmOfLock_42 rfl ?_
  refine AW.iald kc_49 sk_49 k3 dX0_harmOfLock_43 ?_
  obtain ⟨g6, e7, h⟩ := hBe h
  refine AW.iast kc_27 sk_27 (by decide) dX0_harmOfLock_44 e7 ?_
  refine AW.aloadr_n 0 dX0_harmOfLock_45 rfl ?_
  refine AW.getR af_X0_42_6 sr_6_1 dX0_harmOfLock_46 ?_
  refine AW.getR af_X0_115_2 sr_2_13 dX0_harmOfLock_49 ?_
  refine AW.bipush dX0_harmOfLock_52 (by decide) (by decide) ?_
  refine AW.aloadr_n 0 dX0_harmOfLock_54 rfl ?_
  refine AW.getR af_X0_21_6 sr_6_6 dX0_harmOfLock_55 ?_
  refine AW.iload_n 1 dX0_harmOfLock_58 rfl ?_
  refine AW.iald kc_51 sk_51 k3 dX0_harmOfLock_59 ?_
  obtain ⟨g8, e9, h⟩ := hBe h
  refine AW.iast kc_27 sk_27 (by decide) dX0_harmOfLock_60 e9 ?_
  refine AW.aloadr_n 0 dX0_harmOfLock_61 rfl ?_
  refine AW.getR af_X0_42_6 sr_6_1 dX0_harmOfLock_62 ?_
  refine AW.bipush dX0_harmOfLock_65 (by decide) (by decide) ?_
  obtain ⟨r10, e11, h⟩ := hC h
  refine AW.callVi (As := [iv 104]) (st := []) (Rules_serving_ok e11) cq_X0_118 cr_2_X6_serving (Nat.le_trans (by decide) hdd) rfl dX0_harmOfLock_67 rfl (Nat.le_of_ble_eq_true rfl) ?_
  refine AW.istore_n (lv1 := [(3, iv r10.1), (0, rv z 6), (1, iv x1), (2, iv x2)]) dX0_harmOfLock_70 (by decide) rfl ?_
  refine AW.iload_n 0 dX0_harmOfLock_71 rfl ?_
  refine AW.iconst dX0_harmOfLock_72 ?_
  obtain ⟨r15, e16, h⟩ := hC h
  refine AW.join (tgt := 98) (lv1 := []) (st1 := [iv r15.1]) (g1 := r15.2) ?_ (fun J73 => ?_)
  · exact AW.iret1 rfl dX0_harmOfLock_98 h rfl
  replace h := e16
  refine AW.icmp_ne (tgt := 80) dX0_harmOfLock_73 (by decide) (fun c12 => ?_) (fun c12 => ?_)
  · replace h := hF h c12
    refine AW.iconst dX0_harmOfLock_80 ?_
    refine AW.sipush dX0_harmOfLock_81 (by decide) (by decide) ?_
    refine AW.aloadr_n 1 dX0_harmOfLock_84 rfl ?_
    refine AW.getR af_X0_42_6 sr_6_1 dX0_harmOfLock_85 ?_
    refine AW.iload_n 0 dX0_harmOfLock_88 rfl ?_
    obtain ⟨r13, e14, h⟩ := hC h
    refine AW.callVi (As := [iv r10.1]) (st := [iv 999, iv 0]) (Rules_valueOf_ok e14) cq_X0_121 cr_2_X6_valueOf (Nat.le_trans (by decide) hdd) rfl dX0_harmOfLock_89 rfl (Nat.le_of_ble_eq_true rfl) ?_
    refine AW.mmin (st := [iv 0]) cm_X0_124 mst_min mini mcd_min (Nat.le_trans (by decide) hdd) (Nat.le_of_ble_eq_true rfl) dX0_harmOfLock_92 ?_
    refine AW.mmax (st := []) cm_X0_71 mst_max mini mcd_max (Nat.le_trans (by decide) hdd) (Nat.le_of_ble_eq_true rfl) dX0_harmOfLock_95 ?_
    refine AW.sub (lv1 := []) [] rfl ?_
    cases h
    exact J73
  · replace h := hT h c12
    refine AW.iconst dX0_harmOfLock_76 ?_
    refine AW.goto (tgt := 98) dX0_harmOfLock_77 (by decide) ?_
    refine AW.sub (lv1 := []) [] rfl ?_
    cases h
    exact J73
set_option synthInstance.maxHeartbeats 2000000 in
theorem Boats_harmOfLatestWay_b_ok {z : AZ} {d : Nat} (hdd : 5 ≤ d) {x1 : Int} : ∀ (x2 : Int) (x3 : Int) (g : AG) (r : Int × AG), Boats_harmOfLatestWay_b x1 x2 x3 g = some r → AW z (RX0, cX0_harmOfLatestWay, 4, (some .int)) d (QD (some .int) r) 4 [(0, rv z 6), (1, iv x1), (2, iv x2), (3, iv x3)] [] g := by
  refine Boats_harmOfLatestWay_b.partial_correctness x1 (fun x2 x3 g r => AW z (RX0, cX0_harmOfLatestWay, 4, (some .int)) d (QD (some .int) r) 4 [(0, rv z 6), (1, iv x1), (2, iv x2), (3, iv x3)] [] g) ?_
  intro fb9 ih x2 x3 g r h
  refine AW.iload_n 3 dX0_harmOfLatestWay_4 rfl ?_
  refine AW.bipush dX0_harmOfLatestWay_5 (by decide) (by decide) ?_
  refine AW.icmp_ge (tgt := 47) dX0_harmOfLatestWay_7 (by decide) (fun c1 => ?_) (fun c1 => ?_)
  · replace h := hT h c1
    refine AW.iload_n 2 dX0_harmOfLatestWay_47 rfl ?_
    exact AW.iret1 rfl dX0_harmOfLatestWay_48 h rfl
  · replace h := hF h c1
    refine AW.aloadr_n 0 dX0_harmOfLatestWay_10 rfl ?_
    refine AW.getR af_X0_46_6 sr_6_2 dX0_harmOfLatestWay_11 ?_
    refine AW.getR af_X0_98_5 sr_5_5 dX0_harmOfLatestWay_14 ?_
    refine AW.iload_n 3 dX0_harmOfLatestWay_17 rfl ?_
    obtain ⟨k2, h⟩ := hK h
    refine AW.iald kc_47 sk_47 k2 dX0_harmOfLatestWay_18 ?_
    obtain ⟨r6, e7, h⟩ := hC h
    refine AW.join (tgt := 41) (lv1 := [(0, rv z 6), (1, iv x1), (2, iv r6.1), (3, iv x3)]) (st1 := []) (g1 := r6.2) ?_ (fun J19 => ?_)
    · refine AW.iinc (lv1 := [(3, iv (x3 + 1)), (0, rv z 6), (1, iv x1), (2, iv r6.1)]) 3 dX0_harmOfLatestWay_41 rfl (by decide) rfl ?_
      refine AW.goto (tgt := 4) dX0_harmOfLatestWay_44 (by decide) ?_
      refine AW.sub (lv1 := [(0, rv z 6), (1, iv x1), (2, iv r6.1), (3, iv (x3 + 1))]) [1, 2, 3, 0] rfl ?_
      exact ih _ _ _ _ h
    replace h := e7
    refine AW.if_le (tgt := 41) dX0_harmOfLatestWay_19 (by decide) (fun c3 => ?_) (fun c3 => ?_)
    · replace h := hT h c3
      cases h
      exact J19
    · replace h := hF h c3
      refine AW.iload_n 2 dX0_harmOfLatestWay_22 rfl ?_
      refine AW.aloadr_n 0 dX0_harmOfLatestWay_23 rfl ?_
      refine AW.getR af_X0_46_6 sr_6_2 dX0_harmOfLatestWay_24 ?_
      refine AW.getR af_X0_98_5 sr_5_5 dX0_harmOfLatestWay_27 ?_
      refine AW.iload_n 3 dX0_harmOfLatestWay_30 rfl ?_
      refine AW.iald kc_47 sk_47 k2 dX0_harmOfLatestWay_31 ?_
      refine AW.aloadr_n 0 dX0_harmOfLatestWay_32 rfl ?_
      refine AW.iload_n 1 dX0_harmOfLatestWay_33 rfl ?_
      refine AW.iload_n 3 dX0_harmOfLatestWay_34 rfl ?_
      obtain ⟨r4, e5, h⟩ := hC h
      refine AW.callVi (As := [iv x1, iv x3]) (st := [iv (g 47 (ix x3)), iv x2]) (Boats_harmOfLock_ok e5) cq_X0_101 cr_6_X0_harmOfLock (Nat.le_trans (by decide) hdd) rfl dX0_harmOfLatestWay_35 rfl (Nat.le_of_ble_eq_true rfl) ?_
      refine AW.imul dX0_harmOfLatestWay_38 ?_
      refine AW.iadd dX0_harmOfLatestWay_39 ?_
      refine AW.istore_n (lv1 := [(2, iv (x2 + ((g 47 (ix x3)) * r4.1))), (0, rv z 6), (1, iv x1), (3, iv x3)]) dX0_harmOfLatestWay_40 (by decide) rfl ?_
      refine AW.sub (lv1 := [(0, rv z 6), (1, iv x1), (2, iv (x2 + ((g 47 (ix x3)) * r4.1))), (3, iv x3)]) [1, 2, 0, 3] rfl ?_
      cases h
      exact J19
theorem Boats_harmOfLatestWay_ok {z : AZ} {x1 : Int} {g : AG} {r : Int × AG} (h : Boats_harmOfLatestWay x1 g = some r) : AMf z yX0_harmOfLatestWay cX0_harmOfLatestWay 4 (some .int) 5 [rv z 6, iv x1] g r := by
  intro d hdd
  refine AM.of (by decide +kernel) (Nat.le_of_ble_eq_true rfl) ?_
  show AW z (RX0, cX0_harmOfLatestWay, 4, (some .int)) d (QD (some .int) r) 0 [(0, rv z 6), (1, iv x1)] [] g
  unfold Boats_harmOfLatestWay at h
  refine AW.iconst dX0_harmOfLatestWay_0 ?_
  refine AW.istore_n (lv1 := [(2, iv 0), (0, rv z 6), (1, iv x1)]) dX0_harmOfLatestWay_1 (by decide) rfl ?_
  refine AW.iconst dX0_harmOfLatestWay_2 ?_
  refine AW.istore_n (lv1 := [(3, iv 0), (2, iv 0), (0, rv z 6), (1, iv x1)]) dX0_harmOfLatestWay_3 (by decide) rfl ?_
  refine AW.sub (lv1 := [(0, rv z 6), (1, iv x1), (2, iv 0), (3, iv 0)]) [2, 3, 1, 0] rfl ?_
  exact Boats_harmOfLatestWay_b_ok hdd _ _ _ _ h
theorem X_harm_ok {z : AZ} {x1 : Int} {x2 : Int} {x3 : Int} {x4 : Int} {g : AG} {r : Int × AG} (h : X_harm x1 x2 x3 x4 g = some r) : AMf z yX11_harm cX11_harm 6 (some .int) 6 [rv z 0, iv x1, iv x2, iv x3, iv x4] g r := by
  intro d hdd
  refine AM.of (by decide +kernel) (Nat.le_of_ble_eq_true rfl) ?_
  show AW z (RX11, cX11_harm, 6, (some .int)) d (QD (some .int) r) 0 [(0, rv z 0), (1, iv x1), (2, iv x2), (3, iv x3), (4, iv x4)] [] g
  unfold X_harm at h
  refine AW.aloadr_n 0 dX11_harm_0 rfl ?_
  refine AW.iload_n 1 dX11_harm_1 rfl ?_
  refine AW.iload_n 2 dX11_harm_2 rfl ?_
  refine AW.iload_n 3 dX11_harm_3 rfl ?_
  refine AW.iload 4 dX11_harm_4 rfl ?_
  refine AW.callVi (As := [iv x1, iv x2, iv x3, iv x4]) (st := []) X_isWay_ok cq_X11_176 cr_0_X11_isWay (Nat.le_trans (by decide) hdd) rfl dX11_harm_6 rfl (Nat.le_of_ble_eq_true rfl) ?_
  refine AW.if_ne (tgt := 14) dX11_harm_9 (by decide) (fun c1 => ?_) (fun c1 => ?_)
  · replace h := hF h c1
    refine AW.aloadr_n 0 dX11_harm_14 rfl ?_
    refine AW.getR af_X11_40_0 sr_0_4 dX11_harm_15 ?_
    refine AW.aloadr_n 0 dX11_harm_18 rfl ?_
    refine AW.getR af_X11_49_0 sr_0_5 dX11_harm_19 ?_
    refine AW.getR af_X11_180_6 sr_6_6 dX11_harm_22 ?_
    refine AW.iload_n 1 dX11_harm_25 rfl ?_
    obtain ⟨k2, h⟩ := hK h
    refine AW.iald kc_51 sk_51 k2 dX11_harm_26 ?_
    refine AW.iload_n 2 dX11_harm_27 rfl ?_
    refine AW.iload_n 3 dX11_harm_28 rfl ?_
    refine AW.iload 4 dX11_harm_29 rfl ?_
    refine AW.iconst dX11_harm_31 ?_
    obtain ⟨r3, e4, h⟩ := hC h
    refine AW.callVi (As := [iv (g 51 (ix x1)), iv x2, iv x3, iv x4, iv 1]) (st := []) (Voyage_comesTo_ok e4) cq_X11_183 cr_5_X9_comesTo (Nat.le_trans (by decide) hdd) rfl dX11_harm_32 rfl (Nat.le_of_ble_eq_true rfl) ?_
    refine AW.istore (lv1 := [(5, iv r3.1), (0, rv z 0), (1, iv x1), (2, iv x2), (3, iv x3), (4, iv x4)]) dX11_harm_35 (by decide) rfl ?_
    refine AW.iload 0 dX11_harm_37 rfl ?_
    refine AW.iconst dX11_harm_39 ?_
    obtain ⟨r8, e9, h⟩ := hC h
    refine AW.join (tgt := 55) (lv1 := []) (st1 := [iv r8.1]) (g1 := r8.2) ?_ (fun J40 => ?_)
    · exact AW.iret1 rfl dX11_harm_55 h rfl
    replace h := e9
    refine AW.icmp_ne (tgt := 47) dX11_harm_40 (by decide) (fun c5 => ?_) (fun c5 => ?_)
    · replace h := hF h c5
      refine AW.aloadr_n 1 dX11_harm_47 rfl ?_
      refine AW.getR af_X11_49_0 sr_0_5 dX11_harm_48 ?_
      refine AW.iload_n 2 dX11_harm_51 rfl ?_
      obtain ⟨r6, e7, h⟩ := hC h
      refine AW.callVi (As := [iv x1]) (st := []) (Boats_harmOfLatestWay_ok e7) cq_X11_194 cr_6_X0_harmOfLatestWay (Nat.le_trans (by decide) hdd) rfl dX11_harm_52 rfl (Nat.le_of_ble_eq_true rfl) ?_
      refine AW.sub (lv1 := []) [] rfl ?_
      cases h
      exact J40
    · replace h := hT h c5
      refine AW.iconst dX11_harm_43 ?_
      refine AW.goto (tgt := 55) dX11_harm_44 (by decide) ?_
      refine AW.sub (lv1 := []) [] rfl ?_
      cases h
      exact J40
  · replace h := hT h c1
    refine AW.iconst dX11_harm_12 ?_
    exact AW.iret1 rfl dX11_harm_13 h rfl
theorem Trips_lateBy_ok {z : AZ} {x1 : Int} {x2 : Int} {g : AG} {r : Int × AG} (h : Trips_lateBy x1 x2 g = some r) : AMf z yX7_lateBy cX7_lateBy 4 (some .int) 5 [rv z 7, iv x1, iv x2] g r := by
  intro d hdd
  refine AM.of (by decide +kernel) (Nat.le_of_ble_eq_true rfl) ?_
  show AW z (RX7, cX7_lateBy, 4, (some .int)) d (QD (some .int) r) 0 [(0, rv z 7), (1, iv x1), (2, iv x2)] [] g
  unfold Trips_lateBy at h
  refine AW.aloadr_n 0 dX7_lateBy_0 rfl ?_
  refine AW.getR af_X7_35_7 sr_7_2 dX7_lateBy_1 ?_
  refine AW.aloadr_n 0 dX7_lateBy_4 rfl ?_
  refine AW.getR af_X7_27_7 sr_7_0 dX7_lateBy_5 ?_
  refine AW.getR af_X7_43_6 sr_6_6 dX7_lateBy_8 ?_
  refine AW.aloadr_n 0 dX7_lateBy_11 rfl ?_
  refine AW.getR af_X7_9_7 sr_7_3 dX7_lateBy_12 ?_
  refine AW.iload_n 1 dX7_lateBy_15 rfl ?_
  obtain ⟨k1, h⟩ := hK h
  refine AW.iald kc_76 sk_76 k1 dX7_lateBy_16 ?_
  obtain ⟨k2, h⟩ := hK h
  refine AW.iald kc_51 sk_51 k2 dX7_lateBy_17 ?_
  refine AW.aloadr_n 0 dX7_lateBy_18 rfl ?_
  refine AW.getR af_X7_15_7 sr_7_4 dX7_lateBy_19 ?_
  refine AW.iload_n 1 dX7_lateBy_22 rfl ?_
  refine AW.iald kc_77 sk_77 k1 dX7_lateBy_23 ?_
  refine AW.aloadr_n 0 dX7_lateBy_24 rfl ?_
  refine AW.getR af_X7_18_7 sr_7_5 dX7_lateBy_25 ?_
  refine AW.iload_n 1 dX7_lateBy_28 rfl ?_
  refine AW.iald kc_78 sk_78 k1 dX7_lateBy_29 ?_
  refine AW.aloadr_n 0 dX7_lateBy_30 rfl ?_
  refine AW.getR af_X7_21_7 sr_7_6 dX7_lateBy_31 ?_
  refine AW.iload_n 1 dX7_lateBy_34 rfl ?_
  refine AW.iald kc_79 sk_79 k1 dX7_lateBy_35 ?_
  refine AW.iload_n 2 dX7_lateBy_36 rfl ?_
  obtain ⟨r3, e4, h⟩ := hC h
  refine AW.callVi (As := [iv (g 51 (ix (g 76 (ix x1)))), iv (g 77 (ix x1)), iv (g 78 (ix x1)), iv (g 79 (ix x1)), iv x2]) (st := []) (Voyage_comesTo_ok e4) cq_X7_48 cr_5_X9_comesTo (Nat.le_trans (by decide) hdd) rfl dX7_lateBy_37 rfl (Nat.le_of_ble_eq_true rfl) ?_
  refine AW.istore_n (lv1 := [(3, iv r3.1), (0, rv z 7), (1, iv x1), (2, iv x2)]) dX7_lateBy_40 (by decide) rfl ?_
  refine AW.iload_n 0 dX7_lateBy_41 rfl ?_
  refine AW.iconst dX7_lateBy_42 ?_
  obtain ⟨r6, e7, h⟩ := hC h
  refine AW.join (tgt := 64) (lv1 := []) (st1 := [iv r6.1]) (g1 := r6.2) ?_ (fun J43 => ?_)
  · exact AW.iret1 rfl dX7_lateBy_64 h rfl
  replace h := e7
  refine AW.icmp_ne (tgt := 52) dX7_lateBy_43 (by decide) (fun c5 => ?_) (fun c5 => ?_)
  · replace h := hF h c5
    refine AW.iconst dX7_lateBy_52 ?_
    refine AW.iload_n 0 dX7_lateBy_53 rfl ?_
    refine AW.aloadr_n 1 dX7_lateBy_54 rfl ?_
    refine AW.getR af_X7_24_7 sr_7_7 dX7_lateBy_55 ?_
    refine AW.iload_n 2 dX7_lateBy_58 rfl ?_
    refine AW.iald kc_80 sk_80 k1 dX7_lateBy_59 ?_
    refine AW.isub dX7_lateBy_60 ?_
    refine AW.mmax (st := []) cm_X7_54 mst_max mini mcd_max (Nat.le_trans (by decide) hdd) (Nat.le_of_ble_eq_true rfl) dX7_lateBy_61 ?_
    refine AW.sub (lv1 := []) [] rfl ?_
    cases h
    exact J43
  · replace h := hT h c5
    refine AW.sipush dX7_lateBy_46 (by decide) (by decide) ?_
    refine AW.goto (tgt := 64) dX7_lateBy_49 (by decide) ?_
    refine AW.sub (lv1 := []) [] rfl ?_
    cases h
    exact J43
theorem Rules_askWeek_ok {z : AZ} {x1 : Int} {g : AG} {r : Int × AG} (h : Rules_askWeek x1 g = some r) : AMf z yX6_askWeek cX6_askWeek 2 none 1 [rv z 2, iv x1] g r := by
  intro d hdd
  refine AM.of (by decide +kernel) (Nat.le_of_ble_eq_true rfl) ?_
  show AW z (RX6, cX6_askWeek, 2, none) d (QD none r) 0 [(0, rv z 2), (1, iv x1)] [] g
  unfold Rules_askWeek at h
  refine AW.aloadr_n 0 dX6_askWeek_0 rfl ?_
  refine AW.getR af_X6_42_2 sr_2_13 dX6_askWeek_1 ?_
  refine AW.iconst dX6_askWeek_4 ?_
  obtain ⟨g1, e2, h⟩ := hBe h
  refine AW.callSv (st := []) (fill_ok kc_27 sk_27 (by decide)) cf_X6_58 st_fill (Nat.le_trans (by decide) hdd) rfl dX6_askWeek_5 rfl (Nat.le_of_ble_eq_true rfl) ?_
  rw [← e2]
  refine AW.aloadr_n 0 dX6_askWeek_8 rfl ?_
  refine AW.getR af_X6_42_2 sr_2_13 dX6_askWeek_9 ?_
  refine AW.iconst dX6_askWeek_12 ?_
  refine AW.iload_n 1 dX6_askWeek_13 rfl ?_
  obtain ⟨g3, e4, h⟩ := hBe h
  refine AW.iast kc_27 sk_27 (by decide) dX6_askWeek_14 e4 ?_
  exact AW.vret1 rfl dX6_askWeek_15 h rfl
theorem Boats_priceLine_ok {z : AZ} {x1 : Int} {x2 : Int} {x3 : Int} {g : AG} {r : Int × AG} (h : Boats_priceLine x1 x2 x3 g = some r) : AMf z yX0_priceLine cX0_priceLine 4 (some .int) 4 [rv z 6, iv x1, iv x2, iv x3] g r := by
  intro d hdd
  refine AM.of (by decide +kernel) (Nat.le_of_ble_eq_true rfl) ?_
  show AW z (RX0, cX0_priceLine, 4, (some .int)) d (QD (some .int) r) 0 [(0, rv z 6), (1, iv x1), (2, iv x2), (3, iv x3)] [] g
  unfold Boats_priceLine at h
  refine AW.aloadr_n 0 dX0_priceLine_0 rfl ?_
  refine AW.getR af_X0_42_6 sr_6_1 dX0_priceLine_1 ?_
  refine AW.iload_n 2 dX0_priceLine_4 rfl ?_
  obtain ⟨r1, e2, h⟩ := hC h
  refine AW.callVv (As := [iv x2]) (st := []) (Rules_askWeek_ok e2) cq_X0_127 cr_2_X6_askWeek (Nat.le_trans (by decide) hdd) rfl dX0_priceLine_5 rfl (Nat.le_of_ble_eq_true rfl) ?_
  refine AW.aloadr_n 0 dX0_priceLine_8 rfl ?_
  refine AW.getR af_X0_42_6 sr_6_1 dX0_priceLine_9 ?_
  refine AW.getR af_X0_115_2 sr_2_13 dX0_priceLine_12 ?_
  refine AW.iconst dX0_priceLine_15 ?_
  refine AW.aloadr_n 0 dX0_priceLine_16 rfl ?_
  refine AW.getR af_X0_9_6 sr_6_3 dX0_priceLine_17 ?_
  refine AW.iload_n 1 dX0_priceLine_20 rfl ?_
  obtain ⟨k3, h⟩ := hK h
  refine AW.iald kc_48 sk_48 k3 dX0_priceLine_21 ?_
  obtain ⟨g4, e5, h⟩ := hBe h
  refine AW.iast kc_27 sk_27 (by decide) dX0_priceLine_22 e5 ?_
  refine AW.aloadr_n 0 dX0_priceLine_23 rfl ?_
  refine AW.getR af_X0_42_6 sr_6_1 dX0_priceLine_24 ?_
  refine AW.getR af_X0_115_2 sr_2_13 dX0_priceLine_27 ?_
  refine AW.iconst dX0_priceLine_30 ?_
  refine AW.iload_n 3 dX0_priceLine_31 rfl ?_
  obtain ⟨t6, e7, h⟩ := hBe h
  refine AW.join (tgt := 40) (lv1 := [(0, rv z 6), (1, iv x1), (2, iv x2), (3, iv x3)]) (st1 := [iv t6, iv 4, rv z 27]) (g1 := g4) ?_ (fun J32 => ?_)
  · obtain ⟨g8, e9, h⟩ := hBe h
    refine AW.iast kc_27 sk_27 (by decide) dX0_priceLine_40 e9 ?_
    refine AW.aloadr_n 0 dX0_priceLine_41 rfl ?_
    refine AW.getR af_X0_42_6 sr_6_1 dX0_priceLine_42 ?_
    refine AW.getR af_X0_115_2 sr_2_13 dX0_priceLine_45 ?_
    refine AW.iconst dX0_priceLine_48 ?_
    refine AW.aloadr_n 0 dX0_priceLine_49 rfl ?_
    refine AW.getR af_X0_15_6 sr_6_4 dX0_priceLine_50 ?_
    refine AW.iload_n 1 dX0_priceLine_53 rfl ?_
    refine AW.iald kc_49 sk_49 k3 dX0_priceLine_54 ?_
    obtain ⟨g10, e11, h⟩ := hBe h
    refine AW.iast kc_27 sk_27 (by decide) dX0_priceLine_55 e11 ?_
    refine AW.aloadr_n 0 dX0_priceLine_56 rfl ?_
    refine AW.getR af_X0_42_6 sr_6_1 dX0_priceLine_57 ?_
    refine AW.bipush dX0_priceLine_60 (by decide) (by decide) ?_
    obtain ⟨r12, e13, h⟩ := hC h
    refine AW.callVi (As := [iv 102]) (st := []) (Rules_serving_ok e13) cq_X0_118 cr_2_X6_serving (Nat.le_trans (by decide) hdd) rfl dX0_priceLine_62 rfl (Nat.le_of_ble_eq_true rfl) ?_
    exact AW.iret1 rfl dX0_priceLine_65 h rfl
  refine AW.if_eq (tgt := 39) dX0_priceLine_32 (by decide) (fun c14 => ?_) (fun c14 => ?_)
  · refine AW.iconst dX0_priceLine_39 ?_
    exact AW.val (e7.trans (if_pos c14)) J32
  · refine AW.iconst dX0_priceLine_35 ?_
    refine AW.goto (tgt := 40) dX0_priceLine_36 (by decide) ?_
    exact AW.val (e7.trans (if_neg c14)) J32
