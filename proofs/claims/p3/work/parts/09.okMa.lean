theorem M_isIn_ok {z : AZ} {x0 : Int} {x1 : Int} {x2 : Int} {g : AG} : AMf z yX12_isIn cX12_isIn 3 (some .boolean) 0 [iv x0, iv x1, iv x2] g ((M_isIn x0 x1 x2), g) := by
  intro d hdd
  refine AM.of (by decide +kernel) (Nat.le_of_ble_eq_true rfl) ?_
  show AW z (RX12, cX12_isIn, 3, (some .boolean)) d (QD (some .boolean) ((M_isIn x0 x1 x2), g)) 0 [(0, iv x0), (1, iv x1), (2, iv x2)] [] g
  refine AW.iload_n 0 dX12_isIn_0 rfl ?_
  refine AW.iload_n 1 dX12_isIn_1 rfl ?_
  refine AW.join (tgt := 15) (lv1 := [(0, iv x0), (1, iv x1), (2, iv x2)]) (st1 := [iv (if nw x0 < nw x1 then 0 else (if nw x2 < nw x0 then 0 else 1))]) (g1 := g) ?_ (fun J2 => ?_)
  · exact AW.zret rfl (by (repeat' split) <;> first | exact Or.inl rfl | exact Or.inr rfl) dX12_isIn_15 ⟨congrArg (fun v => some (iv v)) (show M_isIn x0 x1 x2  = (if nw x0 < nw x1 then 0 else (if nw x2 < nw x0 then 0 else 1)) from rfl).symm, rfl⟩
  refine AW.icmp_lt (tgt := 14) dX12_isIn_2 (by decide) (fun c1 => ?_) (fun c1 => ?_)
  · refine AW.iconst dX12_isIn_14 ?_
    exact AW.val (if_pos c1) J2
  · refine AW.iload_n 0 dX12_isIn_5 rfl ?_
    refine AW.iload_n 2 dX12_isIn_6 rfl ?_
    refine AW.icmp_gt (tgt := 14) dX12_isIn_7 (by decide) (fun c2 => ?_) (fun c2 => ?_)
    · refine AW.iconst dX12_isIn_14 ?_
      exact AW.val ((if_neg c1).trans (if_pos c2)) J2
    · refine AW.iconst dX12_isIn_10 ?_
      refine AW.goto (tgt := 15) dX12_isIn_11 (by decide) ?_
      exact AW.val ((if_neg c1).trans (if_neg c2)) J2
theorem M_stretch_ok {z : AZ} {x1 : Int} {x2 : Int} {x3 : Int} {x4 : Int} {g : AG} {r : Int × AG} (h : M_stretch x1 x2 x3 x4 g = some r) : AMf z yX12_stretch cX12_stretch 5 (some .boolean) 1 [rv z 117, iv x1, iv x2, iv x3, iv x4] g r := by
  intro d hdd
  refine AM.of (by decide +kernel) (Nat.le_of_ble_eq_true rfl) ?_
  show AW z (RX12, cX12_stretch, 5, (some .boolean)) d (QD (some .boolean) r) 0 [(0, rv z 117), (1, iv x1), (2, iv x2), (3, iv x3), (4, iv x4)] [] g
  unfold M_stretch at h
  refine AW.iload_n 1 dX12_stretch_0 rfl ?_
  refine AW.iconst dX12_stretch_1 ?_
  refine AW.bipush dX12_stretch_2 (by decide) (by decide) ?_
  refine AW.callSi (As := [iv x1, iv 0, iv 14]) (st := []) M_isIn_ok cq_X12_3 st_X12_isIn (Nat.le_trans (by decide) hdd) rfl dX12_stretch_4 rfl (Nat.le_of_ble_eq_true rfl) ?_
  refine AW.if_eq (tgt := 41) dX12_stretch_7 (by decide) (fun c1 => ?_) (fun c1 => ?_)
  · replace h := hT h c1
    refine AW.iconst dX12_stretch_41 ?_
    exact AW.zret1 rfl (Or.inl rfl) dX12_stretch_42 h rfl
  · replace h := hF h c1
    refine AW.iload_n 2 dX12_stretch_10 rfl ?_
    refine AW.iconst dX12_stretch_11 ?_
    refine AW.bipush dX12_stretch_12 (by decide) (by decide) ?_
    refine AW.callSi (As := [iv x2, iv 0, iv 9]) (st := []) M_isIn_ok cq_X12_3 st_X12_isIn (Nat.le_trans (by decide) hdd) rfl dX12_stretch_14 rfl (Nat.le_of_ble_eq_true rfl) ?_
    refine AW.if_eq (tgt := 41) dX12_stretch_17 (by decide) (fun c2 => ?_) (fun c2 => ?_)
    · replace h := hT h c2
      refine AW.iconst dX12_stretch_41 ?_
      exact AW.zret1 rfl (Or.inl rfl) dX12_stretch_42 h rfl
    · replace h := hF h c2
      refine AW.iload_n 3 dX12_stretch_20 rfl ?_
      refine AW.iconst dX12_stretch_21 ?_
      refine AW.bipush dX12_stretch_22 (by decide) (by decide) ?_
      refine AW.callSi (As := [iv x3, iv 0, iv 9]) (st := []) M_isIn_ok cq_X12_3 st_X12_isIn (Nat.le_trans (by decide) hdd) rfl dX12_stretch_24 rfl (Nat.le_of_ble_eq_true rfl) ?_
      refine AW.if_eq (tgt := 41) dX12_stretch_27 (by decide) (fun c3 => ?_) (fun c3 => ?_)
      · replace h := hT h c3
        refine AW.iconst dX12_stretch_41 ?_
        exact AW.zret1 rfl (Or.inl rfl) dX12_stretch_42 h rfl
      · replace h := hF h c3
        refine AW.iload 4 dX12_stretch_30 rfl ?_
        refine AW.iconst dX12_stretch_32 ?_
        refine AW.bipush dX12_stretch_33 (by decide) (by decide) ?_
        refine AW.callSi (As := [iv x4, iv 1, iv 99]) (st := []) M_isIn_ok cq_X12_3 st_X12_isIn (Nat.le_trans (by decide) hdd) rfl dX12_stretch_35 rfl (Nat.le_of_ble_eq_true rfl) ?_
        refine AW.if_ne (tgt := 43) dX12_stretch_38 (by decide) (fun c4 => ?_) (fun c4 => ?_)
        · replace h := hF h c4
          refine AW.aloadr_n 0 dX12_stretch_43 rfl ?_
          refine AW.getR af_X12_13_117 sr_117_0 dX12_stretch_44 ?_
          refine AW.iload_n 1 dX12_stretch_47 rfl ?_
          refine AW.iload_n 2 dX12_stretch_48 rfl ?_
          obtain ⟨k5, h⟩ := hK h
          obtain ⟨g6, e7, h⟩ := hBe h
          refine AW.iast kc_118 sk_118 k5 dX12_stretch_49 e7 ?_
          refine AW.aloadr_n 0 dX12_stretch_50 rfl ?_
          refine AW.getR af_X12_17_117 sr_117_1 dX12_stretch_51 ?_
          refine AW.iload_n 1 dX12_stretch_54 rfl ?_
          refine AW.iload_n 3 dX12_stretch_55 rfl ?_
          obtain ⟨g8, e9, h⟩ := hBe h
          refine AW.iast kc_119 sk_119 k5 dX12_stretch_56 e9 ?_
          refine AW.aloadr_n 0 dX12_stretch_57 rfl ?_
          refine AW.getR af_X12_20_117 sr_117_2 dX12_stretch_58 ?_
          refine AW.iload_n 1 dX12_stretch_61 rfl ?_
          refine AW.iload 4 dX12_stretch_62 rfl ?_
          obtain ⟨g10, e11, h⟩ := hBe h
          refine AW.iast kc_120 sk_120 k5 dX12_stretch_64 e11 ?_
          refine AW.iconst dX12_stretch_65 ?_
          exact AW.zret1 rfl (Or.inr rfl) dX12_stretch_66 h rfl
        · replace h := hT h c4
          refine AW.iconst dX12_stretch_41 ?_
          exact AW.zret1 rfl (Or.inl rfl) dX12_stretch_42 h rfl
theorem M_water_ok {z : AZ} {x1 : Int} {g : AG} {r : Int × AG} (h : M_water x1 g = some r) : AMf z yX12_water cX12_water 2 (some .boolean) 1 [rv z 117, iv x1] g r := by
  intro d hdd
  refine AM.of (by decide +kernel) (Nat.le_of_ble_eq_true rfl) ?_
  show AW z (RX12, cX12_water, 2, (some .boolean)) d (QD (some .boolean) r) 0 [(0, rv z 117), (1, iv x1)] [] g
  unfold M_water at h
  refine AW.iload_n 1 dX12_water_0 rfl ?_
  refine AW.iconst dX12_water_1 ?_
  refine AW.sipush dX12_water_2 (by decide) (by decide) ?_
  refine AW.callSi (As := [iv x1, iv 0, iv 999]) (st := []) M_isIn_ok cq_X12_3 st_X12_isIn (Nat.le_trans (by decide) hdd) rfl dX12_water_5 rfl (Nat.le_of_ble_eq_true rfl) ?_
  refine AW.if_ne (tgt := 13) dX12_water_8 (by decide) (fun c1 => ?_) (fun c1 => ?_)
  · replace h := hF h c1
    refine AW.aloadr_n 0 dX12_water_13 rfl ?_
    refine AW.iload_n 1 dX12_water_14 rfl ?_
    obtain ⟨g2, e3, h⟩ := hBe h
    refine AW.putI ap_X12_44_117 sr_117_10 dX12_water_15 e3 ?_
    refine AW.iconst dX12_water_18 ?_
    exact AW.zret1 rfl (Or.inr rfl) dX12_water_19 h rfl
  · replace h := hT h c1
    refine AW.iconst dX12_water_11 ?_
    exact AW.zret1 rfl (Or.inl rfl) dX12_water_12 h rfl
theorem M_stoppage_ok {z : AZ} {x1 : Int} {x2 : Int} {x3 : Int} {g : AG} {r : Int × AG} (h : M_stoppage x1 x2 x3 g = some r) : AMf z yX12_stoppage cX12_stoppage 4 (some .int) 1 [rv z 117, iv x1, iv x2, iv x3] g r := by
  intro d hdd
  refine AM.of (by decide +kernel) (Nat.le_of_ble_eq_true rfl) ?_
  show AW z (RX12, cX12_stoppage, 4, (some .int)) d (QD (some .int) r) 0 [(0, rv z 117), (1, iv x1), (2, iv x2), (3, iv x3)] [] g
  unfold M_stoppage at h
  refine AW.iload_n 1 dX12_stoppage_0 rfl ?_
  refine AW.iconst dX12_stoppage_1 ?_
  refine AW.icmp_ne (tgt := 12) dX12_stoppage_2 (by decide) (fun c1 => ?_) (fun c1 => ?_)
  · replace h := hF h c1
    refine AW.iload_n 1 dX12_stoppage_12 rfl ?_
    refine AW.iconst dX12_stoppage_13 ?_
    refine AW.bipush dX12_stoppage_14 (by decide) (by decide) ?_
    refine AW.callSi (As := [iv x1, iv 0, iv 14]) (st := []) M_isIn_ok cq_X12_3 st_X12_isIn (Nat.le_trans (by decide) hdd) rfl dX12_stoppage_16 rfl (Nat.le_of_ble_eq_true rfl) ?_
    refine AW.if_eq (tgt := 51) dX12_stoppage_19 (by decide) (fun c2 => ?_) (fun c2 => ?_)
    · replace h := hT h c2
      refine AW.iconst dX12_stoppage_51 ?_
      exact AW.iret1 rfl dX12_stoppage_52 h rfl
    · replace h := hF h c2
      refine AW.iload_n 2 dX12_stoppage_22 rfl ?_
      refine AW.iconst dX12_stoppage_23 ?_
      refine AW.bipush dX12_stoppage_24 (by decide) (by decide) ?_
      refine AW.callSi (As := [iv x2, iv 0, iv 13]) (st := []) M_isIn_ok cq_X12_3 st_X12_isIn (Nat.le_trans (by decide) hdd) rfl dX12_stoppage_26 rfl (Nat.le_of_ble_eq_true rfl) ?_
      refine AW.if_eq (tgt := 51) dX12_stoppage_29 (by decide) (fun c3 => ?_) (fun c3 => ?_)
      · replace h := hT h c3
        refine AW.iconst dX12_stoppage_51 ?_
        exact AW.iret1 rfl dX12_stoppage_52 h rfl
      · replace h := hF h c3
        refine AW.iload_n 3 dX12_stoppage_32 rfl ?_
        refine AW.iload_n 2 dX12_stoppage_33 rfl ?_
        refine AW.bipush dX12_stoppage_34 (by decide) (by decide) ?_
        refine AW.callSi (As := [iv x3, iv x2, iv 13]) (st := []) M_isIn_ok cq_X12_3 st_X12_isIn (Nat.le_trans (by decide) hdd) rfl dX12_stoppage_36 rfl (Nat.le_of_ble_eq_true rfl) ?_
        refine AW.if_eq (tgt := 51) dX12_stoppage_39 (by decide) (fun c4 => ?_) (fun c4 => ?_)
        · replace h := hT h c4
          refine AW.iconst dX12_stoppage_51 ?_
          exact AW.iret1 rfl dX12_stoppage_52 h rfl
        · replace h := hF h c4
          refine AW.aloadr_n 0 dX12_stoppage_42 rfl ?_
          refine AW.getI af_X12_232_117 sr_117_11 dX12_stoppage_43 ?_
          refine AW.bipush dX12_stoppage_46 (by decide) (by decide) ?_
          refine AW.icmp_ne (tgt := 53) dX12_stoppage_48 (by decide) (fun c5 => ?_) (fun c5 => ?_)
          · replace h := hF h c5
            refine AW.aloadr_n 0 dX12_stoppage_53 rfl ?_
            refine AW.getR af_X12_23_117 sr_117_3 dX12_stoppage_54 ?_
            refine AW.aloadr_n 0 dX12_stoppage_57 rfl ?_
            refine AW.getI af_X12_232_117 sr_117_11 dX12_stoppage_58 ?_
            refine AW.iload_n 1 dX12_stoppage_61 rfl ?_
            obtain ⟨k6, h⟩ := hK h
            obtain ⟨g7, e8, h⟩ := hBe h
            refine AW.iast kc_121 sk_121 k6 dX12_stoppage_62 e8 ?_
            refine AW.aloadr_n 0 dX12_stoppage_63 rfl ?_
            refine AW.getR af_X12_26_117 sr_117_4 dX12_stoppage_64 ?_
            refine AW.aloadr_n 0 dX12_stoppage_67 rfl ?_
            refine AW.getI af_X12_232_117 sr_117_11 dX12_stoppage_68 ?_
            refine AW.iload_n 2 dX12_stoppage_71 rfl ?_
            obtain ⟨k9, h⟩ := hK h
            obtain ⟨g10, e11, h⟩ := hBe h
            refine AW.iast kc_122 sk_122 k9 dX12_stoppage_72 e11 ?_
            refine AW.aloadr_n 0 dX12_stoppage_73 rfl ?_
            refine AW.getR af_X12_29_117 sr_117_5 dX12_stoppage_74 ?_
            refine AW.aloadr_n 0 dX12_stoppage_77 rfl ?_
            refine AW.getI af_X12_232_117 sr_117_11 dX12_stoppage_78 ?_
            refine AW.iload_n 3 dX12_stoppage_81 rfl ?_
            obtain ⟨k12, h⟩ := hK h
            obtain ⟨g13, e14, h⟩ := hBe h
            refine AW.iast kc_123 sk_123 k12 dX12_stoppage_82 e14 ?_
            refine AW.aloadr_n 0 dX12_stoppage_83 rfl ?_
            refine AW.duprr dX12_stoppage_84 ?_
            refine AW.getI af_X12_232_117 sr_117_11 dX12_stoppage_85 ?_
            refine AW.iconst dX12_stoppage_88 ?_
            refine AW.iadd dX12_stoppage_89 ?_
            obtain ⟨g15, e16, h⟩ := hBe h
            refine AW.putI ap_X12_232_117 sr_117_11 dX12_stoppage_90 e16 ?_
            refine AW.aloadr_n 0 dX12_stoppage_93 rfl ?_
            refine AW.getI af_X12_232_117 sr_117_11 dX12_stoppage_94 ?_
            exact AW.iret1 rfl dX12_stoppage_97 h rfl
          · replace h := hT h c5
            refine AW.iconst dX12_stoppage_51 ?_
            exact AW.iret1 rfl dX12_stoppage_52 h rfl
  · replace h := hT h c1
    refine AW.aloadr_n 0 dX12_stoppage_5 rfl ?_
    refine AW.iconst dX12_stoppage_6 ?_
    obtain ⟨g17, e18, h⟩ := hBe h
    refine AW.putI ap_X12_232_117 sr_117_11 dX12_stoppage_7 e18 ?_
    refine AW.iconst dX12_stoppage_10 ?_
    exact AW.iret1 rfl dX12_stoppage_11 h rfl
theorem M_isPoint_ok {z : AZ} {x0 : Int} {g : AG} : AMf z yX12_isPoint cX12_isPoint 1 (some .boolean) 1 [iv x0] g ((M_isPoint x0), g) := by
  intro d hdd
  refine AM.of (by decide +kernel) (Nat.le_of_ble_eq_true rfl) ?_
  show AW z (RX12, cX12_isPoint, 1, (some .boolean)) d (QD (some .boolean) ((M_isPoint x0), g)) 0 [(0, iv x0)] [] g
  refine AW.iload_n 0 dX12_isPoint_0 rfl ?_
  refine AW.iconst dX12_isPoint_1 ?_
  refine AW.bipush dX12_isPoint_2 (by decide) (by decide) ?_
  refine AW.callSi (As := [iv x0, iv 0, iv 15]) (st := []) M_isIn_ok cq_X12_3 st_X12_isIn (Nat.le_trans (by decide) hdd) rfl dX12_isPoint_4 rfl (Nat.le_of_ble_eq_true rfl) ?_
  exact AW.zret rfl M_isIn_01 dX12_isPoint_7 ⟨congrArg (fun v => some (iv v)) (show M_isPoint x0  = (M_isIn x0 0 15) from rfl).symm, rfl⟩
theorem M_boat_ok {z : AZ} {x1 : Int} {x2 : Int} {x3 : Int} {x4 : Int} {g : AG} {r : Int × AG} (h : M_boat x1 x2 x3 x4 g = some r) : AMf z yX12_boat cX12_boat 5 (some .int) 2 [rv z 117, iv x1, iv x2, iv x3, iv x4] g r := by
  intro d hdd
  refine AM.of (by decide +kernel) (Nat.le_of_ble_eq_true rfl) ?_
  show AW z (RX12, cX12_boat, 5, (some .int)) d (QD (some .int) r) 0 [(0, rv z 117), (1, iv x1), (2, iv x2), (3, iv x3), (4, iv x4)] [] g
  unfold M_boat at h
  refine AW.iload_n 1 dX12_boat_0 rfl ?_
  refine AW.iconst dX12_boat_1 ?_
  refine AW.bipush dX12_boat_2 (by decide) (by decide) ?_
  refine AW.callSi (As := [iv x1, iv 2, iv 12]) (st := []) M_isIn_ok cq_X12_3 st_X12_isIn (Nat.le_trans (by decide) hdd) rfl dX12_boat_4 rfl (Nat.le_of_ble_eq_true rfl) ?_
  refine AW.if_eq (tgt := 47) dX12_boat_7 (by decide) (fun c1 => ?_) (fun c1 => ?_)
  · replace h := hT h c1
    refine AW.iconst dX12_boat_47 ?_
    exact AW.iret1 rfl dX12_boat_48 h rfl
  · replace h := hF h c1
    refine AW.iload_n 2 dX12_boat_10 rfl ?_
    refine AW.iconst dX12_boat_11 ?_
    refine AW.bipush dX12_boat_12 (by decide) (by decide) ?_
    refine AW.callSi (As := [iv x2, iv 0, iv 99]) (st := []) M_isIn_ok cq_X12_3 st_X12_isIn (Nat.le_trans (by decide) hdd) rfl dX12_boat_14 rfl (Nat.le_of_ble_eq_true rfl) ?_
    refine AW.if_eq (tgt := 47) dX12_boat_17 (by decide) (fun c2 => ?_) (fun c2 => ?_)
    · replace h := hT h c2
      refine AW.iconst dX12_boat_47 ?_
      exact AW.iret1 rfl dX12_boat_48 h rfl
    · replace h := hF h c2
      refine AW.iload_n 3 dX12_boat_20 rfl ?_
      refine AW.callSi (As := [iv x3]) (st := []) M_isPoint_ok cq_X12_238 st_X12_isPoint (Nat.le_trans (by decide) hdd) rfl dX12_boat_21 rfl (Nat.le_of_ble_eq_true rfl) ?_
      refine AW.if_eq (tgt := 47) dX12_boat_24 (by decide) (fun c3 => ?_) (fun c3 => ?_)
      · replace h := hT h c3
        refine AW.iconst dX12_boat_47 ?_
        exact AW.iret1 rfl dX12_boat_48 h rfl
      · replace h := hF h c3
        refine AW.iload 4 dX12_boat_27 rfl ?_
        refine AW.iconst dX12_boat_29 ?_
        refine AW.bipush dX12_boat_30 (by decide) (by decide) ?_
        refine AW.callSi (As := [iv x4, iv 0, iv 60]) (st := []) M_isIn_ok cq_X12_3 st_X12_isIn (Nat.le_trans (by decide) hdd) rfl dX12_boat_32 rfl (Nat.le_of_ble_eq_true rfl) ?_
        refine AW.if_eq (tgt := 47) dX12_boat_35 (by decide) (fun c4 => ?_) (fun c4 => ?_)
        · replace h := hT h c4
          refine AW.iconst dX12_boat_47 ?_
          exact AW.iret1 rfl dX12_boat_48 h rfl
        · replace h := hF h c4
          refine AW.aloadr_n 0 dX12_boat_38 rfl ?_
          refine AW.getI af_X12_235_117 sr_117_12 dX12_boat_39 ?_
          refine AW.bipush dX12_boat_42 (by decide) (by decide) ?_
          refine AW.icmp_ne (tgt := 49) dX12_boat_44 (by decide) (fun c5 => ?_) (fun c5 => ?_)
          · replace h := hF h c5
            refine AW.aloadr_n 0 dX12_boat_49 rfl ?_
            refine AW.getR af_X12_32_117 sr_117_6 dX12_boat_50 ?_
            refine AW.aloadr_n 0 dX12_boat_53 rfl ?_
            refine AW.getI af_X12_235_117 sr_117_12 dX12_boat_54 ?_
            refine AW.iload_n 1 dX12_boat_57 rfl ?_
            obtain ⟨k6, h⟩ := hK h
            obtain ⟨g7, e8, h⟩ := hBe h
            refine AW.iast kc_124 sk_124 k6 dX12_boat_58 e8 ?_
            refine AW.aloadr_n 0 dX12_boat_59 rfl ?_
            refine AW.getR af_X12_35_117 sr_117_7 dX12_boat_60 ?_
            refine AW.aloadr_n 0 dX12_boat_63 rfl ?_
            refine AW.getI af_X12_235_117 sr_117_12 dX12_boat_64 ?_
            refine AW.iload_n 2 dX12_boat_67 rfl ?_
            obtain ⟨k9, h⟩ := hK h
            obtain ⟨g10, e11, h⟩ := hBe h
            refine AW.iast kc_125 sk_125 k9 dX12_boat_68 e11 ?_
            refine AW.aloadr_n 0 dX12_boat_69 rfl ?_
            refine AW.getR af_X12_38_117 sr_117_8 dX12_boat_70 ?_
            refine AW.aloadr_n 0 dX12_boat_73 rfl ?_
            refine AW.getI af_X12_235_117 sr_117_12 dX12_boat_74 ?_
            refine AW.iload_n 3 dX12_boat_77 rfl ?_
            obtain ⟨k12, h⟩ := hK h
            obtain ⟨g13, e14, h⟩ := hBe h
            refine AW.iast kc_126 sk_126 k12 dX12_boat_78 e14 ?_
            refine AW.aloadr_n 0 dX12_boat_79 rfl ?_
            refine AW.getR af_X12_41_117 sr_117_9 dX12_boat_80 ?_
            refine AW.aloadr_n 0 dX12_boat_83 rfl ?_
            refine AW.getI af_X12_235_117 sr_117_12 dX12_boat_84 ?_
            refine AW.iload 4 dX12_boat_87 rfl ?_
            obtain ⟨k15, h⟩ := hK h
            obtain ⟨g16, e17, h⟩ := hBe h
            refine AW.iast kc_127 sk_127 k15 dX12_boat_89 e17 ?_
            refine AW.aloadr_n 0 dX12_boat_90 rfl ?_
            refine AW.duprr dX12_boat_91 ?_
            refine AW.getI af_X12_235_117 sr_117_12 dX12_boat_92 ?_
            refine AW.iconst dX12_boat_95 ?_
            refine AW.iadd dX12_boat_96 ?_
            obtain ⟨g18, e19, h⟩ := hBe h
            refine AW.putI ap_X12_235_117 sr_117_12 dX12_boat_97 e19 ?_
            refine AW.aloadr_n 0 dX12_boat_100 rfl ?_
            refine AW.getI af_X12_235_117 sr_117_12 dX12_boat_101 ?_
            refine AW.iconst dX12_boat_104 ?_
            refine AW.isub dX12_boat_105 ?_
            exact AW.iret1 rfl dX12_boat_106 h rfl
          · replace h := hT h c5
            refine AW.iconst dX12_boat_47 ?_
            exact AW.iret1 rfl dX12_boat_48 h rfl
set_option synthInstance.maxHeartbeats 2000000 in
theorem M_feed_b_ok {z : AZ} {d : Nat} (hdd : 0 ≤ d) {x1 : Int} {x2 : Int} {x3 : Int} {x4 : Int} {x5 : Int} : ∀ (x6 : Int) (g : AG) (r : Int × AG), M_feed_b x1 x2 x3 x4 x5 x6 g = some r → AW z (RX12, cX12_feed, 8, (some .int)) d (QD (some .int) r) 18 [(0, rv z 117), (1, iv x1), (2, iv x2), (3, iv x3), (4, iv x4), (5, iv x5), (6, iv x6)] [] g := by
  refine M_feed_b.partial_correctness x1 x2 x3 x4 x5 (fun x6 g r => AW z (RX12, cX12_feed, 8, (some .int)) d (QD (some .int) r) 18 [(0, rv z 117), (1, iv x1), (2, iv x2), (3, iv x3), (4, iv x4), (5, iv x5), (6, iv x6)] [] g) ?_
  intro fb9 ih x6 g r h
  refine AW.iload 6 dX12_feed_18 rfl ?_
  refine AW.bipush dX12_feed_20 (by decide) (by decide) ?_
  refine AW.icmp_ge (tgt := 115) dX12_feed_22 (by decide) (fun c1 => ?_) (fun c1 => ?_)
  · replace h := hT h c1
    refine AW.aloadr_n 0 dX12_feed_115 rfl ?_
    refine AW.getI af_X12_242_117 sr_117_37 dX12_feed_116 ?_
    exact AW.iret1 rfl dX12_feed_119 h rfl
  · replace h := hF h c1
    refine AW.iload 6 dX12_feed_25 rfl ?_
    refine AW.iconst dX12_feed_27 ?_
    obtain ⟨t2, e3, h⟩ := hBe h
    refine AW.join (tgt := 71) (lv1 := [(0, rv z 117), (1, iv x1), (2, iv x2), (3, iv x3), (4, iv x4), (5, iv x5), (6, iv x6)]) (st1 := [iv t2]) (g1 := g) ?_ (fun J28 => ?_)
    · refine AW.istore (lv1 := [(7, iv t2), (0, rv z 117), (1, iv x1), (2, iv x2), (3, iv x3), (4, iv x4), (5, iv x5), (6, iv x6)]) dX12_feed_71 (by decide) rfl ?_
      refine AW.aloadr_n 1 dX12_feed_73 rfl ?_
      refine AW.getR af_X12_103_117 sr_117_31 dX12_feed_74 ?_
      refine AW.aloadr_n 1 dX12_feed_77 rfl ?_
      refine AW.getI af_X12_242_117 sr_117_37 dX12_feed_78 ?_
      refine AW.iload 0 dX12_feed_81 rfl ?_
      refine AW.bipush dX12_feed_83 (by decide) (by decide) ?_
      refine AW.bipush dX12_feed_85 (by decide) (by decide) ?_
      refine AW.iload 7 dX12_feed_87 rfl ?_
      refine AW.iconst dX12_feed_89 ?_
      refine AW.irem dX12_feed_90 (by decide) ?_
      refine AW.imul dX12_feed_91 ?_
      refine AW.isub dX12_feed_92 ?_
      refine AW.ishr dX12_feed_93 ?_
      refine AW.sipush dX12_feed_94 (by decide) (by decide) ?_
      refine AW.iand dX12_feed_97 ?_
      obtain ⟨k4, h⟩ := hK h
      obtain ⟨g5, e6, h⟩ := hBe h
      refine AW.iast kc_146 sk_146 k4 dX12_feed_98 e6 ?_
      refine AW.aloadr_n 1 dX12_feed_99 rfl ?_
      refine AW.duprr dX12_feed_100 ?_
      refine AW.getI af_X12_242_117 sr_117_37 dX12_feed_101 ?_
      refine AW.iconst dX12_feed_104 ?_
      refine AW.iadd dX12_feed_105 ?_
      obtain ⟨g7, e8, h⟩ := hBe h
      refine AW.putI ap_X12_242_117 sr_117_37 dX12_feed_106 e8 ?_
      refine AW.iinc (lv1 := [(6, iv (x6 + 1)), (7, iv t2), (0, rv z 117), (1, iv x1), (2, iv x2), (3, iv x3), (4, iv x4), (5, iv x5)]) 7 dX12_feed_109 rfl (by decide) rfl ?_
      refine AW.goto (tgt := 18) dX12_feed_112 (by decide) ?_
      refine AW.sub (lv1 := [(0, rv z 117), (1, iv x1), (2, iv x2), (3, iv x3), (4, iv x4), (5, iv x5), (6, iv (x6 + 1))]) [2, 3, 4, 5, 6, 7, 0] rfl ?_
      exact ih _ _ _ h
    refine AW.icmp_ge (tgt := 35) dX12_feed_28 (by decide) (fun c9 => ?_) (fun c9 => ?_)
    · refine AW.iload 6 dX12_feed_35 rfl ?_
      refine AW.bipush dX12_feed_37 (by decide) (by decide) ?_
      refine AW.icmp_ge (tgt := 46) dX12_feed_39 (by decide) (fun c10 => ?_) (fun c10 => ?_)
      · refine AW.iload 6 dX12_feed_46 rfl ?_
        refine AW.bipush dX12_feed_48 (by decide) (by decide) ?_
        refine AW.icmp_ge (tgt := 57) dX12_feed_50 (by decide) (fun c11 => ?_) (fun c11 => ?_)
        · refine AW.iload 6 dX12_feed_57 rfl ?_
          refine AW.bipush dX12_feed_59 (by decide) (by decide) ?_
          refine AW.icmp_ge (tgt := 69) dX12_feed_61 (by decide) (fun c12 => ?_) (fun c12 => ?_)
          · refine AW.iload 5 dX12_feed_69 rfl ?_
            exact AW.val (e3.trans ((if_pos c9).trans ((if_pos c10).trans ((if_pos c11).trans (if_pos c12))))) J28
          · refine AW.iload 4 dX12_feed_64 rfl ?_
            refine AW.goto (tgt := 71) dX12_feed_66 (by decide) ?_
            exact AW.val (e3.trans ((if_pos c9).trans ((if_pos c10).trans ((if_pos c11).trans (if_neg c12))))) J28
        · refine AW.iload_n 3 dX12_feed_53 rfl ?_
          refine AW.goto (tgt := 71) dX12_feed_54 (by decide) ?_
          exact AW.val (e3.trans ((if_pos c9).trans ((if_pos c10).trans (if_neg c11)))) J28
      · refine AW.iload_n 2 dX12_feed_42 rfl ?_
        refine AW.goto (tgt := 71) dX12_feed_43 (by decide) ?_
        exact AW.val (e3.trans ((if_pos c9).trans (if_neg c10))) J28
    · refine AW.iload_n 1 dX12_feed_31 rfl ?_
      refine AW.goto (tgt := 71) dX12_feed_32 (by decide) ?_
      exact AW.val (e3.trans (if_neg c9)) J28
theorem M_feed_ok {z : AZ} {x1 : Int} {x2 : Int} {x3 : Int} {x4 : Int} {x5 : Int} {g : AG} {r : Int × AG} (h : M_feed x1 x2 x3 x4 x5 g = some r) : AMf z yX12_feed cX12_feed 8 (some .int) 0 [rv z 117, iv x1, iv x2, iv x3, iv x4, iv x5] g r := by
  intro d hdd
  refine AM.of (by decide +kernel) (Nat.le_of_ble_eq_true rfl) ?_
  show AW z (RX12, cX12_feed, 8, (some .int)) d (QD (some .int) r) 0 [(0, rv z 117), (1, iv x1), (2, iv x2), (3, iv x3), (4, iv x4), (5, iv x5)] [] g
  unfold M_feed at h
  refine AW.aloadr_n 0 dX12_feed_0 rfl ?_
  refine AW.getI af_X12_242_117 sr_117_37 dX12_feed_1 ?_
  refine AW.bipush dX12_feed_4 (by decide) (by decide) ?_
  refine AW.iadd dX12_feed_6 ?_
  refine AW.sipush dX12_feed_7 (by decide) (by decide) ?_
  refine AW.icmp_le (tgt := 15) dX12_feed_10 (by decide) (fun c1 => ?_) (fun c1 => ?_)
  · replace h := hT h c1
    refine AW.iconst dX12_feed_15 ?_
    refine AW.istore (lv1 := [(6, iv 0), (0, rv z 117), (1, iv x1), (2, iv x2), (3, iv x3), (4, iv x4), (5, iv x5)]) dX12_feed_16 (by decide) rfl ?_
    refine AW.sub (lv1 := [(0, rv z 117), (1, iv x1), (2, iv x2), (3, iv x3), (4, iv x4), (5, iv x5), (6, iv 0)]) [1, 2, 3, 4, 5, 6, 0] rfl ?_
    exact M_feed_b_ok hdd _ _ _ h
  · replace h := hF h c1
    refine AW.iconst dX12_feed_13 ?_
    exact AW.iret1 rfl dX12_feed_14 h rfl
theorem M_end_ok {z : AZ} {x1 : Int} {g : AG} {r : Int × AG} (h : M_end x1 g = some r) : AMf z yX12_end cX12_end 2 (some .boolean) 1 [rv z 117, iv x1] g r := by
  intro d hdd
  refine AM.of (by decide +kernel) (Nat.le_of_ble_eq_true rfl) ?_
  show AW z (RX12, cX12_end, 2, (some .boolean)) d (QD (some .boolean) r) 0 [(0, rv z 117), (1, iv x1)] [] g
  unfold M_end at h
  refine AW.iload_n 1 dX12_end_0 rfl ?_
  refine AW.iconst dX12_end_1 ?_
  refine AW.aloadr_n 0 dX12_end_2 rfl ?_
  refine AW.getI af_X12_242_117 sr_117_37 dX12_end_3 ?_
  refine AW.callSi (As := [iv x1, iv 0, iv (g 117 37)]) (st := []) M_isIn_ok cq_X12_3 st_X12_isIn (Nat.le_trans (by decide) hdd) rfl dX12_end_6 rfl (Nat.le_of_ble_eq_true rfl) ?_
  refine AW.if_ne (tgt := 14) dX12_end_9 (by decide) (fun c1 => ?_) (fun c1 => ?_)
  · replace h := hF h c1
    refine AW.aloadr_n 0 dX12_end_14 rfl ?_
    refine AW.iload_n 1 dX12_end_15 rfl ?_
    obtain ⟨g2, e3, h⟩ := hBe h
    refine AW.putI ap_X12_242_117 sr_117_37 dX12_end_16 e3 ?_
    refine AW.iconst dX12_end_19 ?_
    exact AW.zret1 rfl (Or.inr rfl) dX12_end_20 h rfl
  · replace h := hT h c1
    refine AW.iconst dX12_end_12 ?_
    exact AW.zret1 rfl (Or.inl rfl) dX12_end_13 h rfl
theorem M_see_ok {z : AZ} {x1 : Int} {g : AG} {r : Int} (h : M_see x1 g = some r) : AMf z yX12_see cX12_see 2 (some .int) 0 [rv z 117, iv x1] g (r, g) := by
  intro d hdd
  refine AM.of (by decide +kernel) (Nat.le_of_ble_eq_true rfl) ?_
  show AW z (RX12, cX12_see, 2, (some .int)) d (QD (some .int) (r, g)) 0 [(0, rv z 117), (1, iv x1)] [] g
  unfold M_see at h
  refine AW.iload_n 1 dX12_see_0 rfl ?_
  refine AW.aloadr_n 0 dX12_see_1 rfl ?_
  refine AW.getI af_X12_242_117 sr_117_37 dX12_see_2 ?_
  obtain ⟨r3, e4, h⟩ := hC h
  refine AW.join (tgt := 18) (lv1 := []) (st1 := [iv r3]) (g1 := g) ?_ (fun J5 => ?_)
  · exact AW.iret2 rfl dX12_see_18 h rfl
  replace h := e4
  refine AW.icmp_ge (tgt := 17) dX12_see_5 (by decide) (fun c1 => ?_) (fun c1 => ?_)
  · replace h := hT h c1
    refine AW.iconst dX12_see_17 ?_
    refine AW.sub (lv1 := []) [] rfl ?_
    cases h
    exact J5
  · replace h := hF h c1
    refine AW.aloadr_n 0 dX12_see_8 rfl ?_
    refine AW.getR af_X12_103_117 sr_117_31 dX12_see_9 ?_
    refine AW.iload_n 1 dX12_see_12 rfl ?_
    obtain ⟨k2, h⟩ := hK h
    refine AW.iald kc_146 sk_146 k2 dX12_see_13 ?_
    refine AW.goto (tgt := 18) dX12_see_14 (by decide) ?_
    refine AW.sub (lv1 := []) [] rfl ?_
    cases h
    exact J5
theorem M_isLetter_ok {z : AZ} {x0 : Int} {g : AG} : AMf z yX12_isLetter cX12_isLetter 1 (some .boolean) 1 [iv x0] g ((M_isLetter x0), g) := by
  intro d hdd
  refine AM.of (by decide +kernel) (Nat.le_of_ble_eq_true rfl) ?_
  show AW z (RX12, cX12_isLetter, 1, (some .boolean)) d (QD (some .boolean) ((M_isLetter x0), g)) 0 [(0, iv x0)] [] g
  refine AW.iload_n 0 dX12_isLetter_0 rfl ?_
  refine AW.bipush dX12_isLetter_1 (by decide) (by decide) ?_
  refine AW.bipush dX12_isLetter_3 (by decide) (by decide) ?_
  refine AW.callSi (As := [iv x0, iv 97, iv 122]) (st := []) M_isIn_ok cq_X12_3 st_X12_isIn (Nat.le_trans (by decide) hdd) rfl dX12_isLetter_5 rfl (Nat.le_of_ble_eq_true rfl) ?_
  refine AW.join (tgt := 27) (lv1 := [(0, iv x0)]) (st1 := [iv (if nw (M_isIn x0 97 122) = 0 then (if nw (M_isIn x0 65 90) = 0 then 0 else 1) else 1)]) (g1 := g) ?_ (fun J8 => ?_)
  · exact AW.zret rfl (by (repeat' split) <;> first | exact Or.inl rfl | exact Or.inr rfl) dX12_isLetter_27 ⟨congrArg (fun v => some (iv v)) (show M_isLetter x0  = (if nw (M_isIn x0 97 122) = 0 then (if nw (M_isIn x0 65 90) = 0 then 0 else 1) else 1) from rfl).symm, rfl⟩
  refine AW.if_ne (tgt := 22) dX12_isLetter_8 (by decide) (fun c1 => ?_) (fun c1 => ?_)
  · refine AW.iconst dX12_isLetter_22 ?_
    refine AW.goto (tgt := 27) dX12_isLetter_23 (by decide) ?_
    exact AW.val (if_neg c1) J8
  · refine AW.iload_n 0 dX12_isLetter_11 rfl ?_
    refine AW.bipush dX12_isLetter_12 (by decide) (by decide) ?_
    refine AW.bipush dX12_isLetter_14 (by decide) (by decide) ?_
    refine AW.callSi (As := [iv x0, iv 65, iv 90]) (st := []) M_isIn_ok cq_X12_3 st_X12_isIn (Nat.le_trans (by decide) hdd) rfl dX12_isLetter_16 rfl (Nat.le_of_ble_eq_true rfl) ?_
    refine AW.if_eq (tgt := 26) dX12_isLetter_19 (by decide) (fun c2 => ?_) (fun c2 => ?_)
    · refine AW.iconst dX12_isLetter_26 ?_
      exact AW.val ((if_pos c1).trans (if_pos c2)) J8
    · refine AW.iconst dX12_isLetter_22 ?_
      refine AW.goto (tgt := 27) dX12_isLetter_23 (by decide) ?_
      exact AW.val ((if_pos c1).trans (if_neg c2)) J8
theorem M_isDigit_ok {z : AZ} {x0 : Int} {g : AG} : AMf z yX12_isDigit cX12_isDigit 1 (some .boolean) 1 [iv x0] g ((M_isDigit x0), g) := by
  intro d hdd
  refine AM.of (by decide +kernel) (Nat.le_of_ble_eq_true rfl) ?_
  show AW z (RX12, cX12_isDigit, 1, (some .boolean)) d (QD (some .boolean) ((M_isDigit x0), g)) 0 [(0, iv x0)] [] g
  refine AW.iload_n 0 dX12_isDigit_0 rfl ?_
  refine AW.bipush dX12_isDigit_1 (by decide) (by decide) ?_
  refine AW.bipush dX12_isDigit_3 (by decide) (by decide) ?_
  refine AW.callSi (As := [iv x0, iv 48, iv 57]) (st := []) M_isIn_ok cq_X12_3 st_X12_isIn (Nat.le_trans (by decide) hdd) rfl dX12_isDigit_5 rfl (Nat.le_of_ble_eq_true rfl) ?_
  exact AW.zret rfl M_isIn_01 dX12_isDigit_8 ⟨congrArg (fun v => some (iv v)) (show M_isDigit x0  = (M_isIn x0 48 57) from rfl).symm, rfl⟩
set_option synthInstance.maxHeartbeats 2000000 in
theorem M_is_b_ok {z : AZ} {s1 : Nat} (hs : s1 < 22) {d : Nat} (hdd : 5 ≤ d) {g : AG} : ∀ (x2 : Int) (x3 : Int) (r : Int), M_is_b s1 g x2 x3 = some r → AW z (RX12, cX12_is, 4, (some .boolean)) d (QD (some .boolean) (r, g)) 24 [(0, rv z 117), (1, sv z s1), (2, iv x2), (3, iv x3)] [] g := by
  refine M_is_b.partial_correctness s1 g (fun x2 x3 r => AW z (RX12, cX12_is, 4, (some .boolean)) d (QD (some .boolean) (r, g)) 24 [(0, rv z 117), (1, sv z s1), (2, iv x2), (3, iv x3)] [] g) ?_
  intro fb9 ih x2 x3 r h
  refine AW.iload_n 3 dX12_is_24 rfl ?_
  refine AW.aloads_n 1 dX12_is_25 rfl ?_
  refine AW.tLen cq_X12_251 hs (Nat.le_trans (by decide) hdd) dX12_is_26 (Nat.le_of_ble_eq_true rfl) ?_
  refine AW.icmp_ge (tgt := 67) dX12_is_29 (by decide) (fun c1 => ?_) (fun c1 => ?_)
  · replace h := hT h c1
    refine AW.iload_n 2 dX12_is_67 rfl ?_
    obtain ⟨k2, h⟩ := hK h
    exact AW.zret2 rfl k2 dX12_is_68 h rfl
  · replace h := hF h c1
    refine AW.iload_n 2 dX12_is_32 rfl ?_
    refine AW.if_eq (tgt := 67) dX12_is_33 (by decide) (fun c3 => ?_) (fun c3 => ?_)
    · replace h := hT h c3
      refine AW.iload_n 2 dX12_is_67 rfl ?_
      obtain ⟨k4, h⟩ := hK h
      exact AW.zret2 rfl k4 dX12_is_68 h rfl
    · replace h := hF h c3
      refine AW.aloadr_n 0 dX12_is_36 rfl ?_
      refine AW.getR af_X12_103_117 sr_117_31 dX12_is_37 ?_
      refine AW.aloadr_n 0 dX12_is_40 rfl ?_
      refine AW.getI af_X12_248_117 sr_117_40 dX12_is_41 ?_
      refine AW.iload_n 3 dX12_is_44 rfl ?_
      refine AW.iadd dX12_is_45 ?_
      obtain ⟨k5, h⟩ := hK h
      refine AW.iald kc_146 sk_146 k5 dX12_is_46 ?_
      refine AW.aloads_n 1 dX12_is_47 rfl ?_
      refine AW.iload_n 3 dX12_is_48 rfl ?_
      obtain ⟨k6, h⟩ := hK h
      refine AW.tCh cq_X12_257 hs k6 (Nat.le_trans (by decide) hdd) dX12_is_49 (Nat.le_of_ble_eq_true rfl) ?_
      obtain ⟨t7, e8, h⟩ := hBe h
      refine AW.join (tgt := 60) (lv1 := [(0, rv z 117), (1, sv z s1), (2, iv x2), (3, iv x3)]) (st1 := [iv t7]) (g1 := g) ?_ (fun J52 => ?_)
      · refine AW.istore_n (lv1 := [(2, iv t7), (0, rv z 117), (1, sv z s1), (3, iv x3)]) dX12_is_60 (by decide) rfl ?_
        refine AW.iinc (lv1 := [(3, iv (x3 + 1)), (2, iv t7), (0, rv z 117), (1, sv z s1)]) 3 dX12_is_61 rfl (by decide) rfl ?_
        refine AW.goto (tgt := 24) dX12_is_64 (by decide) ?_
        refine AW.sub (lv1 := [(0, rv z 117), (1, sv z s1), (2, iv t7), (3, iv (x3 + 1))]) [2, 3, 1, 0] rfl ?_
        exact ih _ _ _ h
      refine AW.icmp_ne (tgt := 59) dX12_is_52 (by decide) (fun c9 => ?_) (fun c9 => ?_)
      · refine AW.iconst dX12_is_59 ?_
        exact AW.val (e8.trans (if_neg c9)) J52
      · refine AW.iconst dX12_is_55 ?_
        refine AW.goto (tgt := 60) dX12_is_56 (by decide) ?_
        exact AW.val (e8.trans (if_pos c9)) J52
theorem M_is_ok {z : AZ} {s1 : Nat} {g : AG} {r : Int} (hs : s1 < 22) (h : M_is s1 g = some r) : AMf z yX12_is cX12_is 4 (some .boolean) 5 [rv z 117, sv z s1] g (r, g) := by
  intro d hdd
  refine AM.of (by decide +kernel) (Nat.le_of_ble_eq_true rfl) ?_
  show AW z (RX12, cX12_is, 4, (some .boolean)) d (QD (some .boolean) (r, g)) 0 [(0, rv z 117), (1, sv z s1)] [] g
  unfold M_is at h
  refine AW.aloadr_n 0 dX12_is_0 rfl ?_
  refine AW.getI af_X12_245_117 sr_117_38 dX12_is_1 ?_
  refine AW.aloadr_n 0 dX12_is_4 rfl ?_
  refine AW.getI af_X12_248_117 sr_117_40 dX12_is_5 ?_
  refine AW.isub dX12_is_8 ?_
  refine AW.aloads_n 1 dX12_is_9 rfl ?_
  refine AW.tLen cq_X12_251 hs (Nat.le_trans (by decide) hdd) dX12_is_10 (Nat.le_of_ble_eq_true rfl) ?_
  obtain ⟨t1, e2, h⟩ := hBe h
  refine AW.join (tgt := 21) (lv1 := [(0, rv z 117), (1, sv z s1)]) (st1 := [iv t1]) (g1 := g) ?_ (fun J13 => ?_)
  · refine AW.istore_n (lv1 := [(2, iv t1), (0, rv z 117), (1, sv z s1)]) dX12_is_21 (by decide) rfl ?_
    refine AW.iconst dX12_is_22 ?_
    refine AW.istore_n (lv1 := [(3, iv 0), (2, iv t1), (0, rv z 117), (1, sv z s1)]) dX12_is_23 (by decide) rfl ?_
    refine AW.sub (lv1 := [(0, rv z 117), (1, sv z s1), (2, iv t1), (3, iv 0)]) [2, 3, 1, 0] rfl ?_
    exact M_is_b_ok hs hdd _ _ _ h
  refine AW.icmp_ne (tgt := 20) dX12_is_13 (by decide) (fun c3 => ?_) (fun c3 => ?_)
  · refine AW.iconst dX12_is_20 ?_
    exact AW.val (e2.trans (if_neg c3)) J13
  · refine AW.iconst dX12_is_16 ?_
    refine AW.goto (tgt := 21) dX12_is_17 (by decide) ?_
    exact AW.val (e2.trans (if_pos c3)) J13
theorem M_word_ok {z : AZ} {g : AG} {r : Int} (h : M_word g = some r) : AMf z yX12_word cX12_word 1 (some .int) 6 [rv z 117] g (r, g) := by
  intro d hdd
  refine AM.of (by decide +kernel) (Nat.le_of_ble_eq_true rfl) ?_
  show AW z (RX12, cX12_word, 1, (some .int)) d (QD (some .int) (r, g)) 0 [(0, rv z 117)] [] g
  unfold M_word at h
  refine AW.aloadr_n 0 dX12_word_0 rfl ?_
  refine AW.ldcSw dX12_word_1 sw_X12_261 ?_
  obtain ⟨r1, e2, h⟩ := hC h
  refine AW.callVi (As := [sv z 2]) (st := []) (M_is_ok (by decide) e2) cq_X12_262 cr_117_X12_is (Nat.le_trans (by decide) hdd) rfl dX12_word_4 rfl (Nat.le_of_ble_eq_true rfl) ?_
  refine AW.if_eq (tgt := 13) dX12_word_7 (by decide) (fun c3 => ?_) (fun c3 => ?_)
  · replace h := hT h c3
    refine AW.aloadr_n 0 dX12_word_13 rfl ?_
    refine AW.ldcSw dX12_word_14 sw_X12_266 ?_
    obtain ⟨r4, e5, h⟩ := hC h
    refine AW.callVi (As := [sv z 3]) (st := []) (M_is_ok (by decide) e5) cq_X12_262 cr_117_X12_is (Nat.le_trans (by decide) hdd) rfl dX12_word_17 rfl (Nat.le_of_ble_eq_true rfl) ?_
    refine AW.if_eq (tgt := 26) dX12_word_20 (by decide) (fun c6 => ?_) (fun c6 => ?_)
    · replace h := hT h c6
      refine AW.aloadr_n 0 dX12_word_26 rfl ?_
      refine AW.ldcSw dX12_word_27 sw_X12_267 ?_
      obtain ⟨r7, e8, h⟩ := hC h
      refine AW.callVi (As := [sv z 4]) (st := []) (M_is_ok (by decide) e8) cq_X12_262 cr_117_X12_is (Nat.le_trans (by decide) hdd) rfl dX12_word_30 rfl (Nat.le_of_ble_eq_true rfl) ?_
      refine AW.if_eq (tgt := 39) dX12_word_33 (by decide) (fun c9 => ?_) (fun c9 => ?_)
      · replace h := hT h c9
        refine AW.aloadr_n 0 dX12_word_39 rfl ?_
        refine AW.ldcSw dX12_word_40 sw_X12_269 ?_
        obtain ⟨r10, e11, h⟩ := hC h
        refine AW.callVi (As := [sv z 5]) (st := []) (M_is_ok (by decide) e11) cq_X12_262 cr_117_X12_is (Nat.le_trans (by decide) hdd) rfl dX12_word_43 rfl (Nat.le_of_ble_eq_true rfl) ?_
        refine AW.if_eq (tgt := 52) dX12_word_46 (by decide) (fun c12 => ?_) (fun c12 => ?_)
        · replace h := hT h c12
          refine AW.aloadr_n 0 dX12_word_52 rfl ?_
          refine AW.ldcSw dX12_word_53 sw_X12_271 ?_
          obtain ⟨r13, e14, h⟩ := hC h
          refine AW.callVi (As := [sv z 6]) (st := []) (M_is_ok (by decide) e14) cq_X12_262 cr_117_X12_is (Nat.le_trans (by decide) hdd) rfl dX12_word_56 rfl (Nat.le_of_ble_eq_true rfl) ?_
          refine AW.if_eq (tgt := 65) dX12_word_59 (by decide) (fun c15 => ?_) (fun c15 => ?_)
          · replace h := hT h c15
            refine AW.aloadr_n 0 dX12_word_65 rfl ?_
            refine AW.ldcSw dX12_word_66 sw_X12_273 ?_
            obtain ⟨r16, e17, h⟩ := hC h
            refine AW.callVi (As := [sv z 7]) (st := []) (M_is_ok (by decide) e17) cq_X12_262 cr_117_X12_is (Nat.le_trans (by decide) hdd) rfl dX12_word_69 rfl (Nat.le_of_ble_eq_true rfl) ?_
            refine AW.if_eq (tgt := 78) dX12_word_72 (by decide) (fun c18 => ?_) (fun c18 => ?_)
            · replace h := hT h c18
              refine AW.aloadr_n 0 dX12_word_78 rfl ?_
              refine AW.ldcSw dX12_word_79 sw_X12_275 ?_
              obtain ⟨r19, e20, h⟩ := hC h
              refine AW.callVi (As := [sv z 8]) (st := []) (M_is_ok (by decide) e20) cq_X12_262 cr_117_X12_is (Nat.le_trans (by decide) hdd) rfl dX12_word_82 rfl (Nat.le_of_ble_eq_true rfl) ?_
              refine AW.if_eq (tgt := 91) dX12_word_85 (by decide) (fun c21 => ?_) (fun c21 => ?_)
              · replace h := hT h c21
                refine AW.aloadr_n 0 dX12_word_91 rfl ?_
                refine AW.ldcSw dX12_word_92 sw_X12_277 ?_
                obtain ⟨r22, e23, h⟩ := hC h
                refine AW.callVi (As := [sv z 9]) (st := []) (M_is_ok (by decide) e23) cq_X12_262 cr_117_X12_is (Nat.le_trans (by decide) hdd) rfl dX12_word_95 rfl (Nat.le_of_ble_eq_true rfl) ?_
                refine AW.if_eq (tgt := 104) dX12_word_98 (by decide) (fun c24 => ?_) (fun c24 => ?_)
                · replace h := hT h c24
                  refine AW.aloadr_n 0 dX12_word_104 rfl ?_
                  refine AW.ldcSw dX12_word_105 sw_X12_279 ?_
                  obtain ⟨r25, e26, h⟩ := hC h
                  refine AW.callVi (As := [sv z 10]) (st := []) (M_is_ok (by decide) e26) cq_X12_262 cr_117_X12_is (Nat.le_trans (by decide) hdd) rfl dX12_word_108 rfl (Nat.le_of_ble_eq_true rfl) ?_
                  refine AW.if_eq (tgt := 116) dX12_word_111 (by decide) (fun c27 => ?_) (fun c27 => ?_)
                  · replace h := hT h c27
                    refine AW.aloadr_n 0 dX12_word_116 rfl ?_
                    refine AW.ldcSw dX12_word_117 sw_X12_281 ?_
                    obtain ⟨r28, e29, h⟩ := hC h
                    refine AW.callVi (As := [sv z 11]) (st := []) (M_is_ok (by decide) e29) cq_X12_262 cr_117_X12_is (Nat.le_trans (by decide) hdd) rfl dX12_word_120 rfl (Nat.le_of_ble_eq_true rfl) ?_
                    refine AW.if_eq (tgt := 128) dX12_word_123 (by decide) (fun c30 => ?_) (fun c30 => ?_)
                    · replace h := hT h c30
                      refine AW.aloadr_n 0 dX12_word_128 rfl ?_
                      refine AW.ldcSw dX12_word_129 sw_X12_283 ?_
                      obtain ⟨r31, e32, h⟩ := hC h
                      refine AW.callVi (As := [sv z 12]) (st := []) (M_is_ok (by decide) e32) cq_X12_262 cr_117_X12_is (Nat.le_trans (by decide) hdd) rfl dX12_word_132 rfl (Nat.le_of_ble_eq_true rfl) ?_
                      refine AW.if_eq (tgt := 140) dX12_word_135 (by decide) (fun c33 => ?_) (fun c33 => ?_)
                      · replace h := hT h c33
                        refine AW.aloadr_n 0 dX12_word_140 rfl ?_
                        refine AW.ldcSw dX12_word_141 sw_X12_285 ?_
                        obtain ⟨r34, e35, h⟩ := hC h
                        refine AW.callVi (As := [sv z 13]) (st := []) (M_is_ok (by decide) e35) cq_X12_262 cr_117_X12_is (Nat.le_trans (by decide) hdd) rfl dX12_word_144 rfl (Nat.le_of_ble_eq_true rfl) ?_
                        refine AW.if_eq (tgt := 153) dX12_word_147 (by decide) (fun c36 => ?_) (fun c36 => ?_)
                        · replace h := hT h c36
                          refine AW.aloadr_n 0 dX12_word_153 rfl ?_
                          refine AW.ldcSw dX12_word_154 sw_X12_287 ?_
                          obtain ⟨r37, e38, h⟩ := hC h
                          refine AW.callVi (As := [sv z 14]) (st := []) (M_is_ok (by decide) e38) cq_X12_262 cr_117_X12_is (Nat.le_trans (by decide) hdd) rfl dX12_word_157 rfl (Nat.le_of_ble_eq_true rfl) ?_
                          refine AW.if_eq (tgt := 166) dX12_word_160 (by decide) (fun c39 => ?_) (fun c39 => ?_)
                          · replace h := hT h c39
                            refine AW.aloadr_n 0 dX12_word_166 rfl ?_
                            refine AW.ldcSw dX12_word_167 sw_X12_289 ?_
                            obtain ⟨r40, e41, h⟩ := hC h
                            refine AW.callVi (As := [sv z 15]) (st := []) (M_is_ok (by decide) e41) cq_X12_262 cr_117_X12_is (Nat.le_trans (by decide) hdd) rfl dX12_word_170 rfl (Nat.le_of_ble_eq_true rfl) ?_
                            refine AW.if_eq (tgt := 179) dX12_word_173 (by decide) (fun c42 => ?_) (fun c42 => ?_)
                            · replace h := hT h c42
                              refine AW.aloadr_n 0 dX12_word_179 rfl ?_
                              refine AW.ldcSw dX12_word_180 sw_X12_291 ?_
                              obtain ⟨r43, e44, h⟩ := hC h
                              refine AW.callVi (As := [sv z 16]) (st := []) (M_is_ok (by decide) e44) cq_X12_262 cr_117_X12_is (Nat.le_trans (by decide) hdd) rfl dX12_word_183 rfl (Nat.le_of_ble_eq_true rfl) ?_
                              refine AW.if_eq (tgt := 192) dX12_word_186 (by decide) (fun c45 => ?_) (fun c45 => ?_)
                              · replace h := hT h c45
                                refine AW.aloadr_n 0 dX12_word_192 rfl ?_
                                refine AW.ldcSw dX12_word_193 sw_X12_292 ?_
                                obtain ⟨r46, e47, h⟩ := hC h
                                refine AW.callVi (As := [sv z 17]) (st := []) (M_is_ok (by decide) e47) cq_X12_262 cr_117_X12_is (Nat.le_trans (by decide) hdd) rfl dX12_word_196 rfl (Nat.le_of_ble_eq_true rfl) ?_
                                refine AW.if_eq (tgt := 205) dX12_word_199 (by decide) (fun c48 => ?_) (fun c48 => ?_)
                                · replace h := hT h c48
                                  refine AW.aloadr_n 0 dX12_word_205 rfl ?_
                                  refine AW.ldcSw dX12_word_206 sw_X12_294 ?_
                                  obtain ⟨r49, e50, h⟩ := hC h
                                  refine AW.callVi (As := [sv z 18]) (st := []) (M_is_ok (by decide) e50) cq_X12_262 cr_117_X12_is (Nat.le_trans (by decide) hdd) rfl dX12_word_209 rfl (Nat.le_of_ble_eq_true rfl) ?_
                                  refine AW.if_eq (tgt := 218) dX12_word_212 (by decide) (fun c51 => ?_) (fun c51 => ?_)
                                  · replace h := hT h c51
                                    refine AW.aloadr_n 0 dX12_word_218 rfl ?_
                                    refine AW.ldcSw dX12_word_219 sw_X12_296 ?_
                                    obtain ⟨r52, e53, h⟩ := hC h
                                    refine AW.callVi (As := [sv z 19]) (st := []) (M_is_ok (by decide) e53) cq_X12_262 cr_117_X12_is (Nat.le_trans (by decide) hdd) rfl dX12_word_222 rfl (Nat.le_of_ble_eq_true rfl) ?_
                                    refine AW.if_eq (tgt := 231) dX12_word_225 (by decide) (fun c54 => ?_) (fun c54 => ?_)
                                    · replace h := hT h c54
                                      refine AW.aloadr_n 0 dX12_word_231 rfl ?_
                                      refine AW.ldcSw dX12_word_232 sw_X12_298 ?_
                                      obtain ⟨r55, e56, h⟩ := hC h
                                      refine AW.callVi (As := [sv z 20]) (st := []) (M_is_ok (by decide) e56) cq_X12_262 cr_117_X12_is (Nat.le_trans (by decide) hdd) rfl dX12_word_235 rfl (Nat.le_of_ble_eq_true rfl) ?_
                                      refine AW.if_eq (tgt := 244) dX12_word_238 (by decide) (fun c57 => ?_) (fun c57 => ?_)
                                      · replace h := hT h c57
                                        refine AW.aloadr_n 0 dX12_word_244 rfl ?_
                                        refine AW.ldcSw dX12_word_245 sw_X12_300 ?_
                                        obtain ⟨r58, e59, h⟩ := hC h
                                        refine AW.callVi (As := [sv z 21]) (st := []) (M_is_ok (by decide) e59) cq_X12_262 cr_117_X12_is (Nat.le_trans (by decide) hdd) rfl dX12_word_248 rfl (Nat.le_of_ble_eq_true rfl) ?_
                                        obtain ⟨t60, e61, h⟩ := hBe h
                                        refine AW.join (tgt := 260) (lv1 := [(0, rv z 117)]) (st1 := [iv t60]) (g1 := g) ?_ (fun J251 => ?_)
                                        · exact AW.iret2 rfl dX12_word_260 h rfl
                                        refine AW.if_eq (tgt := 259) dX12_word_251 (by decide) (fun c62 => ?_) (fun c62 => ?_)
                                        · refine AW.iconst dX12_word_259 ?_
                                          exact AW.val (e61.trans (if_pos c62)) J251
                                        · refine AW.bipush dX12_word_254 (by decide) (by decide) ?_
                                          refine AW.goto (tgt := 260) dX12_word_256 (by decide) ?_
                                          exact AW.val (e61.trans (if_neg c62)) J251
                                      · replace h := hF h c57
                                        refine AW.bipush dX12_word_241 (by decide) (by decide) ?_
                                        exact AW.iret2 rfl dX12_word_243 h rfl
                                    · replace h := hF h c54
                                      refine AW.bipush dX12_word_228 (by decide) (by decide) ?_
                                      exact AW.iret2 rfl dX12_word_230 h rfl
                                  · replace h := hF h c51
                                    refine AW.bipush dX12_word_215 (by decide) (by decide) ?_
                                    exact AW.iret2 rfl dX12_word_217 h rfl
                                · replace h := hF h c48
                                  refine AW.bipush dX12_word_202 (by decide) (by decide) ?_
                                  exact AW.iret2 rfl dX12_word_204 h rfl
                              · replace h := hF h c45
                                refine AW.bipush dX12_word_189 (by decide) (by decide) ?_
                                exact AW.iret2 rfl dX12_word_191 h rfl
                            · replace h := hF h c42
                              refine AW.bipush dX12_word_176 (by decide) (by decide) ?_
                              exact AW.iret2 rfl dX12_word_178 h rfl
                          · replace h := hF h c39
                            refine AW.bipush dX12_word_163 (by decide) (by decide) ?_
                            exact AW.iret2 rfl dX12_word_165 h rfl
                        · replace h := hF h c36
                          refine AW.bipush dX12_word_150 (by decide) (by decide) ?_
                          exact AW.iret2 rfl dX12_word_152 h rfl
                      · replace h := hF h c33
                        refine AW.iconst dX12_word_138 ?_
                        exact AW.iret2 rfl dX12_word_139 h rfl
                    · replace h := hF h c30
                      refine AW.iconst dX12_word_126 ?_
                      exact AW.iret2 rfl dX12_word_127 h rfl
                  · replace h := hF h c27
                    refine AW.iconst dX12_word_114 ?_
                    exact AW.iret2 rfl dX12_word_115 h rfl
                · replace h := hF h c24
                  refine AW.bipush dX12_word_101 (by decide) (by decide) ?_
                  exact AW.iret2 rfl dX12_word_103 h rfl
              · replace h := hF h c21
                refine AW.bipush dX12_word_88 (by decide) (by decide) ?_
                exact AW.iret2 rfl dX12_word_90 h rfl
            · replace h := hF h c18
              refine AW.bipush dX12_word_75 (by decide) (by decide) ?_
              exact AW.iret2 rfl dX12_word_77 h rfl
          · replace h := hF h c15
            refine AW.bipush dX12_word_62 (by decide) (by decide) ?_
            exact AW.iret2 rfl dX12_word_64 h rfl
        · replace h := hF h c12
          refine AW.bipush dX12_word_49 (by decide) (by decide) ?_
          exact AW.iret2 rfl dX12_word_51 h rfl
      · replace h := hF h c9
        refine AW.bipush dX12_word_36 (by decide) (by decide) ?_
        exact AW.iret2 rfl dX12_word_38 h rfl
    · replace h := hF h c6
      refine AW.bipush dX12_word_23 (by decide) (by decide) ?_
      exact AW.iret2 rfl dX12_word_25 h rfl
  · replace h := hF h c3
    refine AW.bipush dX12_word_10 (by decide) (by decide) ?_
    exact AW.iret2 rfl dX12_word_12 h rfl
set_option synthInstance.maxHeartbeats 2000000 in
theorem M_next0_b_ok {z : AZ} {d : Nat} (hdd : 7 ≤ d) : ∀ (tag : Nat) (g : AG) (r : Int × AG), M_next0_b tag g = some r → (tag = 1 → AW z (RX12, cX12_next0, 3, none) d (QD none r) 0 [(0, rv z 117)] [] g) ∧ (tag = 2 → AW z (RX12, cX12_next0, 3, none) d (QD none r) 26 [(0, rv z 117)] [] g) ∧ (tag = 3 → AW z (RX12, cX12_next0, 3, none) d (QD none r) 76 [(0, rv z 117)] [] g) ∧ (tag = 4 → AW z (RX12, cX12_next0, 3, none) d (QD none r) 126 [(0, rv z 117)] [] g) := by
  refine M_next0_b.partial_correctness (fun tag g r => (tag = 1 → AW z (RX12, cX12_next0, 3, none) d (QD none r) 0 [(0, rv z 117)] [] g) ∧ (tag = 2 → AW z (RX12, cX12_next0, 3, none) d (QD none r) 26 [(0, rv z 117)] [] g) ∧ (tag = 3 → AW z (RX12, cX12_next0, 3, none) d (QD none r) 76 [(0, rv z 117)] [] g) ∧ (tag = 4 → AW z (RX12, cX12_next0, 3, none) d (QD none r) 126 [(0, rv z 117)] [] g)) ?_
  intro fb9 ih tag g r h
  refine ⟨fun h9 => ?_, fun h9 => ?_, fun h9 => ?_, fun h9 => ?_⟩
  · subst h9
    replace h := hT h rfl
    refine AW.aloadr_n 0 dX12_next0_0 rfl ?_
    refine AW.aloadr_n 0 dX12_next0_1 rfl ?_
    refine AW.getI af_X12_245_117 sr_117_38 dX12_next0_2 ?_
    obtain ⟨r1, e2, h⟩ := hC h
    refine AW.callVi (As := [iv (g 117 38)]) (st := []) (M_see_ok e2) cq_X12_302 cr_117_X12_see (Nat.le_trans (by decide) hdd) rfl dX12_next0_5 rfl (Nat.le_of_ble_eq_true rfl) ?_
    refine AW.bipush dX12_next0_8 (by decide) (by decide) ?_
    refine AW.icmp_eq (tgt := 26) dX12_next0_10 (by decide) (fun c3 => ?_) (fun c3 => ?_)
    · replace h := hT h c3
      exact (ih _ _ _ h).2.1 rfl
    · replace h := hF h c3
      refine AW.aloadr_n 0 dX12_next0_13 rfl ?_
      refine AW.aloadr_n 0 dX12_next0_14 rfl ?_
      refine AW.getI af_X12_245_117 sr_117_38 dX12_next0_15 ?_
      obtain ⟨r4, e5, h⟩ := hC h
      refine AW.callVi (As := [iv (g 117 38)]) (st := []) (M_see_ok e5) cq_X12_302 cr_117_X12_see (Nat.le_trans (by decide) hdd) rfl dX12_next0_18 rfl (Nat.le_of_ble_eq_true rfl) ?_
      refine AW.bipush dX12_next0_21 (by decide) (by decide) ?_
      refine AW.icmp_ne (tgt := 39) dX12_next0_23 (by decide) (fun c6 => ?_) (fun c6 => ?_)
      · replace h := hF h c6
        refine AW.aloadr_n 0 dX12_next0_39 rfl ?_
        refine AW.aloadr_n 0 dX12_next0_40 rfl ?_
        refine AW.getI af_X12_245_117 sr_117_38 dX12_next0_41 ?_
        obtain ⟨g7, e8, h⟩ := hBe h
        refine AW.putI ap_X12_248_117 sr_117_40 dX12_next0_44 e8 ?_
        refine AW.aloadr_n 0 dX12_next0_47 rfl ?_
        refine AW.aloadr_n 0 dX12_next0_48 rfl ?_
        refine AW.getI af_X12_245_117 sr_117_38 dX12_next0_49 ?_
        obtain ⟨r9, e10, h⟩ := hC h
        refine AW.callVi (As := [iv (g7 117 38)]) (st := []) (M_see_ok e10) cq_X12_302 cr_117_X12_see (Nat.le_trans (by decide) hdd) rfl dX12_next0_52 rfl (Nat.le_of_ble_eq_true rfl) ?_
        refine AW.istore_n (lv1 := [(1, iv r9), (0, rv z 117)]) dX12_next0_55 (by decide) rfl ?_
        refine AW.iload_n 0 dX12_next0_56 rfl ?_
        refine AW.iconst dX12_next0_57 ?_
        refine AW.icmp_ne (tgt := 69) dX12_next0_58 (by decide) (fun c11 => ?_) (fun c11 => ?_)
        · replace h := hF h c11
          refine AW.iload_n 0 dX12_next0_69 rfl ?_
          refine AW.callSi (As := [iv r9]) (st := []) M_isLetter_ok cq_X12_309 st_X12_isLetter (Nat.le_trans (by decide) hdd) rfl dX12_next0_70 rfl (Nat.le_of_ble_eq_true rfl) ?_
          refine AW.if_eq (tgt := 114) dX12_next0_73 (by decide) (fun c12 => ?_) (fun c12 => ?_)
          · replace h := hT h c12
            refine AW.iload_n 0 dX12_next0_114 rfl ?_
            refine AW.callSi (As := [iv r9]) (st := []) M_isDigit_ok cq_X12_315 st_X12_isDigit (Nat.le_trans (by decide) hdd) rfl dX12_next0_115 rfl (Nat.le_of_ble_eq_true rfl) ?_
            refine AW.if_eq (tgt := 214) dX12_next0_118 (by decide) (fun c13 => ?_) (fun c13 => ?_)
            · replace h := hT h c13
              refine AW.aloadr_n 1 dX12_next0_214 rfl ?_
              refine AW.duprr dX12_next0_215 ?_
              refine AW.getI af_X12_245_117 sr_117_38 dX12_next0_216 ?_
              refine AW.iconst dX12_next0_219 ?_
              refine AW.iadd dX12_next0_220 ?_
              obtain ⟨g14, e15, h⟩ := hBe h
              refine AW.putI ap_X12_245_117 sr_117_38 dX12_next0_221 e15 ?_
              refine AW.iload_n 0 dX12_next0_224 rfl ?_
              refine AW.bipush dX12_next0_225 (by decide) (by decide) ?_
              obtain ⟨t16, e17, h⟩ := hBe h
              refine AW.join (tgt := 289) (lv1 := [(1, iv r9), (0, rv z 117)]) (st1 := [iv t16]) (g1 := g14) ?_ (fun J227 => ?_)
              · refine AW.istore_n (lv1 := [(2, iv t16), (1, iv r9), (0, rv z 117)]) dX12_next0_289 (by decide) rfl ?_
                refine AW.aloadr_n 2 dX12_next0_290 rfl ?_
                refine AW.iload_n 0 dX12_next0_291 rfl ?_
                obtain ⟨t18, e19, h⟩ := hBe h
                refine AW.join (tgt := 303) (lv1 := [(2, iv t16), (1, iv r9), (0, rv z 117)]) (st1 := [iv t18, rv z 117]) (g1 := g14) ?_ (fun J292 => ?_)
                · obtain ⟨g20, e21, h⟩ := hBe h
                  refine AW.putI ap_X12_306_117 sr_117_39 dX12_next0_303 e21 ?_
                  exact AW.vret1 rfl dX12_next0_306 h rfl
                refine AW.if_eq (tgt := 302) dX12_next0_292 (by decide) (fun c22 => ?_) (fun c22 => ?_)
                · refine AW.iconst dX12_next0_302 ?_
                  exact AW.val (e19.trans (if_pos c22)) J292
                · refine AW.bipush dX12_next0_295 (by decide) (by decide) ?_
                  refine AW.iload_n 1 dX12_next0_297 rfl ?_
                  refine AW.iadd dX12_next0_298 ?_
                  refine AW.goto (tgt := 303) dX12_next0_299 (by decide) ?_
                  exact AW.val (e19.trans (if_neg c22)) J292
              refine AW.icmp_eq (tgt := 284) dX12_next0_227 (by decide) (fun c23 => ?_) (fun c23 => ?_)
              · refine AW.iconst dX12_next0_284 ?_
                refine AW.goto (tgt := 289) dX12_next0_285 (by decide) ?_
                exact AW.val (e17.trans (if_pos c23)) J227
              · refine AW.iload_n 0 dX12_next0_230 rfl ?_
                refine AW.bipush dX12_next0_231 (by decide) (by decide) ?_
                refine AW.icmp_eq (tgt := 284) dX12_next0_233 (by decide) (fun c24 => ?_) (fun c24 => ?_)
                · refine AW.iconst dX12_next0_284 ?_
                  refine AW.goto (tgt := 289) dX12_next0_285 (by decide) ?_
                  exact AW.val (e17.trans ((if_neg c23).trans (if_pos c24))) J227
                · refine AW.iload_n 0 dX12_next0_236 rfl ?_
                  refine AW.bipush dX12_next0_237 (by decide) (by decide) ?_
                  refine AW.icmp_eq (tgt := 284) dX12_next0_239 (by decide) (fun c25 => ?_) (fun c25 => ?_)
                  · refine AW.iconst dX12_next0_284 ?_
                    refine AW.goto (tgt := 289) dX12_next0_285 (by decide) ?_
                    exact AW.val (e17.trans ((if_neg c23).trans ((if_neg c24).trans (if_pos c25)))) J227
                  · refine AW.iload_n 0 dX12_next0_242 rfl ?_
                    refine AW.bipush dX12_next0_243 (by decide) (by decide) ?_
                    refine AW.icmp_eq (tgt := 284) dX12_next0_245 (by decide) (fun c26 => ?_) (fun c26 => ?_)
                    · refine AW.iconst dX12_next0_284 ?_
                      refine AW.goto (tgt := 289) dX12_next0_285 (by decide) ?_
                      exact AW.val (e17.trans ((if_neg c23).trans ((if_neg c24).trans ((if_neg c25).trans (if_pos c26))))) J227
                    · refine AW.iload_n 0 dX12_next0_248 rfl ?_
                      refine AW.bipush dX12_next0_249 (by decide) (by decide) ?_
                      refine AW.icmp_eq (tgt := 284) dX12_next0_251 (by decide) (fun c27 => ?_) (fun c27 => ?_)
                      · refine AW.iconst dX12_next0_284 ?_
                        refine AW.goto (tgt := 289) dX12_next0_285 (by decide) ?_
                        exact AW.val (e17.trans ((if_neg c23).trans ((if_neg c24).trans ((if_neg c25).trans ((if_neg c26).trans (if_pos c27)))))) J227
                      · refine AW.iload_n 0 dX12_next0_254 rfl ?_
                        refine AW.bipush dX12_next0_255 (by decide) (by decide) ?_
                        refine AW.icmp_eq (tgt := 284) dX12_next0_257 (by decide) (fun c28 => ?_) (fun c28 => ?_)
                        · refine AW.iconst dX12_next0_284 ?_
                          refine AW.goto (tgt := 289) dX12_next0_285 (by decide) ?_
                          exact AW.val (e17.trans ((if_neg c23).trans ((if_neg c24).trans ((if_neg c25).trans ((if_neg c26).trans ((if_neg c27).trans (if_pos c28))))))) J227
                        · refine AW.iload_n 0 dX12_next0_260 rfl ?_
                          refine AW.bipush dX12_next0_261 (by decide) (by decide) ?_
                          refine AW.icmp_eq (tgt := 284) dX12_next0_263 (by decide) (fun c29 => ?_) (fun c29 => ?_)
                          · refine AW.iconst dX12_next0_284 ?_
                            refine AW.goto (tgt := 289) dX12_next0_285 (by decide) ?_
                            exact AW.val (e17.trans ((if_neg c23).trans ((if_neg c24).trans ((if_neg c25).trans ((if_neg c26).trans ((if_neg c27).trans ((if_neg c28).trans (if_pos c29)))))))) J227
                          · refine AW.iload_n 0 dX12_next0_266 rfl ?_
                            refine AW.bipush dX12_next0_267 (by decide) (by decide) ?_
                            refine AW.icmp_eq (tgt := 284) dX12_next0_269 (by decide) (fun c30 => ?_) (fun c30 => ?_)
                            · refine AW.iconst dX12_next0_284 ?_
                              refine AW.goto (tgt := 289) dX12_next0_285 (by decide) ?_
                              exact AW.val (e17.trans ((if_neg c23).trans ((if_neg c24).trans ((if_neg c25).trans ((if_neg c26).trans ((if_neg c27).trans ((if_neg c28).trans ((if_neg c29).trans (if_pos c30))))))))) J227
                            · refine AW.iload_n 0 dX12_next0_272 rfl ?_
                              refine AW.bipush dX12_next0_273 (by decide) (by decide) ?_
                              refine AW.icmp_eq (tgt := 284) dX12_next0_275 (by decide) (fun c31 => ?_) (fun c31 => ?_)
                              · refine AW.iconst dX12_next0_284 ?_
                                refine AW.goto (tgt := 289) dX12_next0_285 (by decide) ?_
                                exact AW.val (e17.trans ((if_neg c23).trans ((if_neg c24).trans ((if_neg c25).trans ((if_neg c26).trans ((if_neg c27).trans ((if_neg c28).trans ((if_neg c29).trans ((if_neg c30).trans (if_pos c31)))))))))) J227
                              · refine AW.iload_n 0 dX12_next0_278 rfl ?_
                                refine AW.bipush dX12_next0_279 (by decide) (by decide) ?_
                                refine AW.icmp_ne (tgt := 288) dX12_next0_281 (by decide) (fun c32 => ?_) (fun c32 => ?_)
                                · refine AW.iconst dX12_next0_288 ?_
                                  exact AW.val (e17.trans ((if_neg c23).trans ((if_neg c24).trans ((if_neg c25).trans ((if_neg c26).trans ((if_neg c27).trans ((if_neg c28).trans ((if_neg c29).trans ((if_neg c30).trans ((if_neg c31).trans (if_neg c32))))))))))) J227
                                · refine AW.iconst dX12_next0_284 ?_
                                  refine AW.goto (tgt := 289) dX12_next0_285 (by decide) ?_
                                  exact AW.val (e17.trans ((if_neg c23).trans ((if_neg c24).trans ((if_neg c25).trans ((if_neg c26).trans ((if_neg c27).trans ((if_neg c28).trans ((if_neg c29).trans ((if_neg c30).trans ((if_neg c31).trans (if_pos c32))))))))))) J227
            · replace h := hF h c13
              refine AW.aloadr_n 1 dX12_next0_121 rfl ?_
              refine AW.iconst dX12_next0_122 ?_
              obtain ⟨g33, e34, h⟩ := hBe h
              refine AW.putI ap_X12_318_117 sr_117_41 dX12_next0_123 e34 ?_
              refine AW.sub (lv1 := [(0, rv z 117)]) [1] rfl ?_
              exact (ih _ _ _ h).2.2.2 rfl
          · replace h := hF h c12
            refine AW.sub (lv1 := [(0, rv z 117)]) [1] rfl ?_
            exact (ih _ _ _ h).2.2.1 rfl
        · replace h := hT h c11
          refine AW.aloadr_n 1 dX12_next0_61 rfl ?_
          refine AW.iconst dX12_next0_62 ?_
          obtain ⟨g35, e36, h⟩ := hBe h
          refine AW.putI ap_X12_306_117 sr_117_39 dX12_next0_63 e36 ?_
          refine AW.goto (tgt := 306) dX12_next0_66 (by decide) ?_
          exact AW.vret1 rfl dX12_next0_306 h rfl
      · replace h := hT h c6
        exact (ih _ _ _ h).2.1 rfl
  · subst h9
    replace h := hF h (by decide)
    replace h := hT h rfl
    refine AW.aloadr_n 0 dX12_next0_26 rfl ?_
    refine AW.duprr dX12_next0_27 ?_
    refine AW.getI af_X12_245_117 sr_117_38 dX12_next0_28 ?_
    refine AW.iconst dX12_next0_31 ?_
    refine AW.iadd dX12_next0_32 ?_
    obtain ⟨g1, e2, h⟩ := hBe h
    refine AW.putI ap_X12_245_117 sr_117_38 dX12_next0_33 e2 ?_
    refine AW.goto (tgt := 0) dX12_next0_36 (by decide) ?_
    exact (ih _ _ _ h).1 rfl
  · subst h9
    replace h := hF h (by decide)
    replace h := hF h (by decide)
    replace h := hT h rfl
    refine AW.aloadr_n 0 dX12_next0_76 rfl ?_
    refine AW.aloadr_n 0 dX12_next0_77 rfl ?_
    refine AW.getI af_X12_245_117 sr_117_38 dX12_next0_78 ?_
    obtain ⟨r1, e2, h⟩ := hC h
    refine AW.callVi (As := [iv (g 117 38)]) (st := []) (M_see_ok e2) cq_X12_302 cr_117_X12_see (Nat.le_trans (by decide) hdd) rfl dX12_next0_81 rfl (Nat.le_of_ble_eq_true rfl) ?_
    refine AW.callSi (As := [iv r1]) (st := []) M_isLetter_ok cq_X12_309 st_X12_isLetter (Nat.le_trans (by decide) hdd) rfl dX12_next0_84 rfl (Nat.le_of_ble_eq_true rfl) ?_
    refine AW.if_eq (tgt := 103) dX12_next0_87 (by decide) (fun c3 => ?_) (fun c3 => ?_)
    · replace h := hT h c3
      refine AW.aloadr_n 0 dX12_next0_103 rfl ?_
      refine AW.aloadr_n 0 dX12_next0_104 rfl ?_
      obtain ⟨r4, e5, h⟩ := hC h
      refine AW.callVi (As := []) (st := [rv z 117]) (M_word_ok e5) cq_X12_312 cr_117_X12_word (Nat.le_trans (by decide) hdd) rfl dX12_next0_105 rfl (Nat.le_of_ble_eq_true rfl) ?_
      obtain ⟨g6, e7, h⟩ := hBe h
      refine AW.putI ap_X12_306_117 sr_117_39 dX12_next0_108 e7 ?_
      refine AW.goto (tgt := 306) dX12_next0_111 (by decide) ?_
      exact AW.vret1 rfl dX12_next0_306 h rfl
    · replace h := hF h c3
      refine AW.aloadr_n 0 dX12_next0_90 rfl ?_
      refine AW.duprr dX12_next0_91 ?_
      refine AW.getI af_X12_245_117 sr_117_38 dX12_next0_92 ?_
      refine AW.iconst dX12_next0_95 ?_
      refine AW.iadd dX12_next0_96 ?_
      obtain ⟨g8, e9, h⟩ := hBe h
      refine AW.putI ap_X12_245_117 sr_117_38 dX12_next0_97 e9 ?_
      refine AW.goto (tgt := 76) dX12_next0_100 (by decide) ?_
      exact (ih _ _ _ h).2.2.1 rfl
  · subst h9
    replace h := hF h (by decide)
    replace h := hF h (by decide)
    replace h := hF h (by decide)
    replace h := hT h rfl
    refine AW.aloadr_n 0 dX12_next0_126 rfl ?_
    refine AW.aloadr_n 0 dX12_next0_127 rfl ?_
    refine AW.getI af_X12_245_117 sr_117_38 dX12_next0_128 ?_
    obtain ⟨r1, e2, h⟩ := hC h
    refine AW.callVi (As := [iv (g 117 38)]) (st := []) (M_see_ok e2) cq_X12_302 cr_117_X12_see (Nat.le_trans (by decide) hdd) rfl dX12_next0_131 rfl (Nat.le_of_ble_eq_true rfl) ?_
    refine AW.callSi (As := [iv r1]) (st := []) M_isDigit_ok cq_X12_315 st_X12_isDigit (Nat.le_trans (by decide) hdd) rfl dX12_next0_134 rfl (Nat.le_of_ble_eq_true rfl) ?_
    refine AW.if_eq (tgt := 189) dX12_next0_137 (by decide) (fun c3 => ?_) (fun c3 => ?_)
    · replace h := hT h c3
      refine AW.aloadr_n 0 dX12_next0_189 rfl ?_
      refine AW.aloadr_n 0 dX12_next0_190 rfl ?_
      refine AW.getI af_X12_245_117 sr_117_38 dX12_next0_191 ?_
      refine AW.aloadr_n 0 dX12_next0_194 rfl ?_
      refine AW.getI af_X12_248_117 sr_117_40 dX12_next0_195 ?_
      refine AW.isub dX12_next0_198 ?_
      refine AW.iconst dX12_next0_199 ?_
      obtain ⟨t4, e5, h⟩ := hBe h
      refine AW.join (tgt := 208) (lv1 := [(0, rv z 117)]) (st1 := [iv t4, rv z 117]) (g1 := g) ?_ (fun J200 => ?_)
      · obtain ⟨g6, e7, h⟩ := hBe h
        refine AW.putI ap_X12_306_117 sr_117_39 dX12_next0_208 e7 ?_
        refine AW.goto (tgt := 306) dX12_next0_211 (by decide) ?_
        exact AW.vret1 rfl dX12_next0_306 h rfl
      refine AW.icmp_ge (tgt := 207) dX12_next0_200 (by decide) (fun c8 => ?_) (fun c8 => ?_)
      · refine AW.iconst dX12_next0_207 ?_
        exact AW.val (e5.trans (if_pos c8)) J200
      · refine AW.iconst dX12_next0_203 ?_
        refine AW.goto (tgt := 208) dX12_next0_204 (by decide) ?_
        exact AW.val (e5.trans (if_neg c8)) J200
    · replace h := hF h c3
      refine AW.aloadr_n 0 dX12_next0_140 rfl ?_
      refine AW.getI af_X12_245_117 sr_117_38 dX12_next0_141 ?_
      refine AW.aloadr_n 0 dX12_next0_144 rfl ?_
      refine AW.getI af_X12_248_117 sr_117_40 dX12_next0_145 ?_
      refine AW.iconst dX12_next0_148 ?_
      refine AW.iadd dX12_next0_149 ?_
      obtain ⟨r14, e15, h⟩ := hC h
      refine AW.join (tgt := 176) (lv1 := [(0, rv z 117)]) (st1 := []) (g1 := r14) ?_ (fun J150 => ?_)
      · refine AW.aloadr_n 0 dX12_next0_176 rfl ?_
        refine AW.duprr dX12_next0_177 ?_
        refine AW.getI af_X12_245_117 sr_117_38 dX12_next0_178 ?_
        refine AW.iconst dX12_next0_181 ?_
        refine AW.iadd dX12_next0_182 ?_
        obtain ⟨g16, e17, h⟩ := hBe h
        refine AW.putI ap_X12_245_117 sr_117_38 dX12_next0_183 e17 ?_
        refine AW.goto (tgt := 126) dX12_next0_186 (by decide) ?_
        exact (ih _ _ _ h).2.2.2 rfl
      replace h := e15
      refine AW.icmp_ge (tgt := 176) dX12_next0_150 (by decide) (fun c9 => ?_) (fun c9 => ?_)
      · replace h := hT h c9
        cases h
        exact J150
      · replace h := hF h c9
        refine AW.aloadr_n 0 dX12_next0_153 rfl ?_
        refine AW.bipush dX12_next0_154 (by decide) (by decide) ?_
        refine AW.aloadr_n 0 dX12_next0_156 rfl ?_
        refine AW.getI af_X12_318_117 sr_117_41 dX12_next0_157 ?_
        refine AW.imul dX12_next0_160 ?_
        refine AW.aloadr_n 0 dX12_next0_161 rfl ?_
        refine AW.aloadr_n 0 dX12_next0_162 rfl ?_
        refine AW.getI af_X12_245_117 sr_117_38 dX12_next0_163 ?_
        obtain ⟨r10, e11, h⟩ := hC h
        refine AW.callVi (As := [iv (g 117 38)]) (st := [iv (10 * (g 117 41)), rv z 117]) (M_see_ok e11) cq_X12_302 cr_117_X12_see (Nat.le_trans (by decide) hdd) rfl dX12_next0_166 rfl (Nat.le_of_ble_eq_true rfl) ?_
        refine AW.iadd dX12_next0_169 ?_
        refine AW.bipush dX12_next0_170 (by decide) (by decide) ?_
        refine AW.isub dX12_next0_172 ?_
        obtain ⟨g12, e13, h⟩ := hBe h
        refine AW.putI ap_X12_318_117 sr_117_41 dX12_next0_173 e13 ?_
        cases h
        exact J150
theorem M_next0_ok {z : AZ} {g : AG} {r : Int × AG} (h : M_next0 g = some r) : AMf z yX12_next0 cX12_next0 3 none 7 [rv z 117] g r := by
  intro d hdd
  refine AM.of (by decide +kernel) (Nat.le_of_ble_eq_true rfl) ?_
  show AW z (RX12, cX12_next0, 3, none) d (QD none r) 0 [(0, rv z 117)] [] g
  unfold M_next0 at h
  exact (M_next0_b_ok hdd _ _ _ h).1 rfl
theorem M_bad_ok {z : AZ} {x1 : Int} {g : AG} {r : Int × AG} (h : M_bad x1 g = some r) : AMf z yX12_bad cX12_bad 2 (some .boolean) 0 [rv z 117, iv x1] g r := by
  intro d hdd
  refine AM.of (by decide +kernel) (Nat.le_of_ble_eq_true rfl) ?_
  show AW z (RX12, cX12_bad, 2, (some .boolean)) d (QD (some .boolean) r) 0 [(0, rv z 117), (1, iv x1)] [] g
  unfold M_bad at h
  refine AW.aloadr_n 0 dX12_bad_0 rfl ?_
  refine AW.iload_n 1 dX12_bad_1 rfl ?_
  obtain ⟨g1, e2, h⟩ := hBe h
  refine AW.putI ap_X12_321_117 sr_117_42 dX12_bad_2 e2 ?_
  refine AW.aloadr_n 0 dX12_bad_5 rfl ?_
  refine AW.aloadr_n 0 dX12_bad_6 rfl ?_
  refine AW.getI af_X12_248_117 sr_117_40 dX12_bad_7 ?_
  obtain ⟨g3, e4, h⟩ := hBe h
  refine AW.putI ap_X12_324_117 sr_117_43 dX12_bad_10 e4 ?_
  refine AW.iconst dX12_bad_13 ?_
  exact AW.zret1 rfl (Or.inl rfl) dX12_bad_14 h rfl
theorem M_lay_ok {z : AZ} {x1 : Int} {x2 : Int} {g : AG} {r : Int × AG} (h : M_lay x1 x2 g = some r) : AMf z yX12_lay cX12_lay 3 none 0 [rv z 117, iv x1, iv x2] g r := by
  intro d hdd
  refine AM.of (by decide +kernel) (Nat.le_of_ble_eq_true rfl) ?_
  show AW z (RX12, cX12_lay, 3, none) d (QD none r) 0 [(0, rv z 117), (1, iv x1), (2, iv x2)] [] g
  unfold M_lay at h
  refine AW.aloadr_n 0 dX12_lay_0 rfl ?_
  refine AW.getR af_X12_87_117 sr_117_26 dX12_lay_1 ?_
  refine AW.iconst dX12_lay_4 ?_
  refine AW.aloadr_n 0 dX12_lay_5 rfl ?_
  refine AW.getI af_X12_333_117 sr_117_36 dX12_lay_6 ?_
  refine AW.imul dX12_lay_9 ?_
  refine AW.iload_n 1 dX12_lay_10 rfl ?_
  obtain ⟨k1, h⟩ := hK h
  obtain ⟨g2, e3, h⟩ := hBe h
  refine AW.iast kc_141 sk_141 k1 dX12_lay_11 e3 ?_
  refine AW.aloadr_n 0 dX12_lay_12 rfl ?_
  refine AW.getR af_X12_87_117 sr_117_26 dX12_lay_13 ?_
  refine AW.iconst dX12_lay_16 ?_
  refine AW.aloadr_n 0 dX12_lay_17 rfl ?_
  refine AW.getI af_X12_333_117 sr_117_36 dX12_lay_18 ?_
  refine AW.imul dX12_lay_21 ?_
  refine AW.iconst dX12_lay_22 ?_
  refine AW.iadd dX12_lay_23 ?_
  refine AW.iload_n 2 dX12_lay_24 rfl ?_
  obtain ⟨k4, h⟩ := hK h
  obtain ⟨g5, e6, h⟩ := hBe h
  refine AW.iast kc_141 sk_141 k4 dX12_lay_25 e6 ?_
  refine AW.aloadr_n 0 dX12_lay_26 rfl ?_
  refine AW.duprr dX12_lay_27 ?_
  refine AW.getI af_X12_333_117 sr_117_36 dX12_lay_28 ?_
  refine AW.iconst dX12_lay_31 ?_
  refine AW.iadd dX12_lay_32 ?_
  obtain ⟨g7, e8, h⟩ := hBe h
  refine AW.putI ap_X12_333_117 sr_117_36 dX12_lay_33 e8 ?_
  exact AW.vret1 rfl dX12_lay_36 h rfl
set_option synthInstance.maxHeartbeats 2000000 in
theorem M_unit_b_ok {z : AZ} {d : Nat} (hdd : 8 ≤ d) {x1 : Int} {g : AG} : ∀ (r : Int × AG), M_unit_b x1 g = some r → AW z (RX12, cX12_unit, 2, (some .boolean)) d (QD (some .boolean) r) 30 [(0, rv z 117), (1, iv x1)] [] g := by
  intro r h
  unfold M_unit_b at h
  refine AW.aloadr_n 0 dX12_unit_30 rfl ?_
  refine AW.iload_n 1 dX12_unit_31 rfl ?_
  obtain ⟨t1, e2, h⟩ := hBe h
  refine AW.join (tgt := 46) (lv1 := [(0, rv z 117), (1, iv x1)]) (st1 := [iv t1, rv z 117]) (g1 := g) ?_ (fun J32 => ?_)
  · refine AW.aloadr_n 0 dX12_unit_46 rfl ?_
    refine AW.getI af_X12_318_117 sr_117_41 dX12_unit_47 ?_
    obtain ⟨r3, e4, h⟩ := hC h
    refine AW.callVv (As := [iv t1, iv (g 117 41)]) (st := []) (M_lay_ok e4) cq_X12_342 cr_117_X12_lay (Nat.le_trans (by decide) hdd) rfl dX12_unit_50 rfl (Nat.le_of_ble_eq_true rfl) ?_
    refine AW.aloadr_n 0 dX12_unit_53 rfl ?_
    obtain ⟨r5, e6, h⟩ := hC h
    refine AW.callVv (As := []) (st := []) (M_next0_ok e6) cq_X12_330 cr_117_X12_next0 (Nat.le_trans (by decide) hdd) rfl dX12_unit_54 rfl (Nat.le_of_ble_eq_true rfl) ?_
    refine AW.iconst dX12_unit_57 ?_
    exact AW.zret1 rfl (Or.inr rfl) dX12_unit_58 h rfl
  refine AW.if_eq (tgt := 45) dX12_unit_32 (by decide) (fun c7 => ?_) (fun c7 => ?_)
  · refine AW.iconst dX12_unit_45 ?_
    exact AW.val (e2.trans (if_pos c7)) J32
  · refine AW.aloadr_n 0 dX12_unit_35 rfl ?_
    refine AW.getI af_X12_306_117 sr_117_39 dX12_unit_36 ?_
    refine AW.bipush dX12_unit_39 (by decide) (by decide) ?_
    refine AW.isub dX12_unit_41 ?_
    refine AW.goto (tgt := 46) dX12_unit_42 (by decide) ?_
    exact AW.val (e2.trans (if_neg c7)) J32
theorem M_unit_ok {z : AZ} {g : AG} {r : Int × AG} (h : M_unit g = some r) : AMf z yX12_unit cX12_unit 2 (some .boolean) 8 [rv z 117] g r := by
  intro d hdd
  refine AM.of (by decide +kernel) (Nat.le_of_ble_eq_true rfl) ?_
  show AW z (RX12, cX12_unit, 2, (some .boolean)) d (QD (some .boolean) r) 0 [(0, rv z 117)] [] g
  unfold M_unit at h
  refine AW.aloadr_n 0 dX12_unit_0 rfl ?_
  refine AW.getI af_X12_306_117 sr_117_39 dX12_unit_1 ?_
  refine AW.bipush dX12_unit_4 (by decide) (by decide) ?_
  refine AW.bipush dX12_unit_6 (by decide) (by decide) ?_
  refine AW.callSi (As := [iv (g 117 39), iv 41, iv 49]) (st := []) M_isIn_ok cq_X12_3 st_X12_isIn (Nat.le_trans (by decide) hdd) rfl dX12_unit_8 rfl (Nat.le_of_ble_eq_true rfl) ?_
  refine AW.istore_n (lv1 := [(1, iv (M_isIn (g 117 39) 41 49)), (0, rv z 117)]) dX12_unit_11 (by decide) rfl ?_
  refine AW.aloadr_n 1 dX12_unit_12 rfl ?_
  refine AW.getI af_X12_306_117 sr_117_39 dX12_unit_13 ?_
  refine AW.iconst dX12_unit_16 ?_
  refine AW.icmp_eq (tgt := 30) dX12_unit_17 (by decide) (fun c1 => ?_) (fun c1 => ?_)
  · replace h := hT h c1
    refine AW.sub (lv1 := [(0, rv z 117), (1, iv (M_isIn (g 117 39) 41 49))]) [1, 0] rfl ?_
    exact M_unit_b_ok hdd _ h
  · replace h := hF h c1
    refine AW.iload_n 0 dX12_unit_20 rfl ?_
    refine AW.if_ne (tgt := 30) dX12_unit_21 (by decide) (fun c2 => ?_) (fun c2 => ?_)
    · replace h := hF h c2
      refine AW.sub (lv1 := [(0, rv z 117), (1, iv (M_isIn (g 117 39) 41 49))]) [1, 0] rfl ?_
      exact M_unit_b_ok hdd _ h
    · replace h := hT h c2
      refine AW.aloadr_n 1 dX12_unit_24 rfl ?_
      refine AW.iconst dX12_unit_25 ?_
      obtain ⟨r3, e4, h⟩ := hC h
      refine AW.callVi (As := [iv 1]) (st := []) (M_bad_ok e4) cq_X12_327 cr_117_X12_bad (Nat.le_trans (by decide) hdd) rfl dX12_unit_26 rfl (Nat.le_of_ble_eq_true rfl) ?_
      obtain ⟨k5, h⟩ := hK h
      exact AW.zret1 rfl k5 dX12_unit_29 h rfl
theorem M_number_ok {z : AZ} {x1 : Int} {x2 : Int} {g : AG} {r : Int × AG} (h : M_number x1 x2 g = some r) : AMf z yX12_number cX12_number 3 (some .boolean) 8 [rv z 117, iv x1, iv x2] g r := by
  intro d hdd
  refine AM.of (by decide +kernel) (Nat.le_of_ble_eq_true rfl) ?_
  show AW z (RX12, cX12_number, 3, (some .boolean)) d (QD (some .boolean) r) 0 [(0, rv z 117), (1, iv x1), (2, iv x2)] [] g
  unfold M_number at h
  refine AW.aloadr_n 0 dX12_number_0 rfl ?_
  refine AW.getI af_X12_306_117 sr_117_39 dX12_number_1 ?_
  refine AW.iconst dX12_number_4 ?_
  refine AW.icmp_eq (tgt := 14) dX12_number_5 (by decide) (fun c1 => ?_) (fun c1 => ?_)
  · replace h := hT h c1
    refine AW.aloadr_n 0 dX12_number_14 rfl ?_
    refine AW.getI af_X12_318_117 sr_117_41 dX12_number_15 ?_
    refine AW.iload_n 1 dX12_number_18 rfl ?_
    refine AW.iload_n 2 dX12_number_19 rfl ?_
    refine AW.callSi (As := [iv (g 117 41), iv x1, iv x2]) (st := []) M_isIn_ok cq_X12_3 st_X12_isIn (Nat.le_trans (by decide) hdd) rfl dX12_number_20 rfl (Nat.le_of_ble_eq_true rfl) ?_
    refine AW.if_ne (tgt := 32) dX12_number_23 (by decide) (fun c2 => ?_) (fun c2 => ?_)
    · replace h := hF h c2
      refine AW.aloadr_n 0 dX12_number_32 rfl ?_
      obtain ⟨r3, e4, h⟩ := hC h
      refine AW.callVv (As := []) (st := []) (M_next0_ok e4) cq_X12_330 cr_117_X12_next0 (Nat.le_trans (by decide) hdd) rfl dX12_number_33 rfl (Nat.le_of_ble_eq_true rfl) ?_
      refine AW.iconst dX12_number_36 ?_
      exact AW.zret1 rfl (Or.inr rfl) dX12_number_37 h rfl
    · replace h := hT h c2
      refine AW.aloadr_n 0 dX12_number_26 rfl ?_
      refine AW.iconst dX12_number_27 ?_
      obtain ⟨r5, e6, h⟩ := hC h
      refine AW.callVi (As := [iv 2]) (st := []) (M_bad_ok e6) cq_X12_327 cr_117_X12_bad (Nat.le_trans (by decide) hdd) rfl dX12_number_28 rfl (Nat.le_of_ble_eq_true rfl) ?_
      obtain ⟨k7, h⟩ := hK h
      exact AW.zret1 rfl k7 dX12_number_31 h rfl
  · replace h := hF h c1
    refine AW.aloadr_n 0 dX12_number_8 rfl ?_
    refine AW.iconst dX12_number_9 ?_
    obtain ⟨r8, e9, h⟩ := hC h
    refine AW.callVi (As := [iv 1]) (st := []) (M_bad_ok e9) cq_X12_327 cr_117_X12_bad (Nat.le_trans (by decide) hdd) rfl dX12_number_10 rfl (Nat.le_of_ble_eq_true rfl) ?_
    obtain ⟨k10, h⟩ := hK h
    exact AW.zret1 rfl k10 dX12_number_13 h rfl
set_option synthInstance.maxHeartbeats 2000000 in
theorem M_product_b_ok {z : AZ} {d : Nat} (hdd : 9 ≤ d) : ∀ (tag : Nat) (g : AG) (r : Int × AG), M_product_b tag g = some r → (tag = 1 → AW z (RX12, cX12_product, 3, (some .boolean)) d (QD (some .boolean) r) 9 [(0, rv z 117)] [] g) ∧ (tag = 2 → AW z (RX12, cX12_product, 3, (some .boolean)) d (QD (some .boolean) r) 29 [(0, rv z 117)] [] g) ∧ (tag = 3 → AW z (RX12, cX12_product, 3, (some .boolean)) d (QD (some .boolean) r) 97 [(0, rv z 117)] [] g) := by
  refine M_product_b.partial_correctness (fun tag g r => (tag = 1 → AW z (RX12, cX12_product, 3, (some .boolean)) d (QD (some .boolean) r) 9 [(0, rv z 117)] [] g) ∧ (tag = 2 → AW z (RX12, cX12_product, 3, (some .boolean)) d (QD (some .boolean) r) 29 [(0, rv z 117)] [] g) ∧ (tag = 3 → AW z (RX12, cX12_product, 3, (some .boolean)) d (QD (some .boolean) r) 97 [(0, rv z 117)] [] g)) ?_
  intro fb9 ih tag g r h
  refine ⟨fun h9 => ?_, fun h9 => ?_, fun h9 => ?_⟩
  · subst h9
    replace h := hT h rfl
    refine AW.aloadr_n 0 dX12_product_9 rfl ?_
    refine AW.getI af_X12_306_117 sr_117_39 dX12_product_10 ?_
    refine AW.sipush dX12_product_13 (by decide) (by decide) ?_
    refine AW.icmp_eq (tgt := 29) dX12_product_16 (by decide) (fun c1 => ?_) (fun c1 => ?_)
    · replace h := hT h c1
      exact (ih _ _ _ h).2.1 rfl
    · replace h := hF h c1
      refine AW.aloadr_n 0 dX12_product_19 rfl ?_
      refine AW.getI af_X12_306_117 sr_117_39 dX12_product_20 ?_
      refine AW.sipush dX12_product_23 (by decide) (by decide) ?_
      refine AW.icmp_ne (tgt := 100) dX12_product_26 (by decide) (fun c2 => ?_) (fun c2 => ?_)
      · replace h := hF h c2
        refine AW.iconst dX12_product_100 ?_
        exact AW.zret1 rfl (Or.inr rfl) dX12_product_101 h rfl
      · replace h := hT h c2
        exact (ih _ _ _ h).2.1 rfl
  · subst h9
    replace h := hF h (by decide)
    replace h := hT h rfl
    refine AW.aloadr_n 0 dX12_product_29 rfl ?_
    refine AW.getI af_X12_306_117 sr_117_39 dX12_product_30 ?_
    refine AW.sipush dX12_product_33 (by decide) (by decide) ?_
    obtain ⟨t1, e2, h⟩ := hBe h
    refine AW.join (tgt := 44) (lv1 := [(0, rv z 117)]) (st1 := [iv t1]) (g1 := g) ?_ (fun J36 => ?_)
    · refine AW.istore_n (lv1 := [(1, iv t1), (0, rv z 117)]) dX12_product_44 (by decide) rfl ?_
      refine AW.aloadr_n 1 dX12_product_45 rfl ?_
      obtain ⟨r3, e4, h⟩ := hC h
      refine AW.callVv (As := []) (st := []) (M_next0_ok e4) cq_X12_330 cr_117_X12_next0 (Nat.le_trans (by decide) hdd) rfl dX12_product_46 rfl (Nat.le_of_ble_eq_true rfl) ?_
      refine AW.iload_n 0 dX12_product_49 rfl ?_
      refine AW.if_eq (tgt := 81) dX12_product_50 (by decide) (fun c5 => ?_) (fun c5 => ?_)
      · replace h := hT h c5
        refine AW.aloadr_n 1 dX12_product_81 rfl ?_
        obtain ⟨r6, e7, h⟩ := hC h
        refine AW.callVi (As := []) (st := []) (M_unit_ok e7) cq_X12_346 cr_117_X12_unit (Nat.le_trans (by decide) hdd) rfl dX12_product_82 rfl (Nat.le_of_ble_eq_true rfl) ?_
        refine AW.if_ne (tgt := 90) dX12_product_85 (by decide) (fun c8 => ?_) (fun c8 => ?_)
        · replace h := hF h c8
          refine AW.aloadr_n 1 dX12_product_90 rfl ?_
          refine AW.bipush dX12_product_91 (by decide) (by decide) ?_
          refine AW.iconst dX12_product_93 ?_
          obtain ⟨r9, e10, h⟩ := hC h
          refine AW.callVv (As := [iv 12, iv 0]) (st := []) (M_lay_ok e10) cq_X12_342 cr_117_X12_lay (Nat.le_trans (by decide) hdd) rfl dX12_product_94 rfl (Nat.le_of_ble_eq_true rfl) ?_
          refine AW.sub (lv1 := [(0, rv z 117)]) [1] rfl ?_
          exact (ih _ _ _ h).2.2 rfl
        · replace h := hT h c8
          refine AW.iconst dX12_product_88 ?_
          exact AW.zret1 rfl (Or.inl rfl) dX12_product_89 h rfl
      · replace h := hF h c5
        refine AW.aloadr_n 1 dX12_product_53 rfl ?_
        refine AW.getI af_X12_318_117 sr_117_41 dX12_product_54 ?_
        refine AW.istore_n (lv1 := [(2, iv (r3.2 117 41)), (1, iv t1), (0, rv z 117)]) dX12_product_57 (by decide) rfl ?_
        refine AW.aloadr_n 2 dX12_product_58 rfl ?_
        refine AW.iconst dX12_product_59 ?_
        refine AW.sipush dX12_product_60 (by decide) (by decide) ?_
        obtain ⟨r11, e12, h⟩ := hC h
        refine AW.callVi (As := [iv 1, iv 9999]) (st := []) (M_number_ok e12) cq_X12_349 cr_117_X12_number (Nat.le_trans (by decide) hdd) rfl dX12_product_63 rfl (Nat.le_of_ble_eq_true rfl) ?_
        refine AW.if_ne (tgt := 71) dX12_product_66 (by decide) (fun c13 => ?_) (fun c13 => ?_)
        · replace h := hF h c13
          refine AW.aloadr_n 2 dX12_product_71 rfl ?_
          refine AW.bipush dX12_product_72 (by decide) (by decide) ?_
          refine AW.iload_n 0 dX12_product_74 rfl ?_
          obtain ⟨r14, e15, h⟩ := hC h
          refine AW.callVv (As := [iv 13, iv (r3.2 117 41)]) (st := []) (M_lay_ok e15) cq_X12_342 cr_117_X12_lay (Nat.le_trans (by decide) hdd) rfl dX12_product_75 rfl (Nat.le_of_ble_eq_true rfl) ?_
          refine AW.goto (tgt := 97) dX12_product_78 (by decide) ?_
          refine AW.sub (lv1 := [(0, rv z 117)]) [2] rfl ?_
          exact (ih _ _ _ h).2.2 rfl
        · replace h := hT h c13
          refine AW.iconst dX12_product_69 ?_
          exact AW.zret1 rfl (Or.inl rfl) dX12_product_70 h rfl
    refine AW.icmp_ne (tgt := 43) dX12_product_36 (by decide) (fun c16 => ?_) (fun c16 => ?_)
    · refine AW.iconst dX12_product_43 ?_
      exact AW.val (e2.trans (if_neg c16)) J36
    · refine AW.iconst dX12_product_39 ?_
      refine AW.goto (tgt := 44) dX12_product_40 (by decide) ?_
      exact AW.val (e2.trans (if_pos c16)) J36
  · subst h9
    replace h := hF h (by decide)
    replace h := hF h (by decide)
    replace h := hT h rfl
    refine AW.goto (tgt := 9) dX12_product_97 (by decide) ?_
    exact (ih _ _ _ h).1 rfl
theorem M_product_ok {z : AZ} {g : AG} {r : Int × AG} (h : M_product g = some r) : AMf z yX12_product cX12_product 3 (some .boolean) 9 [rv z 117] g r := by
  intro d hdd
  refine AM.of (by decide +kernel) (Nat.le_of_ble_eq_true rfl) ?_
  show AW z (RX12, cX12_product, 3, (some .boolean)) d (QD (some .boolean) r) 0 [(0, rv z 117)] [] g
  unfold M_product at h
  refine AW.aloadr_n 0 dX12_product_0 rfl ?_
  obtain ⟨r1, e2, h⟩ := hC h
  refine AW.callVi (As := []) (st := []) (M_unit_ok e2) cq_X12_346 cr_117_X12_unit (Nat.le_trans (by decide) hdd) rfl dX12_product_1 rfl (Nat.le_of_ble_eq_true rfl) ?_
  refine AW.if_ne (tgt := 9) dX12_product_4 (by decide) (fun c3 => ?_) (fun c3 => ?_)
  · replace h := hF h c3
    exact (M_product_b_ok hdd _ _ _ h).1 rfl
  · replace h := hT h c3
    refine AW.iconst dX12_product_7 ?_
    exact AW.zret1 rfl (Or.inl rfl) dX12_product_8 h rfl
set_option synthInstance.maxHeartbeats 2000000 in
theorem M_sumUp_b_ok {z : AZ} {d : Nat} (hdd : 10 ≤ d) : ∀ (tag : Nat) (g : AG) (r : Int × AG), M_sumUp_b tag g = some r → (tag = 1 → AW z (RX12, cX12_sumUp, 2, (some .boolean)) d (QD (some .boolean) r) 9 [(0, rv z 117)] [] g) ∧ (tag = 2 → AW z (RX12, cX12_sumUp, 2, (some .boolean)) d (QD (some .boolean) r) 29 [(0, rv z 117)] [] g) := by
  refine M_sumUp_b.partial_correctness (fun tag g r => (tag = 1 → AW z (RX12, cX12_sumUp, 2, (some .boolean)) d (QD (some .boolean) r) 9 [(0, rv z 117)] [] g) ∧ (tag = 2 → AW z (RX12, cX12_sumUp, 2, (some .boolean)) d (QD (some .boolean) r) 29 [(0, rv z 117)] [] g)) ?_
  intro fb9 ih tag g r h
  refine ⟨fun h9 => ?_, fun h9 => ?_⟩
  · subst h9
    replace h := hT h rfl
    refine AW.aloadr_n 0 dX12_sumUp_9 rfl ?_
    refine AW.getI af_X12_306_117 sr_117_39 dX12_sumUp_10 ?_
    refine AW.sipush dX12_sumUp_13 (by decide) (by decide) ?_
    refine AW.icmp_eq (tgt := 29) dX12_sumUp_16 (by decide) (fun c1 => ?_) (fun c1 => ?_)
    · replace h := hT h c1
      exact (ih _ _ _ h).2 rfl
    · replace h := hF h c1
      refine AW.aloadr_n 0 dX12_sumUp_19 rfl ?_
      refine AW.getI af_X12_306_117 sr_117_39 dX12_sumUp_20 ?_
      refine AW.sipush dX12_sumUp_23 (by decide) (by decide) ?_
      refine AW.icmp_ne (tgt := 69) dX12_sumUp_26 (by decide) (fun c2 => ?_) (fun c2 => ?_)
      · replace h := hF h c2
        refine AW.iconst dX12_sumUp_69 ?_
        exact AW.zret1 rfl (Or.inr rfl) dX12_sumUp_70 h rfl
      · replace h := hT h c2
        exact (ih _ _ _ h).2 rfl
  · subst h9
    replace h := hF h (by decide)
    replace h := hT h rfl
    refine AW.aloadr_n 0 dX12_sumUp_29 rfl ?_
    refine AW.getI af_X12_306_117 sr_117_39 dX12_sumUp_30 ?_
    refine AW.sipush dX12_sumUp_33 (by decide) (by decide) ?_
    obtain ⟨t1, e2, h⟩ := hBe h
    refine AW.join (tgt := 46) (lv1 := [(0, rv z 117)]) (st1 := [iv t1]) (g1 := g) ?_ (fun J36 => ?_)
    · refine AW.istore_n (lv1 := [(1, iv t1), (0, rv z 117)]) dX12_sumUp_46 (by decide) rfl ?_
      refine AW.aloadr_n 1 dX12_sumUp_47 rfl ?_
      obtain ⟨r3, e4, h⟩ := hC h
      refine AW.callVv (As := []) (st := []) (M_next0_ok e4) cq_X12_330 cr_117_X12_next0 (Nat.le_trans (by decide) hdd) rfl dX12_sumUp_48 rfl (Nat.le_of_ble_eq_true rfl) ?_
      refine AW.aloadr_n 1 dX12_sumUp_51 rfl ?_
      obtain ⟨r5, e6, h⟩ := hC h
      refine AW.callVi (As := []) (st := []) (M_product_ok e6) cq_X12_338 cr_117_X12_product (Nat.le_trans (by decide) hdd) rfl dX12_sumUp_52 rfl (Nat.le_of_ble_eq_true rfl) ?_
      refine AW.if_ne (tgt := 60) dX12_sumUp_55 (by decide) (fun c7 => ?_) (fun c7 => ?_)
      · replace h := hF h c7
        refine AW.aloadr_n 1 dX12_sumUp_60 rfl ?_
        refine AW.iload_n 0 dX12_sumUp_61 rfl ?_
        refine AW.iconst dX12_sumUp_62 ?_
        obtain ⟨r8, e9, h⟩ := hC h
        refine AW.callVv (As := [iv t1, iv 0]) (st := []) (M_lay_ok e9) cq_X12_342 cr_117_X12_lay (Nat.le_trans (by decide) hdd) rfl dX12_sumUp_63 rfl (Nat.le_of_ble_eq_true rfl) ?_
        refine AW.goto (tgt := 9) dX12_sumUp_66 (by decide) ?_
        refine AW.sub (lv1 := [(0, rv z 117)]) [1] rfl ?_
        exact (ih _ _ _ h).1 rfl
      · replace h := hT h c7
        refine AW.iconst dX12_sumUp_58 ?_
        exact AW.zret1 rfl (Or.inl rfl) dX12_sumUp_59 h rfl
    refine AW.icmp_ne (tgt := 44) dX12_sumUp_36 (by decide) (fun c10 => ?_) (fun c10 => ?_)
    · refine AW.bipush dX12_sumUp_44 (by decide) (by decide) ?_
      exact AW.val (e2.trans (if_neg c10)) J36
    · refine AW.bipush dX12_sumUp_39 (by decide) (by decide) ?_
      refine AW.goto (tgt := 46) dX12_sumUp_41 (by decide) ?_
      exact AW.val (e2.trans (if_pos c10)) J36
theorem M_sumUp_ok {z : AZ} {g : AG} {r : Int × AG} (h : M_sumUp g = some r) : AMf z yX12_sumUp cX12_sumUp 2 (some .boolean) 10 [rv z 117] g r := by
  intro d hdd
  refine AM.of (by decide +kernel) (Nat.le_of_ble_eq_true rfl) ?_
  show AW z (RX12, cX12_sumUp, 2, (some .boolean)) d (QD (some .boolean) r) 0 [(0, rv z 117)] [] g
  unfold M_sumUp at h
  refine AW.aloadr_n 0 dX12_sumUp_0 rfl ?_
  obtain ⟨r1, e2, h⟩ := hC h
  refine AW.callVi (As := []) (st := []) (M_product_ok e2) cq_X12_338 cr_117_X12_product (Nat.le_trans (by decide) hdd) rfl dX12_sumUp_1 rfl (Nat.le_of_ble_eq_true rfl) ?_
  refine AW.if_ne (tgt := 9) dX12_sumUp_4 (by decide) (fun c3 => ?_) (fun c3 => ?_)
  · replace h := hF h c3
    exact (M_sumUp_b_ok hdd _ _ _ h).1 rfl
  · replace h := hT h c3
    refine AW.iconst dX12_sumUp_7 ?_
    exact AW.zret1 rfl (Or.inl rfl) dX12_sumUp_8 h rfl
theorem M_hours_117_136_137_ok {z : AZ} {x2 : Int} {x4 : Int} {g : AG} {r : Int × AG} (h : M_hours_117_136_137 x2 x4 g = some r) : AMf z yX12_hours cX12_hours 5 (some .boolean) 9 [rv z 117, rv z 136, iv x2, rv z 137, iv x4] g r := by
  intro d hdd
  refine AM.of (by decide +kernel) (Nat.le_of_ble_eq_true rfl) ?_
  show AW z (RX12, cX12_hours, 5, (some .boolean)) d (QD (some .boolean) r) 0 [(0, rv z 117), (1, rv z 136), (2, iv x2), (3, rv z 137), (4, iv x4)] [] g
  unfold M_hours_117_136_137 at h
  refine AW.aloadr_n 1 dX12_hours_0 rfl ?_
  refine AW.iload_n 2 dX12_hours_1 rfl ?_
  refine AW.aloadr_n 0 dX12_hours_2 rfl ?_
  refine AW.getI af_X12_318_117 sr_117_41 dX12_hours_3 ?_
  obtain ⟨k1, h⟩ := hK h
  obtain ⟨g2, e3, h⟩ := hBe h
  refine AW.iast kc_136 sk_136 k1 dX12_hours_6 e3 ?_
  refine AW.aloadr_n 0 dX12_hours_7 rfl ?_
  refine AW.iconst dX12_hours_8 ?_
  refine AW.bipush dX12_hours_9 (by decide) (by decide) ?_
  obtain ⟨r4, e5, h⟩ := hC h
  refine AW.callVi (As := [iv 0, iv 24]) (st := []) (M_number_ok e5) cq_X12_349 cr_117_X12_number (Nat.le_trans (by decide) hdd) rfl dX12_hours_11 rfl (Nat.le_of_ble_eq_true rfl) ?_
  refine AW.if_ne (tgt := 19) dX12_hours_14 (by decide) (fun c6 => ?_) (fun c6 => ?_)
  · replace h := hF h c6
    refine AW.aloadr_n 3 dX12_hours_19 rfl ?_
    refine AW.iload 4 dX12_hours_20 rfl ?_
    refine AW.aloadr_n 0 dX12_hours_22 rfl ?_
    refine AW.getI af_X12_318_117 sr_117_41 dX12_hours_23 ?_
    obtain ⟨k7, h⟩ := hK h
    obtain ⟨g8, e9, h⟩ := hBe h
    refine AW.iast kc_137 sk_137 k7 dX12_hours_26 e9 ?_
    refine AW.aloadr_n 0 dX12_hours_27 rfl ?_
    refine AW.iconst dX12_hours_28 ?_
    refine AW.bipush dX12_hours_29 (by decide) (by decide) ?_
    obtain ⟨r10, e11, h⟩ := hC h
    refine AW.callVi (As := [iv 0, iv 24]) (st := []) (M_number_ok e11) cq_X12_349 cr_117_X12_number (Nat.le_trans (by decide) hdd) rfl dX12_hours_31 rfl (Nat.le_of_ble_eq_true rfl) ?_
    obtain ⟨k12, h⟩ := hK h
    exact AW.zret1 rfl k12 dX12_hours_34 h rfl
  · replace h := hT h c6
    refine AW.iconst dX12_hours_17 ?_
    exact AW.zret1 rfl (Or.inl rfl) dX12_hours_18 h rfl
