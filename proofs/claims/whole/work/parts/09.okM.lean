theorem M_isIn_ok {z : AZ} {x0 : Int} {x1 : Int} {x2 : Int} {g : AG} : AMf z yX12_isIn cX12_isIn 3 (some .boolean) 0 [iv x0, iv x1, iv x2] g ((M_isIn x0 x1 x2), g) := by
  intro d hdd
  refine AM.of (by decide +kernel) (Nat.le_of_ble_eq_true rfl) ?_
  show AW z (RX12, cX12_isIn, 3, (some .boolean)) d (QD (some .boolean) ((M_isIn x0 x1 x2), g)) 0 [(0, iv x0), (1, iv x1), (2, iv x2)] [] g
  refine AW.iload_n 0 dX12_isIn_0 rfl ?_
  refine AW.iload_n 1 dX12_isIn_1 rfl ?_
  refine AW.join (tgt := 15) (lv1 := [(0, iv x0), (1, iv x1), (2, iv x2)]) (st1 := [iv (if nw x0 < nw x1 then 0 else (if nw x2 < nw x0 then 0 else 1))]) (g1 := g) ?_ (fun J2 => ?_)
  · exact AW.zret rfl (by (repeat' split) <;> first | exact Or.inl rfl | exact Or.inr rfl) dX12_isIn_15 ⟨congrArg (fun v => some (iv v)) (show M_isIn x0 x1 x2  = (if nw x0 < nw x1 then 0 else (if nw x2 < nw x0 then 0 else 1)) from rfl).symm, rfl⟩
  refine AW.icmp_lt (tgt := 14) dX12_isIn_2 (by decide) (fun c1 => ?_) (fun c1 => ?_)
  · refine AW.iconst dX12_isIn_14 ?_
    exact AW.val (if_pos c1) J2
  · refine AW.iload_n 0 dX12_isIn_5 rfl ?_
    refine AW.iload_n 2 dX12_isIn_6 rfl ?_
    refine AW.icmp_gt (tgt := 14) dX12_isIn_7 (by decide) (fun c2 => ?_) (fun c2 => ?_)
    · refine AW.iconst dX12_isIn_14 ?_
      exact AW.val ((if_neg c1).trans (if_pos c2)) J2
    · refine AW.iconst dX12_isIn_10 ?_
      refine AW.goto (tgt := 15) dX12_isIn_11 (by decide) ?_
      exact AW.val ((if_neg c1).trans (if_neg c2)) J2
theorem M_stretch_ok {z : AZ} {x1 : Int} {x2 : Int} {x3 : Int} {x4 : Int} {g : AG} {r : Int × AG} (h : M_stretch x1 x2 x3 x4 g = some r) : AMf z yX12_stretch cX12_stretch 5 (some .boolean) 1 [rv z 117, iv x1, iv x2, iv x3, iv x4] g r := by
  intro d hdd
  refine AM.of (by decide +kernel) (Nat.le_of_ble_eq_true rfl) ?_
  show AW z (RX12, cX12_stretch, 5, (some .boolean)) d (QD (some .boolean) r) 0 [(0, rv z 117), (1, iv x1), (2, iv x2), (3, iv x3), (4, iv x4)] [] g
  unfold M_stretch at h
  refine AW.iload_n 1 dX12_stretch_0 rfl ?_
  refine AW.iconst dX12_stretch_1 ?_
  refine AW.bipush dX12_stretch_2 (by decide) (by decide) ?_
  refine AW.callSi (As := [iv x1, iv 0, iv 14]) (st := []) M_isIn_ok cq_X12_3 st_X12_isIn (Nat.le_trans (by decide) hdd) rfl dX12_stretch_4 rfl (Nat.le_of_ble_eq_true rfl) ?_
  refine AW.if_eq (tgt := 41) dX12_stretch_7 (by decide) (fun c1 => ?_) (fun c1 => ?_)
  · replace h := hT h c1
    refine AW.iconst dX12_stretch_41 ?_
    exact AW.zret1 rfl (Or.inl rfl) dX12_stretch_42 h rfl
  · replace h := hF h c1
    refine AW.iload_n 2 dX12_stretch_10 rfl ?_
    refine AW.iconst dX12_stretch_11 ?_
    refine AW.bipush dX12_stretch_12 (by decide) (by decide) ?_
    refine AW.callSi (As := [iv x2, iv 0, iv 9]) (st := []) M_isIn_ok cq_X12_3 st_X12_isIn (Nat.le_trans (by decide) hdd) rfl dX12_stretch_14 rfl (Nat.le_of_ble_eq_true rfl) ?_
    refine AW.if_eq (tgt := 41) dX12_stretch_17 (by decide) (fun c2 => ?_) (fun c2 => ?_)
    · replace h := hT h c2
      refine AW.iconst dX12_stretch_41 ?_
      exact AW.zret1 rfl (Or.inl rfl) dX12_stretch_42 h rfl
    · replace h := hF h c2
      refine AW.iload_n 3 dX12_stretch_20 rfl ?_
      refine AW.iconst dX12_stretch_21 ?_
      refine AW.bipush dX12_stretch_22 (by decide) (by decide) ?_
      refine AW.callSi (As := [iv x3, iv 0, iv 9]) (st := []) M_isIn_ok cq_X12_3 st_X12_isIn (Nat.le_trans (by decide) hdd) rfl dX12_stretch_24 rfl (Nat.le_of_ble_eq_true rfl) ?_
      refine AW.if_eq (tgt := 41) dX12_stretch_27 (by decide) (fun c3 => ?_) (fun c3 => ?_)
      · replace h := hT h c3
        refine AW.iconst dX12_stretch_41 ?_
        exact AW.zret1 rfl (Or.inl rfl) dX12_stretch_42 h rfl
      · replace h := hF h c3
        refine AW.iload 4 dX12_stretch_30 rfl ?_
        refine AW.iconst dX12_stretch_32 ?_
        refine AW.bipush dX12_stretch_33 (by decide) (by decide) ?_
        refine AW.callSi (As := [iv x4, iv 1, iv 99]) (st := []) M_isIn_ok cq_X12_3 st_X12_isIn (Nat.le_trans (by decide) hdd) rfl dX12_stretch_35 rfl (Nat.le_of_ble_eq_true rfl) ?_
        refine AW.if_ne (tgt := 43) dX12_stretch_38 (by decide) (fun c4 => ?_) (fun c4 => ?_)
        · replace h := hF h c4
          refine AW.aloadr_n 0 dX12_stretch_43 rfl ?_
          refine AW.getR af_X12_13_117 sr_117_0 dX12_stretch_44 ?_
          refine AW.iload_n 1 dX12_stretch_47 rfl ?_
          refine AW.iload_n 2 dX12_stretch_48 rfl ?_
          obtain ⟨k5, h⟩ := hK h
          obtain ⟨g6, e7, h⟩ := hBe h
          refine AW.iast kc_118 sk_118 k5 dX12_stretch_49 e7 ?_
          refine AW.aloadr_n 0 dX12_stretch_50 rfl ?_
          refine AW.getR af_X12_17_117 sr_117_1 dX12_stretch_51 ?_
          refine AW.iload_n 1 dX12_stretch_54 rfl ?_
          refine AW.iload_n 3 dX12_stretch_55 rfl ?_
          obtain ⟨g8, e9, h⟩ := hBe h
          refine AW.iast kc_119 sk_119 k5 dX12_stretch_56 e9 ?_
          refine AW.aloadr_n 0 dX12_stretch_57 rfl ?_
          refine AW.getR af_X12_20_117 sr_117_2 dX12_stretch_58 ?_
          refine AW.iload_n 1 dX12_stretch_61 rfl ?_
          refine AW.iload 4 dX12_stretch_62 rfl ?_
          obtain ⟨g10, e11, h⟩ := hBe h
          refine AW.iast kc_120 sk_120 k5 dX12_stretch_64 e11 ?_
          refine AW.iconst dX12_stretch_65 ?_
          exact AW.zret1 rfl (Or.inr rfl) dX12_stretch_66 h rfl
        · replace h := hT h c4
          refine AW.iconst dX12_stretch_41 ?_
          exact AW.zret1 rfl (Or.inl rfl) dX12_stretch_42 h rfl
theorem M_water_ok {z : AZ} {x1 : Int} {g : AG} {r : Int × AG} (h : M_water x1 g = some r) : AMf z yX12_water cX12_water 2 (some .boolean) 1 [rv z 117, iv x1] g r := by
  intro d hdd
  refine AM.of (by decide +kernel) (Nat.le_of_ble_eq_true rfl) ?_
  show AW z (RX12, cX12_water, 2, (some .boolean)) d (QD (some .boolean) r) 0 [(0, rv z 117), (1, iv x1)] [] g
  unfold M_water at h
  refine AW.iload_n 1 dX12_water_0 rfl ?_
  refine AW.iconst dX12_water_1 ?_
  refine AW.sipush dX12_water_2 (by decide) (by decide) ?_
  refine AW.callSi (As := [iv x1, iv 0, iv 999]) (st := []) M_isIn_ok cq_X12_3 st_X12_isIn (Nat.le_trans (by decide) hdd) rfl dX12_water_5 rfl (Nat.le_of_ble_eq_true rfl) ?_
  refine AW.if_ne (tgt := 13) dX12_water_8 (by decide) (fun c1 => ?_) (fun c1 => ?_)
  · replace h := hF h c1
    refine AW.aloadr_n 0 dX12_water_13 rfl ?_
    refine AW.iload_n 1 dX12_water_14 rfl ?_
    obtain ⟨g2, e3, h⟩ := hBe h
    refine AW.putI ap_X12_44_117 sr_117_10 dX12_water_15 e3 ?_
    refine AW.iconst dX12_water_18 ?_
    exact AW.zret1 rfl (Or.inr rfl) dX12_water_19 h rfl
  · replace h := hT h c1
    refine AW.iconst dX12_water_11 ?_
    exact AW.zret1 rfl (Or.inl rfl) dX12_water_12 h rfl
theorem M_stoppage_ok {z : AZ} {x1 : Int} {x2 : Int} {x3 : Int} {g : AG} {r : Int × AG} (h : M_stoppage x1 x2 x3 g = some r) : AMf z yX12_stoppage cX12_stoppage 4 (some .int) 1 [rv z 117, iv x1, iv x2, iv x3] g r := by
  intro d hdd
  refine AM.of (by decide +kernel) (Nat.le_of_ble_eq_true rfl) ?_
  show AW z (RX12, cX12_stoppage, 4, (some .int)) d (QD (some .int) r) 0 [(0, rv z 117), (1, iv x1), (2, iv x2), (3, iv x3)] [] g
  unfold M_stoppage at h
  refine AW.iload_n 1 dX12_stoppage_0 rfl ?_
  refine AW.iconst dX12_stoppage_1 ?_
  refine AW.icmp_ne (tgt := 12) dX12_stoppage_2 (by decide) (fun c1 => ?_) (fun c1 => ?_)
  · replace h := hF h c1
    refine AW.iload_n 1 dX12_stoppage_12 rfl ?_
    refine AW.iconst dX12_stoppage_13 ?_
    refine AW.bipush dX12_stoppage_14 (by decide) (by decide) ?_
    refine AW.callSi (As := [iv x1, iv 0, iv 14]) (st := []) M_isIn_ok cq_X12_3 st_X12_isIn (Nat.le_trans (by decide) hdd) rfl dX12_stoppage_16 rfl (Nat.le_of_ble_eq_true rfl) ?_
    refine AW.if_eq (tgt := 51) dX12_stoppage_19 (by decide) (fun c2 => ?_) (fun c2 => ?_)
    · replace h := hT h c2
      refine AW.iconst dX12_stoppage_51 ?_
      exact AW.iret1 rfl dX12_stoppage_52 h rfl
    · replace h := hF h c2
      refine AW.iload_n 2 dX12_stoppage_22 rfl ?_
      refine AW.iconst dX12_stoppage_23 ?_
      refine AW.bipush dX12_stoppage_24 (by decide) (by decide) ?_
      refine AW.callSi (As := [iv x2, iv 0, iv 13]) (st := []) M_isIn_ok cq_X12_3 st_X12_isIn (Nat.le_trans (by decide) hdd) rfl dX12_stoppage_26 rfl (Nat.le_of_ble_eq_true rfl) ?_
      refine AW.if_eq (tgt := 51) dX12_stoppage_29 (by decide) (fun c3 => ?_) (fun c3 => ?_)
      · replace h := hT h c3
        refine AW.iconst dX12_stoppage_51 ?_
        exact AW.iret1 rfl dX12_stoppage_52 h rfl
      · replace h := hF h c3
        refine AW.iload_n 3 dX12_stoppage_32 rfl ?_
        refine AW.iload_n 2 dX12_stoppage_33 rfl ?_
        refine AW.bipush dX12_stoppage_34 (by decide) (by decide) ?_
        refine AW.callSi (As := [iv x3, iv x2, iv 13]) (st := []) M_isIn_ok cq_X12_3 st_X12_isIn (Nat.le_trans (by decide) hdd) rfl dX12_stoppage_36 rfl (Nat.le_of_ble_eq_true rfl) ?_
        refine AW.if_eq (tgt := 51) dX12_stoppage_39 (by decide) (fun c4 => ?_) (fun c4 => ?_)
        · replace h := hT h c4
          refine AW.iconst dX12_stoppage_51 ?_
          exact AW.iret1 rfl dX12_stoppage_52 h rfl
        · replace h := hF h c4
          refine AW.aloadr_n 0 dX12_stoppage_42 rfl ?_
          refine AW.getI af_X12_232_117 sr_117_11 dX12_stoppage_43 ?_
          refine AW.bipush dX12_stoppage_46 (by decide) (by decide) ?_
          refine AW.icmp_ne (tgt := 53) dX12_stoppage_48 (by decide) (fun c5 => ?_) (fun c5 => ?_)
          · replace h := hF h c5
            refine AW.aloadr_n 0 dX12_stoppage_53 rfl ?_
            refine AW.getR af_X12_23_117 sr_117_3 dX12_stoppage_54 ?_
            refine AW.aloadr_n 0 dX12_stoppage_57 rfl ?_
            refine AW.getI af_X12_232_117 sr_117_11 dX12_stoppage_58 ?_
            refine AW.iload_n 1 dX12_stoppage_61 rfl ?_
            obtain ⟨k6, h⟩ := hK h
            obtain ⟨g7, e8, h⟩ := hBe h
            refine AW.iast kc_121 sk_121 k6 dX12_stoppage_62 e8 ?_
            refine AW.aloadr_n 0 dX12_stoppage_63 rfl ?_
            refine AW.getR af_X12_26_117 sr_117_4 dX12_stoppage_64 ?_
            refine AW.aloadr_n 0 dX12_stoppage_67 rfl ?_
            refine AW.getI af_X12_232_117 sr_117_11 dX12_stoppage_68 ?_
            refine AW.iload_n 2 dX12_stoppage_71 rfl ?_
            obtain ⟨k9, h⟩ := hK h
            obtain ⟨g10, e11, h⟩ := hBe h
            refine AW.iast kc_122 sk_122 k9 dX12_stoppage_72 e11 ?_
            refine AW.aloadr_n 0 dX12_stoppage_73 rfl ?_
            refine AW.getR af_X12_29_117 sr_117_5 dX12_stoppage_74 ?_
            refine AW.aloadr_n 0 dX12_stoppage_77 rfl ?_
            refine AW.getI af_X12_232_117 sr_117_11 dX12_stoppage_78 ?_
            refine AW.iload_n 3 dX12_stoppage_81 rfl ?_
            obtain ⟨k12, h⟩ := hK h
            obtain ⟨g13, e14, h⟩ := hBe h
            refine AW.iast kc_123 sk_123 k12 dX12_stoppage_82 e14 ?_
            refine AW.aloadr_n 0 dX12_stoppage_83 rfl ?_
            refine AW.duprr dX12_stoppage_84 ?_
            refine AW.getI af_X12_232_117 sr_117_11 dX12_stoppage_85 ?_
            refine AW.iconst dX12_stoppage_88 ?_
            refine AW.iadd dX12_stoppage_89 ?_
            obtain ⟨g15, e16, h⟩ := hBe h
            refine AW.putI ap_X12_232_117 sr_117_11 dX12_stoppage_90 e16 ?_
            refine AW.aloadr_n 0 dX12_stoppage_93 rfl ?_
            refine AW.getI af_X12_232_117 sr_117_11 dX12_stoppage_94 ?_
            exact AW.iret1 rfl dX12_stoppage_97 h rfl
          · replace h := hT h c5
            refine AW.iconst dX12_stoppage_51 ?_
            exact AW.iret1 rfl dX12_stoppage_52 h rfl
  · replace h := hT h c1
    refine AW.aloadr_n 0 dX12_stoppage_5 rfl ?_
    refine AW.iconst dX12_stoppage_6 ?_
    obtain ⟨g17, e18, h⟩ := hBe h
    refine AW.putI ap_X12_232_117 sr_117_11 dX12_stoppage_7 e18 ?_
    refine AW.iconst dX12_stoppage_10 ?_
    exact AW.iret1 rfl dX12_stoppage_11 h rfl
theorem M_isPoint_ok {z : AZ} {x0 : Int} {g : AG} : AMf z yX12_isPoint cX12_isPoint 1 (some .boolean) 1 [iv x0] g ((M_isPoint x0), g) := by
  intro d hdd
  refine AM.of (by decide +kernel) (Nat.le_of_ble_eq_true rfl) ?_
  show AW z (RX12, cX12_isPoint, 1, (some .boolean)) d (QD (some .boolean) ((M_isPoint x0), g)) 0 [(0, iv x0)] [] g
  refine AW.iload_n 0 dX12_isPoint_0 rfl ?_
  refine AW.iconst dX12_isPoint_1 ?_
  refine AW.bipush dX12_isPoint_2 (by decide) (by decide) ?_
  refine AW.callSi (As := [iv x0, iv 0, iv 15]) (st := []) M_isIn_ok cq_X12_3 st_X12_isIn (Nat.le_trans (by decide) hdd) rfl dX12_isPoint_4 rfl (Nat.le_of_ble_eq_true rfl) ?_
  exact AW.zret rfl M_isIn_01 dX12_isPoint_7 ⟨congrArg (fun v => some (iv v)) (show M_isPoint x0  = (M_isIn x0 0 15) from rfl).symm, rfl⟩
theorem M_boat_ok {z : AZ} {x1 : Int} {x2 : Int} {x3 : Int} {x4 : Int} {g : AG} {r : Int × AG} (h : M_boat x1 x2 x3 x4 g = some r) : AMf z yX12_boat cX12_boat 5 (some .int) 2 [rv z 117, iv x1, iv x2, iv x3, iv x4] g r := by
  intro d hdd
  refine AM.of (by decide +kernel) (Nat.le_of_ble_eq_true rfl) ?_
  show AW z (RX12, cX12_boat, 5, (some .int)) d (QD (some .int) r) 0 [(0, rv z 117), (1, iv x1), (2, iv x2), (3, iv x3), (4, iv x4)] [] g
  unfold M_boat at h
  refine AW.iload_n 1 dX12_boat_0 rfl ?_
  refine AW.iconst dX12_boat_1 ?_
  refine AW.bipush dX12_boat_2 (by decide) (by decide) ?_
  refine AW.callSi (As := [iv x1, iv 2, iv 12]) (st := []) M_isIn_ok cq_X12_3 st_X12_isIn (Nat.le_trans (by decide) hdd) rfl dX12_boat_4 rfl (Nat.le_of_ble_eq_true rfl) ?_
  refine AW.if_eq (tgt := 47) dX12_boat_7 (by decide) (fun c1 => ?_) (fun c1 => ?_)
  · replace h := hT h c1
    refine AW.iconst dX12_boat_47 ?_
    exact AW.iret1 rfl dX12_boat_48 h rfl
  · replace h := hF h c1
    refine AW.iload_n 2 dX12_boat_10 rfl ?_
    refine AW.iconst dX12_boat_11 ?_
    refine AW.bipush dX12_boat_12 (by decide) (by decide) ?_
    refine AW.callSi (As := [iv x2, iv 0, iv 99]) (st := []) M_isIn_ok cq_X12_3 st_X12_isIn (Nat.le_trans (by decide) hdd) rfl dX12_boat_14 rfl (Nat.le_of_ble_eq_true rfl) ?_
    refine AW.if_eq (tgt := 47) dX12_boat_17 (by decide) (fun c2 => ?_) (fun c2 => ?_)
    · replace h := hT h c2
      refine AW.iconst dX12_boat_47 ?_
      exact AW.iret1 rfl dX12_boat_48 h rfl
    · replace h := hF h c2
      refine AW.iload_n 3 dX12_boat_20 rfl ?_
      refine AW.callSi (As := [iv x3]) (st := []) M_isPoint_ok cq_X12_238 st_X12_isPoint (Nat.le_trans (by decide) hdd) rfl dX12_boat_21 rfl (Nat.le_of_ble_eq_true rfl) ?_
      refine AW.if_eq (tgt := 47) dX12_boat_24 (by decide) (fun c3 => ?_) (fun c3 => ?_)
      · replace h := hT h c3
        refine AW.iconst dX12_boat_47 ?_
        exact AW.iret1 rfl dX12_boat_48 h rfl
      · replace h := hF h c3
        refine AW.iload 4 dX12_boat_27 rfl ?_
        refine AW.iconst dX12_boat_29 ?_
        refine AW.bipush dX12_boat_30 (by decide) (by decide) ?_
        refine AW.callSi (As := [iv x4, iv 0, iv 60]) (st := []) M_isIn_ok cq_X12_3 st_X12_isIn (Nat.le_trans (by decide) hdd) rfl dX12_boat_32 rfl (Nat.le_of_ble_eq_true rfl) ?_
        refine AW.if_eq (tgt := 47) dX12_boat_35 (by decide) (fun c4 => ?_) (fun c4 => ?_)
        · replace h := hT h c4
          refine AW.iconst dX12_boat_47 ?_
          exact AW.iret1 rfl dX12_boat_48 h rfl
        · replace h := hF h c4
          refine AW.aloadr_n 0 dX12_boat_38 rfl ?_
          refine AW.getI af_X12_235_117 sr_117_12 dX12_boat_39 ?_
          refine AW.bipush dX12_boat_42 (by decide) (by decide) ?_
          refine AW.icmp_ne (tgt := 49) dX12_boat_44 (by decide) (fun c5 => ?_) (fun c5 => ?_)
          · replace h := hF h c5
            refine AW.aloadr_n 0 dX12_boat_49 rfl ?_
            refine AW.getR af_X12_32_117 sr_117_6 dX12_boat_50 ?_
            refine AW.aloadr_n 0 dX12_boat_53 rfl ?_
            refine AW.getI af_X12_235_117 sr_117_12 dX12_boat_54 ?_
            refine AW.iload_n 1 dX12_boat_57 rfl ?_
            obtain ⟨k6, h⟩ := hK h
            obtain ⟨g7, e8, h⟩ := hBe h
            refine AW.iast kc_124 sk_124 k6 dX12_boat_58 e8 ?_
            refine AW.aloadr_n 0 dX12_boat_59 rfl ?_
            refine AW.getR af_X12_35_117 sr_117_7 dX12_boat_60 ?_
            refine AW.aloadr_n 0 dX12_boat_63 rfl ?_
            refine AW.getI af_X12_235_117 sr_117_12 dX12_boat_64 ?_
            refine AW.iload_n 2 dX12_boat_67 rfl ?_
            obtain ⟨k9, h⟩ := hK h
            obtain ⟨g10, e11, h⟩ := hBe h
            refine AW.iast kc_125 sk_125 k9 dX12_boat_68 e11 ?_
            refine AW.aloadr_n 0 dX12_boat_69 rfl ?_
            refine AW.getR af_X12_38_117 sr_117_8 dX12_boat_70 ?_
            refine AW.aloadr_n 0 dX12_boat_73 rfl ?_
            refine AW.getI af_X12_235_117 sr_117_12 dX12_boat_74 ?_
            refine AW.iload_n 3 dX12_boat_77 rfl ?_
            obtain ⟨k12, h⟩ := hK h
            obtain ⟨g13, e14, h⟩ := hBe h
            refine AW.iast kc_126 sk_126 k12 dX12_boat_78 e14 ?_
            refine AW.aloadr_n 0 dX12_boat_79 rfl ?_
            refine AW.getR af_X12_41_117 sr_117_9 dX12_boat_80 ?_
            refine AW.aloadr_n 0 dX12_boat_83 rfl ?_
            refine AW.getI af_X12_235_117 sr_117_12 dX12_boat_84 ?_
            refine AW.iload 4 dX12_boat_87 rfl ?_
            obtain ⟨k15, h⟩ := hK h
            obtain ⟨g16, e17, h⟩ := hBe h
            refine AW.iast kc_127 sk_127 k15 dX12_boat_89 e17 ?_
            refine AW.aloadr_n 0 dX12_boat_90 rfl ?_
            refine AW.duprr dX12_boat_91 ?_
            refine AW.getI af_X12_235_117 sr_117_12 dX12_boat_92 ?_
            refine AW.iconst dX12_boat_95 ?_
            refine AW.iadd dX12_boat_96 ?_
            obtain ⟨g18, e19, h⟩ := hBe h
            refine AW.putI ap_X12_235_117 sr_117_12 dX12_boat_97 e19 ?_
            refine AW.aloadr_n 0 dX12_boat_100 rfl ?_
            refine AW.getI af_X12_235_117 sr_117_12 dX12_boat_101 ?_
            refine AW.iconst dX12_boat_104 ?_
            refine AW.isub dX12_boat_105 ?_
            exact AW.iret1 rfl dX12_boat_106 h rfl
          · replace h := hT h c5
            refine AW.iconst dX12_boat_47 ?_
            exact AW.iret1 rfl dX12_boat_48 h rfl
set_option synthInstance.maxHeartbeats 2000000 in
theorem M_feed_b_ok {z : AZ} {d : Nat} (hdd : 0 ≤ d) {x1 : Int} {x2 : Int} {x3 : Int} {x4 : Int} {x5 : Int} : ∀ (x6 : Int) (g : AG) (r : Int × AG), M_feed_b x1 x2 x3 x4 x5 x6 g = some r → AW z (RX12, cX12_feed, 8, (some .int)) d (QD (some .int) r) 18 [(0, rv z 117), (1, iv x1), (2, iv x2), (3, iv x3), (4, iv x4), (5, iv x5), (6, iv x6)] [] g := by
  refine M_feed_b.partial_correctness x1 x2 x3 x4 x5 (fun x6 g r => AW z (RX12, cX12_feed, 8, (some .int)) d (QD (some .int) r) 18 [(0, rv z 117), (1, iv x1), (2, iv x2), (3, iv x3), (4, iv x4), (5, iv x5), (6, iv x6)] [] g) ?_
  intro fb9 ih x6 g r h
  refine AW.iload 6 dX12_feed_18 rfl ?_
  refine AW.bipush dX12_feed_20 (by decide) (by decide) ?_
  refine AW.icmp_ge (tgt := 115) dX12_feed_22 (by decide) (fun c1 => ?_) (fun c1 => ?_)
  · replace h := hT h c1
    refine AW.aloadr_n 0 dX12_feed_115 rfl ?_
    refine AW.getI af_X12_242_117 sr_117_37 dX12_feed_116 ?_
    exact AW.iret1 rfl dX12_feed_119 h rfl
  · replace h := hF h c1
    refine AW.iload 6 dX12_feed_25 rfl ?_
    refine AW.iconst dX12_feed_27 ?_
    obtain ⟨t2, e3, h⟩ := hBe h
    refine AW.join (tgt := 71) (lv1 := [(0, rv z 117), (1, iv x1), (2, iv x2), (3, iv x3), (4, iv x4), (5, iv x5), (6, iv x6)]) (st1 := [iv t2]) (g1 := g) ?_ (fun J28 => ?_)
    · refine AW.istore (lv1 := [(7, iv t2), (0, rv z 117), (1, iv x1), (2, iv x2), (3, iv x3), (4, iv x4), (5, iv x5), (6, iv x6)]) dX12_feed_71 (by decide) rfl ?_
      refine AW.aloadr_n 1 dX12_feed_73 rfl ?_
      refine AW.getR af_X12_103_117 sr_117_31 dX12_feed_74 ?_
      refine AW.aloadr_n 1 dX12_feed_77 rfl ?_
      refine AW.getI af_X12_242_117 sr_117_37 dX12_feed_78 ?_
      refine AW.iload 0 dX12_feed_81 rfl ?_
      refine AW.bipush dX12_feed_83 (by decide) (by decide) ?_
      refine AW.bipush dX12_feed_85 (by decide) (by decide) ?_
      refine AW.iload 7 dX12_feed_87 rfl ?_
      refine AW.iconst dX12_feed_89 ?_
      refine AW.irem dX12_feed_90 (by decide) ?_
      refine AW.imul dX12_feed_91 ?_
      refine AW.isub dX12_feed_92 ?_
      refine AW.ishr dX12_feed_93 ?_
      refine AW.sipush dX12_feed_94 (by decide) (by decide) ?_
      refine AW.iand dX12_feed_97 ?_
      obtain ⟨k4, h⟩ := hK h
      obtain ⟨g5, e6, h⟩ := hBe h
      refine AW.iast kc_146 sk_146 k4 dX12_feed_98 e6 ?_
      refine AW.aloadr_n 1 dX12_feed_99 rfl ?_
      refine AW.duprr dX12_feed_100 ?_
      refine AW.getI af_X12_242_117 sr_117_37 dX12_feed_101 ?_
      refine AW.iconst dX12_feed_104 ?_
      refine AW.iadd dX12_feed_105 ?_
      obtain ⟨g7, e8, h⟩ := hBe h
      refine AW.putI ap_X12_242_117 sr_117_37 dX12_feed_106 e8 ?_
      refine AW.iinc (lv1 := [(6, iv (x6 + 1)), (7, iv t2), (0, rv z 117), (1, iv x1), (2, iv x2), (3, iv x3), (4, iv x4), (5, iv x5)]) 7 dX12_feed_109 rfl (by decide) rfl ?_
      refine AW.goto (tgt := 18) dX12_feed_112 (by decide) ?_
      refine AW.sub (lv1 := [(0, rv z 117), (1, iv x1), (2, iv x2), (3, iv x3), (4, iv x4), (5, iv x5), (6, iv (x6 + 1))]) [2, 3, 4, 5, 6, 7, 0] rfl ?_
      exact ih _ _ _ h
    refine AW.icmp_ge (tgt := 35) dX12_feed_28 (by decide) (fun c9 => ?_) (fun c9 => ?_)
    · refine AW.iload 6 dX12_feed_35 rfl ?_
      refine AW.bipush dX12_feed_37 (by decide) (by decide) ?_
      refine AW.icmp_ge (tgt := 46) dX12_feed_39 (by decide) (fun c10 => ?_) (fun c10 => ?_)
      · refine AW.iload 6 dX12_feed_46 rfl ?_
        refine AW.bipush dX12_feed_48 (by decide) (by decide) ?_
        refine AW.icmp_ge (tgt := 57) dX12_feed_50 (by decide) (fun c11 => ?_) (fun c11 => ?_)
        · refine AW.iload 6 dX12_feed_57 rfl ?_
          refine AW.bipush dX12_feed_59 (by decide) (by decide) ?_
          refine AW.icmp_ge (tgt := 69) dX12_feed_61 (by decide) (fun c12 => ?_) (fun c12 => ?_)
          · refine AW.iload 5 dX12_feed_69 rfl ?_
            exact AW.val (e3.trans ((if_pos c9).trans ((if_pos c10).trans ((if_pos c11).trans (if_pos c12))))) J28
          · refine AW.iload 4 dX12_feed_64 rfl ?_
            refine AW.goto (tgt := 71) dX12_feed_66 (by decide) ?_
            exact AW.val (e3.trans ((if_pos c9).trans ((if_pos c10).trans ((if_pos c11).trans (if_neg c12))))) J28
        · refine AW.iload_n 3 dX12_feed_53 rfl ?_
          refine AW.goto (tgt := 71) dX12_feed_54 (by decide) ?_
          exact AW.val (e3.trans ((if_pos c9).trans ((if_pos c10).trans (if_neg c11)))) J28
      · refine AW.iload_n 2 dX12_feed_42 rfl ?_
        refine AW.goto (tgt := 71) dX12_feed_43 (by decide) ?_
        exact AW.val (e3.trans ((if_pos c9).trans (if_neg c10))) J28
    · refine AW.iload_n 1 dX12_feed_31 rfl ?_
      refine AW.goto (tgt := 71) dX12_feed_32 (by decide) ?_
      exact AW.val (e3.trans (if_neg c9)) J28
theorem M_feed_ok {z : AZ} {x1 : Int} {x2 : Int} {x3 : Int} {x4 : Int} {x5 : Int} {g : AG} {r : Int × AG} (h : M_feed x1 x2 x3 x4 x5 g = some r) : AMf z yX12_feed cX12_feed 8 (some .int) 0 [rv z 117, iv x1, iv x2, iv x3, iv x4, iv x5] g r := by
  intro d hdd
  refine AM.of (by decide +kernel) (Nat.le_of_ble_eq_true rfl) ?_
  show AW z (RX12, cX12_feed, 8, (some .int)) d (QD (some .int) r) 0 [(0, rv z 117), (1, iv x1), (2, iv x2), (3, iv x3), (4, iv x4), (5, iv x5)] [] g
  unfold M_feed at h
  refine AW.aloadr_n 0 dX12_feed_0 rfl ?_
  refine AW.getI af_X12_242_117 sr_117_37 dX12_feed_1 ?_
  refine AW.bipush dX12_feed_4 (by decide) (by decide) ?_
  refine AW.iadd dX12_feed_6 ?_
  refine AW.sipush dX12_feed_7 (by decide) (by decide) ?_
  refine AW.icmp_le (tgt := 15) dX12_feed_10 (by decide) (fun c1 => ?_) (fun c1 => ?_)
  · replace h := hT h c1
    refine AW.iconst dX12_feed_15 ?_
    refine AW.istore (lv1 := [(6, iv 0), (0, rv z 117), (1, iv x1), (2, iv x2), (3, iv x3), (4, iv x4), (5, iv x5)]) dX12_feed_16 (by decide) rfl ?_
    refine AW.sub (lv1 := [(0, rv z 117), (1, iv x1), (2, iv x2), (3, iv x3), (4, iv x4), (5, iv x5), (6, iv 0)]) [1, 2, 3, 4, 5, 6, 0] rfl ?_
    exact M_feed_b_ok hdd _ _ _ h
  · replace h := hF h c1
    refine AW.iconst dX12_feed_13 ?_
    exact AW.iret1 rfl dX12_feed_14 h rfl
theorem M_end_ok {z : AZ} {x1 : Int} {g : AG} {r : Int × AG} (h : M_end x1 g = some r) : AMf z yX12_end cX12_end 2 (some .boolean) 1 [rv z 117, iv x1] g r := by
  intro d hdd
  refine AM.of (by decide +kernel) (Nat.le_of_ble_eq_true rfl) ?_
  show AW z (RX12, cX12_end, 2, (some .boolean)) d (QD (some .boolean) r) 0 [(0, rv z 117), (1, iv x1)] [] g
  unfold M_end at h
  refine AW.iload_n 1 dX12_end_0 rfl ?_
  refine AW.iconst dX12_end_1 ?_
  refine AW.aloadr_n 0 dX12_end_2 rfl ?_
  refine AW.getI af_X12_242_117 sr_117_37 dX12_end_3 ?_
  refine AW.callSi (As := [iv x1, iv 0, iv (g 117 37)]) (st := []) M_isIn_ok cq_X12_3 st_X12_isIn (Nat.le_trans (by decide) hdd) rfl dX12_end_6 rfl (Nat.le_of_ble_eq_true rfl) ?_
  refine AW.if_ne (tgt := 14) dX12_end_9 (by decide) (fun c1 => ?_) (fun c1 => ?_)
  · replace h := hF h c1
    refine AW.aloadr_n 0 dX12_end_14 rfl ?_
    refine AW.iload_n 1 dX12_end_15 rfl ?_
    obtain ⟨g2, e3, h⟩ := hBe h
    refine AW.putI ap_X12_242_117 sr_117_37 dX12_end_16 e3 ?_
    refine AW.iconst dX12_end_19 ?_
    exact AW.zret1 rfl (Or.inr rfl) dX12_end_20 h rfl
  · replace h := hT h c1
    refine AW.iconst dX12_end_12 ?_
    exact AW.zret1 rfl (Or.inl rfl) dX12_end_13 h rfl
theorem M_see_ok {z : AZ} {x1 : Int} {g : AG} {r : Int × AG} (h : M_see x1 g = some r) : AMf z yX12_see cX12_see 2 (some .int) 0 [rv z 117, iv x1] g r := by
  intro d hdd
  refine AM.of (by decide +kernel) (Nat.le_of_ble_eq_true rfl) ?_
  show AW z (RX12, cX12_see, 2, (some .int)) d (QD (some .int) r) 0 [(0, rv z 117), (1, iv x1)] [] g
  unfold M_see at h
  refine AW.iload_n 1 dX12_see_0 rfl ?_
  refine AW.aloadr_n 0 dX12_see_1 rfl ?_
  refine AW.getI af_X12_242_117 sr_117_37 dX12_see_2 ?_
  obtain ⟨r3, e4, h⟩ := hC h
  refine AW.join (tgt := 18) (lv1 := []) (st1 := [iv r3.1]) (g1 := r3.2) ?_ (fun J5 => ?_)
  · exact AW.iret1 rfl dX12_see_18 h rfl
  replace h := e4
  refine AW.icmp_ge (tgt := 17) dX12_see_5 (by decide) (fun c1 => ?_) (fun c1 => ?_)
  · replace h := hT h c1
    refine AW.iconst dX12_see_17 ?_
    refine AW.sub (lv1 := []) [] rfl ?_
    cases h
    exact J5
  · replace h := hF h c1
    refine AW.aloadr_n 0 dX12_see_8 rfl ?_
    refine AW.getR af_X12_103_117 sr_117_31 dX12_see_9 ?_
    refine AW.iload_n 1 dX12_see_12 rfl ?_
    obtain ⟨k2, h⟩ := hK h
    refine AW.iald kc_146 sk_146 k2 dX12_see_13 ?_
    refine AW.goto (tgt := 18) dX12_see_14 (by decide) ?_
    refine AW.sub (lv1 := []) [] rfl ?_
    cases h
    exact J5
theorem M_isLetter_ok {z : AZ} {x0 : Int} {g : AG} : AMf z yX12_isLetter cX12_isLetter 1 (some .boolean) 1 [iv x0] g ((M_isLetter x0), g) := by
  intro d hdd
  refine AM.of (by decide +kernel) (Nat.le_of_ble_eq_true rfl) ?_
  show AW z (RX12, cX12_isLetter, 1, (some .boolean)) d (QD (some .boolean) ((M_isLetter x0), g)) 0 [(0, iv x0)] [] g
  refine AW.iload_n 0 dX12_isLetter_0 rfl ?_
  refine AW.bipush dX12_isLetter_1 (by decide) (by decide) ?_
  refine AW.bipush dX12_isLetter_3 (by decide) (by decide) ?_
  refine AW.callSi (As := [iv x0, iv 97, iv 122]) (st := []) M_isIn_ok cq_X12_3 st_X12_isIn (Nat.le_trans (by decide) hdd) rfl dX12_isLetter_5 rfl (Nat.le_of_ble_eq_true rfl) ?_
  refine AW.join (tgt := 27) (lv1 := [(0, iv x0)]) (st1 := [iv (if nw (M_isIn x0 97 122) = 0 then (if nw (M_isIn x0 65 90) = 0 then 0 else 1) else 1)]) (g1 := g) ?_ (fun J8 => ?_)
  · exact AW.zret rfl (by (repeat' split) <;> first | exact Or.inl rfl | exact Or.inr rfl) dX12_isLetter_27 ⟨congrArg (fun v => some (iv v)) (show M_isLetter x0  = (if nw (M_isIn x0 97 122) = 0 then (if nw (M_isIn x0 65 90) = 0 then 0 else 1) else 1) from rfl).symm, rfl⟩
  refine AW.if_ne (tgt := 22) dX12_isLetter_8 (by decide) (fun c1 => ?_) (fun c1 => ?_)
  · refine AW.iconst dX12_isLetter_22 ?_
    refine AW.goto (tgt := 27) dX12_isLetter_23 (by decide) ?_
    exact AW.val (if_neg c1) J8
  · refine AW.iload_n 0 dX12_isLetter_11 rfl ?_
    refine AW.bipush dX12_isLetter_12 (by decide) (by decide) ?_
    refine AW.bipush dX12_isLetter_14 (by decide) (by decide) ?_
    refine AW.callSi (As := [iv x0, iv 65, iv 90]) (st := []) M_isIn_ok cq_X12_3 st_X12_isIn (Nat.le_trans (by decide) hdd) rfl dX12_isLetter_16 rfl (Nat.le_of_ble_eq_true rfl) ?_
    refine AW.if_eq (tgt := 26) dX12_isLetter_19 (by decide) (fun c2 => ?_) (fun c2 => ?_)
    · refine AW.iconst dX12_isLetter_26 ?_
      exact AW.val ((if_pos c1).trans (if_pos c2)) J8
    · refine AW.iconst dX12_isLetter_22 ?_
      refine AW.goto (tgt := 27) dX12_isLetter_23 (by decide) ?_
      exact AW.val ((if_pos c1).trans (if_neg c2)) J8
theorem M_isDigit_ok {z : AZ} {x0 : Int} {g : AG} : AMf z yX12_isDigit cX12_isDigit 1 (some .boolean) 1 [iv x0] g ((M_isDigit x0), g) := by
  intro d hdd
  refine AM.of (by decide +kernel) (Nat.le_of_ble_eq_true rfl) ?_
  show AW z (RX12, cX12_isDigit, 1, (some .boolean)) d (QD (some .boolean) ((M_isDigit x0), g)) 0 [(0, iv x0)] [] g
  refine AW.iload_n 0 dX12_isDigit_0 rfl ?_
  refine AW.bipush dX12_isDigit_1 (by decide) (by decide) ?_
  refine AW.bipush dX12_isDigit_3 (by decide) (by decide) ?_
  refine AW.callSi (As := [iv x0, iv 48, iv 57]) (st := []) M_isIn_ok cq_X12_3 st_X12_isIn (Nat.le_trans (by decide) hdd) rfl dX12_isDigit_5 rfl (Nat.le_of_ble_eq_true rfl) ?_
  exact AW.zret rfl M_isIn_01 dX12_isDigit_8 ⟨congrArg (fun v => some (iv v)) (show M_isDigit x0  = (M_isIn x0 48 57) from rfl).symm, rfl⟩
set_option synthInstance.maxHeartbeats 2000000 in
theorem M_is_b_ok {z : AZ} {s1 : Nat} (hs : s1 < 22) {d : Nat} (hdd : 5 ≤ d) {g : AG} : ∀ (x2 : Int) (x3 : Int) (r : Int × AG), M_is_b s1 g x2 x3 = some r → AW z (RX12, cX12_is, 4, (some .boolean)) d (QD (some .boolean) r) 24 [(0, rv z 117), (1, sv z s1), (2, iv x2), (3, iv x3)] [] g := by
  refine M_is_b.partial_correctness s1 g (fun x2 x3 r => AW z (RX12, cX12_is, 4, (some .boolean)) d (QD (some .boolean) r) 24 [(0, rv z 117), (1, sv z s1), (2, iv x2), (3, iv x3)] [] g) ?_
  intro fb9 ih x2 x3 r h
  refine AW.iload_n 3 dX12_is_24 rfl ?_
  refine AW.aloads_n 1 dX12_is_25 rfl ?_
  refine AW.strLen cq_X12_251 hs (Nat.le_trans (by decide) hdd) dX12_is_26 (Nat.le_of_ble_eq_true rfl) ?_
  refine AW.icmp_ge (tgt := 67) dX12_is_29 (by decide) (fun c1 => ?_) (fun c1 => ?_)
  · replace h := hT h c1
    refine AW.iload_n 2 dX12_is_67 rfl ?_
    obtain ⟨k2, h⟩ := hK h
    exact AW.zret1 rfl k2 dX12_is_68 h rfl
  · replace h := hF h c1
    refine AW.iload_n 2 dX12_is_32 rfl ?_
    refine AW.if_eq (tgt := 67) dX12_is_33 (by decide) (fun c3 => ?_) (fun c3 => ?_)
    · replace h := hT h c3
      refine AW.iload_n 2 dX12_is_67 rfl ?_
      obtain ⟨k4, h⟩ := hK h
      exact AW.zret1 rfl k4 dX12_is_68 h rfl
    · replace h := hF h c3
      refine AW.aloadr_n 0 dX12_is_36 rfl ?_
      refine AW.getR af_X12_103_117 sr_117_31 dX12_is_37 ?_
      refine AW.aloadr_n 0 dX12_is_40 rfl ?_
      refine AW.getI af_X12_248_117 sr_117_40 dX12_is_41 ?_
      refine AW.iload_n 3 dX12_is_44 rfl ?_
      refine AW.iadd dX12_is_45 ?_
      obtain ⟨k5, h⟩ := hK h
      refine AW.iald kc_146 sk_146 k5 dX12_is_46 ?_
      refine AW.aloads_n 1 dX12_is_47 rfl ?_
      refine AW.iload_n 3 dX12_is_48 rfl ?_
      obtain ⟨k6, h⟩ := hK h
      refine AW.strCh cq_X12_257 hs k6 (Nat.le_trans (by decide) hdd) dX12_is_49 (Nat.le_of_ble_eq_true rfl) ?_
      obtain ⟨t7, e8, h⟩ := hBe h
      refine AW.join (tgt := 60) (lv1 := [(0, rv z 117), (1, sv z s1), (2, iv x2), (3, iv x3)]) (st1 := [iv t7]) (g1 := g) ?_ (fun J52 => ?_)
      · refine AW.istore_n (lv1 := [(2, iv t7), (0, rv z 117), (1, sv z s1), (3, iv x3)]) dX12_is_60 (by decide) rfl ?_
        refine AW.iinc (lv1 := [(3, iv (x3 + 1)), (2, iv t7), (0, rv z 117), (1, sv z s1)]) 3 dX12_is_61 rfl (by decide) rfl ?_
        refine AW.goto (tgt := 24) dX12_is_64 (by decide) ?_
        refine AW.sub (lv1 := [(0, rv z 117), (1, sv z s1), (2, iv t7), (3, iv (x3 + 1))]) [2, 3, 1, 0] rfl ?_
        exact ih _ _ _ h
      refine AW.icmp_ne (tgt := 59) dX12_is_52 (by decide) (fun c9 => ?_) (fun c9 => ?_)
      · refine AW.iconst dX12_is_59 ?_
        exact AW.val (e8.trans (if_neg c9)) J52
      · refine AW.iconst dX12_is_55 ?_
        refine AW.goto (tgt := 60) dX12_is_56 (by decide) ?_
        exact AW.val (e8.trans (if_pos c9)) J52
theorem M_is_ok {z : AZ} {s1 : Nat} {g : AG} {r : Int × AG} (hs : s1 < 22) (h : M_is s1 g = some r) : AMf z yX12_is cX12_is 4 (some .boolean) 5 [rv z 117, sv z s1] g r := by
  intro d hdd
  refine AM.of (by decide +kernel) (Nat.le_of_ble_eq_true rfl) ?_
  show AW z (RX12, cX12_is, 4, (some .boolean)) d (QD (some .boolean) r) 0 [(0, rv z 117), (1, sv z s1)] [] g
  unfold M_is at h
  refine AW.aloadr_n 0 dX12_is_0 rfl ?_
  refine AW.getI af_X12_245_117 sr_117_38 dX12_is_1 ?_
  refine AW.aloadr_n 0 dX12_is_4 rfl ?_
  refine AW.getI af_X12_248_117 sr_117_40 dX12_is_5 ?_
  refine AW.isub dX12_is_8 ?_
  refine AW.aloads_n 1 dX12_is_9 rfl ?_
  refine AW.strLen cq_X12_251 hs (Nat.le_trans (by decide) hdd) dX12_is_10 (Nat.le_of_ble_eq_true rfl) ?_
  obtain ⟨t1, e2, h⟩ := hBe h
  refine AW.join (tgt := 21) (lv1 := [(0, rv z 117), (1, sv z s1)]) (st1 := [iv t1]) (g1 := g) ?_ (fun J13 => ?_)
  · refine AW.istore_n (lv1 := [(2, iv t1), (0, rv z 117), (1, sv z s1)]) dX12_is_21 (by decide) rfl ?_
    refine AW.iconst dX12_is_22 ?_
    refine AW.istore_n (lv1 := [(3, iv 0), (2, iv t1), (0, rv z 117), (1, sv z s1)]) dX12_is_23 (by decide) rfl ?_
    refine AW.sub (lv1 := [(0, rv z 117), (1, sv z s1), (2, iv t1), (3, iv 0)]) [2, 3, 1, 0] rfl ?_
    exact M_is_b_ok hs hdd _ _ _ h
  refine AW.icmp_ne (tgt := 20) dX12_is_13 (by decide) (fun c3 => ?_) (fun c3 => ?_)
  · refine AW.iconst dX12_is_20 ?_
    exact AW.val (e2.trans (if_neg c3)) J13
  · refine AW.iconst dX12_is_16 ?_
    refine AW.goto (tgt := 21) dX12_is_17 (by decide) ?_
    exact AW.val (e2.trans (if_pos c3)) J13
theorem M_word_ok {z : AZ} {g : AG} {r : Int × AG} (h : M_word g = some r) : AMf z yX12_word cX12_word 1 (some .int) 6 [rv z 117] g r := by
  intro d hdd
  refine AM.of (by decide +kernel) (Nat.le_of_ble_eq_true rfl) ?_
  show AW z (RX12, cX12_word, 1, (some .int)) d (QD (some .int) r) 0 [(0, rv z 117)] [] g
  unfold M_word at h
  refine AW.aloadr_n 0 dX12_word_0 rfl ?_
  refine AW.ldcS dX12_word_1 sw_X12_261 ?_
  obtain ⟨r1, e2, h⟩ := hC h
  refine AW.callVi (As := [sv z 2]) (st := []) (M_is_ok (by decide) e2) cq_X12_262 cr_117_X12_is (Nat.le_trans (by decide) hdd) rfl dX12_word_4 rfl (Nat.le_of_ble_eq_true rfl) ?_
  refine AW.if_eq (tgt := 13) dX12_word_7 (by decide) (fun c3 => ?_) (fun c3 => ?_)
  · replace h := hT h c3
    refine AW.aloadr_n 0 dX12_word_13 rfl ?_
    refine AW.ldcS dX12_word_14 sw_X12_266 ?_
    obtain ⟨r4, e5, h⟩ := hC h
    refine AW.callVi (As := [sv z 3]) (st := []) (M_is_ok (by decide) e5) cq_X12_262 cr_117_X12_is (Nat.le_trans (by decide) hdd) rfl dX12_word_17 rfl (Nat.le_of_ble_eq_true rfl) ?_
    refine AW.if_eq (tgt := 26) dX12_word_20 (by decide) (fun c6 => ?_) (fun c6 => ?_)
    · replace h := hT h c6
      refine AW.aloadr_n 0 dX12_word_26 rfl ?_
      refine AW.ldcS dX12_word_27 sw_X12_267 ?_
      obtain ⟨r7, e8, h⟩ := hC h
      refine AW.callVi (As := [sv z 4]) (st := []) (M_is_ok (by decide) e8) cq_X12_262 cr_117_X12_is (Nat.le_trans (by decide) hdd) rfl dX12_word_30 rfl (Nat.le_of_ble_eq_true rfl) ?_
      refine AW.if_eq (tgt := 39) dX12_word_33 (by decide) (fun c9 => ?_) (fun c9 => ?_)
      · replace h := hT h c9
        refine AW.aloadr_n 0 dX12_word_39 rfl ?_
        refine AW.ldcS dX12_word_40 sw_X12_269 ?_
        obtain ⟨r10, e11, h⟩ := hC h
        refine AW.callVi (As := [sv z 5]) (st := []) (M_is_ok (by decide) e11) cq_X12_262 cr_117_X12_is (Nat.le_trans (by decide) hdd) rfl dX12_word_43 rfl (Nat.le_of_ble_eq_true rfl) ?_
        refine AW.if_eq (tgt := 52) dX12_word_46 (by decide) (fun c12 => ?_) (fun c12 => ?_)
        · replace h := hT h c12
          refine AW.aloadr_n 0 dX12_word_52 rfl ?_
          refine AW.ldcS dX12_word_53 sw_X12_271 ?_
          obtain ⟨r13, e14, h⟩ := hC h
          refine AW.callVi (As := [sv z 6]) (st := []) (M_is_ok (by decide) e14) cq_X12_262 cr_117_X12_is (Nat.le_trans (by decide) hdd) rfl dX12_word_56 rfl (Nat.le_of_ble_eq_true rfl) ?_
          refine AW.if_eq (tgt := 65) dX12_word_59 (by decide) (fun c15 => ?_) (fun c15 => ?_)
          · replace h := hT h c15
            refine AW.aloadr_n 0 dX12_word_65 rfl ?_
            refine AW.ldcS dX12_word_66 sw_X12_273 ?_
            obtain ⟨r16, e17, h⟩ := hC h
            refine AW.callVi (As := [sv z 7]) (st := []) (M_is_ok (by decide) e17) cq_X12_262 cr_117_X12_is (Nat.le_trans (by decide) hdd) rfl dX12_word_69 rfl (Nat.le_of_ble_eq_true rfl) ?_
            refine AW.if_eq (tgt := 78) dX12_word_72 (by decide) (fun c18 => ?_) (fun c18 => ?_)
            · replace h := hT h c18
              refine AW.aloadr_n 0 dX12_word_78 rfl ?_
              refine AW.ldcS dX12_word_79 sw_X12_275 ?_
              obtain ⟨r19, e20, h⟩ := hC h
              refine AW.callVi (As := [sv z 8]) (st := []) (M_is_ok (by decide) e20) cq_X12_262 cr_117_X12_is (Nat.le_trans (by decide) hdd) rfl dX12_word_82 rfl (Nat.le_of_ble_eq_true rfl) ?_
              refine AW.if_eq (tgt := 91) dX12_word_85 (by decide) (fun c21 => ?_) (fun c21 => ?_)
              · replace h := hT h c21
                refine AW.aloadr_n 0 dX12_word_91 rfl ?_
                refine AW.ldcS dX12_word_92 sw_X12_277 ?_
                obtain ⟨r22, e23, h⟩ := hC h
                refine AW.callVi (As := [sv z 9]) (st := []) (M_is_ok (by decide) e23) cq_X12_262 cr_117_X12_is (Nat.le_trans (by decide) hdd) rfl dX12_word_95 rfl (Nat.le_of_ble_eq_true rfl) ?_
                refine AW.if_eq (tgt := 104) dX12_word_98 (by decide) (fun c24 => ?_) (fun c24 => ?_)
                · replace h := hT h c24
                  refine AW.aloadr_n 0 dX12_word_104 rfl ?_
                  refine AW.ldcS dX12_word_105 sw_X12_279 ?_
                  obtain ⟨r25, e26, h⟩ := hC h
                  refine AW.callVi (As := [sv z 10]) (st := []) (M_is_ok (by decide) e26) cq_X12_262 cr_117_X12_is (Nat.le_trans (by decide) hdd) rfl dX12_word_108 rfl (Nat.le_of_ble_eq_true rfl) ?_
                  refine AW.if_eq (tgt := 116) dX12_word_111 (by decide) (fun c27 => ?_) (fun c27 => ?_)
                  · replace h := hT h c27
                    refine AW.aloadr_n 0 dX12_word_116 rfl ?_
                    refine AW.ldcS dX12_word_117 sw_X12_281 ?_
                    obtain ⟨r28, e29, h⟩ := hC h
                    refine AW.callVi (As := [sv z 11]) (st := []) (M_is_ok (by decide) e29) cq_X12_262 cr_117_X12_is (Nat.le_trans (by decide) hdd) rfl dX12_word_120 rfl (Nat.le_of_ble_eq_true rfl) ?_
                    refine AW.if_eq (tgt := 128) dX12_word_123 (by decide) (fun c30 => ?_) (fun c30 => ?_)
                    · replace h := hT h c30
                      refine AW.aloadr_n 0 dX12_word_128 rfl ?_
                      refine AW.ldcS dX12_word_129 sw_X12_283 ?_
                      obtain ⟨r31, e32, h⟩ := hC h
                      refine AW.callVi (As := [sv z 12]) (st := []) (M_is_ok (by decide) e32) cq_X12_262 cr_117_X12_is (Nat.le_trans (by decide) hdd) rfl dX12_word_132 rfl (Nat.le_of_ble_eq_true rfl) ?_
                      refine AW.if_eq (tgt := 140) dX12_word_135 (by decide) (fun c33 => ?_) (fun c33 => ?_)
                      · replace h := hT h c33
                        refine AW.aloadr_n 0 dX12_word_140 rfl ?_
                        refine AW.ldcS dX12_word_141 sw_X12_285 ?_
                        obtain ⟨r34, e35, h⟩ := hC h
                        refine AW.callVi (As := [sv z 13]) (st := []) (M_is_ok (by decide) e35) cq_X12_262 cr_117_X12_is (Nat.le_trans (by decide) hdd) rfl dX12_word_144 rfl (Nat.le_of_ble_eq_true rfl) ?_
                        refine AW.if_eq (tgt := 153) dX12_word_147 (by decide) (fun c36 => ?_) (fun c36 => ?_)
                        · replace h := hT h c36
                          refine AW.aloadr_n 0 dX12_word_153 rfl ?_
                          refine AW.ldcS dX12_word_154 sw_X12_287 ?_
                          obtain ⟨r37, e38, h⟩ := hC h
                          refine AW.callVi (As := [sv z 14]) (st := []) (M_is_ok (by decide) e38) cq_X12_262 cr_117_X12_is (Nat.le_trans (by decide) hdd) rfl dX12_word_157 rfl (Nat.le_of_ble_eq_true rfl) ?_
                          refine AW.if_eq (tgt := 166) dX12_word_160 (by decide) (fun c39 => ?_) (fun c39 => ?_)
                          · replace h := hT h c39
                            refine AW.aloadr_n 0 dX12_word_166 rfl ?_
                            refine AW.ldcS dX12_word_167 sw_X12_289 ?_
                            obtain ⟨r40, e41, h⟩ := hC h
                            refine AW.callVi (As := [sv z 15]) (st := []) (M_is_ok (by decide) e41) cq_X12_262 cr_117_X12_is (Nat.le_trans (by decide) hdd) rfl dX12_word_170 rfl (Nat.le_of_ble_eq_true rfl) ?_
                            refine AW.if_eq (tgt := 179) dX12_word_173 (by decide) (fun c42 => ?_) (fun c42 => ?_)
                            · replace h := hT h c42
                              refine AW.aloadr_n 0 dX12_word_179 rfl ?_
                              refine AW.ldcS dX12_word_180 sw_X12_291 ?_
                              obtain ⟨r43, e44, h⟩ := hC h
                              refine AW.callVi (As := [sv z 16]) (st := []) (M_is_ok (by decide) e44) cq_X12_262 cr_117_X12_is (Nat.le_trans (by decide) hdd) rfl dX12_word_183 rfl (Nat.le_of_ble_eq_true rfl) ?_
                              refine AW.if_eq (tgt := 192) dX12_word_186 (by decide) (fun c45 => ?_) (fun c45 => ?_)
                              · replace h := hT h c45
                                refine AW.aloadr_n 0 dX12_word_192 rfl ?_
                                refine AW.ldcS dX12_word_193 sw_X12_292 ?_
                                obtain ⟨r46, e47, h⟩ := hC h
                                refine AW.callVi (As := [sv z 17]) (st := []) (M_is_ok (by decide) e47) cq_X12_262 cr_117_X12_is (Nat.le_trans (by decide) hdd) rfl dX12_word_196 rfl (Nat.le_of_ble_eq_true rfl) ?_
                                refine AW.if_eq (tgt := 205) dX12_word_199 (by decide) (fun c48 => ?_) (fun c48 => ?_)
                                · replace h := hT h c48
                                  refine AW.aloadr_n 0 dX12_word_205 rfl ?_
                                  refine AW.ldcS dX12_word_206 sw_X12_294 ?_
                                  obtain ⟨r49, e50, h⟩ := hC h
                                  refine AW.callVi (As := [sv z 18]) (st := []) (M_is_ok (by decide) e50) cq_X12_262 cr_117_X12_is (Nat.le_trans (by decide) hdd) rfl dX12_word_209 rfl (Nat.le_of_ble_eq_true rfl) ?_
                                  refine AW.if_eq (tgt := 218) dX12_word_212 (by decide) (fun c51 => ?_) (fun c51 => ?_)
                                  · replace h := hT h c51
                                    refine AW.aloadr_n 0 dX12_word_218 rfl ?_
                                    refine AW.ldcS dX12_word_219 sw_X12_296 ?_
                                    obtain ⟨r52, e53, h⟩ := hC h
                                    refine AW.callVi (As := [sv z 19]) (st := []) (M_is_ok (by decide) e53) cq_X12_262 cr_117_X12_is (Nat.le_trans (by decide) hdd) rfl dX12_word_222 rfl (Nat.le_of_ble_eq_true rfl) ?_
                                    refine AW.if_eq (tgt := 231) dX12_word_225 (by decide) (fun c54 => ?_) (fun c54 => ?_)
                                    · replace h := hT h c54
                                      refine AW.aloadr_n 0 dX12_word_231 rfl ?_
                                      refine AW.ldcS dX12_word_232 sw_X12_298 ?_
                                      obtain ⟨r55, e56, h⟩ := hC h
                                      refine AW.callVi (As := [sv z 20]) (st := []) (M_is_ok (by decide) e56) cq_X12_262 cr_117_X12_is (Nat.le_trans (by decide) hdd) rfl dX12_word_235 rfl (Nat.le_of_ble_eq_true rfl) ?_
                                      refine AW.if_eq (tgt := 244) dX12_word_238 (by decide) (fun c57 => ?_) (fun c57 => ?_)
                                      · replace h := hT h c57
                                        refine AW.aloadr_n 0 dX12_word_244 rfl ?_
                                        refine AW.ldcS dX12_word_245 sw_X12_300 ?_
                                        obtain ⟨r58, e59, h⟩ := hC h
                                        refine AW.callVi (As := [sv z 21]) (st := []) (M_is_ok (by decide) e59) cq_X12_262 cr_117_X12_is (Nat.le_trans (by decide) hdd) rfl dX12_word_248 rfl (Nat.le_of_ble_eq_true rfl) ?_
                                        obtain ⟨t60, e61, h⟩ := hBe h
                                        refine AW.join (tgt := 260) (lv1 := [(0, rv z 117)]) (st1 := [iv t60]) (g1 := r58.2) ?_ (fun J251 => ?_)
                                        · exact AW.iret1 rfl dX12_word_260 h rfl
                                        refine AW.if_eq (tgt := 259) dX12_word_251 (by decide) (fun c62 => ?_) (fun c62 => ?_)
                                        · refine AW.iconst dX12_word_259 ?_
                                          exact AW.val (e61.trans (if_pos c62)) J251
                                        · refine AW.bipush dX12_word_254 (by decide) (by decide) ?_
                                          refine AW.goto (tgt := 260) dX12_word_256 (by decide) ?_
                                          exact AW.val (e61.trans (if_neg c62)) J251
                                      · replace h := hF h c57
                                        refine AW.bipush dX12_word_241 (by decide) (by decide) ?_
                                        exact AW.iret1 rfl dX12_word_243 h rfl
                                    · replace h := hF h c54
                                      refine AW.bipush dX12_word_228 (by decide) (by decide) ?_
                                      exact AW.iret1 rfl dX12_word_230 h rfl
                                  · replace h := hF h c51
                                    refine AW.bipush dX12_word_215 (by decide) (by decide) ?_
                                    exact AW.iret1 rfl dX12_word_217 h rfl
                                · replace h := hF h c48
                                  refine AW.bipush dX12_word_202 (by decide) (by decide) ?_
                                  exact AW.iret1 rfl dX12_word_204 h rfl
                              · replace h := hF h c45
                                refine AW.bipush dX12_word_189 (by decide) (by decide) ?_
                                exact AW.iret1 rfl dX12_word_191 h rfl
                            · replace h := hF h c42
                              refine AW.bipush dX12_word_176 (by decide) (by decide) ?_
                              exact AW.iret1 rfl dX12_word_178 h rfl
                          · replace h := hF h c39
                            refine AW.bipush dX12_word_163 (by decide) (by decide) ?_
                            exact AW.iret1 rfl dX12_word_165 h rfl
                        · replace h := hF h c36
                          refine AW.bipush dX12_word_150 (by decide) (by decide) ?_
                          exact AW.iret1 rfl dX12_word_152 h rfl
                      · replace h := hF h c33
                        refine AW.iconst dX12_word_138 ?_
                        exact AW.iret1 rfl dX12_word_139 h rfl
                    · replace h := hF h c30
                      refine AW.iconst dX12_word_126 ?_
                      exact AW.iret1 rfl dX12_word_127 h rfl
                  · replace h := hF h c27
                    refine AW.iconst dX12_word_114 ?_
                    exact AW.iret1 rfl dX12_word_115 h rfl
                · replace h := hF h c24
                  refine AW.bipush dX12_word_101 (by decide) (by decide) ?_
                  exact AW.iret1 rfl dX12_word_103 h rfl
              · replace h := hF h c21
                refine AW.bipush dX12_word_88 (by decide) (by decide) ?_
                exact AW.iret1 rfl dX12_word_90 h rfl
            · replace h := hF h c18
              refine AW.bipush dX12_word_75 (by decide) (by decide) ?_
              exact AW.iret1 rfl dX12_word_77 h rfl
          · replace h := hF h c15
            refine AW.bipush dX12_word_62 (by decide) (by decide) ?_
            exact AW.iret1 rfl dX12_word_64 h rfl
        · replace h := hF h c12
          refine AW.bipush dX12_word_49 (by decide) (by decide) ?_
          exact AW.iret1 rfl dX12_word_51 h rfl
      · replace h := hF h c9
        refine AW.bipush dX12_word_36 (by decide) (by decide) ?_
        exact AW.iret1 rfl dX12_word_38 h rfl
    · replace h := hF h c6
      refine AW.bipush dX12_word_23 (by decide) (by decide) ?_
      exact AW.iret1 rfl dX12_word_25 h rfl
  · replace h := hF h c3
    refine AW.bipush dX12_word_10 (by decide) (by decide) ?_
    exact AW.iret1 rfl dX12_word_12 h rfl
set_option synthInstance.maxHeartbeats 2000000 in
theorem M_next0_b_ok {z : AZ} {d : Nat} (hdd : 7 ≤ d) : ∀ (tag : Nat) (g : AG) (r : Int × AG), M_next0_b tag g = some r → (tag = 1 → AW z (RX12, cX12_next0, 3, none) d (QD none r) 0 [(0, rv z 117)] [] g) ∧ (tag = 2 → AW z (RX12, cX12_next0, 3, none) d (QD none r) 26 [(0, rv z 117)] [] g) ∧ (tag = 3 → AW z (RX12, cX12_next0, 3, none) d (QD none r) 76 [(0, rv z 117)] [] g) ∧ (tag = 4 → AW z (RX12, cX12_next0, 3, none) d (QD none r) 126 [(0, rv z 117)] [] g) := by
  refine M_next0_b.partial_correctness (fun tag g r => (tag = 1 → AW z (RX12, cX12_next0, 3, none) d (QD none r) 0 [(0, rv z 117)] [] g) ∧ (tag = 2 → AW z (RX12, cX12_next0, 3, none) d (QD none r) 26 [(0, rv z 117)] [] g) ∧ (tag = 3 → AW z (RX12, cX12_next0, 3, none) d (QD none r) 76 [(0, rv z 117)] [] g) ∧ (tag = 4 → AW z (RX12, cX12_next0, 3, none) d (QD none r) 126 [(0, rv z 117)] [] g)) ?_
  intro fb9 ih tag g r h
  refine ⟨fun h9 => ?_, fun h9 => ?_, fun h9 => ?_, fun h9 => ?_⟩
  · subst h9
    replace h := hT h rfl
    refine AW.aloadr_n 0 dX12_next0_0 rfl ?_
    refine AW.aloadr_n 0 dX12_next0_1 rfl ?_
    refine AW.getI af_X12_245_117 sr_117_38 dX12_next0_2 ?_
    obtain ⟨r1, e2, h⟩ := hC h
    refine AW.callVi (As := [iv (g 117 38)]) (st := []) (M_see_ok e2) cq_X12_302 cr_117_X12_see (Nat.le_trans (by decide) hdd) rfl dX12_next0_5 rfl (Nat.le_of_ble_eq_true rfl) ?_
    refine AW.bipush dX12_next0_8 (by decide) (by decide) ?_
    refine AW.icmp_eq (tgt := 26) dX12_next0_10 (by decide) (fun c3 => ?_) (fun c3 => ?_)
    · replace h := hT h c3
      exact (ih _ _ _ h).2.1 rfl
    · replace h := hF h c3
      refine AW.aloadr_n 0 dX12_next0_13 rfl ?_
      refine AW.aloadr_n 0 dX12_next0_14 rfl ?_
      refine AW.getI af_X12_245_117 sr_117_38 dX12_next0_15 ?_
      obtain ⟨r4, e5, h⟩ := hC h
      refine AW.callVi (As := [iv (r1.2 117 38)]) (st := []) (M_see_ok e5) cq_X12_302 cr_117_X12_see (Nat.le_trans (by decide) hdd) rfl dX12_next0_18 rfl (Nat.le_of_ble_eq_true rfl) ?_
      refine AW.bipush dX12_next0_21 (by decide) (by decide) ?_
      refine AW.icmp_ne (tgt := 39) dX12_next0_23 (by decide) (fun c6 => ?_) (fun c6 => ?_)
      · replace h := hF h c6
        refine AW.aloadr_n 0 dX12_next0_39 rfl ?_
        refine AW.aloadr_n 0 dX12_next0_40 rfl ?_
        refine AW.getI af_X12_245_117 sr_117_38 dX12_next0_41 ?_
        obtain ⟨g7, e8, h⟩ := hBe h
        refine AW.putI ap_X12_248_117 sr_117_40 dX12_next0_44 e8 ?_
        refine AW.aloadr_n 0 dX12_next0_47 rfl ?_
        refine AW.aloadr_n 0 dX12_next0_48 rfl ?_
        refine AW.getI af_X12_245_117 sr_117_38 dX12_next0_49 ?_
        obtain ⟨r9, e10, h⟩ := hC h
        refine AW.callVi (As := [iv (g7 117 38)]) (st := []) (M_see_ok e10) cq_X12_302 cr_117_X12_see (Nat.le_trans (by decide) hdd) rfl dX12_next0_52 rfl (Nat.le_of_ble_eq_true rfl) ?_
        refine AW.istore_n (lv1 := [(1, iv r9.1), (0, rv z 117)]) dX12_next0_55 (by decide) rfl ?_
        refine AW.iload_n 0 dX12_next0_56 rfl ?_
        refine AW.iconst dX12_next0_57 ?_
        refine AW.icmp_ne (tgt := 69) dX12_next0_58 (by decide) (fun c11 => ?_) (fun c11 => ?_)
        · replace h := hF h c11
          refine AW.iload_n 0 dX12_next0_69 rfl ?_
          refine AW.callSi (As := [iv r9.1]) (st := []) M_isLetter_ok cq_X12_309 st_X12_isLetter (Nat.le_trans (by decide) hdd) rfl dX12_next0_70 rfl (Nat.le_of_ble_eq_true rfl) ?_
          refine AW.if_eq (tgt := 114) dX12_next0_73 (by decide) (fun c12 => ?_) (fun c12 => ?_)
          · replace h := hT h c12
            refine AW.iload_n 0 dX12_next0_114 rfl ?_
            refine AW.callSi (As := [iv r9.1]) (st := []) M_isDigit_ok cq_X12_315 st_X12_isDigit (Nat.le_trans (by decide) hdd) rfl dX12_next0_115 rfl (Nat.le_of_ble_eq_true rfl) ?_
            refine AW.if_eq (tgt := 214) dX12_next0_118 (by decide) (fun c13 => ?_) (fun c13 => ?_)
            · replace h := hT h c13
              refine AW.aloadr_n 1 dX12_next0_214 rfl ?_
              refine AW.duprr dX12_next0_215 ?_
              refine AW.getI af_X12_245_117 sr_117_38 dX12_next0_216 ?_
              refine AW.iconst dX12_next0_219 ?_
              refine AW.iadd dX12_next0_220 ?_
              obtain ⟨g14, e15, h⟩ := hBe h
              refine AW.putI ap_X12_245_117 sr_117_38 dX12_next0_221 e15 ?_
              refine AW.iload_n 0 dX12_next0_224 rfl ?_
              refine AW.bipush dX12_next0_225 (by decide) (by decide) ?_
              obtain ⟨t16, e17, h⟩ := hBe h
              refine AW.join (tgt := 289) (lv1 := [(1, iv r9.1), (0, rv z 117)]) (st1 := [iv t16]) (g1 := g14) ?_ (fun J227 => ?_)
              · refine AW.istore_n (lv1 := [(2, iv t16), (1, iv r9.1), (0, rv z 117)]) dX12_next0_289 (by decide) rfl ?_
                refine AW.aloadr_n 2 dX12_next0_290 rfl ?_
                refine AW.iload_n 0 dX12_next0_291 rfl ?_
                obtain ⟨t18, e19, h⟩ := hBe h
                refine AW.join (tgt := 303) (lv1 := [(2, iv t16), (1, iv r9.1), (0, rv z 117)]) (st1 := [iv t18, rv z 117]) (g1 := g14) ?_ (fun J292 => ?_)
                · obtain ⟨g20, e21, h⟩ := hBe h
                  refine AW.putI ap_X12_306_117 sr_117_39 dX12_next0_303 e21 ?_
                  exact AW.vret1 rfl dX12_next0_306 h rfl
                refine AW.if_eq (tgt := 302) dX12_next0_292 (by decide) (fun c22 => ?_) (fun c22 => ?_)
                · refine AW.iconst dX12_next0_302 ?_
                  exact AW.val (e19.trans (if_pos c22)) J292
                · refine AW.bipush dX12_next0_295 (by decide) (by decide) ?_
                  refine AW.iload_n 1 dX12_next0_297 rfl ?_
                  refine AW.iadd dX12_next0_298 ?_
                  refine AW.goto (tgt := 303) dX12_next0_299 (by decide) ?_
                  exact AW.val (e19.trans (if_neg c22)) J292
              refine AW.icmp_eq (tgt := 284) dX12_next0_227 (by decide) (fun c23 => ?_) (fun c23 => ?_)
              · refine AW.iconst dX12_next0_284 ?_
                refine AW.goto (tgt := 289) dX12_next0_285 (by decide) ?_
                exact AW.val (e17.trans (if_pos c23)) J227
              · refine AW.iload_n 0 dX12_next0_230 rfl ?_
                refine AW.bipush dX12_next0_231 (by decide) (by decide) ?_
                refine AW.icmp_eq (tgt := 284) dX12_next0_233 (by decide) (fun c24 => ?_) (fun c24 => ?_)
                · refine AW.iconst dX12_next0_284 ?_
                  refine AW.goto (tgt := 289) dX12_next0_285 (by decide) ?_
                  exact AW.val (e17.trans ((if_neg c23).trans (if_pos c24))) J227
                · refine AW.iload_n 0 dX12_next0_236 rfl ?_
                  refine AW.bipush dX12_next0_237 (by decide) (by decide) ?_
                  refine AW.icmp_eq (tgt := 284) dX12_next0_239 (by decide) (fun c25 => ?_) (fun c25 => ?_)
                  · refine AW.iconst dX12_next0_284 ?_
                    refine AW.goto (tgt := 289) dX12_next0_285 (by decide) ?_
                    exact AW.val (e17.trans ((if_neg c23).trans ((if_neg c24).trans (if_pos c25)))) J227
                  · refine AW.iload_n 0 dX12_next0_242 rfl ?_
                    refine AW.bipush dX12_next0_243 (by decide) (by decide) ?_
                    refine AW.icmp_eq (tgt := 284) dX12_next0_245 (by decide) (fun c26 => ?_) (fun c26 => ?_)
                    · refine AW.iconst dX12_next0_284 ?_
                      refine AW.goto (tgt := 289) dX12_next0_285 (by decide) ?_
                      exact AW.val (e17.trans ((if_neg c23).trans ((if_neg c24).trans ((if_neg c25).trans (if_pos c26))))) J227
                    · refine AW.iload_n 0 dX12_next0_248 rfl ?_
                      refine AW.bipush dX12_next0_249 (by decide) (by decide) ?_
                      refine AW.icmp_eq (tgt := 284) dX12_next0_251 (by decide) (fun c27 => ?_) (fun c27 => ?_)
                      · refine AW.iconst dX12_next0_284 ?_
                        refine AW.goto (tgt := 289) dX12_next0_285 (by decide) ?_
                        exact AW.val (e17.trans ((if_neg c23).trans ((if_neg c24).trans ((if_neg c25).trans ((if_neg c26).trans (if_pos c27)))))) J227
                      · refine AW.iload_n 0 dX12_next0_254 rfl ?_
                        refine AW.bipush dX12_next0_255 (by decide) (by decide) ?_
                        refine AW.icmp_eq (tgt := 284) dX12_next0_257 (by decide) (fun c28 => ?_) (fun c28 => ?_)
                        · refine AW.iconst dX12_next0_284 ?_
                          refine AW.goto (tgt := 289) dX12_next0_285 (by decide) ?_
                          exact AW.val (e17.trans ((if_neg c23).trans ((if_neg c24).trans ((if_neg c25).trans ((if_neg c26).trans ((if_neg c27).trans (if_pos c28))))))) J227
                        · refine AW.iload_n 0 dX12_next0_260 rfl ?_
                          refine AW.bipush dX12_next0_261 (by decide) (by decide) ?_
                          refine AW.icmp_eq (tgt := 284) dX12_next0_263 (by decide) (fun c29 => ?_) (fun c29 => ?_)
                          · refine AW.iconst dX12_next0_284 ?_
                            refine AW.goto (tgt := 289) dX12_next0_285 (by decide) ?_
                            exact AW.val (e17.trans ((if_neg c23).trans ((if_neg c24).trans ((if_neg c25).trans ((if_neg c26).trans ((if_neg c27).trans ((if_neg c28).trans (if_pos c29)))))))) J227
                          · refine AW.iload_n 0 dX12_next0_266 rfl ?_
                            refine AW.bipush dX12_next0_267 (by decide) (by decide) ?_
                            refine AW.icmp_eq (tgt := 284) dX12_next0_269 (by decide) (fun c30 => ?_) (fun c30 => ?_)
                            · refine AW.iconst dX12_next0_284 ?_
                              refine AW.goto (tgt := 289) dX12_next0_285 (by decide) ?_
                              exact AW.val (e17.trans ((if_neg c23).trans ((if_neg c24).trans ((if_neg c25).trans ((if_neg c26).trans ((if_neg c27).trans ((if_neg c28).trans ((if_neg c29).trans (if_pos c30))))))))) J227
                            · refine AW.iload_n 0 dX12_next0_272 rfl ?_
                              refine AW.bipush dX12_next0_273 (by decide) (by decide) ?_
                              refine AW.icmp_eq (tgt := 284) dX12_next0_275 (by decide) (fun c31 => ?_) (fun c31 => ?_)
                              · refine AW.iconst dX12_next0_284 ?_
                                refine AW.goto (tgt := 289) dX12_next0_285 (by decide) ?_
                                exact AW.val (e17.trans ((if_neg c23).trans ((if_neg c24).trans ((if_neg c25).trans ((if_neg c26).trans ((if_neg c27).trans ((if_neg c28).trans ((if_neg c29).trans ((if_neg c30).trans (if_pos c31)))))))))) J227
                              · refine AW.iload_n 0 dX12_next0_278 rfl ?_
                                refine AW.bipush dX12_next0_279 (by decide) (by decide) ?_
                                refine AW.icmp_ne (tgt := 288) dX12_next0_281 (by decide) (fun c32 => ?_) (fun c32 => ?_)
                                · refine AW.iconst dX12_next0_288 ?_
                                  exact AW.val (e17.trans ((if_neg c23).trans ((if_neg c24).trans ((if_neg c25).trans ((if_neg c26).trans ((if_neg c27).trans ((if_neg c28).trans ((if_neg c29).trans ((if_neg c30).trans ((if_neg c31).trans (if_neg c32))))))))))) J227
                                · refine AW.iconst dX12_next0_284 ?_
                                  refine AW.goto (tgt := 289) dX12_next0_285 (by decide) ?_
                                  exact AW.val (e17.trans ((if_neg c23).trans ((if_neg c24).trans ((if_neg c25).trans ((if_neg c26).trans ((if_neg c27).trans ((if_neg c28).trans ((if_neg c29).trans ((if_neg c30).trans ((if_neg c31).trans (if_pos c32))))))))))) J227
            · replace h := hF h c13
              refine AW.aloadr_n 1 dX12_next0_121 rfl ?_
              refine AW.iconst dX12_next0_122 ?_
              obtain ⟨g33, e34, h⟩ := hBe h
              refine AW.putI ap_X12_318_117 sr_117_41 dX12_next0_123 e34 ?_
              refine AW.sub (lv1 := [(0, rv z 117)]) [1] rfl ?_
              exact (ih _ _ _ h).2.2.2 rfl
          · replace h := hF h c12
            refine AW.sub (lv1 := [(0, rv z 117)]) [1] rfl ?_
            exact (ih _ _ _ h).2.2.1 rfl
        · replace h := hT h c11
          refine AW.aloadr_n 1 dX12_next0_61 rfl ?_
          refine AW.iconst dX12_next0_62 ?_
          obtain ⟨g35, e36, h⟩ := hBe h
          refine AW.putI ap_X12_306_117 sr_117_39 dX12_next0_63 e36 ?_
          refine AW.goto (tgt := 306) dX12_next0_66 (by decide) ?_
          exact AW.vret1 rfl dX12_next0_306 h rfl
      · replace h := hT h c6
        exact (ih _ _ _ h).2.1 rfl
  · subst h9
    replace h := hF h (by decide)
    replace h := hT h rfl
    refine AW.aloadr_n 0 dX12_next0_26 rfl ?_
    refine AW.duprr dX12_next0_27 ?_
    refine AW.getI af_X12_245_117 sr_117_38 dX12_next0_28 ?_
    refine AW.iconst dX12_next0_31 ?_
    refine AW.iadd dX12_next0_32 ?_
    obtain ⟨g1, e2, h⟩ := hBe h
    refine AW.putI ap_X12_245_117 sr_117_38 dX12_next0_33 e2 ?_
    refine AW.goto (tgt := 0) dX12_next0_36 (by decide) ?_
    exact (ih _ _ _ h).1 rfl
  · subst h9
    replace h := hF h (by decide)
    replace h := hF h (by decide)
    replace h := hT h rfl
    refine AW.aloadr_n 0 dX12_next0_76 rfl ?_
    refine AW.aloadr_n 0 dX12_next0_77 rfl ?_
    refine AW.getI af_X12_245_117 sr_117_38 dX12_next0_78 ?_
    obtain ⟨r1, e2, h⟩ := hC h
    refine AW.callVi (As := [iv (g 117 38)]) (st := []) (M_see_ok e2) cq_X12_302 cr_117_X12_see (Nat.le_trans (by decide) hdd) rfl dX12_next0_81 rfl (Nat.le_of_ble_eq_true rfl) ?_
    refine AW.callSi (As := [iv r1.1]) (st := []) M_isLetter_ok cq_X12_309 st_X12_isLetter (Nat.le_trans (by decide) hdd) rfl dX12_next0_84 rfl (Nat.le_of_ble_eq_true rfl) ?_
    refine AW.if_eq (tgt := 103) dX12_next0_87 (by decide) (fun c3 => ?_) (fun c3 => ?_)
    · replace h := hT h c3
      refine AW.aloadr_n 0 dX12_next0_103 rfl ?_
      refine AW.aloadr_n 0 dX12_next0_104 rfl ?_
      obtain ⟨r4, e5, h⟩ := hC h
      refine AW.callVi (As := []) (st := [rv z 117]) (M_word_ok e5) cq_X12_312 cr_117_X12_word (Nat.le_trans (by decide) hdd) rfl dX12_next0_105 rfl (Nat.le_of_ble_eq_true rfl) ?_
      obtain ⟨g6, e7, h⟩ := hBe h
      refine AW.putI ap_X12_306_117 sr_117_39 dX12_next0_108 e7 ?_
      refine AW.goto (tgt := 306) dX12_next0_111 (by decide) ?_
      exact AW.vret1 rfl dX12_next0_306 h rfl
    · replace h := hF h c3
      refine AW.aloadr_n 0 dX12_next0_90 rfl ?_
      refine AW.duprr dX12_next0_91 ?_
      refine AW.getI af_X12_245_117 sr_117_38 dX12_next0_92 ?_
      refine AW.iconst dX12_next0_95 ?_
      refine AW.iadd dX12_next0_96 ?_
      obtain ⟨g8, e9, h⟩ := hBe h
      refine AW.putI ap_X12_245_117 sr_117_38 dX12_next0_97 e9 ?_
      refine AW.goto (tgt := 76) dX12_next0_100 (by decide) ?_
      exact (ih _ _ _ h).2.2.1 rfl
  · subst h9
    replace h := hF h (by decide)
    replace h := hF h (by decide)
    replace h := hF h (by decide)
    replace h := hT h rfl
    refine AW.aloadr_n 0 dX12_next0_126 rfl ?_
    refine AW.aloadr_n 0 dX12_next0_127 rfl ?_
    refine AW.getI af_X12_245_117 sr_117_38 dX12_next0_128 ?_
    obtain ⟨r1, e2, h⟩ := hC h
    refine AW.callVi (As := [iv (g 117 38)]) (st := []) (M_see_ok e2) cq_X12_302 cr_117_X12_see (Nat.le_trans (by decide) hdd) rfl dX12_next0_131 rfl (Nat.le_of_ble_eq_true rfl) ?_
    refine AW.callSi (As := [iv r1.1]) (st := []) M_isDigit_ok cq_X12_315 st_X12_isDigit (Nat.le_trans (by decide) hdd) rfl dX12_next0_134 rfl (Nat.le_of_ble_eq_true rfl) ?_
    refine AW.if_eq (tgt := 189) dX12_next0_137 (by decide) (fun c3 => ?_) (fun c3 => ?_)
    · replace h := hT h c3
      refine AW.aloadr_n 0 dX12_next0_189 rfl ?_
      refine AW.aloadr_n 0 dX12_next0_190 rfl ?_
      refine AW.getI af_X12_245_117 sr_117_38 dX12_next0_191 ?_
      refine AW.aloadr_n 0 dX12_next0_194 rfl ?_
      refine AW.getI af_X12_248_117 sr_117_40 dX12_next0_195 ?_
      refine AW.isub dX12_next0_198 ?_
      refine AW.iconst dX12_next0_199 ?_
      obtain ⟨t4, e5, h⟩ := hBe h
      refine AW.join (tgt := 208) (lv1 := [(0, rv z 117)]) (st1 := [iv t4, rv z 117]) (g1 := r1.2) ?_ (fun J200 => ?_)
      · obtain ⟨g6, e7, h⟩ := hBe h
        refine AW.putI ap_X12_306_117 sr_117_39 dX12_next0_208 e7 ?_
        refine AW.goto (tgt := 306) dX12_next0_211 (by decide) ?_
        exact AW.vret1 rfl dX12_next0_306 h rfl
      refine AW.icmp_ge (tgt := 207) dX12_next0_200 (by decide) (fun c8 => ?_) (fun c8 => ?_)
      · refine AW.iconst dX12_next0_207 ?_
        exact AW.val (e5.trans (if_pos c8)) J200
      · refine AW.iconst dX12_next0_203 ?_
        refine AW.goto (tgt := 208) dX12_next0_204 (by decide) ?_
        exact AW.val (e5.trans (if_neg c8)) J200
    · replace h := hF h c3
      refine AW.aloadr_n 0 dX12_next0_140 rfl ?_
      refine AW.getI af_X12_245_117 sr_117_38 dX12_next0_141 ?_
      refine AW.aloadr_n 0 dX12_next0_144 rfl ?_
      refine AW.getI af_X12_248_117 sr_117_40 dX12_next0_145 ?_
      refine AW.iconst dX12_next0_148 ?_
      refine AW.iadd dX12_next0_149 ?_
      obtain ⟨r14, e15, h⟩ := hC h
      refine AW.join (tgt := 176) (lv1 := [(0, rv z 117)]) (st1 := []) (g1 := r14) ?_ (fun J150 => ?_)
      · refine AW.aloadr_n 0 dX12_next0_176 rfl ?_
        refine AW.duprr dX12_next0_177 ?_
        refine AW.getI af_X12_245_117 sr_117_38 dX12_next0_178 ?_
        refine AW.iconst dX12_next0_181 ?_
        refine AW.iadd dX12_next0_182 ?_
        obtain ⟨g16, e17, h⟩ := hBe h
        refine AW.putI ap_X12_245_117 sr_117_38 dX12_next0_183 e17 ?_
        refine AW.goto (tgt := 126) dX12_next0_186 (by decide) ?_
        exact (ih _ _ _ h).2.2.2 rfl
      replace h := e15
      refine AW.icmp_ge (tgt := 176) dX12_next0_150 (by decide) (fun c9 => ?_) (fun c9 => ?_)
      · replace h := hT h c9
        cases h
        exact J150
      · replace h := hF h c9
        refine AW.aloadr_n 0 dX12_next0_153 rfl ?_
        refine AW.bipush dX12_next0_154 (by decide) (by decide) ?_
        refine AW.aloadr_n 0 dX12_next0_156 rfl ?_
        refine AW.getI af_X12_318_117 sr_117_41 dX12_next0_157 ?_
        refine AW.imul dX12_next0_160 ?_
        refine AW.aloadr_n 0 dX12_next0_161 rfl ?_
        refine AW.aloadr_n 0 dX12_next0_162 rfl ?_
        refine AW.getI af_X12_245_117 sr_117_38 dX12_next0_163 ?_
        obtain ⟨r10, e11, h⟩ := hC h
        refine AW.callVi (As := [iv (r1.2 117 38)]) (st := [iv (10 * (r1.2 117 41)), rv z 117]) (M_see_ok e11) cq_X12_302 cr_117_X12_see (Nat.le_trans (by decide) hdd) rfl dX12_next0_166 rfl (Nat.le_of_ble_eq_true rfl) ?_
        refine AW.iadd dX12_next0_169 ?_
        refine AW.bipush dX12_next0_170 (by decide) (by decide) ?_
        refine AW.isub dX12_next0_172 ?_
        obtain ⟨g12, e13, h⟩ := hBe h
        refine AW.putI ap_X12_318_117 sr_117_41 dX12_next0_173 e13 ?_
        cases h
        exact J150
theorem M_next0_ok {z : AZ} {g : AG} {r : Int × AG} (h : M_next0 g = some r) : AMf z yX12_next0 cX12_next0 3 none 7 [rv z 117] g r := by
  intro d hdd
  refine AM.of (by decide +kernel) (Nat.le_of_ble_eq_true rfl) ?_
  show AW z (RX12, cX12_next0, 3, none) d (QD none r) 0 [(0, rv z 117)] [] g
  unfold M_next0 at h
  exact (M_next0_b_ok hdd _ _ _ h).1 rfl
theorem M_bad_ok {z : AZ} {x1 : Int} {g : AG} {r : Int × AG} (h : M_bad x1 g = some r) : AMf z yX12_bad cX12_bad 2 (some .boolean) 0 [rv z 117, iv x1] g r := by
  intro d hdd
  refine AM.of (by decide +kernel) (Nat.le_of_ble_eq_true rfl) ?_
  show AW z (RX12, cX12_bad, 2, (some .boolean)) d (QD (some .boolean) r) 0 [(0, rv z 117), (1, iv x1)] [] g
  unfold M_bad at h
  refine AW.aloadr_n 0 dX12_bad_0 rfl ?_
  refine AW.iload_n 1 dX12_bad_1 rfl ?_
  obtain ⟨g1, e2, h⟩ := hBe h
  refine AW.putI ap_X12_321_117 sr_117_42 dX12_bad_2 e2 ?_
  refine AW.aloadr_n 0 dX12_bad_5 rfl ?_
  refine AW.aloadr_n 0 dX12_bad_6 rfl ?_
  refine AW.getI af_X12_248_117 sr_117_40 dX12_bad_7 ?_
  obtain ⟨g3, e4, h⟩ := hBe h
  refine AW.putI ap_X12_324_117 sr_117_43 dX12_bad_10 e4 ?_
  refine AW.iconst dX12_bad_13 ?_
  exact AW.zret1 rfl (Or.inl rfl) dX12_bad_14 h rfl
theorem M_lay_ok {z : AZ} {x1 : Int} {x2 : Int} {g : AG} {r : Int × AG} (h : M_lay x1 x2 g = some r) : AMf z yX12_lay cX12_lay 3 none 0 [rv z 117, iv x1, iv x2] g r := by
  intro d hdd
  refine AM.of (by decide +kernel) (Nat.le_of_ble_eq_true rfl) ?_
  show AW z (RX12, cX12_lay, 3, none) d (QD none r) 0 [(0, rv z 117), (1, iv x1), (2, iv x2)] [] g
  unfold M_lay at h
  refine AW.aloadr_n 0 dX12_lay_0 rfl ?_
  refine AW.getR af_X12_87_117 sr_117_26 dX12_lay_1 ?_
  refine AW.iconst dX12_lay_4 ?_
  refine AW.aloadr_n 0 dX12_lay_5 rfl ?_
  refine AW.getI af_X12_333_117 sr_117_36 dX12_lay_6 ?_
  refine AW.imul dX12_lay_9 ?_
  refine AW.iload_n 1 dX12_lay_10 rfl ?_
  obtain ⟨k1, h⟩ := hK h
  obtain ⟨g2, e3, h⟩ := hBe h
  refine AW.iast kc_141 sk_141 k1 dX12_lay_11 e3 ?_
  refine AW.aloadr_n 0 dX12_lay_12 rfl ?_
  refine AW.getR af_X12_87_117 sr_117_26 dX12_lay_13 ?_
  refine AW.iconst dX12_lay_16 ?_
  refine AW.aloadr_n 0 dX12_lay_17 rfl ?_
  refine AW.getI af_X12_333_117 sr_117_36 dX12_lay_18 ?_
  refine AW.imul dX12_lay_21 ?_
  refine AW.iconst dX12_lay_22 ?_
  refine AW.iadd dX12_lay_23 ?_
  refine AW.iload_n 2 dX12_lay_24 rfl ?_
  obtain ⟨k4, h⟩ := hK h
  obtain ⟨g5, e6, h⟩ := hBe h
  refine AW.iast kc_141 sk_141 k4 dX12_lay_25 e6 ?_
  refine AW.aloadr_n 0 dX12_lay_26 rfl ?_
  refine AW.duprr dX12_lay_27 ?_
  refine AW.getI af_X12_333_117 sr_117_36 dX12_lay_28 ?_
  refine AW.iconst dX12_lay_31 ?_
  refine AW.iadd dX12_lay_32 ?_
  obtain ⟨g7, e8, h⟩ := hBe h
  refine AW.putI ap_X12_333_117 sr_117_36 dX12_lay_33 e8 ?_
  exact AW.vret1 rfl dX12_lay_36 h rfl
set_option synthInstance.maxHeartbeats 2000000 in
theorem M_unit_b_ok {z : AZ} {d : Nat} (hdd : 8 ≤ d) {x1 : Int} {g : AG} : ∀ (r : Int × AG), M_unit_b x1 g = some r → AW z (RX12, cX12_unit, 2, (some .boolean)) d (QD (some .boolean) r) 30 [(0, rv z 117), (1, iv x1)] [] g := by
  refine M_unit_b.partial_correctness x1 g (fun r => AW z (RX12, cX12_unit, 2, (some .boolean)) d (QD (some .boolean) r) 30 [(0, rv z 117), (1, iv x1)] [] g) ?_
  intro fb9 ih r h
  refine AW.aloadr_n 0 dX12_unit_30 rfl ?_
  refine AW.iload_n 1 dX12_unit_31 rfl ?_
  obtain ⟨t1, e2, h⟩ := hBe h
  refine AW.join (tgt := 46) (lv1 := [(0, rv z 117), (1, iv x1)]) (st1 := [iv t1, rv z 117]) (g1 := g) ?_ (fun J32 => ?_)
  · refine AW.aloadr_n 0 dX12_unit_46 rfl ?_
    refine AW.getI af_X12_318_117 sr_117_41 dX12_unit_47 ?_
    obtain ⟨r3, e4, h⟩ := hC h
    refine AW.callVv (As := [iv t1, iv (g 117 41)]) (st := []) (M_lay_ok e4) cq_X12_342 cr_117_X12_lay (Nat.le_trans (by decide) hdd) rfl dX12_unit_50 rfl (Nat.le_of_ble_eq_true rfl) ?_
    refine AW.aloadr_n 0 dX12_unit_53 rfl ?_
    obtain ⟨r5, e6, h⟩ := hC h
    refine AW.callVv (As := []) (st := []) (M_next0_ok e6) cq_X12_330 cr_117_X12_next0 (Nat.le_trans (by decide) hdd) rfl dX12_unit_54 rfl (Nat.le_of_ble_eq_true rfl) ?_
    refine AW.iconst dX12_unit_57 ?_
    exact AW.zret1 rfl (Or.inr rfl) dX12_unit_58 h rfl
  refine AW.if_eq (tgt := 45) dX12_unit_32 (by decide) (fun c7 => ?_) (fun c7 => ?_)
  · refine AW.iconst dX12_unit_45 ?_
    exact AW.val (e2.trans (if_pos c7)) J32
  · refine AW.aloadr_n 0 dX12_unit_35 rfl ?_
    refine AW.getI af_X12_306_117 sr_117_39 dX12_unit_36 ?_
    refine AW.bipush dX12_unit_39 (by decide) (by decide) ?_
    refine AW.isub dX12_unit_41 ?_
    refine AW.goto (tgt := 46) dX12_unit_42 (by decide) ?_
    exact AW.val (e2.trans (if_neg c7)) J32
theorem M_unit_ok {z : AZ} {g : AG} {r : Int × AG} (h : M_unit g = some r) : AMf z yX12_unit cX12_unit 2 (some .boolean) 8 [rv z 117] g r := by
  intro d hdd
  refine AM.of (by decide +kernel) (Nat.le_of_ble_eq_true rfl) ?_
  show AW z (RX12, cX12_unit, 2, (some .boolean)) d (QD (some .boolean) r) 0 [(0, rv z 117)] [] g
  unfold M_unit at h
  refine AW.aloadr_n 0 dX12_unit_0 rfl ?_
  refine AW.getI af_X12_306_117 sr_117_39 dX12_unit_1 ?_
  refine AW.bipush dX12_unit_4 (by decide) (by decide) ?_
  refine AW.bipush dX12_unit_6 (by decide) (by decide) ?_
  refine AW.callSi (As := [iv (g 117 39), iv 41, iv 49]) (st := []) M_isIn_ok cq_X12_3 st_X12_isIn (Nat.le_trans (by decide) hdd) rfl dX12_unit_8 rfl (Nat.le_of_ble_eq_true rfl) ?_
  refine AW.istore_n (lv1 := [(1, iv (M_isIn (g 117 39) 41 49)), (0, rv z 117)]) dX12_unit_11 (by decide) rfl ?_
  refine AW.aloadr_n 1 dX12_unit_12 rfl ?_
  refine AW.getI af_X12_306_117 sr_117_39 dX12_unit_13 ?_
  refine AW.iconst dX12_unit_16 ?_
  refine AW.icmp_eq (tgt := 30) dX12_unit_17 (by decide) (fun c1 => ?_) (fun c1 => ?_)
  · replace h := hT h c1
    refine AW.sub (lv1 := [(0, rv z 117), (1, iv (M_isIn (g 117 39) 41 49))]) [1, 0] rfl ?_
    exact M_unit_b_ok hdd _ h
  · replace h := hF h c1
    refine AW.iload_n 0 dX12_unit_20 rfl ?_
    refine AW.if_ne (tgt := 30) dX12_unit_21 (by decide) (fun c2 => ?_) (fun c2 => ?_)
    · replace h := hF h c2
      refine AW.sub (lv1 := [(0, rv z 117), (1, iv (M_isIn (g 117 39) 41 49))]) [1, 0] rfl ?_
      exact M_unit_b_ok hdd _ h
    · replace h := hT h c2
      refine AW.aloadr_n 1 dX12_unit_24 rfl ?_
      refine AW.iconst dX12_unit_25 ?_
      obtain ⟨r3, e4, h⟩ := hC h
      refine AW.callVi (As := [iv 1]) (st := []) (M_bad_ok e4) cq_X12_327 cr_117_X12_bad (Nat.le_trans (by decide) hdd) rfl dX12_unit_26 rfl (Nat.le_of_ble_eq_true rfl) ?_
      obtain ⟨k5, h⟩ := hK h
      exact AW.zret1 rfl k5 dX12_unit_29 h rfl
theorem M_number_ok {z : AZ} {x1 : Int} {x2 : Int} {g : AG} {r : Int × AG} (h : M_number x1 x2 g = some r) : AMf z yX12_number cX12_number 3 (some .boolean) 8 [rv z 117, iv x1, iv x2] g r := by
  intro d hdd
  refine AM.of (by decide +kernel) (Nat.le_of_ble_eq_true rfl) ?_
  show AW z (RX12, cX12_number, 3, (some .boolean)) d (QD (some .boolean) r) 0 [(0, rv z 117), (1, iv x1), (2, iv x2)] [] g
  unfold M_number at h
  refine AW.aloadr_n 0 dX12_number_0 rfl ?_
  refine AW.getI af_X12_306_117 sr_117_39 dX12_number_1 ?_
  refine AW.iconst dX12_number_4 ?_
  refine AW.icmp_eq (tgt := 14) dX12_number_5 (by decide) (fun c1 => ?_) (fun c1 => ?_)
  · replace h := hT h c1
    refine AW.aloadr_n 0 dX12_number_14 rfl ?_
    refine AW.getI af_X12_318_117 sr_117_41 dX12_number_15 ?_
    refine AW.iload_n 1 dX12_number_18 rfl ?_
    refine AW.iload_n 2 dX12_number_19 rfl ?_
    refine AW.callSi (As := [iv (g 117 41), iv x1, iv x2]) (st := []) M_isIn_ok cq_X12_3 st_X12_isIn (Nat.le_trans (by decide) hdd) rfl dX12_number_20 rfl (Nat.le_of_ble_eq_true rfl) ?_
    refine AW.if_ne (tgt := 32) dX12_number_23 (by decide) (fun c2 => ?_) (fun c2 => ?_)
    · replace h := hF h c2
      refine AW.aloadr_n 0 dX12_number_32 rfl ?_
      obtain ⟨r3, e4, h⟩ := hC h
      refine AW.callVv (As := []) (st := []) (M_next0_ok e4) cq_X12_330 cr_117_X12_next0 (Nat.le_trans (by decide) hdd) rfl dX12_number_33 rfl (Nat.le_of_ble_eq_true rfl) ?_
      refine AW.iconst dX12_number_36 ?_
      exact AW.zret1 rfl (Or.inr rfl) dX12_number_37 h rfl
    · replace h := hT h c2
      refine AW.aloadr_n 0 dX12_number_26 rfl ?_
      refine AW.iconst dX12_number_27 ?_
      obtain ⟨r5, e6, h⟩ := hC h
      refine AW.callVi (As := [iv 2]) (st := []) (M_bad_ok e6) cq_X12_327 cr_117_X12_bad (Nat.le_trans (by decide) hdd) rfl dX12_number_28 rfl (Nat.le_of_ble_eq_true rfl) ?_
      obtain ⟨k7, h⟩ := hK h
      exact AW.zret1 rfl k7 dX12_number_31 h rfl
  · replace h := hF h c1
    refine AW.aloadr_n 0 dX12_number_8 rfl ?_
    refine AW.iconst dX12_number_9 ?_
    obtain ⟨r8, e9, h⟩ := hC h
    refine AW.callVi (As := [iv 1]) (st := []) (M_bad_ok e9) cq_X12_327 cr_117_X12_bad (Nat.le_trans (by decide) hdd) rfl dX12_number_10 rfl (Nat.le_of_ble_eq_true rfl) ?_
    obtain ⟨k10, h⟩ := hK h
    exact AW.zret1 rfl k10 dX12_number_13 h rfl
set_option synthInstance.maxHeartbeats 2000000 in
theorem M_product_b_ok {z : AZ} {d : Nat} (hdd : 9 ≤ d) : ∀ (tag : Nat) (g : AG) (r : Int × AG), M_product_b tag g = some r → (tag = 1 → AW z (RX12, cX12_product, 3, (some .boolean)) d (QD (some .boolean) r) 9 [(0, rv z 117)] [] g) ∧ (tag = 2 → AW z (RX12, cX12_product, 3, (some .boolean)) d (QD (some .boolean) r) 29 [(0, rv z 117)] [] g) ∧ (tag = 3 → AW z (RX12, cX12_product, 3, (some .boolean)) d (QD (some .boolean) r) 97 [(0, rv z 117)] [] g) := by
  refine M_product_b.partial_correctness (fun tag g r => (tag = 1 → AW z (RX12, cX12_product, 3, (some .boolean)) d (QD (some .boolean) r) 9 [(0, rv z 117)] [] g) ∧ (tag = 2 → AW z (RX12, cX12_product, 3, (some .boolean)) d (QD (some .boolean) r) 29 [(0, rv z 117)] [] g) ∧ (tag = 3 → AW z (RX12, cX12_product, 3, (some .boolean)) d (QD (some .boolean) r) 97 [(0, rv z 117)] [] g)) ?_
  intro fb9 ih tag g r h
  refine ⟨fun h9 => ?_, fun h9 => ?_, fun h9 => ?_⟩
  · subst h9
    replace h := hT h rfl
    refine AW.aloadr_n 0 dX12_product_9 rfl ?_
    refine AW.getI af_X12_306_117 sr_117_39 dX12_product_10 ?_
    refine AW.sipush dX12_product_13 (by decide) (by decide) ?_
    refine AW.icmp_eq (tgt := 29) dX12_product_16 (by decide) (fun c1 => ?_) (fun c1 => ?_)
    · replace h := hT h c1
      exact (ih _ _ _ h).2.1 rfl
    · replace h := hF h c1
      refine AW.aloadr_n 0 dX12_product_19 rfl ?_
      refine AW.getI af_X12_306_117 sr_117_39 dX12_product_20 ?_
      refine AW.sipush dX12_product_23 (by decide) (by decide) ?_
      refine AW.icmp_ne (tgt := 100) dX12_product_26 (by decide) (fun c2 => ?_) (fun c2 => ?_)
      · replace h := hF h c2
        refine AW.iconst dX12_product_100 ?_
        exact AW.zret1 rfl (Or.inr rfl) dX12_product_101 h rfl
      · replace h := hT h c2
        exact (ih _ _ _ h).2.1 rfl
  · subst h9
    replace h := hF h (by decide)
    replace h := hT h rfl
    refine AW.aloadr_n 0 dX12_product_29 rfl ?_
    refine AW.getI af_X12_306_117 sr_117_39 dX12_product_30 ?_
    refine AW.sipush dX12_product_33 (by decide) (by decide) ?_
    obtain ⟨t1, e2, h⟩ := hBe h
    refine AW.join (tgt := 44) (lv1 := [(0, rv z 117)]) (st1 := [iv t1]) (g1 := g) ?_ (fun J36 => ?_)
    · refine AW.istore_n (lv1 := [(1, iv t1), (0, rv z 117)]) dX12_product_44 (by decide) rfl ?_
      refine AW.aloadr_n 1 dX12_product_45 rfl ?_
      obtain ⟨r3, e4, h⟩ := hC h
      refine AW.callVv (As := []) (st := []) (M_next0_ok e4) cq_X12_330 cr_117_X12_next0 (Nat.le_trans (by decide) hdd) rfl dX12_product_46 rfl (Nat.le_of_ble_eq_true rfl) ?_
      refine AW.iload_n 0 dX12_product_49 rfl ?_
      refine AW.if_eq (tgt := 81) dX12_product_50 (by decide) (fun c5 => ?_) (fun c5 => ?_)
      · replace h := hT h c5
        refine AW.aloadr_n 1 dX12_product_81 rfl ?_
        obtain ⟨r6, e7, h⟩ := hC h
        refine AW.callVi (As := []) (st := []) (M_unit_ok e7) cq_X12_346 cr_117_X12_unit (Nat.le_trans (by decide) hdd) rfl dX12_product_82 rfl (Nat.le_of_ble_eq_true rfl) ?_
        refine AW.if_ne (tgt := 90) dX12_product_85 (by decide) (fun c8 => ?_) (fun c8 => ?_)
        · replace h := hF h c8
          refine AW.aloadr_n 1 dX12_product_90 rfl ?_
          refine AW.bipush dX12_product_91 (by decide) (by decide) ?_
          refine AW.iconst dX12_product_93 ?_
          obtain ⟨r9, e10, h⟩ := hC h
          refine AW.callVv (As := [iv 12, iv 0]) (st := []) (M_lay_ok e10) cq_X12_342 cr_117_X12_lay (Nat.le_trans (by decide) hdd) rfl dX12_product_94 rfl (Nat.le_of_ble_eq_true rfl) ?_
          refine AW.sub (lv1 := [(0, rv z 117)]) [1] rfl ?_
          exact (ih _ _ _ h).2.2 rfl
        · replace h := hT h c8
          refine AW.iconst dX12_product_88 ?_
          exact AW.zret1 rfl (Or.inl rfl) dX12_product_89 h rfl
      · replace h := hF h c5
        refine AW.aloadr_n 1 dX12_product_53 rfl ?_
        refine AW.getI af_X12_318_117 sr_117_41 dX12_product_54 ?_
        refine AW.istore_n (lv1 := [(2, iv (r3.2 117 41)), (1, iv t1), (0, rv z 117)]) dX12_product_57 (by decide) rfl ?_
        refine AW.aloadr_n 2 dX12_product_58 rfl ?_
        refine AW.iconst dX12_product_59 ?_
        refine AW.sipush dX12_product_60 (by decide) (by decide) ?_
        obtain ⟨r11, e12, h⟩ := hC h
        refine AW.callVi (As := [iv 1, iv 9999]) (st := []) (M_number_ok e12) cq_X12_349 cr_117_X12_number (Nat.le_trans (by decide) hdd) rfl dX12_product_63 rfl (Nat.le_of_ble_eq_true rfl) ?_
        refine AW.if_ne (tgt := 71) dX12_product_66 (by decide) (fun c13 => ?_) (fun c13 => ?_)
        · replace h := hF h c13
          refine AW.aloadr_n 2 dX12_product_71 rfl ?_
          refine AW.bipush dX12_product_72 (by decide) (by decide) ?_
          refine AW.iload_n 0 dX12_product_74 rfl ?_
          obtain ⟨r14, e15, h⟩ := hC h
          refine AW.callVv (As := [iv 13, iv (r3.2 117 41)]) (st := []) (M_lay_ok e15) cq_X12_342 cr_117_X12_lay (Nat.le_trans (by decide) hdd) rfl dX12_product_75 rfl (Nat.le_of_ble_eq_true rfl) ?_
          refine AW.goto (tgt := 97) dX12_product_78 (by decide) ?_
          refine AW.sub (lv1 := [(0, rv z 117)]) [2] rfl ?_
          exact (ih _ _ _ h).2.2 rfl
        · replace h := hT h c13
          refine AW.iconst dX12_product_69 ?_
          exact AW.zret1 rfl (Or.inl rfl) dX12_product_70 h rfl
    refine AW.icmp_ne (tgt := 43) dX12_product_36 (by decide) (fun c16 => ?_) (fun c16 => ?_)
    · refine AW.iconst dX12_product_43 ?_
      exact AW.val (e2.trans (if_neg c16)) J36
    · refine AW.iconst dX12_product_39 ?_
      refine AW.goto (tgt := 44) dX12_product_40 (by decide) ?_
      exact AW.val (e2.trans (if_pos c16)) J36
  · subst h9
    replace h := hF h (by decide)
    replace h := hF h (by decide)
    replace h := hT h rfl
    refine AW.goto (tgt := 9) dX12_product_97 (by decide) ?_
    exact (ih _ _ _ h).1 rfl
theorem M_product_ok {z : AZ} {g : AG} {r : Int × AG} (h : M_product g = some r) : AMf z yX12_product cX12_product 3 (some .boolean) 9 [rv z 117] g r := by
  intro d hdd
  refine AM.of (by decide +kernel) (Nat.le_of_ble_eq_true rfl) ?_
  show AW z (RX12, cX12_product, 3, (some .boolean)) d (QD (some .boolean) r) 0 [(0, rv z 117)] [] g
  unfold M_product at h
  refine AW.aloadr_n 0 dX12_product_0 rfl ?_
  obtain ⟨r1, e2, h⟩ := hC h
  refine AW.callVi (As := []) (st := []) (M_unit_ok e2) cq_X12_346 cr_117_X12_unit (Nat.le_trans (by decide) hdd) rfl dX12_product_1 rfl (Nat.le_of_ble_eq_true rfl) ?_
  refine AW.if_ne (tgt := 9) dX12_product_4 (by decide) (fun c3 => ?_) (fun c3 => ?_)
  · replace h := hF h c3
    exact (M_product_b_ok hdd _ _ _ h).1 rfl
  · replace h := hT h c3
    refine AW.iconst dX12_product_7 ?_
    exact AW.zret1 rfl (Or.inl rfl) dX12_product_8 h rfl
set_option synthInstance.maxHeartbeats 2000000 in
theorem M_sumUp_b_ok {z : AZ} {d : Nat} (hdd : 10 ≤ d) : ∀ (tag : Nat) (g : AG) (r : Int × AG), M_sumUp_b tag g = some r → (tag = 1 → AW z (RX12, cX12_sumUp, 2, (some .boolean)) d (QD (some .boolean) r) 9 [(0, rv z 117)] [] g) ∧ (tag = 2 → AW z (RX12, cX12_sumUp, 2, (some .boolean)) d (QD (some .boolean) r) 29 [(0, rv z 117)] [] g) := by
  refine M_sumUp_b.partial_correctness (fun tag g r => (tag = 1 → AW z (RX12, cX12_sumUp, 2, (some .boolean)) d (QD (some .boolean) r) 9 [(0, rv z 117)] [] g) ∧ (tag = 2 → AW z (RX12, cX12_sumUp, 2, (some .boolean)) d (QD (some .boolean) r) 29 [(0, rv z 117)] [] g)) ?_
  intro fb9 ih tag g r h
  refine ⟨fun h9 => ?_, fun h9 => ?_⟩
  · subst h9
    replace h := hT h rfl
    refine AW.aloadr_n 0 dX12_sumUp_9 rfl ?_
    refine AW.getI af_X12_306_117 sr_117_39 dX12_sumUp_10 ?_
    refine AW.sipush dX12_sumUp_13 (by decide) (by decide) ?_
    refine AW.icmp_eq (tgt := 29) dX12_sumUp_16 (by decide) (fun c1 => ?_) (fun c1 => ?_)
    · replace h := hT h c1
      exact (ih _ _ _ h).2 rfl
    · replace h := hF h c1
      refine AW.aloadr_n 0 dX12_sumUp_19 rfl ?_
      refine AW.getI af_X12_306_117 sr_117_39 dX12_sumUp_20 ?_
      refine AW.sipush dX12_sumUp_23 (by decide) (by decide) ?_
      refine AW.icmp_ne (tgt := 69) dX12_sumUp_26 (by decide) (fun c2 => ?_) (fun c2 => ?_)
      · replace h := hF h c2
        refine AW.iconst dX12_sumUp_69 ?_
        exact AW.zret1 rfl (Or.inr rfl) dX12_sumUp_70 h rfl
      · replace h := hT h c2
        exact (ih _ _ _ h).2 rfl
  · subst h9
    replace h := hF h (by decide)
    replace h := hT h rfl
    refine AW.aloadr_n 0 dX12_sumUp_29 rfl ?_
    refine AW.getI af_X12_306_117 sr_117_39 dX12_sumUp_30 ?_
    refine AW.sipush dX12_sumUp_33 (by decide) (by decide) ?_
    obtain ⟨t1, e2, h⟩ := hBe h
    refine AW.join (tgt := 46) (lv1 := [(0, rv z 117)]) (st1 := [iv t1]) (g1 := g) ?_ (fun J36 => ?_)
    · refine AW.istore_n (lv1 := [(1, iv t1), (0, rv z 117)]) dX12_sumUp_46 (by decide) rfl ?_
      refine AW.aloadr_n 1 dX12_sumUp_47 rfl ?_
      obtain ⟨r3, e4, h⟩ := hC h
      refine AW.callVv (As := []) (st := []) (M_next0_ok e4) cq_X12_330 cr_117_X12_next0 (Nat.le_trans (by decide) hdd) rfl dX12_sumUp_48 rfl (Nat.le_of_ble_eq_true rfl) ?_
      refine AW.aloadr_n 1 dX12_sumUp_51 rfl ?_
      obtain ⟨r5, e6, h⟩ := hC h
      refine AW.callVi (As := []) (st := []) (M_product_ok e6) cq_X12_338 cr_117_X12_product (Nat.le_trans (by decide) hdd) rfl dX12_sumUp_52 rfl (Nat.le_of_ble_eq_true rfl) ?_
      refine AW.if_ne (tgt := 60) dX12_sumUp_55 (by decide) (fun c7 => ?_) (fun c7 => ?_)
      · replace h := hF h c7
        refine AW.aloadr_n 1 dX12_sumUp_60 rfl ?_
        refine AW.iload_n 0 dX12_sumUp_61 rfl ?_
        refine AW.iconst dX12_sumUp_62 ?_
        obtain ⟨r8, e9, h⟩ := hC h
        refine AW.callVv (As := [iv t1, iv 0]) (st := []) (M_lay_ok e9) cq_X12_342 cr_117_X12_lay (Nat.le_trans (by decide) hdd) rfl dX12_sumUp_63 rfl (Nat.le_of_ble_eq_true rfl) ?_
        refine AW.goto (tgt := 9) dX12_sumUp_66 (by decide) ?_
        refine AW.sub (lv1 := [(0, rv z 117)]) [1] rfl ?_
        exact (ih _ _ _ h).1 rfl
      · replace h := hT h c7
        refine AW.iconst dX12_sumUp_58 ?_
        exact AW.zret1 rfl (Or.inl rfl) dX12_sumUp_59 h rfl
    refine AW.icmp_ne (tgt := 44) dX12_sumUp_36 (by decide) (fun c10 => ?_) (fun c10 => ?_)
    · refine AW.bipush dX12_sumUp_44 (by decide) (by decide) ?_
      exact AW.val (e2.trans (if_neg c10)) J36
    · refine AW.bipush dX12_sumUp_39 (by decide) (by decide) ?_
      refine AW.goto (tgt := 46) dX12_sumUp_41 (by decide) ?_
      exact AW.val (e2.trans (if_pos c10)) J36
theorem M_sumUp_ok {z : AZ} {g : AG} {r : Int × AG} (h : M_sumUp g = some r) : AMf z yX12_sumUp cX12_sumUp 2 (some .boolean) 10 [rv z 117] g r := by
  intro d hdd
  refine AM.of (by decide +kernel) (Nat.le_of_ble_eq_true rfl) ?_
  show AW z (RX12, cX12_sumUp, 2, (some .boolean)) d (QD (some .boolean) r) 0 [(0, rv z 117)] [] g
  unfold M_sumUp at h
  refine AW.aloadr_n 0 dX12_sumUp_0 rfl ?_
  obtain ⟨r1, e2, h⟩ := hC h
  refine AW.callVi (As := []) (st := []) (M_product_ok e2) cq_X12_338 cr_117_X12_product (Nat.le_trans (by decide) hdd) rfl dX12_sumUp_1 rfl (Nat.le_of_ble_eq_true rfl) ?_
  refine AW.if_ne (tgt := 9) dX12_sumUp_4 (by decide) (fun c3 => ?_) (fun c3 => ?_)
  · replace h := hF h c3
    exact (M_sumUp_b_ok hdd _ _ _ h).1 rfl
  · replace h := hT h c3
    refine AW.iconst dX12_sumUp_7 ?_
    exact AW.zret1 rfl (Or.inl rfl) dX12_sumUp_8 h rfl
theorem M_hours_117_136_137_ok {z : AZ} {x2 : Int} {x4 : Int} {g : AG} {r : Int × AG} (h : M_hours_117_136_137 x2 x4 g = some r) : AMf z yX12_hours cX12_hours 5 (some .boolean) 9 [rv z 117, rv z 136, iv x2, rv z 137, iv x4] g r := by
  intro d hdd
  refine AM.of (by decide +kernel) (Nat.le_of_ble_eq_true rfl) ?_
  show AW z (RX12, cX12_hours, 5, (some .boolean)) d (QD (some .boolean) r) 0 [(0, rv z 117), (1, rv z 136), (2, iv x2), (3, rv z 137), (4, iv x4)] [] g
  unfold M_hours_117_136_137 at h
  refine AW.aloadr_n 1 dX12_hours_0 rfl ?_
  refine AW.iload_n 2 dX12_hours_1 rfl ?_
  refine AW.aloadr_n 0 dX12_hours_2 rfl ?_
  refine AW.getI af_X12_318_117 sr_117_41 dX12_hours_3 ?_
  obtain ⟨k1, h⟩ := hK h
  obtain ⟨g2, e3, h⟩ := hBe h
  refine AW.iast kc_136 sk_136 k1 dX12_hours_6 e3 ?_
  refine AW.aloadr_n 0 dX12_hours_7 rfl ?_
  refine AW.iconst dX12_hours_8 ?_
  refine AW.bipush dX12_hours_9 (by decide) (by decide) ?_
  obtain ⟨r4, e5, h⟩ := hC h
  refine AW.callVi (As := [iv 0, iv 24]) (st := []) (M_number_ok e5) cq_X12_349 cr_117_X12_number (Nat.le_trans (by decide) hdd) rfl dX12_hours_11 rfl (Nat.le_of_ble_eq_true rfl) ?_
  refine AW.if_ne (tgt := 19) dX12_hours_14 (by decide) (fun c6 => ?_) (fun c6 => ?_)
  · replace h := hF h c6
    refine AW.aloadr_n 3 dX12_hours_19 rfl ?_
    refine AW.iload 4 dX12_hours_20 rfl ?_
    refine AW.aloadr_n 0 dX12_hours_22 rfl ?_
    refine AW.getI af_X12_318_117 sr_117_41 dX12_hours_23 ?_
    obtain ⟨k7, h⟩ := hK h
    obtain ⟨g8, e9, h⟩ := hBe h
    refine AW.iast kc_137 sk_137 k7 dX12_hours_26 e9 ?_
    refine AW.aloadr_n 0 dX12_hours_27 rfl ?_
    refine AW.iconst dX12_hours_28 ?_
    refine AW.bipush dX12_hours_29 (by decide) (by decide) ?_
    obtain ⟨r10, e11, h⟩ := hC h
    refine AW.callVi (As := [iv 0, iv 24]) (st := []) (M_number_ok e11) cq_X12_349 cr_117_X12_number (Nat.le_trans (by decide) hdd) rfl dX12_hours_31 rfl (Nat.le_of_ble_eq_true rfl) ?_
    obtain ⟨k12, h⟩ := hK h
    exact AW.zret1 rfl k12 dX12_hours_34 h rfl
  · replace h := hT h c6
    refine AW.iconst dX12_hours_17 ?_
    exact AW.zret1 rfl (Or.inl rfl) dX12_hours_18 h rfl
theorem M_hours_117_143_143_ok {z : AZ} {x2 : Int} {x4 : Int} {g : AG} {r : Int × AG} (h : M_hours_117_143_143 x2 x4 g = some r) : AMf z yX12_hours cX12_hours 5 (some .boolean) 9 [rv z 117, rv z 143, iv x2, rv z 143, iv x4] g r := by
  intro d hdd
  refine AM.of (by decide +kernel) (Nat.le_of_ble_eq_true rfl) ?_
  show AW z (RX12, cX12_hours, 5, (some .boolean)) d (QD (some .boolean) r) 0 [(0, rv z 117), (1, rv z 143), (2, iv x2), (3, rv z 143), (4, iv x4)] [] g
  unfold M_hours_117_143_143 at h
  refine AW.aloadr_n 1 dX12_hours_0 rfl ?_
  refine AW.iload_n 2 dX12_hours_1 rfl ?_
  refine AW.aloadr_n 0 dX12_hours_2 rfl ?_
  refine AW.getI af_X12_318_117 sr_117_41 dX12_hours_3 ?_
  obtain ⟨k1, h⟩ := hK h
  obtain ⟨g2, e3, h⟩ := hBe h
  refine AW.iast kc_143 sk_143 k1 dX12_hours_6 e3 ?_
  refine AW.aloadr_n 0 dX12_hours_7 rfl ?_
  refine AW.iconst dX12_hours_8 ?_
  refine AW.bipush dX12_hours_9 (by decide) (by decide) ?_
  obtain ⟨r4, e5, h⟩ := hC h
  refine AW.callVi (As := [iv 0, iv 24]) (st := []) (M_number_ok e5) cq_X12_349 cr_117_X12_number (Nat.le_trans (by decide) hdd) rfl dX12_hours_11 rfl (Nat.le_of_ble_eq_true rfl) ?_
  refine AW.if_ne (tgt := 19) dX12_hours_14 (by decide) (fun c6 => ?_) (fun c6 => ?_)
  · replace h := hF h c6
    refine AW.aloadr_n 3 dX12_hours_19 rfl ?_
    refine AW.iload 4 dX12_hours_20 rfl ?_
    refine AW.aloadr_n 0 dX12_hours_22 rfl ?_
    refine AW.getI af_X12_318_117 sr_117_41 dX12_hours_23 ?_
    obtain ⟨k7, h⟩ := hK h
    obtain ⟨g8, e9, h⟩ := hBe h
    refine AW.iast kc_143 sk_143 k7 dX12_hours_26 e9 ?_
    refine AW.aloadr_n 0 dX12_hours_27 rfl ?_
    refine AW.iconst dX12_hours_28 ?_
    refine AW.bipush dX12_hours_29 (by decide) (by decide) ?_
    obtain ⟨r10, e11, h⟩ := hC h
    refine AW.callVi (As := [iv 0, iv 24]) (st := []) (M_number_ok e11) cq_X12_349 cr_117_X12_number (Nat.le_trans (by decide) hdd) rfl dX12_hours_31 rfl (Nat.le_of_ble_eq_true rfl) ?_
    obtain ⟨k12, h⟩ := hK h
    exact AW.zret1 rfl k12 dX12_hours_34 h rfl
  · replace h := hT h c6
    refine AW.iconst dX12_hours_17 ?_
    exact AW.zret1 rfl (Or.inl rfl) dX12_hours_18 h rfl
set_option synthInstance.maxHeartbeats 2000000 in
theorem M_aTunnel_b_ok {z : AZ} {d : Nat} (hdd : 10 ≤ d) {x1 : Int} {g : AG} : ∀ (r : Int × AG), M_aTunnel_b x1 g = some r → AW z (RX12, cX12_aTunnel, 3, (some .boolean)) d (QD (some .boolean) r) 41 [(0, rv z 117), (1, iv x1)] [] g := by
  refine M_aTunnel_b.partial_correctness x1 g (fun r => AW z (RX12, cX12_aTunnel, 3, (some .boolean)) d (QD (some .boolean) r) 41 [(0, rv z 117), (1, iv x1)] [] g) ?_
  intro fb9 ih r h
  refine AW.iconst dX12_aTunnel_41 ?_
  refine AW.iload_n 1 dX12_aTunnel_42 rfl ?_
  refine AW.imul dX12_aTunnel_43 ?_
  refine AW.aloadr_n 0 dX12_aTunnel_44 rfl ?_
  refine AW.getI af_X12_306_117 sr_117_39 dX12_aTunnel_45 ?_
  refine AW.bipush dX12_aTunnel_48 (by decide) (by decide) ?_
  obtain ⟨t1, e2, h⟩ := hBe h
  refine AW.join (tgt := 58) (lv1 := [(0, rv z 117), (1, iv x1)]) (st1 := [iv t1, iv (2 * x1)]) (g1 := g) ?_ (fun J50 => ?_)
  · refine AW.iadd dX12_aTunnel_58 ?_
    refine AW.istore_n (lv1 := [(2, iv ((2 * x1) + t1)), (0, rv z 117), (1, iv x1)]) dX12_aTunnel_59 (by decide) rfl ?_
    refine AW.aloadr_n 1 dX12_aTunnel_60 rfl ?_
    refine AW.getR af_X12_100_117 sr_117_30 dX12_aTunnel_61 ?_
    refine AW.iload_n 0 dX12_aTunnel_64 rfl ?_
    obtain ⟨k3, h⟩ := hK h
    refine AW.zald kc_145 sk_145 k3 dX12_aTunnel_65 ?_
    refine AW.if_eq (tgt := 75) dX12_aTunnel_66 (by decide) (fun c4 => ?_) (fun c4 => ?_)
    · replace h := hT h c4
      refine AW.aloadr_n 1 dX12_aTunnel_75 rfl ?_
      refine AW.getR af_X12_100_117 sr_117_30 dX12_aTunnel_76 ?_
      refine AW.iload_n 0 dX12_aTunnel_79 rfl ?_
      refine AW.iconst dX12_aTunnel_80 ?_
      obtain ⟨g5, e6, h⟩ := hBe h
      refine AW.zast kc_145 sk_145 k3 (Or.inr rfl) dX12_aTunnel_81 e6 ?_
      refine AW.aloadr_n 1 dX12_aTunnel_82 rfl ?_
      obtain ⟨r7, e8, h⟩ := hC h
      refine AW.callVv (As := []) (st := []) (M_next0_ok e8) cq_X12_330 cr_117_X12_next0 (Nat.le_trans (by decide) hdd) rfl dX12_aTunnel_83 rfl (Nat.le_of_ble_eq_true rfl) ?_
      refine AW.aloadr_n 1 dX12_aTunnel_86 rfl ?_
      refine AW.aloadr_n 1 dX12_aTunnel_87 rfl ?_
      refine AW.getR af_X12_93_117 sr_117_28 dX12_aTunnel_88 ?_
      refine AW.iconst dX12_aTunnel_91 ?_
      refine AW.iload_n 0 dX12_aTunnel_92 rfl ?_
      refine AW.imul dX12_aTunnel_93 ?_
      refine AW.aloadr_n 1 dX12_aTunnel_94 rfl ?_
      refine AW.getR af_X12_93_117 sr_117_28 dX12_aTunnel_95 ?_
      refine AW.iconst dX12_aTunnel_98 ?_
      refine AW.iload_n 0 dX12_aTunnel_99 rfl ?_
      refine AW.imul dX12_aTunnel_100 ?_
      refine AW.iconst dX12_aTunnel_101 ?_
      refine AW.iadd dX12_aTunnel_102 ?_
      obtain ⟨r9, e10, h⟩ := hC h
      refine AW.callVi (As := [rv z 143, iv (2 * ((2 * x1) + t1)), rv z 143, iv ((2 * ((2 * x1) + t1)) + 1)]) (st := []) (M_hours_117_143_143_ok e10) cq_X12_371 cr_117_X12_hours (Nat.le_trans (by decide) hdd) rfl dX12_aTunnel_103 rfl (Nat.le_of_ble_eq_true rfl) ?_
      obtain ⟨k11, h⟩ := hK h
      exact AW.zret1 rfl k11 dX12_aTunnel_106 h rfl
    · replace h := hF h c4
      refine AW.aloadr_n 1 dX12_aTunnel_69 rfl ?_
      refine AW.iconst dX12_aTunnel_70 ?_
      obtain ⟨r12, e13, h⟩ := hC h
      refine AW.callVi (As := [iv 3]) (st := []) (M_bad_ok e13) cq_X12_327 cr_117_X12_bad (Nat.le_trans (by decide) hdd) rfl dX12_aTunnel_71 rfl (Nat.le_of_ble_eq_true rfl) ?_
      obtain ⟨k14, h⟩ := hK h
      exact AW.zret1 rfl k14 dX12_aTunnel_74 h rfl
  refine AW.icmp_ne (tgt := 57) dX12_aTunnel_50 (by decide) (fun c15 => ?_) (fun c15 => ?_)
  · refine AW.iconst dX12_aTunnel_57 ?_
    exact AW.val (e2.trans (if_neg c15)) J50
  · refine AW.iconst dX12_aTunnel_53 ?_
    refine AW.goto (tgt := 58) dX12_aTunnel_54 (by decide) ?_
    exact AW.val (e2.trans (if_pos c15)) J50
theorem M_aTunnel_ok {z : AZ} {g : AG} {r : Int × AG} (h : M_aTunnel g = some r) : AMf z yX12_aTunnel cX12_aTunnel 3 (some .boolean) 10 [rv z 117] g r := by
  intro d hdd
  refine AM.of (by decide +kernel) (Nat.le_of_ble_eq_true rfl) ?_
  show AW z (RX12, cX12_aTunnel, 3, (some .boolean)) d (QD (some .boolean) r) 0 [(0, rv z 117)] [] g
  unfold M_aTunnel at h
  refine AW.aloadr_n 0 dX12_aTunnel_0 rfl ?_
  refine AW.getI af_X12_318_117 sr_117_41 dX12_aTunnel_1 ?_
  refine AW.istore_n (lv1 := [(1, iv (g 117 41)), (0, rv z 117)]) dX12_aTunnel_4 (by decide) rfl ?_
  refine AW.aloadr_n 1 dX12_aTunnel_5 rfl ?_
  refine AW.iconst dX12_aTunnel_6 ?_
  refine AW.bipush dX12_aTunnel_7 (by decide) (by decide) ?_
  obtain ⟨r1, e2, h⟩ := hC h
  refine AW.callVi (As := [iv 0, iv 14]) (st := []) (M_number_ok e2) cq_X12_349 cr_117_X12_number (Nat.le_trans (by decide) hdd) rfl dX12_aTunnel_9 rfl (Nat.le_of_ble_eq_true rfl) ?_
  refine AW.if_ne (tgt := 17) dX12_aTunnel_12 (by decide) (fun c3 => ?_) (fun c3 => ?_)
  · replace h := hF h c3
    refine AW.aloadr_n 1 dX12_aTunnel_17 rfl ?_
    refine AW.getI af_X12_306_117 sr_117_39 dX12_aTunnel_18 ?_
    refine AW.bipush dX12_aTunnel_21 (by decide) (by decide) ?_
    refine AW.icmp_eq (tgt := 41) dX12_aTunnel_23 (by decide) (fun c4 => ?_) (fun c4 => ?_)
    · replace h := hT h c4
      refine AW.sub (lv1 := [(0, rv z 117), (1, iv (g 117 41))]) [1, 0] rfl ?_
      exact M_aTunnel_b_ok hdd _ h
    · replace h := hF h c4
      refine AW.aloadr_n 1 dX12_aTunnel_26 rfl ?_
      refine AW.getI af_X12_306_117 sr_117_39 dX12_aTunnel_27 ?_
      refine AW.bipush dX12_aTunnel_30 (by decide) (by decide) ?_
      refine AW.icmp_eq (tgt := 41) dX12_aTunnel_32 (by decide) (fun c5 => ?_) (fun c5 => ?_)
      · replace h := hT h c5
        refine AW.sub (lv1 := [(0, rv z 117), (1, iv (g 117 41))]) [1, 0] rfl ?_
        exact M_aTunnel_b_ok hdd _ h
      · replace h := hF h c5
        refine AW.aloadr_n 1 dX12_aTunnel_35 rfl ?_
        refine AW.iconst dX12_aTunnel_36 ?_
        obtain ⟨r6, e7, h⟩ := hC h
        refine AW.callVi (As := [iv 1]) (st := []) (M_bad_ok e7) cq_X12_327 cr_117_X12_bad (Nat.le_trans (by decide) hdd) rfl dX12_aTunnel_37 rfl (Nat.le_of_ble_eq_true rfl) ?_
        obtain ⟨k8, h⟩ := hK h
        exact AW.zret1 rfl k8 dX12_aTunnel_40 h rfl
  · replace h := hT h c3
    refine AW.iconst dX12_aTunnel_15 ?_
    exact AW.zret1 rfl (Or.inl rfl) dX12_aTunnel_16 h rfl
theorem M_need_ok {z : AZ} {x1 : Int} {g : AG} {r : Int × AG} (h : M_need x1 g = some r) : AMf z yX12_need cX12_need 2 (some .boolean) 8 [rv z 117, iv x1] g r := by
  intro d hdd
  refine AM.of (by decide +kernel) (Nat.le_of_ble_eq_true rfl) ?_
  show AW z (RX12, cX12_need, 2, (some .boolean)) d (QD (some .boolean) r) 0 [(0, rv z 117), (1, iv x1)] [] g
  unfold M_need at h
  refine AW.aloadr_n 0 dX12_need_0 rfl ?_
  refine AW.getI af_X12_306_117 sr_117_39 dX12_need_1 ?_
  refine AW.iload_n 1 dX12_need_4 rfl ?_
  refine AW.icmp_eq (tgt := 14) dX12_need_5 (by decide) (fun c1 => ?_) (fun c1 => ?_)
  · replace h := hT h c1
    refine AW.aloadr_n 0 dX12_need_14 rfl ?_
    obtain ⟨r2, e3, h⟩ := hC h
    refine AW.callVv (As := []) (st := []) (M_next0_ok e3) cq_X12_330 cr_117_X12_next0 (Nat.le_trans (by decide) hdd) rfl dX12_need_15 rfl (Nat.le_of_ble_eq_true rfl) ?_
    refine AW.iconst dX12_need_18 ?_
    exact AW.zret1 rfl (Or.inr rfl) dX12_need_19 h rfl
  · replace h := hF h c1
    refine AW.aloadr_n 0 dX12_need_8 rfl ?_
    refine AW.iconst dX12_need_9 ?_
    obtain ⟨r4, e5, h⟩ := hC h
    refine AW.callVi (As := [iv 1]) (st := []) (M_bad_ok e5) cq_X12_327 cr_117_X12_bad (Nat.le_trans (by decide) hdd) rfl dX12_need_10 rfl (Nat.le_of_ble_eq_true rfl) ?_
    obtain ⟨k6, h⟩ := hK h
    exact AW.zret1 rfl k6 dX12_need_13 h rfl
set_option synthInstance.maxHeartbeats 2000000 in
theorem M_every_b_ok {z : AZ} {rec : AG → Option (Int × AG)} {Dr : Nat} (hC9 : 8 ≤ Dr) (hrec : ∀ (g : AG) (r : Int × AG), rec g = some r → AMf z yX12_one cX12_one 2 (some .boolean) Dr [rv z 117] g r) {d : Nat} (hdd : Dr + 1 ≤ d) : ∀ (g : AG) (r : Int × AG), M_every_b rec g = some r → AW z (RX12, cX12_every, 1, (some .boolean)) d (QD (some .boolean) r) 9 [(0, rv z 117)] [] g := by
  refine M_every_b.partial_correctness rec (fun g r => AW z (RX12, cX12_every, 1, (some .boolean)) d (QD (some .boolean) r) 9 [(0, rv z 117)] [] g) ?_
  intro fb9 ih g r h
  refine AW.aloadr_n 0 dX12_every_9 rfl ?_
  refine AW.getI af_X12_306_117 sr_117_39 dX12_every_10 ?_
  refine AW.iconst dX12_every_13 ?_
  refine AW.icmp_ne (tgt := 40) dX12_every_14 (by decide) (fun c1 => ?_) (fun c1 => ?_)
  · replace h := hF h c1
    refine AW.iconst dX12_every_40 ?_
    exact AW.zret1 rfl (Or.inr rfl) dX12_every_41 h rfl
  · replace h := hT h c1
    refine AW.aloadr_n 0 dX12_every_17 rfl ?_
    obtain ⟨r2, e3, h⟩ := hC h
    refine AW.callVv (As := []) (st := []) (M_next0_ok e3) cq_X12_330 cr_117_X12_next0 (by omega) rfl dX12_every_18 rfl (Nat.le_of_ble_eq_true rfl) ?_
    refine AW.aloadr_n 0 dX12_every_21 rfl ?_
    obtain ⟨r4, e5, h⟩ := hC h
    refine AW.callVi (As := []) (st := []) (hrec _ _ e5) cq_X12_356 cr_117_X12_one (by omega) rfl dX12_every_22 rfl (Nat.le_of_ble_eq_true rfl) ?_
    refine AW.if_ne (tgt := 30) dX12_every_25 (by decide) (fun c6 => ?_) (fun c6 => ?_)
    · replace h := hF h c6
      refine AW.aloadr_n 0 dX12_every_30 rfl ?_
      refine AW.bipush dX12_every_31 (by decide) (by decide) ?_
      refine AW.iconst dX12_every_33 ?_
      obtain ⟨r7, e8, h⟩ := hC h
      refine AW.callVv (As := [iv 18, iv 0]) (st := []) (M_lay_ok e8) cq_X12_342 cr_117_X12_lay (by omega) rfl dX12_every_34 rfl (Nat.le_of_ble_eq_true rfl) ?_
      refine AW.goto (tgt := 9) dX12_every_37 (by decide) ?_
      exact ih _ _ h
    · replace h := hT h c6
      refine AW.iconst dX12_every_28 ?_
      exact AW.zret1 rfl (Or.inl rfl) dX12_every_29 h rfl
theorem M_every_ok {z : AZ} {rec : AG → Option (Int × AG)} {Dr : Nat} (hC9 : 8 ≤ Dr) (hrec : ∀ (g : AG) (r : Int × AG), rec g = some r → AMf z yX12_one cX12_one 2 (some .boolean) Dr [rv z 117] g r) {g : AG} {r : Int × AG} (h : M_every rec g = some r) : AMf z yX12_every cX12_every 1 (some .boolean) (Dr + 1) [rv z 117] g r := by
  intro d hdd
  refine AM.of (by decide +kernel) (Nat.le_of_ble_eq_true rfl) ?_
  show AW z (RX12, cX12_every, 1, (some .boolean)) d (QD (some .boolean) r) 0 [(0, rv z 117)] [] g
  unfold M_every at h
  refine AW.aloadr_n 0 dX12_every_0 rfl ?_
  obtain ⟨r1, e2, h⟩ := hC h
  refine AW.callVi (As := []) (st := []) (hrec _ _ e2) cq_X12_356 cr_117_X12_one (by omega) rfl dX12_every_1 rfl (Nat.le_of_ble_eq_true rfl) ?_
  refine AW.if_ne (tgt := 9) dX12_every_4 (by decide) (fun c3 => ?_) (fun c3 => ?_)
  · replace h := hF h c3
    exact M_every_b_ok hC9 hrec hdd _ _ h
  · replace h := hT h c3
    refine AW.iconst dX12_every_7 ?_
    exact AW.zret1 rfl (Or.inl rfl) dX12_every_8 h rfl
set_option synthInstance.maxHeartbeats 2000000 in
theorem M_any_b_ok {z : AZ} {rec : AG → Option (Int × AG)} {Dr : Nat} (hC9 : 8 ≤ Dr) (hrec : ∀ (g : AG) (r : Int × AG), rec g = some r → AMf z yX12_one cX12_one 2 (some .boolean) Dr [rv z 117] g r) {d : Nat} (hdd : Dr + 2 ≤ d) : ∀ (g : AG) (r : Int × AG), M_any_b rec g = some r → AW z (RX12, cX12_any, 1, (some .boolean)) d (QD (some .boolean) r) 9 [(0, rv z 117)] [] g := by
  refine M_any_b.partial_correctness rec (fun g r => AW z (RX12, cX12_any, 1, (some .boolean)) d (QD (some .boolean) r) 9 [(0, rv z 117)] [] g) ?_
  intro fb9 ih g r h
  refine AW.aloadr_n 0 dX12_any_9 rfl ?_
  refine AW.getI af_X12_306_117 sr_117_39 dX12_any_10 ?_
  refine AW.iconst dX12_any_13 ?_
  refine AW.icmp_ne (tgt := 40) dX12_any_14 (by decide) (fun c1 => ?_) (fun c1 => ?_)
  · replace h := hF h c1
    refine AW.iconst dX12_any_40 ?_
    exact AW.zret1 rfl (Or.inr rfl) dX12_any_41 h rfl
  · replace h := hT h c1
    refine AW.aloadr_n 0 dX12_any_17 rfl ?_
    obtain ⟨r2, e3, h⟩ := hC h
    refine AW.callVv (As := []) (st := []) (M_next0_ok e3) cq_X12_330 cr_117_X12_next0 (by omega) rfl dX12_any_18 rfl (Nat.le_of_ble_eq_true rfl) ?_
    refine AW.aloadr_n 0 dX12_any_21 rfl ?_
    obtain ⟨r4, e5, h⟩ := hC h
    refine AW.callVi (As := []) (st := []) (M_every_ok (Nat.le_trans (by decide) hC9) hrec e5) cq_X12_353 cr_117_X12_every (by omega) rfl dX12_any_22 rfl (Nat.le_of_ble_eq_true rfl) ?_
    refine AW.if_ne (tgt := 30) dX12_any_25 (by decide) (fun c6 => ?_) (fun c6 => ?_)
    · replace h := hF h c6
      refine AW.aloadr_n 0 dX12_any_30 rfl ?_
      refine AW.bipush dX12_any_31 (by decide) (by decide) ?_
      refine AW.iconst dX12_any_33 ?_
      obtain ⟨r7, e8, h⟩ := hC h
      refine AW.callVv (As := [iv 19, iv 0]) (st := []) (M_lay_ok e8) cq_X12_342 cr_117_X12_lay (by omega) rfl dX12_any_34 rfl (Nat.le_of_ble_eq_true rfl) ?_
      refine AW.goto (tgt := 9) dX12_any_37 (by decide) ?_
      exact ih _ _ h
    · replace h := hT h c6
      refine AW.iconst dX12_any_28 ?_
      exact AW.zret1 rfl (Or.inl rfl) dX12_any_29 h rfl
theorem M_any_ok {z : AZ} {rec : AG → Option (Int × AG)} {Dr : Nat} (hC9 : 8 ≤ Dr) (hrec : ∀ (g : AG) (r : Int × AG), rec g = some r → AMf z yX12_one cX12_one 2 (some .boolean) Dr [rv z 117] g r) {g : AG} {r : Int × AG} (h : M_any rec g = some r) : AMf z yX12_any cX12_any 1 (some .boolean) (Dr + 2) [rv z 117] g r := by
  intro d hdd
  refine AM.of (by decide +kernel) (Nat.le_of_ble_eq_true rfl) ?_
  show AW z (RX12, cX12_any, 1, (some .boolean)) d (QD (some .boolean) r) 0 [(0, rv z 117)] [] g
  unfold M_any at h
  refine AW.aloadr_n 0 dX12_any_0 rfl ?_
  obtain ⟨r1, e2, h⟩ := hC h
  refine AW.callVi (As := []) (st := []) (M_every_ok (Nat.le_trans (by decide) hC9) hrec e2) cq_X12_353 cr_117_X12_every (by omega) rfl dX12_any_1 rfl (Nat.le_of_ble_eq_true rfl) ?_
  refine AW.if_ne (tgt := 9) dX12_any_4 (by decide) (fun c3 => ?_) (fun c3 => ?_)
  · replace h := hF h c3
    exact M_any_b_ok hC9 hrec hdd _ _ h
  · replace h := hT h c3
    refine AW.iconst dX12_any_7 ?_
    exact AW.zret1 rfl (Or.inl rfl) dX12_any_8 h rfl
theorem M_opens_ok {z : AZ} {g : AG} {r : Int × AG} (h : M_opens g = some r) : AMf z yX12_opens cX12_opens 1 (some .boolean) 8 [rv z 117] g r := by
  intro d hdd
  refine AM.of (by decide +kernel) (Nat.le_of_ble_eq_true rfl) ?_
  show AW z (RX12, cX12_opens, 1, (some .boolean)) d (QD (some .boolean) r) 0 [(0, rv z 117)] [] g
  unfold M_opens at h
  refine AW.aloadr_n 0 dX12_opens_0 rfl ?_
  refine AW.getI af_X12_336_117 sr_117_45 dX12_opens_1 ?_
  refine AW.bipush dX12_opens_4 (by decide) (by decide) ?_
  refine AW.icmp_ne (tgt := 15) dX12_opens_6 (by decide) (fun c1 => ?_) (fun c1 => ?_)
  · replace h := hF h c1
    refine AW.aloadr_n 0 dX12_opens_15 rfl ?_
    refine AW.duprr dX12_opens_16 ?_
    refine AW.getI af_X12_336_117 sr_117_45 dX12_opens_17 ?_
    refine AW.iconst dX12_opens_20 ?_
    refine AW.iadd dX12_opens_21 ?_
    obtain ⟨g2, e3, h⟩ := hBe h
    refine AW.putI ap_X12_336_117 sr_117_45 dX12_opens_22 e3 ?_
    refine AW.aloadr_n 0 dX12_opens_25 rfl ?_
    obtain ⟨r4, e5, h⟩ := hC h
    refine AW.callVv (As := []) (st := []) (M_next0_ok e5) cq_X12_330 cr_117_X12_next0 (Nat.le_trans (by decide) hdd) rfl dX12_opens_26 rfl (Nat.le_of_ble_eq_true rfl) ?_
    refine AW.iconst dX12_opens_29 ?_
    exact AW.zret1 rfl (Or.inr rfl) dX12_opens_30 h rfl
  · replace h := hT h c1
    refine AW.aloadr_n 0 dX12_opens_9 rfl ?_
    refine AW.iconst dX12_opens_10 ?_
    obtain ⟨r6, e7, h⟩ := hC h
    refine AW.callVi (As := [iv 3]) (st := []) (M_bad_ok e7) cq_X12_327 cr_117_X12_bad (Nat.le_trans (by decide) hdd) rfl dX12_opens_11 rfl (Nat.le_of_ble_eq_true rfl) ?_
    obtain ⟨k8, h⟩ := hK h
    exact AW.zret1 rfl k8 dX12_opens_14 h rfl
theorem M_one_s_ok {z : AZ} {rec : AG → Option (Int × AG)} {Dr : Nat} (hC9 : 11 ≤ Dr) (hrec : ∀ (g : AG) (r : Int × AG), rec g = some r → AMf z yX12_one cX12_one 2 (some .boolean) Dr [rv z 117] g r) {g : AG} {r : Int × AG} (h : M_one_s rec g = some r) : AMf z yX12_one cX12_one 2 (some .boolean) (Dr + 3) [rv z 117] g r := by
  intro d hdd
  refine AM.of (by decide +kernel) (Nat.le_of_ble_eq_true rfl) ?_
  show AW z (RX12, cX12_one, 2, (some .boolean)) d (QD (some .boolean) r) 0 [(0, rv z 117)] [] g
  unfold M_one_s at h
  refine AW.aloadr_n 0 dX12_one_0 rfl ?_
  refine AW.getI af_X12_306_117 sr_117_39 dX12_one_1 ?_
  refine AW.bipush dX12_one_4 (by decide) (by decide) ?_
  refine AW.icmp_ne (tgt := 44) dX12_one_6 (by decide) (fun c1 => ?_) (fun c1 => ?_)
  · replace h := hF h c1
    refine AW.aloadr_n 0 dX12_one_44 rfl ?_
    refine AW.getI af_X12_306_117 sr_117_39 dX12_one_45 ?_
    refine AW.sipush dX12_one_48 (by decide) (by decide) ?_
    refine AW.icmp_ne (tgt := 92) dX12_one_51 (by decide) (fun c2 => ?_) (fun c2 => ?_)
    · replace h := hF h c2
      refine AW.aloadr_n 0 dX12_one_92 rfl ?_
      obtain ⟨r3, e4, h⟩ := hC h
      refine AW.callVi (As := []) (st := []) (M_sumUp_ok e4) cq_X12_368 cr_117_X12_sumUp (by omega) rfl dX12_one_93 rfl (Nat.le_of_ble_eq_true rfl) ?_
      refine AW.if_ne (tgt := 101) dX12_one_96 (by decide) (fun c5 => ?_) (fun c5 => ?_)
      · replace h := hF h c5
        refine AW.aloadr_n 0 dX12_one_101 rfl ?_
        refine AW.getI af_X12_306_117 sr_117_39 dX12_one_102 ?_
        refine AW.sipush dX12_one_105 (by decide) (by decide) ?_
        obtain ⟨t6, e7, h⟩ := hBe h
        refine AW.join (tgt := 147) (lv1 := [(0, rv z 117)]) (st1 := [iv t6]) (g1 := r3.2) ?_ (fun J108 => ?_)
        · refine AW.istore_n (lv1 := [(1, iv t6), (0, rv z 117)]) dX12_one_147 (by decide) rfl ?_
          refine AW.iload_n 0 dX12_one_148 rfl ?_
          refine AW.iconst dX12_one_149 ?_
          refine AW.icmp_ne (tgt := 159) dX12_one_150 (by decide) (fun c8 => ?_) (fun c8 => ?_)
          · replace h := hF h c8
            refine AW.aloadr_n 1 dX12_one_159 rfl ?_
            obtain ⟨r9, e10, h⟩ := hC h
            refine AW.callVv (As := []) (st := []) (M_next0_ok e10) cq_X12_330 cr_117_X12_next0 (by omega) rfl dX12_one_160 rfl (Nat.le_of_ble_eq_true rfl) ?_
            refine AW.aloadr_n 1 dX12_one_163 rfl ?_
            obtain ⟨r11, e12, h⟩ := hC h
            refine AW.callVi (As := []) (st := []) (M_sumUp_ok e12) cq_X12_368 cr_117_X12_sumUp (by omega) rfl dX12_one_164 rfl (Nat.le_of_ble_eq_true rfl) ?_
            refine AW.if_ne (tgt := 172) dX12_one_167 (by decide) (fun c13 => ?_) (fun c13 => ?_)
            · replace h := hF h c13
              refine AW.aloadr_n 1 dX12_one_172 rfl ?_
              refine AW.iload_n 0 dX12_one_173 rfl ?_
              refine AW.iconst dX12_one_174 ?_
              obtain ⟨r14, e15, h⟩ := hC h
              refine AW.callVv (As := [iv t6, iv 0]) (st := []) (M_lay_ok e15) cq_X12_342 cr_117_X12_lay (by omega) rfl dX12_one_175 rfl (Nat.le_of_ble_eq_true rfl) ?_
              refine AW.iconst dX12_one_178 ?_
              exact AW.zret1 rfl (Or.inr rfl) dX12_one_179 h rfl
            · replace h := hT h c13
              refine AW.iconst dX12_one_170 ?_
              exact AW.zret1 rfl (Or.inl rfl) dX12_one_171 h rfl
          · replace h := hT h c8
            refine AW.aloadr_n 1 dX12_one_153 rfl ?_
            refine AW.iconst dX12_one_154 ?_
            obtain ⟨r16, e17, h⟩ := hC h
            refine AW.callVi (As := [iv 1]) (st := []) (M_bad_ok e17) cq_X12_327 cr_117_X12_bad (by omega) rfl dX12_one_155 rfl (Nat.le_of_ble_eq_true rfl) ?_
            obtain ⟨k18, h⟩ := hK h
            exact AW.zret1 rfl k18 dX12_one_158 h rfl
        refine AW.icmp_ne (tgt := 116) dX12_one_108 (by decide) (fun c19 => ?_) (fun c19 => ?_)
        · refine AW.aloadr_n 0 dX12_one_116 rfl ?_
          refine AW.getI af_X12_306_117 sr_117_39 dX12_one_117 ?_
          refine AW.sipush dX12_one_120 (by decide) (by decide) ?_
          refine AW.icmp_ne (tgt := 131) dX12_one_123 (by decide) (fun c20 => ?_) (fun c20 => ?_)
          · refine AW.aloadr_n 0 dX12_one_131 rfl ?_
            refine AW.getI af_X12_306_117 sr_117_39 dX12_one_132 ?_
            refine AW.sipush dX12_one_135 (by decide) (by decide) ?_
            refine AW.icmp_ne (tgt := 146) dX12_one_138 (by decide) (fun c21 => ?_) (fun c21 => ?_)
            · refine AW.iconst dX12_one_146 ?_
              exact AW.val (e7.trans ((if_neg c19).trans ((if_neg c20).trans (if_neg c21)))) J108
            · refine AW.bipush dX12_one_141 (by decide) (by decide) ?_
              refine AW.goto (tgt := 147) dX12_one_143 (by decide) ?_
              exact AW.val (e7.trans ((if_neg c19).trans ((if_neg c20).trans (if_pos c21)))) J108
          · refine AW.bipush dX12_one_126 (by decide) (by decide) ?_
            refine AW.goto (tgt := 147) dX12_one_128 (by decide) ?_
            exact AW.val (e7.trans ((if_neg c19).trans (if_pos c20))) J108
        · refine AW.bipush dX12_one_111 (by decide) (by decide) ?_
          refine AW.goto (tgt := 147) dX12_one_113 (by decide) ?_
          exact AW.val (e7.trans (if_pos c19)) J108
      · replace h := hT h c5
        refine AW.iconst dX12_one_99 ?_
        exact AW.zret1 rfl (Or.inl rfl) dX12_one_100 h rfl
    · replace h := hT h c2
      refine AW.aloadr_n 0 dX12_one_54 rfl ?_
      obtain ⟨r22, e23, h⟩ := hC h
      refine AW.callVi (As := []) (st := []) (M_opens_ok e23) cq_X12_359 cr_117_X12_opens (by omega) rfl dX12_one_55 rfl (Nat.le_of_ble_eq_true rfl) ?_
      refine AW.if_eq (tgt := 78) dX12_one_58 (by decide) (fun c24 => ?_) (fun c24 => ?_)
      · replace h := hT h c24
        refine AW.iconst dX12_one_78 ?_
        exact AW.zret1 rfl (Or.inl rfl) dX12_one_79 h rfl
      · replace h := hF h c24
        refine AW.aloadr_n 0 dX12_one_61 rfl ?_
        obtain ⟨r25, e26, h⟩ := hC h
        refine AW.callVi (As := []) (st := []) (M_any_ok (Nat.le_trans (by decide) hC9) hrec e26) cq_X12_362 cr_117_X12_any (by omega) rfl dX12_one_62 rfl (Nat.le_of_ble_eq_true rfl) ?_
        refine AW.if_eq (tgt := 78) dX12_one_65 (by decide) (fun c27 => ?_) (fun c27 => ?_)
        · replace h := hT h c27
          refine AW.iconst dX12_one_78 ?_
          exact AW.zret1 rfl (Or.inl rfl) dX12_one_79 h rfl
        · replace h := hF h c27
          refine AW.aloadr_n 0 dX12_one_68 rfl ?_
          refine AW.sipush dX12_one_69 (by decide) (by decide) ?_
          obtain ⟨r28, e29, h⟩ := hC h
          refine AW.callVi (As := [iv 141]) (st := []) (M_need_ok e29) cq_X12_365 cr_117_X12_need (by omega) rfl dX12_one_72 rfl (Nat.le_of_ble_eq_true rfl) ?_
          refine AW.if_ne (tgt := 80) dX12_one_75 (by decide) (fun c30 => ?_) (fun c30 => ?_)
          · replace h := hF h c30
            refine AW.aloadr_n 0 dX12_one_80 rfl ?_
            refine AW.duprr dX12_one_81 ?_
            refine AW.getI af_X12_336_117 sr_117_45 dX12_one_82 ?_
            refine AW.iconst dX12_one_85 ?_
            refine AW.isub dX12_one_86 ?_
            obtain ⟨g31, e32, h⟩ := hBe h
            refine AW.putI ap_X12_336_117 sr_117_45 dX12_one_87 e32 ?_
            refine AW.iconst dX12_one_90 ?_
            exact AW.zret1 rfl (Or.inr rfl) dX12_one_91 h rfl
          · replace h := hT h c30
            refine AW.iconst dX12_one_78 ?_
            exact AW.zret1 rfl (Or.inl rfl) dX12_one_79 h rfl
  · replace h := hT h c1
    refine AW.aloadr_n 0 dX12_one_9 rfl ?_
    obtain ⟨r33, e34, h⟩ := hC h
    refine AW.callVi (As := []) (st := []) (M_opens_ok e34) cq_X12_359 cr_117_X12_opens (by omega) rfl dX12_one_10 rfl (Nat.le_of_ble_eq_true rfl) ?_
    refine AW.if_eq (tgt := 23) dX12_one_13 (by decide) (fun c35 => ?_) (fun c35 => ?_)
    · replace h := hT h c35
      refine AW.iconst dX12_one_23 ?_
      exact AW.zret1 rfl (Or.inl rfl) dX12_one_24 h rfl
    · replace h := hF h c35
      refine AW.aloadr_n 0 dX12_one_16 rfl ?_
      obtain ⟨r36, e37, h⟩ := hC h
      refine AW.callVi (As := []) (st := []) (hrec _ _ e37) cq_X12_356 cr_117_X12_one (by omega) rfl dX12_one_17 rfl (Nat.le_of_ble_eq_true rfl) ?_
      refine AW.if_ne (tgt := 25) dX12_one_20 (by decide) (fun c38 => ?_) (fun c38 => ?_)
      · replace h := hF h c38
        refine AW.aloadr_n 0 dX12_one_25 rfl ?_
        refine AW.duprr dX12_one_26 ?_
        refine AW.getI af_X12_336_117 sr_117_45 dX12_one_27 ?_
        refine AW.iconst dX12_one_30 ?_
        refine AW.isub dX12_one_31 ?_
        obtain ⟨g39, e40, h⟩ := hBe h
        refine AW.putI ap_X12_336_117 sr_117_45 dX12_one_32 e40 ?_
        refine AW.aloadr_n 0 dX12_one_35 rfl ?_
        refine AW.bipush dX12_one_36 (by decide) (by decide) ?_
        refine AW.iconst dX12_one_38 ?_
        obtain ⟨r41, e42, h⟩ := hC h
        refine AW.callVv (As := [iv 17, iv 0]) (st := []) (M_lay_ok e42) cq_X12_342 cr_117_X12_lay (by omega) rfl dX12_one_39 rfl (Nat.le_of_ble_eq_true rfl) ?_
        refine AW.iconst dX12_one_42 ?_
        exact AW.zret1 rfl (Or.inr rfl) dX12_one_43 h rfl
      · replace h := hT h c38
        refine AW.iconst dX12_one_23 ?_
        exact AW.zret1 rfl (Or.inl rfl) dX12_one_24 h rfl
theorem M_one_ok {z : AZ} {n : Nat} {g : AG} {r : Int × AG} (h : M_one n g = some r) : AMf z yX12_one cX12_one 2 (some .boolean) (11 + n * 3) [rv z 117] g r := by
  induction n generalizing g r with
  | zero => cases h
  | succ n ih =>
    have q := M_one_s_ok (z := z) (Dr := 11 + n * 3) (Nat.le_add_right _ _) (fun g r h9 => ih h9) h
    rw [show 11 + (n + 1) * 3 = 11 + n * 3 + 3 by rw [Nat.add_mul]; omega]
    exact q
set_option synthInstance.maxHeartbeats 2000000 in
theorem M_aLine_b_ok {z : AZ} {d : Nat} (hdd : 50 ≤ d) {x2 : Int} : ∀ (tag : Nat) (g : AG) (r : Int × AG), M_aLine_b x2 tag g = some r → (tag = 1 → AW z (RX12, cX12_aLine, 3, (some .boolean)) d (QD (some .boolean) r) 155 [(0, rv z 117), (2, iv x2)] [] g) ∧ (tag = 2 → AW z (RX12, cX12_aLine, 3, (some .boolean)) d (QD (some .boolean) r) 186 [(0, rv z 117), (2, iv x2)] [] g) := by
  refine M_aLine_b.partial_correctness x2 (fun tag g r => (tag = 1 → AW z (RX12, cX12_aLine, 3, (some .boolean)) d (QD (some .boolean) r) 155 [(0, rv z 117), (2, iv x2)] [] g) ∧ (tag = 2 → AW z (RX12, cX12_aLine, 3, (some .boolean)) d (QD (some .boolean) r) 186 [(0, rv z 117), (2, iv x2)] [] g)) ?_
  intro fb9 ih tag g r h
  refine ⟨fun h9 => ?_, fun h9 => ?_⟩
  · subst h9
    replace h := hT h rfl
    refine AW.aloadr_n 0 dX12_aLine_155 rfl ?_
    refine AW.getR af_X12_81_117 sr_117_24 dX12_aLine_156 ?_
    refine AW.iload_n 1 dX12_aLine_159 rfl ?_
    refine AW.aloadr_n 0 dX12_aLine_160 rfl ?_
    refine AW.getI af_X12_333_117 sr_117_36 dX12_aLine_161 ?_
    obtain ⟨k1, h⟩ := hK h
    obtain ⟨g2, e3, h⟩ := hBe h
    refine AW.iast kc_139 sk_139 k1 dX12_aLine_164 e3 ?_
    refine AW.aloadr_n 0 dX12_aLine_165 rfl ?_
    refine AW.getI af_X12_306_117 sr_117_39 dX12_aLine_166 ?_
    refine AW.iconst dX12_aLine_169 ?_
    refine AW.icmp_ne (tgt := 186) dX12_aLine_170 (by decide) (fun c4 => ?_) (fun c4 => ?_)
    · replace h := hF h c4
      exact (ih _ _ _ h).2 rfl
    · replace h := hT h c4
      refine AW.aloadr_n 0 dX12_aLine_173 rfl ?_
      obtain ⟨r5, e6, h⟩ := hC h
      refine AW.callVv (As := []) (st := []) (M_next0_ok e6) cq_X12_330 cr_117_X12_next0 (Nat.le_trans (by decide) hdd) rfl dX12_aLine_174 rfl (Nat.le_of_ble_eq_true rfl) ?_
      refine AW.aloadr_n 0 dX12_aLine_177 rfl ?_
      obtain ⟨r7, e8, h⟩ := hC h
      refine AW.callVi (As := []) (st := []) (M_any_ok (Dr := 47) (by decide) (fun _ r9 h9 => M_one_ok (n := 12) h9) e8) cq_X12_362 cr_117_X12_any (Nat.le_trans (by decide) hdd) rfl dX12_aLine_178 rfl (Nat.le_of_ble_eq_true rfl) ?_
      refine AW.if_ne (tgt := 186) dX12_aLine_181 (by decide) (fun c9 => ?_) (fun c9 => ?_)
      · replace h := hF h c9
        exact (ih _ _ _ h).2 rfl
      · replace h := hT h c9
        refine AW.iconst dX12_aLine_184 ?_
        exact AW.zret1 rfl (Or.inl rfl) dX12_aLine_185 h rfl
  · subst h9
    replace h := hF h (by decide)
    replace h := hT h rfl
    refine AW.aloadr_n 0 dX12_aLine_186 rfl ?_
    refine AW.getR af_X12_84_117 sr_117_25 dX12_aLine_187 ?_
    refine AW.iload_n 1 dX12_aLine_190 rfl ?_
    refine AW.aloadr_n 0 dX12_aLine_191 rfl ?_
    refine AW.getI af_X12_333_117 sr_117_36 dX12_aLine_192 ?_
    obtain ⟨k1, h⟩ := hK h
    obtain ⟨g2, e3, h⟩ := hBe h
    refine AW.iast kc_140 sk_140 k1 dX12_aLine_195 e3 ?_
    refine AW.aloadr_n 0 dX12_aLine_196 rfl ?_
    refine AW.sipush dX12_aLine_197 (by decide) (by decide) ?_
    obtain ⟨r4, e5, h⟩ := hC h
    refine AW.callVi (As := [iv 159]) (st := []) (M_need_ok e5) cq_X12_365 cr_117_X12_need (Nat.le_trans (by decide) hdd) rfl dX12_aLine_200 rfl (Nat.le_of_ble_eq_true rfl) ?_
    obtain ⟨k6, h⟩ := hK h
    exact AW.zret1 rfl k6 dX12_aLine_203 h rfl
theorem M_aLine_ok {z : AZ} {g : AG} {r : Int × AG} (h : M_aLine g = some r) : AMf z yX12_aLine cX12_aLine 3 (some .boolean) 50 [rv z 117] g r := by
  intro d hdd
  refine AM.of (by decide +kernel) (Nat.le_of_ble_eq_true rfl) ?_
  show AW z (RX12, cX12_aLine, 3, (some .boolean)) d (QD (some .boolean) r) 0 [(0, rv z 117)] [] g
  unfold M_aLine at h
  refine AW.aloadr_n 0 dX12_aLine_0 rfl ?_
  refine AW.getI af_X12_306_117 sr_117_39 dX12_aLine_1 ?_
  refine AW.bipush dX12_aLine_4 (by decide) (by decide) ?_
  refine AW.bipush dX12_aLine_6 (by decide) (by decide) ?_
  refine AW.callSi (As := [iv (g 117 39), iv 20, iv 24]) (st := []) M_isIn_ok cq_X12_3 st_X12_isIn (Nat.le_trans (by decide) hdd) rfl dX12_aLine_8 rfl (Nat.le_of_ble_eq_true rfl) ?_
  refine AW.if_ne (tgt := 20) dX12_aLine_11 (by decide) (fun c1 => ?_) (fun c1 => ?_)
  · replace h := hF h c1
    refine AW.aloadr_n 0 dX12_aLine_20 rfl ?_
    refine AW.getI af_X12_375_117 sr_117_35 dX12_aLine_21 ?_
    refine AW.bipush dX12_aLine_24 (by decide) (by decide) ?_
    refine AW.icmp_ne (tgt := 35) dX12_aLine_26 (by decide) (fun c2 => ?_) (fun c2 => ?_)
    · replace h := hF h c2
      refine AW.aloadr_n 0 dX12_aLine_35 rfl ?_
      refine AW.getI af_X12_306_117 sr_117_39 dX12_aLine_36 ?_
      refine AW.bipush dX12_aLine_39 (by decide) (by decide) ?_
      refine AW.isub dX12_aLine_41 ?_
      refine AW.istore_n (lv1 := [(1, iv ((g 117 39) - 20)), (0, rv z 117)]) dX12_aLine_42 (by decide) rfl ?_
      refine AW.aloadr_n 1 dX12_aLine_43 rfl ?_
      refine AW.getI af_X12_375_117 sr_117_35 dX12_aLine_44 ?_
      refine AW.istore_n (lv1 := [(2, iv (g 117 35)), (1, iv ((g 117 39) - 20)), (0, rv z 117)]) dX12_aLine_47 (by decide) rfl ?_
      refine AW.aloadr_n 2 dX12_aLine_48 rfl ?_
      refine AW.iconst dX12_aLine_49 ?_
      obtain ⟨g3, e4, h⟩ := hBe h
      refine AW.putI ap_X12_336_117 sr_117_45 dX12_aLine_50 e4 ?_
      refine AW.aloadr_n 2 dX12_aLine_53 rfl ?_
      obtain ⟨r5, e6, h⟩ := hC h
      refine AW.callVv (As := []) (st := []) (M_next0_ok e6) cq_X12_330 cr_117_X12_next0 (Nat.le_trans (by decide) hdd) rfl dX12_aLine_54 rfl (Nat.le_of_ble_eq_true rfl) ?_
      refine AW.aloadr_n 2 dX12_aLine_57 rfl ?_
      refine AW.getR af_X12_69_117 sr_117_20 dX12_aLine_58 ?_
      refine AW.iload_n 0 dX12_aLine_61 rfl ?_
      refine AW.iload_n 1 dX12_aLine_62 rfl ?_
      obtain ⟨k7, h⟩ := hK h
      obtain ⟨g8, e9, h⟩ := hBe h
      refine AW.iast kc_135 sk_135 k7 dX12_aLine_63 e9 ?_
      refine AW.aloadr_n 2 dX12_aLine_64 rfl ?_
      refine AW.getR af_X12_78_117 sr_117_23 dX12_aLine_65 ?_
      refine AW.iload_n 0 dX12_aLine_68 rfl ?_
      refine AW.aloadr_n 2 dX12_aLine_69 rfl ?_
      refine AW.getI af_X12_333_117 sr_117_36 dX12_aLine_70 ?_
      obtain ⟨g10, e11, h⟩ := hBe h
      refine AW.iast kc_138 sk_138 k7 dX12_aLine_73 e11 ?_
      refine AW.aloadr_n 2 dX12_aLine_74 rfl ?_
      refine AW.getR af_X12_81_117 sr_117_24 dX12_aLine_75 ?_
      refine AW.iload_n 0 dX12_aLine_78 rfl ?_
      refine AW.aloadr_n 2 dX12_aLine_79 rfl ?_
      refine AW.getI af_X12_333_117 sr_117_36 dX12_aLine_80 ?_
      obtain ⟨g12, e13, h⟩ := hBe h
      refine AW.iast kc_139 sk_139 k7 dX12_aLine_83 e13 ?_
      refine AW.aloadr_n 2 dX12_aLine_84 rfl ?_
      refine AW.getR af_X12_84_117 sr_117_25 dX12_aLine_85 ?_
      refine AW.iload_n 0 dX12_aLine_88 rfl ?_
      refine AW.aloadr_n 2 dX12_aLine_89 rfl ?_
      refine AW.getI af_X12_333_117 sr_117_36 dX12_aLine_90 ?_
      obtain ⟨g14, e15, h⟩ := hBe h
      refine AW.iast kc_140 sk_140 k7 dX12_aLine_93 e15 ?_
      refine AW.iload_n 1 dX12_aLine_94 rfl ?_
      refine AW.iconst dX12_aLine_95 ?_
      refine AW.icmp_ne (tgt := 122) dX12_aLine_96 (by decide) (fun c16 => ?_) (fun c16 => ?_)
      · replace h := hF h c16
        refine AW.iload_n 1 dX12_aLine_122 rfl ?_
        refine AW.if_ne (tgt := 146) dX12_aLine_123 (by decide) (fun c17 => ?_) (fun c17 => ?_)
        · replace h := hF h c17
          refine AW.aloadr_n 2 dX12_aLine_146 rfl ?_
          obtain ⟨r18, e19, h⟩ := hC h
          refine AW.callVi (As := []) (st := []) (M_sumUp_ok e19) cq_X12_368 cr_117_X12_sumUp (Nat.le_trans (by decide) hdd) rfl dX12_aLine_147 rfl (Nat.le_of_ble_eq_true rfl) ?_
          refine AW.if_ne (tgt := 155) dX12_aLine_150 (by decide) (fun c20 => ?_) (fun c20 => ?_)
          · replace h := hF h c20
            refine AW.sub (lv1 := [(0, rv z 117), (2, iv (g 117 35))]) [2, 0] rfl ?_
            exact (M_aLine_b_ok hdd _ _ _ h).1 rfl
          · replace h := hT h c20
            refine AW.iconst dX12_aLine_153 ?_
            exact AW.zret1 rfl (Or.inl rfl) dX12_aLine_154 h rfl
        · replace h := hT h c17
          refine AW.aloadr_n 2 dX12_aLine_126 rfl ?_
          refine AW.aloadr_n 2 dX12_aLine_127 rfl ?_
          refine AW.getR af_X12_72_117 sr_117_21 dX12_aLine_128 ?_
          refine AW.iload_n 0 dX12_aLine_131 rfl ?_
          refine AW.aloadr_n 2 dX12_aLine_132 rfl ?_
          refine AW.getR af_X12_75_117 sr_117_22 dX12_aLine_133 ?_
          refine AW.iload_n 0 dX12_aLine_136 rfl ?_
          obtain ⟨r21, e22, h⟩ := hC h
          refine AW.callVi (As := [rv z 136, iv (g 117 35), rv z 137, iv (g 117 35)]) (st := []) (M_hours_117_136_137_ok e22) cq_X12_371 cr_117_X12_hours (Nat.le_trans (by decide) hdd) rfl dX12_aLine_137 rfl (Nat.le_of_ble_eq_true rfl) ?_
          refine AW.if_ne (tgt := 155) dX12_aLine_140 (by decide) (fun c23 => ?_) (fun c23 => ?_)
          · replace h := hF h c23
            refine AW.sub (lv1 := [(0, rv z 117), (2, iv (g 117 35))]) [2, 0] rfl ?_
            exact (M_aLine_b_ok hdd _ _ _ h).1 rfl
          · replace h := hT h c23
            refine AW.goto (tgt := 153) dX12_aLine_143 (by decide) ?_
            refine AW.iconst dX12_aLine_153 ?_
            exact AW.zret1 rfl (Or.inl rfl) dX12_aLine_154 h rfl
      · replace h := hT h c16
        refine AW.aloadr_n 2 dX12_aLine_99 rfl ?_
        obtain ⟨r24, e25, h⟩ := hC h
        refine AW.callVi (As := []) (st := []) (M_aTunnel_ok e25) cq_X12_378 cr_117_X12_aTunnel (Nat.le_trans (by decide) hdd) rfl dX12_aLine_100 rfl (Nat.le_of_ble_eq_true rfl) ?_
        obtain ⟨r32, e33, h⟩ := hC h
        refine AW.join (tgt := 121) (lv1 := []) (st1 := [iv r32.1]) (g1 := r32.2) ?_ (fun J103 => ?_)
        · obtain ⟨k34, h⟩ := hK h
          exact AW.zret1 rfl k34 dX12_aLine_121 h rfl
        replace h := e33
        refine AW.if_eq (tgt := 120) dX12_aLine_103 (by decide) (fun c26 => ?_) (fun c26 => ?_)
        · replace h := hT h c26
          refine AW.iconst dX12_aLine_120 ?_
          refine AW.sub (lv1 := []) [] rfl ?_
          cases h
          exact J103
        · replace h := hF h c26
          refine AW.aloadr_n 2 dX12_aLine_106 rfl ?_
          refine AW.sipush dX12_aLine_107 (by decide) (by decide) ?_
          obtain ⟨r27, e28, h⟩ := hC h
          refine AW.callVi (As := [iv 159]) (st := []) (M_need_ok e28) cq_X12_365 cr_117_X12_need (Nat.le_trans (by decide) hdd) rfl dX12_aLine_110 rfl (Nat.le_of_ble_eq_true rfl) ?_
          obtain ⟨t29, e30, h⟩ := hBe h
          refine AW.join (tgt := 121) (lv1 := [(2, iv (g 117 35)), (1, iv ((g 117 39) - 20)), (0, rv z 117)]) (st1 := [iv t29]) (g1 := r27.2) ?_ (fun J113 => ?_)
          · refine AW.sub (lv1 := []) [] rfl ?_
            cases h
            exact J103
          refine AW.if_eq (tgt := 120) dX12_aLine_113 (by decide) (fun c31 => ?_) (fun c31 => ?_)
          · refine AW.iconst dX12_aLine_120 ?_
            exact AW.val (e30.trans (if_pos c31)) J113
          · refine AW.iconst dX12_aLine_116 ?_
            refine AW.goto (tgt := 121) dX12_aLine_117 (by decide) ?_
            exact AW.val (e30.trans (if_neg c31)) J113
    · replace h := hT h c2
      refine AW.aloadr_n 0 dX12_aLine_29 rfl ?_
      refine AW.iconst dX12_aLine_30 ?_
      obtain ⟨r35, e36, h⟩ := hC h
      refine AW.callVi (As := [iv 3]) (st := []) (M_bad_ok e36) cq_X12_327 cr_117_X12_bad (Nat.le_trans (by decide) hdd) rfl dX12_aLine_31 rfl (Nat.le_of_ble_eq_true rfl) ?_
      obtain ⟨k37, h⟩ := hK h
      exact AW.zret1 rfl k37 dX12_aLine_34 h rfl
  · replace h := hT h c1
    refine AW.aloadr_n 0 dX12_aLine_14 rfl ?_
    refine AW.iconst dX12_aLine_15 ?_
    obtain ⟨r38, e39, h⟩ := hC h
    refine AW.callVi (As := [iv 1]) (st := []) (M_bad_ok e39) cq_X12_327 cr_117_X12_bad (Nat.le_trans (by decide) hdd) rfl dX12_aLine_16 rfl (Nat.le_of_ble_eq_true rfl) ?_
    obtain ⟨k40, h⟩ := hK h
    exact AW.zret1 rfl k40 dX12_aLine_19 h rfl
set_option synthInstance.maxHeartbeats 2000000 in
theorem M_keeps_b_ok {z : AZ} {d : Nat} (hdd : 0 ≤ d) : ∀ (tag : Nat) (x1 : Int) (g : AG) (r : Int × AG), M_keeps_b tag x1 g = some r → (tag = 1 → AW z (RX12, cX12_keeps, 2, none) d (QD none r) 10 [(0, rv z 117), (1, iv x1)] [] g) ∧ (tag = 2 → AW z (RX12, cX12_keeps, 2, none) d (QD none r) 98 [(0, rv z 117), (1, iv x1)] [] g) ∧ (tag = 3 → AW z (RX12, cX12_keeps, 2, none) d (QD none r) 128 [(0, rv z 117), (1, iv x1)] [] g) ∧ (tag = 4 → AW z (RX12, cX12_keeps, 2, none) d (QD none r) 154 [(0, rv z 117), (1, iv x1)] [] g) := by
  refine M_keeps_b.partial_correctness (fun tag x1 g r => (tag = 1 → AW z (RX12, cX12_keeps, 2, none) d (QD none r) 10 [(0, rv z 117), (1, iv x1)] [] g) ∧ (tag = 2 → AW z (RX12, cX12_keeps, 2, none) d (QD none r) 98 [(0, rv z 117), (1, iv x1)] [] g) ∧ (tag = 3 → AW z (RX12, cX12_keeps, 2, none) d (QD none r) 128 [(0, rv z 117), (1, iv x1)] [] g) ∧ (tag = 4 → AW z (RX12, cX12_keeps, 2, none) d (QD none r) 154 [(0, rv z 117), (1, iv x1)] [] g)) ?_
  intro fb9 ih tag x1 g r h
  refine ⟨fun h9 => ?_, fun h9 => ?_, fun h9 => ?_, fun h9 => ?_⟩
  · subst h9
    replace h := hT h rfl
    refine AW.iload_n 1 dX12_keeps_10 rfl ?_
    refine AW.aloadr_n 0 dX12_keeps_11 rfl ?_
    refine AW.getI af_X12_390_117 sr_117_34 dX12_keeps_12 ?_
    refine AW.icmp_ge (tgt := 96) dX12_keeps_15 (by decide) (fun c1 => ?_) (fun c1 => ?_)
    · replace h := hT h c1
      refine AW.iconst dX12_keeps_96 ?_
      refine AW.istore_n (lv1 := [(1, iv 0), (0, rv z 117)]) dX12_keeps_97 (by decide) rfl ?_
      refine AW.sub (lv1 := [(0, rv z 117), (1, iv 0)]) [1, 0] rfl ?_
      exact (ih _ _ _ _ h).2.1 rfl
    · replace h := hF h c1
      refine AW.aloadr_n 0 dX12_keeps_18 rfl ?_
      refine AW.getR af_X12_48_117 sr_117_13 dX12_keeps_19 ?_
      refine AW.iload_n 1 dX12_keeps_22 rfl ?_
      refine AW.aloadr_n 0 dX12_keeps_23 rfl ?_
      refine AW.getR af_X12_69_117 sr_117_20 dX12_keeps_24 ?_
      refine AW.iload_n 1 dX12_keeps_27 rfl ?_
      obtain ⟨k2, h⟩ := hK h
      refine AW.iald kc_135 sk_135 k2 dX12_keeps_28 ?_
      obtain ⟨g3, e4, h⟩ := hBe h
      refine AW.iast kc_128 sk_128 k2 dX12_keeps_29 e4 ?_
      refine AW.aloadr_n 0 dX12_keeps_30 rfl ?_
      refine AW.getR af_X12_51_117 sr_117_14 dX12_keeps_31 ?_
      refine AW.iload_n 1 dX12_keeps_34 rfl ?_
      refine AW.aloadr_n 0 dX12_keeps_35 rfl ?_
      refine AW.getR af_X12_72_117 sr_117_21 dX12_keeps_36 ?_
      refine AW.iload_n 1 dX12_keeps_39 rfl ?_
      refine AW.iald kc_136 sk_136 k2 dX12_keeps_40 ?_
      obtain ⟨g5, e6, h⟩ := hBe h
      refine AW.iast kc_129 sk_129 k2 dX12_keeps_41 e6 ?_
      refine AW.aloadr_n 0 dX12_keeps_42 rfl ?_
      refine AW.getR af_X12_54_117 sr_117_15 dX12_keeps_43 ?_
      refine AW.iload_n 1 dX12_keeps_46 rfl ?_
      refine AW.aloadr_n 0 dX12_keeps_47 rfl ?_
      refine AW.getR af_X12_75_117 sr_117_22 dX12_keeps_48 ?_
      refine AW.iload_n 1 dX12_keeps_51 rfl ?_
      refine AW.iald kc_137 sk_137 k2 dX12_keeps_52 ?_
      obtain ⟨g7, e8, h⟩ := hBe h
      refine AW.iast kc_130 sk_130 k2 dX12_keeps_53 e8 ?_
      refine AW.aloadr_n 0 dX12_keeps_54 rfl ?_
      refine AW.getR af_X12_57_117 sr_117_16 dX12_keeps_55 ?_
      refine AW.iload_n 1 dX12_keeps_58 rfl ?_
      refine AW.aloadr_n 0 dX12_keeps_59 rfl ?_
      refine AW.getR af_X12_78_117 sr_117_23 dX12_keeps_60 ?_
      refine AW.iload_n 1 dX12_keeps_63 rfl ?_
      refine AW.iald kc_138 sk_138 k2 dX12_keeps_64 ?_
      obtain ⟨g9, e10, h⟩ := hBe h
      refine AW.iast kc_131 sk_131 k2 dX12_keeps_65 e10 ?_
      refine AW.aloadr_n 0 dX12_keeps_66 rfl ?_
      refine AW.getR af_X12_60_117 sr_117_17 dX12_keeps_67 ?_
      refine AW.iload_n 1 dX12_keeps_70 rfl ?_
      refine AW.aloadr_n 0 dX12_keeps_71 rfl ?_
      refine AW.getR af_X12_81_117 sr_117_24 dX12_keeps_72 ?_
      refine AW.iload_n 1 dX12_keeps_75 rfl ?_
      refine AW.iald kc_139 sk_139 k2 dX12_keeps_76 ?_
      obtain ⟨g11, e12, h⟩ := hBe h
      refine AW.iast kc_132 sk_132 k2 dX12_keeps_77 e12 ?_
      refine AW.aloadr_n 0 dX12_keeps_78 rfl ?_
      refine AW.getR af_X12_63_117 sr_117_18 dX12_keeps_79 ?_
      refine AW.iload_n 1 dX12_keeps_82 rfl ?_
      refine AW.aloadr_n 0 dX12_keeps_83 rfl ?_
      refine AW.getR af_X12_84_117 sr_117_25 dX12_keeps_84 ?_
      refine AW.iload_n 1 dX12_keeps_87 rfl ?_
      refine AW.iald kc_140 sk_140 k2 dX12_keeps_88 ?_
      obtain ⟨g13, e14, h⟩ := hBe h
      refine AW.iast kc_133 sk_133 k2 dX12_keeps_89 e14 ?_
      refine AW.iinc (lv1 := [(1, iv (x1 + 1)), (0, rv z 117)]) 1 dX12_keeps_90 rfl (by decide) rfl ?_
      refine AW.goto (tgt := 10) dX12_keeps_93 (by decide) ?_
      refine AW.sub (lv1 := [(0, rv z 117), (1, iv (x1 + 1))]) [1, 0] rfl ?_
      exact (ih _ _ _ _ h).1 rfl
  · subst h9
    replace h := hF h (by decide)
    replace h := hT h rfl
    refine AW.iload_n 1 dX12_keeps_98 rfl ?_
    refine AW.iconst dX12_keeps_99 ?_
    refine AW.aloadr_n 0 dX12_keeps_100 rfl ?_
    refine AW.getI af_X12_333_117 sr_117_36 dX12_keeps_101 ?_
    refine AW.imul dX12_keeps_104 ?_
    refine AW.icmp_ge (tgt := 126) dX12_keeps_105 (by decide) (fun c1 => ?_) (fun c1 => ?_)
    · replace h := hT h c1
      refine AW.iconst dX12_keeps_126 ?_
      refine AW.istore_n (lv1 := [(1, iv 0), (0, rv z 117)]) dX12_keeps_127 (by decide) rfl ?_
      refine AW.sub (lv1 := [(0, rv z 117), (1, iv 0)]) [1, 0] rfl ?_
      exact (ih _ _ _ _ h).2.2.1 rfl
    · replace h := hF h c1
      refine AW.aloadr_n 0 dX12_keeps_108 rfl ?_
      refine AW.getR af_X12_66_117 sr_117_19 dX12_keeps_109 ?_
      refine AW.iload_n 1 dX12_keeps_112 rfl ?_
      refine AW.aloadr_n 0 dX12_keeps_113 rfl ?_
      refine AW.getR af_X12_87_117 sr_117_26 dX12_keeps_114 ?_
      refine AW.iload_n 1 dX12_keeps_117 rfl ?_
      obtain ⟨k2, h⟩ := hK h
      refine AW.iald kc_141 sk_141 k2 dX12_keeps_118 ?_
      obtain ⟨g3, e4, h⟩ := hBe h
      refine AW.iast kc_134 sk_134 k2 dX12_keeps_119 e4 ?_
      refine AW.iinc (lv1 := [(1, iv (x1 + 1)), (0, rv z 117)]) 1 dX12_keeps_120 rfl (by decide) rfl ?_
      refine AW.goto (tgt := 98) dX12_keeps_123 (by decide) ?_
      refine AW.sub (lv1 := [(0, rv z 117), (1, iv (x1 + 1))]) [1, 0] rfl ?_
      exact (ih _ _ _ _ h).2.1 rfl
  · subst h9
    replace h := hF h (by decide)
    replace h := hF h (by decide)
    replace h := hT h rfl
    refine AW.iload_n 1 dX12_keeps_128 rfl ?_
    refine AW.bipush dX12_keeps_129 (by decide) (by decide) ?_
    refine AW.icmp_ge (tgt := 152) dX12_keeps_131 (by decide) (fun c1 => ?_) (fun c1 => ?_)
    · replace h := hT h c1
      refine AW.iconst dX12_keeps_152 ?_
      refine AW.istore_n (lv1 := [(1, iv 0), (0, rv z 117)]) dX12_keeps_153 (by decide) rfl ?_
      refine AW.sub (lv1 := [(0, rv z 117), (1, iv 0)]) [1, 0] rfl ?_
      exact (ih _ _ _ _ h).2.2.2 rfl
    · replace h := hF h c1
      refine AW.aloadr_n 0 dX12_keeps_134 rfl ?_
      refine AW.getR af_X12_96_117 sr_117_29 dX12_keeps_135 ?_
      refine AW.iload_n 1 dX12_keeps_138 rfl ?_
      refine AW.aloadr_n 0 dX12_keeps_139 rfl ?_
      refine AW.getR af_X12_100_117 sr_117_30 dX12_keeps_140 ?_
      refine AW.iload_n 1 dX12_keeps_143 rfl ?_
      obtain ⟨k2, h⟩ := hK h
      refine AW.zald kc_145 sk_145 k2 dX12_keeps_144 ?_
      obtain ⟨k3, h⟩ := hK h
      obtain ⟨g4, e5, h⟩ := hBe h
      refine AW.zast kc_144 sk_144 k2 k3 dX12_keeps_145 e5 ?_
      refine AW.iinc (lv1 := [(1, iv (x1 + 1)), (0, rv z 117)]) 1 dX12_keeps_146 rfl (by decide) rfl ?_
      refine AW.goto (tgt := 128) dX12_keeps_149 (by decide) ?_
      refine AW.sub (lv1 := [(0, rv z 117), (1, iv (x1 + 1))]) [1, 0] rfl ?_
      exact (ih _ _ _ _ h).2.2.1 rfl
  · subst h9
    replace h := hF h (by decide)
    replace h := hF h (by decide)
    replace h := hF h (by decide)
    replace h := hT h rfl
    refine AW.iload_n 1 dX12_keeps_154 rfl ?_
    refine AW.bipush dX12_keeps_155 (by decide) (by decide) ?_
    refine AW.icmp_ge (tgt := 178) dX12_keeps_157 (by decide) (fun c1 => ?_) (fun c1 => ?_)
    · replace h := hT h c1
      exact AW.vret1 rfl dX12_keeps_178 h rfl
    · replace h := hF h c1
      refine AW.aloadr_n 0 dX12_keeps_160 rfl ?_
      refine AW.getR af_X12_90_117 sr_117_27 dX12_keeps_161 ?_
      refine AW.iload_n 1 dX12_keeps_164 rfl ?_
      refine AW.aloadr_n 0 dX12_keeps_165 rfl ?_
      refine AW.getR af_X12_93_117 sr_117_28 dX12_keeps_166 ?_
      refine AW.iload_n 1 dX12_keeps_169 rfl ?_
      obtain ⟨k2, h⟩ := hK h
      refine AW.iald kc_143 sk_143 k2 dX12_keeps_170 ?_
      obtain ⟨g3, e4, h⟩ := hBe h
      refine AW.iast kc_142 sk_142 k2 dX12_keeps_171 e4 ?_
      refine AW.iinc (lv1 := [(1, iv (x1 + 1)), (0, rv z 117)]) 1 dX12_keeps_172 rfl (by decide) rfl ?_
      refine AW.goto (tgt := 154) dX12_keeps_175 (by decide) ?_
      refine AW.sub (lv1 := [(0, rv z 117), (1, iv (x1 + 1))]) [1, 0] rfl ?_
      exact (ih _ _ _ _ h).2.2.2 rfl
theorem M_keeps_ok {z : AZ} {g : AG} {r : Int × AG} (h : M_keeps g = some r) : AMf z yX12_keeps cX12_keeps 2 none 0 [rv z 117] g r := by
  intro d hdd
  refine AM.of (by decide +kernel) (Nat.le_of_ble_eq_true rfl) ?_
  show AW z (RX12, cX12_keeps, 2, none) d (QD none r) 0 [(0, rv z 117)] [] g
  unfold M_keeps at h
  refine AW.aloadr_n 0 dX12_keeps_0 rfl ?_
  refine AW.aloadr_n 0 dX12_keeps_1 rfl ?_
  refine AW.getI af_X12_375_117 sr_117_35 dX12_keeps_2 ?_
  obtain ⟨g1, e2, h⟩ := hBe h
  refine AW.putI ap_X12_390_117 sr_117_34 dX12_keeps_5 e2 ?_
  refine AW.iconst dX12_keeps_8 ?_
  refine AW.istore_n (lv1 := [(1, iv 0), (0, rv z 117)]) dX12_keeps_9 (by decide) rfl ?_
  refine AW.sub (lv1 := [(0, rv z 117), (1, iv 0)]) [1, 0] rfl ?_
  exact (M_keeps_b_ok hdd _ _ _ _ h).1 rfl
set_option synthInstance.maxHeartbeats 2000000 in
theorem M_rules_b_ok {z : AZ} {d : Nat} (hdd : 51 ≤ d) : ∀ (tag : Nat) (x1 : Int) (g : AG) (r : Int × AG), M_rules_b tag x1 g = some r → (tag = 1 → AW z (RX12, cX12_rules, 2, (some .int)) d (QD (some .int) r) 22 [(0, rv z 117), (1, iv x1)] [] g) ∧ (tag = 2 → AW z (RX12, cX12_rules, 2, (some .int)) d (QD (some .int) r) 47 [(0, rv z 117), (1, iv x1)] [] g) ∧ (tag = 3 → AW z (RX12, cX12_rules, 2, (some .int)) d (QD (some .int) r) 84 [(0, rv z 117), (1, iv x1)] [] g) := by
  refine M_rules_b.partial_correctness (fun tag x1 g r => (tag = 1 → AW z (RX12, cX12_rules, 2, (some .int)) d (QD (some .int) r) 22 [(0, rv z 117), (1, iv x1)] [] g) ∧ (tag = 2 → AW z (RX12, cX12_rules, 2, (some .int)) d (QD (some .int) r) 47 [(0, rv z 117), (1, iv x1)] [] g) ∧ (tag = 3 → AW z (RX12, cX12_rules, 2, (some .int)) d (QD (some .int) r) 84 [(0, rv z 117), (1, iv x1)] [] g)) ?_
  intro fb9 ih tag x1 g r h
  refine ⟨fun h9 => ?_, fun h9 => ?_, fun h9 => ?_⟩
  · subst h9
    replace h := hT h rfl
    refine AW.iload_n 1 dX12_rules_22 rfl ?_
    refine AW.bipush dX12_rules_23 (by decide) (by decide) ?_
    refine AW.icmp_ge (tgt := 41) dX12_rules_25 (by decide) (fun c1 => ?_) (fun c1 => ?_)
    · replace h := hT h c1
      refine AW.aloadr_n 0 dX12_rules_41 rfl ?_
      obtain ⟨r2, e3, h⟩ := hC h
      refine AW.callVv (As := []) (st := []) (M_next0_ok e3) cq_X12_330 cr_117_X12_next0 (Nat.le_trans (by decide) hdd) rfl dX12_rules_42 rfl (Nat.le_of_ble_eq_true rfl) ?_
      refine AW.iconst dX12_rules_45 ?_
      refine AW.istore_n (lv1 := [(1, iv 1), (0, rv z 117)]) dX12_rules_46 (by decide) rfl ?_
      refine AW.sub (lv1 := [(0, rv z 117), (1, iv 1)]) [1, 0] rfl ?_
      exact (ih _ _ _ _ h).2.1 rfl
    · replace h := hF h c1
      refine AW.aloadr_n 0 dX12_rules_28 rfl ?_
      refine AW.getR af_X12_100_117 sr_117_30 dX12_rules_29 ?_
      refine AW.iload_n 1 dX12_rules_32 rfl ?_
      refine AW.iconst dX12_rules_33 ?_
      obtain ⟨k4, h⟩ := hK h
      obtain ⟨g5, e6, h⟩ := hBe h
      refine AW.zast kc_145 sk_145 k4 (Or.inl rfl) dX12_rules_34 e6 ?_
      refine AW.iinc (lv1 := [(1, iv (x1 + 1)), (0, rv z 117)]) 1 dX12_rules_35 rfl (by decide) rfl ?_
      refine AW.goto (tgt := 22) dX12_rules_38 (by decide) ?_
      refine AW.sub (lv1 := [(0, rv z 117), (1, iv (x1 + 1))]) [1, 0] rfl ?_
      exact (ih _ _ _ _ h).1 rfl
  · subst h9
    replace h := hF h (by decide)
    replace h := hT h rfl
    refine AW.iload_n 1 dX12_rules_47 rfl ?_
    refine AW.if_eq (tgt := 84) dX12_rules_48 (by decide) (fun c1 => ?_) (fun c1 => ?_)
    · replace h := hT h c1
      exact (ih _ _ _ _ h).2.2 rfl
    · replace h := hF h c1
      refine AW.aloadr_n 0 dX12_rules_51 rfl ?_
      refine AW.getI af_X12_306_117 sr_117_39 dX12_rules_52 ?_
      refine AW.if_eq (tgt := 84) dX12_rules_55 (by decide) (fun c2 => ?_) (fun c2 => ?_)
      · replace h := hT h c2
        exact (ih _ _ _ _ h).2.2 rfl
      · replace h := hF h c2
        refine AW.aloadr_n 0 dX12_rules_58 rfl ?_
        obtain ⟨r3, e4, h⟩ := hC h
        refine AW.callVi (As := []) (st := []) (M_aLine_ok e4) cq_X12_381 cr_117_X12_aLine (Nat.le_trans (by decide) hdd) rfl dX12_rules_59 rfl (Nat.le_of_ble_eq_true rfl) ?_
        refine AW.istore_n (lv1 := [(1, iv r3.1), (0, rv z 117)]) dX12_rules_62 (by decide) rfl ?_
        refine AW.aloadr_n 1 dX12_rules_63 rfl ?_
        refine AW.duprr dX12_rules_64 ?_
        refine AW.getI af_X12_375_117 sr_117_35 dX12_rules_65 ?_
        refine AW.iload_n 0 dX12_rules_68 rfl ?_
        obtain ⟨t5, e6, h⟩ := hBe h
        refine AW.join (tgt := 77) (lv1 := [(1, iv r3.1), (0, rv z 117)]) (st1 := [iv t5, iv (r3.2 117 35), rv z 117]) (g1 := r3.2) ?_ (fun J69 => ?_)
        · refine AW.iadd dX12_rules_77 ?_
          obtain ⟨g7, e8, h⟩ := hBe h
          refine AW.putI ap_X12_375_117 sr_117_35 dX12_rules_78 e8 ?_
          refine AW.goto (tgt := 47) dX12_rules_81 (by decide) ?_
          refine AW.sub (lv1 := [(0, rv z 117), (1, iv r3.1)]) [1, 0] rfl ?_
          exact (ih _ _ _ _ h).2.1 rfl
        refine AW.if_eq (tgt := 76) dX12_rules_69 (by decide) (fun c9 => ?_) (fun c9 => ?_)
        · refine AW.iconst dX12_rules_76 ?_
          exact AW.val (e6.trans (if_pos c9)) J69
        · refine AW.iconst dX12_rules_72 ?_
          refine AW.goto (tgt := 77) dX12_rules_73 (by decide) ?_
          exact AW.val (e6.trans (if_neg c9)) J69
  · subst h9
    replace h := hF h (by decide)
    replace h := hF h (by decide)
    replace h := hT h rfl
    refine AW.aloadr_n 0 dX12_rules_84 rfl ?_
    refine AW.iconst dX12_rules_85 ?_
    obtain ⟨g1, e2, h⟩ := hBe h
    refine AW.putI ap_X12_242_117 sr_117_37 dX12_rules_86 e2 ?_
    refine AW.aloadr_n 0 dX12_rules_89 rfl ?_
    refine AW.aloadr_n 0 dX12_rules_90 rfl ?_
    refine AW.getI af_X12_321_117 sr_117_42 dX12_rules_91 ?_
    obtain ⟨g3, e4, h⟩ := hBe h
    refine AW.putI ap_X12_384_117 sr_117_44 dX12_rules_94 e4 ?_
    refine AW.aloadr_n 0 dX12_rules_97 rfl ?_
    refine AW.iload_n 1 dX12_rules_98 rfl ?_
    obtain ⟨t5, e6, h⟩ := hBe h
    refine AW.join (tgt := 110) (lv1 := [(0, rv z 117), (1, iv x1)]) (st1 := [iv t5, rv z 117]) (g1 := g3) ?_ (fun J99 => ?_)
    · obtain ⟨g7, e8, h⟩ := hBe h
      refine AW.putI ap_X12_112_117 sr_117_46 dX12_rules_110 e8 ?_
      refine AW.iload_n 1 dX12_rules_113 rfl ?_
      refine AW.if_ne (tgt := 119) dX12_rules_114 (by decide) (fun c9 => ?_) (fun c9 => ?_)
      · replace h := hF h c9
        refine AW.aloadr_n 0 dX12_rules_119 rfl ?_
        obtain ⟨r10, e11, h⟩ := hC h
        refine AW.callVv (As := []) (st := []) (M_keeps_ok e11) cq_X12_387 cr_117_X12_keeps (Nat.le_trans (by decide) hdd) rfl dX12_rules_120 rfl (Nat.le_of_ble_eq_true rfl) ?_
        refine AW.aloadr_n 0 dX12_rules_123 rfl ?_
        refine AW.getI af_X12_390_117 sr_117_34 dX12_rules_124 ?_
        exact AW.iret1 rfl dX12_rules_127 h rfl
      · replace h := hT h c9
        refine AW.iconst dX12_rules_117 ?_
        exact AW.iret1 rfl dX12_rules_118 h rfl
    refine AW.if_eq (tgt := 106) dX12_rules_99 (by decide) (fun c12 => ?_) (fun c12 => ?_)
    · refine AW.aloadr_n 0 dX12_rules_106 rfl ?_
      refine AW.getI af_X12_324_117 sr_117_43 dX12_rules_107 ?_
      exact AW.val (e6.trans (if_pos c12)) J99
    · refine AW.iconst dX12_rules_102 ?_
      refine AW.goto (tgt := 110) dX12_rules_103 (by decide) ?_
      exact AW.val (e6.trans (if_neg c12)) J99
theorem M_rules_ok {z : AZ} {g : AG} {r : Int × AG} (h : M_rules g = some r) : AMf z yX12_rules cX12_rules 2 (some .int) 51 [rv z 117] g r := by
  intro d hdd
  refine AM.of (by decide +kernel) (Nat.le_of_ble_eq_true rfl) ?_
  show AW z (RX12, cX12_rules, 2, (some .int)) d (QD (some .int) r) 0 [(0, rv z 117)] [] g
  unfold M_rules at h
  refine AW.aloadr_n 0 dX12_rules_0 rfl ?_
  refine AW.iconst dX12_rules_1 ?_
  obtain ⟨g1, e2, h⟩ := hBe h
  refine AW.putI ap_X12_321_117 sr_117_42 dX12_rules_2 e2 ?_
  refine AW.aloadr_n 0 dX12_rules_5 rfl ?_
  refine AW.iconst dX12_rules_6 ?_
  obtain ⟨g3, e4, h⟩ := hBe h
  refine AW.putI ap_X12_245_117 sr_117_38 dX12_rules_7 e4 ?_
  refine AW.aloadr_n 0 dX12_rules_10 rfl ?_
  refine AW.iconst dX12_rules_11 ?_
  obtain ⟨g5, e6, h⟩ := hBe h
  refine AW.putI ap_X12_375_117 sr_117_35 dX12_rules_12 e6 ?_
  refine AW.aloadr_n 0 dX12_rules_15 rfl ?_
  refine AW.iconst dX12_rules_16 ?_
  obtain ⟨g7, e8, h⟩ := hBe h
  refine AW.putI ap_X12_333_117 sr_117_36 dX12_rules_17 e8 ?_
  refine AW.iconst dX12_rules_20 ?_
  refine AW.istore_n (lv1 := [(1, iv 0), (0, rv z 117)]) dX12_rules_21 (by decide) rfl ?_
  refine AW.sub (lv1 := [(0, rv z 117), (1, iv 0)]) [1, 0] rfl ?_
  exact (M_rules_b_ok hdd _ _ _ _ h).1 rfl
theorem M_fault_ok {z : AZ} {x1 : Int} {g : AG} : AMf z yX12_fault cX12_fault 2 (some .int) 0 [rv z 117, iv x1] g ((M_fault x1 g), g) := by
  intro d hdd
  refine AM.of (by decide +kernel) (Nat.le_of_ble_eq_true rfl) ?_
  show AW z (RX12, cX12_fault, 2, (some .int)) d (QD (some .int) ((M_fault x1 g), g)) 0 [(0, rv z 117), (1, iv x1)] [] g
  refine AW.iload_n 1 dX12_fault_0 rfl ?_
  refine AW.join (tgt := 24) (lv1 := [(0, rv z 117), (1, iv x1)]) (st1 := [iv (if nw x1 = 0 then (g 117 44) else (if nw x1 = 1 then (g 117 46) else (-1)))]) (g1 := g) ?_ (fun J1 => ?_)
  · exact AW.iret rfl dX12_fault_24 ⟨congrArg (fun v => some (iv v)) (show M_fault x1 g = (if nw x1 = 0 then (g 117 44) else (if nw x1 = 1 then (g 117 46) else (-1))) from rfl).symm, rfl⟩
  refine AW.if_ne (tgt := 11) dX12_fault_1 (by decide) (fun c1 => ?_) (fun c1 => ?_)
  · refine AW.iload_n 1 dX12_fault_11 rfl ?_
    refine AW.iconst dX12_fault_12 ?_
    refine AW.icmp_ne (tgt := 23) dX12_fault_13 (by decide) (fun c2 => ?_) (fun c2 => ?_)
    · refine AW.iconst dX12_fault_23 ?_
      exact AW.val ((if_neg c1).trans (if_neg c2)) J1
    · refine AW.aloadr_n 0 dX12_fault_16 rfl ?_
      refine AW.getI af_X12_112_117 sr_117_46 dX12_fault_17 ?_
      refine AW.goto (tgt := 24) dX12_fault_20 (by decide) ?_
      exact AW.val ((if_neg c1).trans (if_pos c2)) J1
  · refine AW.aloadr_n 0 dX12_fault_4 rfl ?_
    refine AW.getI af_X12_384_117 sr_117_44 dX12_fault_5 ?_
    refine AW.goto (tgt := 24) dX12_fault_8 (by decide) ?_
    exact AW.val (if_pos c1) J1
set_option synthInstance.maxHeartbeats 2000000 in
theorem M_forgets_b_ok {z : AZ} {d : Nat} (hdd : 0 ≤ d) : ∀ (x1 : Int) (g : AG) (r : Int × AG), M_forgets_b x1 g = some r → AW z (RX12, cX12_forgets, 2, none) d (QD none r) 2 [(0, rv z 117), (1, iv x1)] [] g := by
  refine M_forgets_b.partial_correctness (fun x1 g r => AW z (RX12, cX12_forgets, 2, none) d (QD none r) 2 [(0, rv z 117), (1, iv x1)] [] g) ?_
  intro fb9 ih x1 g r h
  refine AW.iload_n 1 dX12_forgets_2 rfl ?_
  refine AW.bipush dX12_forgets_3 (by decide) (by decide) ?_
  refine AW.icmp_ge (tgt := 21) dX12_forgets_5 (by decide) (fun c1 => ?_) (fun c1 => ?_)
  · replace h := hT h c1
    exact AW.vret1 rfl dX12_forgets_21 h rfl
  · replace h := hF h c1
    refine AW.aloadr_n 0 dX12_forgets_8 rfl ?_
    refine AW.getR af_X12_109_117 sr_117_33 dX12_forgets_9 ?_
    refine AW.iload_n 1 dX12_forgets_12 rfl ?_
    refine AW.iconst dX12_forgets_13 ?_
    obtain ⟨k2, h⟩ := hK h
    obtain ⟨g3, e4, h⟩ := hBe h
    refine AW.iast kc_148 sk_148 k2 dX12_forgets_14 e4 ?_
    refine AW.iinc (lv1 := [(1, iv (x1 + 1)), (0, rv z 117)]) 1 dX12_forgets_15 rfl (by decide) rfl ?_
    refine AW.goto (tgt := 2) dX12_forgets_18 (by decide) ?_
    refine AW.sub (lv1 := [(0, rv z 117), (1, iv (x1 + 1))]) [1, 0] rfl ?_
    exact ih _ _ _ h
theorem M_forgets_ok {z : AZ} {g : AG} {r : Int × AG} (h : M_forgets g = some r) : AMf z yX12_forgets cX12_forgets 2 none 0 [rv z 117] g r := by
  intro d hdd
  refine AM.of (by decide +kernel) (Nat.le_of_ble_eq_true rfl) ?_
  show AW z (RX12, cX12_forgets, 2, none) d (QD none r) 0 [(0, rv z 117)] [] g
  unfold M_forgets at h
  refine AW.iconst dX12_forgets_0 ?_
  refine AW.istore_n (lv1 := [(1, iv 0), (0, rv z 117)]) dX12_forgets_1 (by decide) rfl ?_
  refine AW.sub (lv1 := [(0, rv z 117), (1, iv 0)]) [1, 0] rfl ?_
  exact M_forgets_b_ok hdd _ _ _ h
theorem M_both_ok {z : AZ} {x0 : Int} {x1 : Int} {x2 : Int} {g : AG} : AMf z yX12_both cX12_both 3 (some .int) 0 [iv x0, iv x1, iv x2] g ((M_both x0 x1 x2), g) := by
  intro d hdd
  refine AM.of (by decide +kernel) (Nat.le_of_ble_eq_true rfl) ?_
  show AW z (RX12, cX12_both, 3, (some .int)) d (QD (some .int) ((M_both x0 x1 x2), g)) 0 [(0, iv x0), (1, iv x1), (2, iv x2)] [] g
  refine AW.iload_n 0 dX12_both_0 rfl ?_
  by_cases c1 : nw x0 = 10
  · refine AW.tsIn (tgt := 52) 10 dX12_both_1 c1 (by decide) (by decide) (by rfl) (by decide) ?_
    refine AW.iload_n 1 dX12_both_52 rfl ?_
    refine AW.iload_n 2 dX12_both_53 rfl ?_
    refine AW.iadd dX12_both_54 ?_
    exact AW.iret rfl dX12_both_55 ⟨congrArg (fun v => some (iv v)) (show M_both x0 x1 x2  = (x1 + x2) from ((if_pos c1))).symm, rfl⟩
  · by_cases c2 : nw x0 = 11
    · refine AW.tsIn (tgt := 56) 11 dX12_both_1 c2 (by decide) (by decide) (by rfl) (by decide) ?_
      refine AW.iload_n 1 dX12_both_56 rfl ?_
      refine AW.iload_n 2 dX12_both_57 rfl ?_
      refine AW.isub dX12_both_58 ?_
      exact AW.iret rfl dX12_both_59 ⟨congrArg (fun v => some (iv v)) (show M_both x0 x1 x2  = (x1 - x2) from (((if_neg c1).trans (if_pos c2)))).symm, rfl⟩
    · by_cases c3 : nw x0 = 12
      · refine AW.tsIn (tgt := 60) 12 dX12_both_1 c3 (by decide) (by decide) (by rfl) (by decide) ?_
        refine AW.iload_n 1 dX12_both_60 rfl ?_
        refine AW.iload_n 2 dX12_both_61 rfl ?_
        refine AW.imul dX12_both_62 ?_
        exact AW.iret rfl dX12_both_63 ⟨congrArg (fun v => some (iv v)) (show M_both x0 x1 x2  = (x1 * x2) from (((if_neg c1).trans ((if_neg c2).trans (if_pos c3))))).symm, rfl⟩
      · by_cases c4 : nw x0 = 13
        · refine AW.tsIn (tgt := 101) 13 dX12_both_1 c4 (by decide) (by decide) (by rfl) (by decide) ?_
          refine AW.iload_n 1 dX12_both_101 rfl ?_
          refine AW.iload_n 2 dX12_both_102 rfl ?_
          refine AW.ior dX12_both_103 ?_
          exact AW.iret rfl dX12_both_104 ⟨congrArg (fun v => some (iv v)) (show M_both x0 x1 x2  = (orI x1 x2) from (((if_neg c1).trans ((if_neg c2).trans ((if_neg c3).trans (if_pos c4)))))).symm, rfl⟩
        · by_cases c5 : nw x0 = 14
          · refine AW.tsIn (tgt := 64) 14 dX12_both_1 c5 (by decide) (by decide) (by rfl) (by decide) ?_
            refine AW.iload_n 1 dX12_both_64 rfl ?_
            refine AW.iload_n 2 dX12_both_65 rfl ?_
            refine AW.join (tgt := 74) (lv1 := [(0, iv x0), (1, iv x1), (2, iv x2)]) (st1 := [iv (if nw x2 ≤ nw x1 then 0 else 1)]) (g1 := g) ?_ (fun J66 => ?_)
            · exact AW.iret rfl dX12_both_74 ⟨congrArg (fun v => some (iv v)) (show M_both x0 x1 x2  = (if nw x2 ≤ nw x1 then 0 else 1) from (((if_neg c1).trans ((if_neg c2).trans ((if_neg c3).trans ((if_neg c4).trans (if_pos c5))))))).symm, rfl⟩
            refine AW.icmp_ge (tgt := 73) dX12_both_66 (by decide) (fun c6 => ?_) (fun c6 => ?_)
            · refine AW.iconst dX12_both_73 ?_
              exact AW.val (if_pos c6) J66
            · refine AW.iconst dX12_both_69 ?_
              refine AW.goto (tgt := 74) dX12_both_70 (by decide) ?_
              exact AW.val (if_neg c6) J66
          · by_cases c7 : nw x0 = 15
            · refine AW.tsIn (tgt := 75) 15 dX12_both_1 c7 (by decide) (by decide) (by rfl) (by decide) ?_
              refine AW.iload_n 1 dX12_both_75 rfl ?_
              refine AW.iload_n 2 dX12_both_76 rfl ?_
              refine AW.join (tgt := 85) (lv1 := [(0, iv x0), (1, iv x1), (2, iv x2)]) (st1 := [iv (if nw x1 = nw x2 then 1 else 0)]) (g1 := g) ?_ (fun J77 => ?_)
              · exact AW.iret rfl dX12_both_85 ⟨congrArg (fun v => some (iv v)) (show M_both x0 x1 x2  = (if nw x1 = nw x2 then 1 else 0) from (((if_neg c1).trans ((if_neg c2).trans ((if_neg c3).trans ((if_neg c4).trans ((if_neg c5).trans (if_pos c7)))))))).symm, rfl⟩
              refine AW.icmp_ne (tgt := 84) dX12_both_77 (by decide) (fun c8 => ?_) (fun c8 => ?_)
              · refine AW.iconst dX12_both_84 ?_
                exact AW.val (if_neg c8) J77
              · refine AW.iconst dX12_both_80 ?_
                refine AW.goto (tgt := 85) dX12_both_81 (by decide) ?_
                exact AW.val (if_pos c8) J77
            · by_cases c9 : nw x0 = 16
              · refine AW.tsIn (tgt := 86) 16 dX12_both_1 c9 (by decide) (by decide) (by rfl) (by decide) ?_
                refine AW.iload_n 1 dX12_both_86 rfl ?_
                refine AW.iload_n 2 dX12_both_87 rfl ?_
                refine AW.join (tgt := 96) (lv1 := [(0, iv x0), (1, iv x1), (2, iv x2)]) (st1 := [iv (if nw x1 ≤ nw x2 then 0 else 1)]) (g1 := g) ?_ (fun J88 => ?_)
                · exact AW.iret rfl dX12_both_96 ⟨congrArg (fun v => some (iv v)) (show M_both x0 x1 x2  = (if nw x1 ≤ nw x2 then 0 else 1) from (((if_neg c1).trans ((if_neg c2).trans ((if_neg c3).trans ((if_neg c4).trans ((if_neg c5).trans ((if_neg c7).trans (if_pos c9))))))))).symm, rfl⟩
                refine AW.icmp_le (tgt := 95) dX12_both_88 (by decide) (fun c10 => ?_) (fun c10 => ?_)
                · refine AW.iconst dX12_both_95 ?_
                  exact AW.val (if_pos c10) J88
                · refine AW.iconst dX12_both_91 ?_
                  refine AW.goto (tgt := 96) dX12_both_92 (by decide) ?_
                  exact AW.val (if_neg c10) J88
              · by_cases c11 : nw x0 = 17
                · refine AW.tsIn (tgt := 101) 17 dX12_both_1 c11 (by decide) (by decide) (by rfl) (by decide) ?_
                  refine AW.iload_n 1 dX12_both_101 rfl ?_
                  refine AW.iload_n 2 dX12_both_102 rfl ?_
                  refine AW.ior dX12_both_103 ?_
                  exact AW.iret rfl dX12_both_104 ⟨congrArg (fun v => some (iv v)) (show M_both x0 x1 x2  = (orI x1 x2) from (((if_neg c1).trans ((if_neg c2).trans ((if_neg c3).trans ((if_neg c4).trans ((if_neg c5).trans ((if_neg c7).trans ((if_neg c9).trans (if_pos c11)))))))))).symm, rfl⟩
                · by_cases c12 : nw x0 = 18
                  · refine AW.tsIn (tgt := 97) 18 dX12_both_1 c12 (by decide) (by decide) (by rfl) (by decide) ?_
                    refine AW.iload_n 1 dX12_both_97 rfl ?_
                    refine AW.iload_n 2 dX12_both_98 rfl ?_
                    refine AW.iand dX12_both_99 ?_
                    exact AW.iret rfl dX12_both_100 ⟨congrArg (fun v => some (iv v)) (show M_both x0 x1 x2  = (andI x1 x2) from (((if_neg c1).trans ((if_neg c2).trans ((if_neg c3).trans ((if_neg c4).trans ((if_neg c5).trans ((if_neg c7).trans ((if_neg c9).trans ((if_neg c11).trans (if_pos c12))))))))))).symm, rfl⟩
                  · refine AW.tsOut (tgt := 101) dX12_both_1 (by omega) (by decide) ?_
                    refine AW.iload_n 1 dX12_both_101 rfl ?_
                    refine AW.iload_n 2 dX12_both_102 rfl ?_
                    refine AW.ior dX12_both_103 ?_
                    exact AW.iret rfl dX12_both_104 ⟨congrArg (fun v => some (iv v)) (show M_both x0 x1 x2  = (orI x1 x2) from (((if_neg c1).trans ((if_neg c2).trans ((if_neg c3).trans ((if_neg c4).trans ((if_neg c5).trans ((if_neg c7).trans ((if_neg c9).trans ((if_neg c11).trans (if_neg c12))))))))))).symm, rfl⟩
set_option synthInstance.maxHeartbeats 2000000 in
theorem M_comesTo_b_ok {z : AZ} {d : Nat} (hdd : 1 ≤ d) {x2 : Int} : ∀ (x3 : Int) (x4 : Int) (g : AG) (r : Int × AG), M_comesTo_b x2 x3 x4 g = some r → AW z (RX12, cX12_comesTo, 7, (some .int)) d (QD (some .int) r) 5 [(0, rv z 117), (2, iv x2), (3, iv x3), (4, iv x4)] [] g := by
  refine M_comesTo_b.partial_correctness x2 (fun x3 x4 g r => AW z (RX12, cX12_comesTo, 7, (some .int)) d (QD (some .int) r) 5 [(0, rv z 117), (2, iv x2), (3, iv x3), (4, iv x4)] [] g) ?_
  intro fb9 ih x3 x4 g r h
  refine AW.iload 3 dX12_comesTo_5 rfl ?_
  refine AW.iload_n 1 dX12_comesTo_7 rfl ?_
  refine AW.icmp_ge (tgt := 158) dX12_comesTo_8 (by decide) (fun c1 => ?_) (fun c1 => ?_)
  · replace h := hT h c1
    refine AW.aloadr_n 0 dX12_comesTo_158 rfl ?_
    refine AW.getR af_X12_106_117 sr_117_32 dX12_comesTo_159 ?_
    refine AW.iconst dX12_comesTo_162 ?_
    refine AW.iald kc_147 sk_147 (by decide) dX12_comesTo_163 ?_
    exact AW.iret1 rfl dX12_comesTo_164 h rfl
  · replace h := hF h c1
    refine AW.aloadr_n 0 dX12_comesTo_11 rfl ?_
    refine AW.getR af_X12_66_117 sr_117_19 dX12_comesTo_12 ?_
    refine AW.iconst dX12_comesTo_15 ?_
    refine AW.iload 3 dX12_comesTo_16 rfl ?_
    refine AW.imul dX12_comesTo_18 ?_
    obtain ⟨k2, h⟩ := hK h
    refine AW.iald kc_134 sk_134 k2 dX12_comesTo_19 ?_
    refine AW.istore (lv1 := [(5, iv (g 134 (ix (2 * x4)))), (0, rv z 117), (2, iv x2), (3, iv x3), (4, iv x4)]) dX12_comesTo_20 (by decide) rfl ?_
    refine AW.aloadr_n 1 dX12_comesTo_22 rfl ?_
    refine AW.getR af_X12_66_117 sr_117_19 dX12_comesTo_23 ?_
    refine AW.iconst dX12_comesTo_26 ?_
    refine AW.iload 4 dX12_comesTo_27 rfl ?_
    refine AW.imul dX12_comesTo_29 ?_
    refine AW.iconst dX12_comesTo_30 ?_
    refine AW.iadd dX12_comesTo_31 ?_
    obtain ⟨k3, h⟩ := hK h
    refine AW.iald kc_134 sk_134 k3 dX12_comesTo_32 ?_
    refine AW.istore (lv1 := [(6, iv (g 134 (ix ((2 * x4) + 1)))), (5, iv (g 134 (ix (2 * x4)))), (0, rv z 117), (2, iv x2), (3, iv x3), (4, iv x4)]) dX12_comesTo_33 (by decide) rfl ?_
    refine AW.iload 1 dX12_comesTo_35 rfl ?_
    refine AW.bipush dX12_comesTo_37 (by decide) (by decide) ?_
    obtain ⟨r25, e26, h⟩ := hC h
    refine AW.join (tgt := 152) (lv1 := [(0, rv z 117), (2, iv x2), (3, iv r25.1), (4, iv x4)]) (st1 := []) (g1 := r25.2) ?_ (fun J39 => ?_)
    · refine AW.iinc (lv1 := [(4, iv (x4 + 1)), (0, rv z 117), (2, iv x2), (3, iv r25.1)]) 3 dX12_comesTo_152 rfl (by decide) rfl ?_
      refine AW.goto (tgt := 5) dX12_comesTo_155 (by decide) ?_
      refine AW.sub (lv1 := [(0, rv z 117), (2, iv x2), (3, iv r25.1), (4, iv (x4 + 1))]) [1, 2, 3, 0] rfl ?_
      exact ih _ _ _ _ h
    replace h := e26
    refine AW.icmp_ge (tgt := 71) dX12_comesTo_39 (by decide) (fun c4 => ?_) (fun c4 => ?_)
    · replace h := hT h c4
      refine AW.iload 1 dX12_comesTo_71 rfl ?_
      refine AW.bipush dX12_comesTo_73 (by decide) (by decide) ?_
      refine AW.icmp_ne (tgt := 94) dX12_comesTo_75 (by decide) (fun c5 => ?_) (fun c5 => ?_)
      · replace h := hF h c5
        refine AW.iload 1 dX12_comesTo_94 rfl ?_
        refine AW.bipush dX12_comesTo_96 (by decide) (by decide) ?_
        refine AW.icmp_ne (tgt := 122) dX12_comesTo_98 (by decide) (fun c6 => ?_) (fun c6 => ?_)
        · replace h := hF h c6
          refine AW.iinc (lv1 := [(3, iv (x3 + (-1))), (6, iv (g 134 (ix ((2 * x4) + 1)))), (5, iv (g 134 (ix (2 * x4)))), (0, rv z 117), (2, iv x2), (4, iv x4)]) 4 dX12_comesTo_122 rfl (by decide) rfl ?_
          refine AW.aloadr_n 3 dX12_comesTo_125 rfl ?_
          refine AW.getR af_X12_106_117 sr_117_32 dX12_comesTo_126 ?_
          refine AW.iload_n 0 dX12_comesTo_129 rfl ?_
          refine AW.iconst dX12_comesTo_130 ?_
          refine AW.isub dX12_comesTo_131 ?_
          refine AW.iload 2 dX12_comesTo_132 rfl ?_
          refine AW.aloadr_n 3 dX12_comesTo_134 rfl ?_
          refine AW.getR af_X12_106_117 sr_117_32 dX12_comesTo_135 ?_
          refine AW.iload_n 0 dX12_comesTo_138 rfl ?_
          refine AW.iconst dX12_comesTo_139 ?_
          refine AW.isub dX12_comesTo_140 ?_
          obtain ⟨k7, h⟩ := hK h
          refine AW.iald kc_147 sk_147 k7 dX12_comesTo_141 ?_
          refine AW.aloadr_n 3 dX12_comesTo_142 rfl ?_
          refine AW.getR af_X12_106_117 sr_117_32 dX12_comesTo_143 ?_
          refine AW.iload_n 0 dX12_comesTo_146 rfl ?_
          obtain ⟨k8, h⟩ := hK h
          refine AW.iald kc_147 sk_147 k8 dX12_comesTo_147 ?_
          refine AW.callSi (As := [iv (g 134 (ix (2 * x4))), iv (g 147 (ix ((x3 + (-1)) - 1))), iv (g 147 (ix (x3 + (-1))))]) (st := [iv ((x3 + (-1)) - 1), rv z 147]) M_both_ok cq_X12_393 st_X12_both (Nat.le_trans (by decide) hdd) rfl dX12_comesTo_148 rfl (Nat.le_of_ble_eq_true rfl) ?_
          obtain ⟨g9, e10, h⟩ := hBe h
          refine AW.iast kc_147 sk_147 k7 dX12_comesTo_151 e10 ?_
          refine AW.sub (lv1 := [(0, rv z 117), (2, iv x2), (3, iv (x3 + (-1))), (4, iv x4)]) [3, 4, 0, 5] rfl ?_
          cases h
          exact J39
        · replace h := hT h c6
          refine AW.aloadr_n 2 dX12_comesTo_101 rfl ?_
          refine AW.getR af_X12_106_117 sr_117_32 dX12_comesTo_102 ?_
          refine AW.iload_n 4 dX12_comesTo_105 rfl ?_
          refine AW.iconst dX12_comesTo_106 ?_
          refine AW.isub dX12_comesTo_107 ?_
          refine AW.iconst dX12_comesTo_108 ?_
          refine AW.aloadr_n 2 dX12_comesTo_109 rfl ?_
          refine AW.getR af_X12_106_117 sr_117_32 dX12_comesTo_110 ?_
          refine AW.iload_n 4 dX12_comesTo_113 rfl ?_
          refine AW.iconst dX12_comesTo_114 ?_
          refine AW.isub dX12_comesTo_115 ?_
          obtain ⟨k11, h⟩ := hK h
          refine AW.iald kc_147 sk_147 k11 dX12_comesTo_116 ?_
          refine AW.isub dX12_comesTo_117 ?_
          obtain ⟨g12, e13, h⟩ := hBe h
          refine AW.iast kc_147 sk_147 k11 dX12_comesTo_118 e13 ?_
          refine AW.goto (tgt := 152) dX12_comesTo_119 (by decide) ?_
          refine AW.sub (lv1 := [(0, rv z 117), (2, iv x2), (3, iv x3), (4, iv x4)]) [2, 3, 4, 5] rfl ?_
          cases h
          exact J39
      · replace h := hT h c5
        refine AW.aloadr_n 2 dX12_comesTo_78 rfl ?_
        refine AW.getR af_X12_106_117 sr_117_32 dX12_comesTo_79 ?_
        refine AW.iload_n 4 dX12_comesTo_82 rfl ?_
        refine AW.iconst dX12_comesTo_83 ?_
        refine AW.isub dX12_comesTo_84 ?_
        refine AW.dup2r dX12_comesTo_85 ?_
        obtain ⟨k14, h⟩ := hK h
        refine AW.iald kc_147 sk_147 k14 dX12_comesTo_86 ?_
        refine AW.iload 0 dX12_comesTo_87 rfl ?_
        obtain ⟨k15, h⟩ := hK h
        refine AW.idiv dX12_comesTo_89 k15 ?_
        obtain ⟨g16, e17, h⟩ := hBe h
        refine AW.iast kc_147 sk_147 k14 dX12_comesTo_90 e17 ?_
        refine AW.goto (tgt := 152) dX12_comesTo_91 (by decide) ?_
        refine AW.sub (lv1 := [(0, rv z 117), (2, iv x2), (3, iv x3), (4, iv x4)]) [2, 3, 4, 5] rfl ?_
        cases h
        exact J39
    · replace h := hF h c4
      refine AW.aloadr_n 2 dX12_comesTo_42 rfl ?_
      refine AW.getR af_X12_106_117 sr_117_32 dX12_comesTo_43 ?_
      refine AW.iload_n 4 dX12_comesTo_46 rfl ?_
      refine AW.iload 1 dX12_comesTo_47 rfl ?_
      obtain ⟨r20, e21, h⟩ := hC h
      refine AW.join (tgt := 64) (lv1 := [(0, rv z 117), (2, iv x2), (3, iv x3), (4, iv x4)]) (st1 := [iv r20.1, iv x3, rv z 147]) (g1 := r20.2) ?_ (fun J49 => ?_)
      · obtain ⟨k22, h⟩ := hK h
        obtain ⟨g23, e24, h⟩ := hBe h
        refine AW.iast kc_147 sk_147 k22 dX12_comesTo_64 e24 ?_
        refine AW.iinc (lv1 := [(3, iv (x3 + 1)), (0, rv z 117), (2, iv x2), (4, iv x4)]) 2 dX12_comesTo_65 rfl (by decide) rfl ?_
        refine AW.goto (tgt := 152) dX12_comesTo_68 (by decide) ?_
        refine AW.sub (lv1 := [(0, rv z 117), (2, iv x2), (3, iv (x3 + 1)), (4, iv x4)]) [1, 2, 0, 3] rfl ?_
        cases h
        exact J39
      replace h := e21
      refine AW.if_ne (tgt := 57) dX12_comesTo_49 (by decide) (fun c18 => ?_) (fun c18 => ?_)
      · replace h := hF h c18
        refine AW.aloadr_n 2 dX12_comesTo_57 rfl ?_
        refine AW.getR af_X12_109_117 sr_117_33 dX12_comesTo_58 ?_
        refine AW.iload 1 dX12_comesTo_61 rfl ?_
        obtain ⟨k19, h⟩ := hK h
        refine AW.iald kc_148 sk_148 k19 dX12_comesTo_63 ?_
        refine AW.sub (lv1 := [(0, rv z 117), (2, iv x2), (3, iv x3), (4, iv x4)]) [2, 3, 4, 5] rfl ?_
        cases h
        exact J49
      · replace h := hT h c18
        refine AW.iload 0 dX12_comesTo_52 rfl ?_
        refine AW.goto (tgt := 64) dX12_comesTo_54 (by decide) ?_
        refine AW.sub (lv1 := [(0, rv z 117), (2, iv x2), (3, iv x3), (4, iv x4)]) [2, 3, 4, 5] rfl ?_
        cases h
        exact J49
theorem M_comesTo_ok {z : AZ} {x1 : Int} {x2 : Int} {g : AG} {r : Int × AG} (h : M_comesTo x1 x2 g = some r) : AMf z yX12_comesTo cX12_comesTo 7 (some .int) 1 [rv z 117, iv x1, iv x2] g r := by
  intro d hdd
  refine AM.of (by decide +kernel) (Nat.le_of_ble_eq_true rfl) ?_
  show AW z (RX12, cX12_comesTo, 7, (some .int)) d (QD (some .int) r) 0 [(0, rv z 117), (1, iv x1), (2, iv x2)] [] g
  unfold M_comesTo at h
  refine AW.iconst dX12_comesTo_0 ?_
  refine AW.istore_n (lv1 := [(3, iv 0), (0, rv z 117), (1, iv x1), (2, iv x2)]) dX12_comesTo_1 (by decide) rfl ?_
  refine AW.iload_n 2 dX12_comesTo_2 rfl ?_
  refine AW.istore (lv1 := [(4, iv x1), (3, iv 0), (0, rv z 117), (1, iv x1), (2, iv x2)]) dX12_comesTo_3 (by decide) rfl ?_
  refine AW.sub (lv1 := [(0, rv z 117), (2, iv x2), (3, iv 0), (4, iv x1)]) [2, 4, 1, 0] rfl ?_
  exact M_comesTo_b_ok hdd _ _ _ _ h
set_option synthInstance.maxHeartbeats 2000000 in
theorem M_serves_b_ok {z : AZ} {d : Nat} (hdd : 2 ≤ d) {x1 : Int} : ∀ (tag : Nat) (x2 : Int) (g : AG) (r : Int × AG), M_serves_b x1 tag x2 g = some r → (tag = 1 → AW z (RX12, cX12_serves, 3, (some .int)) d (QD (some .int) r) 2 [(0, rv z 117), (1, iv x1), (2, iv x2)] [] g) ∧ (tag = 2 → AW z (RX12, cX12_serves, 3, (some .int)) d (QD (some .int) r) 57 [(0, rv z 117), (1, iv x1), (2, iv x2)] [] g) := by
  refine M_serves_b.partial_correctness x1 (fun tag x2 g r => (tag = 1 → AW z (RX12, cX12_serves, 3, (some .int)) d (QD (some .int) r) 2 [(0, rv z 117), (1, iv x1), (2, iv x2)] [] g) ∧ (tag = 2 → AW z (RX12, cX12_serves, 3, (some .int)) d (QD (some .int) r) 57 [(0, rv z 117), (1, iv x1), (2, iv x2)] [] g)) ?_
  intro fb9 ih tag x2 g r h
  refine ⟨fun h9 => ?_, fun h9 => ?_⟩
  · subst h9
    replace h := hT h rfl
    refine AW.iload_n 2 dX12_serves_2 rfl ?_
    refine AW.aloadr_n 0 dX12_serves_3 rfl ?_
    refine AW.getI af_X12_390_117 sr_117_34 dX12_serves_4 ?_
    refine AW.icmp_ge (tgt := 63) dX12_serves_7 (by decide) (fun c1 => ?_) (fun c1 => ?_)
    · replace h := hT h c1
      refine AW.iconst dX12_serves_63 ?_
      exact AW.iret1 rfl dX12_serves_64 h rfl
    · replace h := hF h c1
      refine AW.aloadr_n 0 dX12_serves_10 rfl ?_
      refine AW.getR af_X12_48_117 sr_117_13 dX12_serves_11 ?_
      refine AW.iload_n 2 dX12_serves_14 rfl ?_
      obtain ⟨k2, h⟩ := hK h
      refine AW.iald kc_128 sk_128 k2 dX12_serves_15 ?_
      refine AW.iload_n 1 dX12_serves_16 rfl ?_
      refine AW.icmp_ne (tgt := 57) dX12_serves_17 (by decide) (fun c3 => ?_) (fun c3 => ?_)
      · replace h := hF h c3
        exact (ih _ _ _ _ h).2 rfl
      · replace h := hT h c3
        refine AW.aloadr_n 0 dX12_serves_20 rfl ?_
        refine AW.getR af_X12_63_117 sr_117_18 dX12_serves_21 ?_
        refine AW.iload_n 2 dX12_serves_24 rfl ?_
        refine AW.iald kc_133 sk_133 k2 dX12_serves_25 ?_
        refine AW.aloadr_n 0 dX12_serves_26 rfl ?_
        refine AW.getR af_X12_60_117 sr_117_17 dX12_serves_27 ?_
        refine AW.iload_n 2 dX12_serves_30 rfl ?_
        refine AW.iald kc_132 sk_132 k2 dX12_serves_31 ?_
        refine AW.icmp_eq (tgt := 55) dX12_serves_32 (by decide) (fun c4 => ?_) (fun c4 => ?_)
        · replace h := hT h c4
          refine AW.iload_n 2 dX12_serves_55 rfl ?_
          exact AW.iret1 rfl dX12_serves_56 h rfl
        · replace h := hF h c4
          refine AW.aloadr_n 0 dX12_serves_35 rfl ?_
          refine AW.aloadr_n 0 dX12_serves_36 rfl ?_
          refine AW.getR af_X12_60_117 sr_117_17 dX12_serves_37 ?_
          refine AW.iload_n 2 dX12_serves_40 rfl ?_
          refine AW.iald kc_132 sk_132 k2 dX12_serves_41 ?_
          refine AW.aloadr_n 0 dX12_serves_42 rfl ?_
          refine AW.getR af_X12_63_117 sr_117_18 dX12_serves_43 ?_
          refine AW.iload_n 2 dX12_serves_46 rfl ?_
          refine AW.iald kc_133 sk_133 k2 dX12_serves_47 ?_
          obtain ⟨r5, e6, h⟩ := hC h
          refine AW.callVi (As := [iv (g 132 (ix x2)), iv (g 133 (ix x2))]) (st := []) (M_comesTo_ok e6) cq_X12_397 cr_117_X12_comesTo (Nat.le_trans (by decide) hdd) rfl dX12_serves_48 rfl (Nat.le_of_ble_eq_true rfl) ?_
          refine AW.iconst dX12_serves_51 ?_
          refine AW.icmp_ne (tgt := 57) dX12_serves_52 (by decide) (fun c7 => ?_) (fun c7 => ?_)
          · replace h := hF h c7
            exact (ih _ _ _ _ h).2 rfl
          · replace h := hT h c7
            refine AW.iload_n 2 dX12_serves_55 rfl ?_
            exact AW.iret1 rfl dX12_serves_56 h rfl
  · subst h9
    replace h := hF h (by decide)
    replace h := hT h rfl
    refine AW.iinc (lv1 := [(2, iv (x2 + 1)), (0, rv z 117), (1, iv x1)]) 2 dX12_serves_57 rfl (by decide) rfl ?_
    refine AW.goto (tgt := 2) dX12_serves_60 (by decide) ?_
    refine AW.sub (lv1 := [(0, rv z 117), (1, iv x1), (2, iv (x2 + 1))]) [1, 2, 0] rfl ?_
    exact (ih _ _ _ _ h).1 rfl
theorem M_serves_ok {z : AZ} {x1 : Int} {g : AG} {r : Int × AG} (h : M_serves x1 g = some r) : AMf z yX12_serves cX12_serves 3 (some .int) 2 [rv z 117, iv x1] g r := by
  intro d hdd
  refine AM.of (by decide +kernel) (Nat.le_of_ble_eq_true rfl) ?_
  show AW z (RX12, cX12_serves, 3, (some .int)) d (QD (some .int) r) 0 [(0, rv z 117), (1, iv x1)] [] g
  unfold M_serves at h
  refine AW.iconst dX12_serves_0 ?_
  refine AW.istore_n (lv1 := [(2, iv 0), (0, rv z 117), (1, iv x1)]) dX12_serves_1 (by decide) rfl ?_
  refine AW.sub (lv1 := [(0, rv z 117), (1, iv x1), (2, iv 0)]) [1, 2, 0] rfl ?_
  exact (M_serves_b_ok hdd _ _ _ _ h).1 rfl
theorem M_locksLine_ok {z : AZ} {x1 : Int} {g : AG} {r : Int × AG} (h : M_locksLine x1 g = some r) : AMf z yX12_locksLine cX12_locksLine 2 (some .int) 3 [rv z 117, iv x1] g r := by
  intro d hdd
  refine AM.of (by decide +kernel) (Nat.le_of_ble_eq_true rfl) ?_
  show AW z (RX12, cX12_locksLine, 2, (some .int)) d (QD (some .int) r) 0 [(0, rv z 117), (1, iv x1)] [] g
  unfold M_locksLine at h
  refine AW.aloadr_n 0 dX12_locksLine_0 rfl ?_
  obtain ⟨r1, e2, h⟩ := hC h
  refine AW.callVv (As := []) (st := []) (M_forgets_ok e2) cq_X12_401 cr_117_X12_forgets (Nat.le_trans (by decide) hdd) rfl dX12_locksLine_1 rfl (Nat.le_of_ble_eq_true rfl) ?_
  refine AW.aloadr_n 0 dX12_locksLine_4 rfl ?_
  refine AW.getR af_X12_109_117 sr_117_33 dX12_locksLine_5 ?_
  refine AW.iconst dX12_locksLine_8 ?_
  refine AW.iload_n 1 dX12_locksLine_9 rfl ?_
  refine AW.bipush dX12_locksLine_10 (by decide) (by decide) ?_
  refine AW.irem dX12_locksLine_12 (by decide) ?_
  obtain ⟨g3, e4, h⟩ := hBe h
  refine AW.iast kc_148 sk_148 (by decide) dX12_locksLine_13 e4 ?_
  refine AW.aloadr_n 0 dX12_locksLine_14 rfl ?_
  refine AW.getR af_X12_109_117 sr_117_33 dX12_locksLine_15 ?_
  refine AW.iconst dX12_locksLine_18 ?_
  refine AW.iload_n 1 dX12_locksLine_19 rfl ?_
  refine AW.bipush dX12_locksLine_20 (by decide) (by decide) ?_
  refine AW.idiv dX12_locksLine_22 (by decide) ?_
  obtain ⟨g5, e6, h⟩ := hBe h
  refine AW.iast kc_148 sk_148 (by decide) dX12_locksLine_23 e6 ?_
  refine AW.aloadr_n 0 dX12_locksLine_24 rfl ?_
  refine AW.getR af_X12_109_117 sr_117_33 dX12_locksLine_25 ?_
  refine AW.iconst dX12_locksLine_28 ?_
  refine AW.aloadr_n 0 dX12_locksLine_29 rfl ?_
  refine AW.getI af_X12_44_117 sr_117_10 dX12_locksLine_30 ?_
  obtain ⟨g7, e8, h⟩ := hBe h
  refine AW.iast kc_148 sk_148 (by decide) dX12_locksLine_33 e8 ?_
  refine AW.aloadr_n 0 dX12_locksLine_34 rfl ?_
  refine AW.iconst dX12_locksLine_35 ?_
  obtain ⟨r9, e10, h⟩ := hC h
  refine AW.callVi (As := [iv 0]) (st := []) (M_serves_ok e10) cq_X12_404 cr_117_X12_serves (Nat.le_trans (by decide) hdd) rfl dX12_locksLine_36 rfl (Nat.le_of_ble_eq_true rfl) ?_
  exact AW.iret1 rfl dX12_locksLine_39 h rfl
theorem M_open_ok {z : AZ} {x1 : Int} {x2 : Int} {g : AG} {r : Int × AG} (h : M_open x1 x2 g = some r) : AMf z yX12_open cX12_open 4 (some .int) 4 [rv z 117, iv x1, iv x2] g r := by
  intro d hdd
  refine AM.of (by decide +kernel) (Nat.le_of_ble_eq_true rfl) ?_
  show AW z (RX12, cX12_open, 4, (some .int)) d (QD (some .int) r) 0 [(0, rv z 117), (1, iv x1), (2, iv x2)] [] g
  unfold M_open at h
  refine AW.iload_n 1 dX12_open_0 rfl ?_
  refine AW.iconst dX12_open_1 ?_
  refine AW.bipush dX12_open_2 (by decide) (by decide) ?_
  refine AW.callSi (As := [iv x1, iv 0, iv 13]) (st := []) M_isIn_ok cq_X12_3 st_X12_isIn (Nat.le_trans (by decide) hdd) rfl dX12_open_4 rfl (Nat.le_of_ble_eq_true rfl) ?_
  refine AW.if_eq (tgt := 19) dX12_open_7 (by decide) (fun c1 => ?_) (fun c1 => ?_)
  · replace h := hT h c1
    refine AW.iconst dX12_open_19 ?_
    exact AW.iret1 rfl dX12_open_20 h rfl
  · replace h := hF h c1
    refine AW.iload_n 2 dX12_open_10 rfl ?_
    refine AW.iconst dX12_open_11 ?_
    refine AW.iconst dX12_open_12 ?_
    refine AW.callSi (As := [iv x2, iv 0, iv 1]) (st := []) M_isIn_ok cq_X12_3 st_X12_isIn (Nat.le_trans (by decide) hdd) rfl dX12_open_13 rfl (Nat.le_of_ble_eq_true rfl) ?_
    refine AW.if_ne (tgt := 21) dX12_open_16 (by decide) (fun c2 => ?_) (fun c2 => ?_)
    · replace h := hF h c2
      refine AW.aloadr_n 0 dX12_open_21 rfl ?_
      refine AW.iload_n 1 dX12_open_22 rfl ?_
      obtain ⟨r3, e4, h⟩ := hC h
      refine AW.callVi (As := [iv x1]) (st := []) (M_locksLine_ok e4) cq_X12_407 cr_117_X12_locksLine (Nat.le_trans (by decide) hdd) rfl dX12_open_23 rfl (Nat.le_of_ble_eq_true rfl) ?_
      refine AW.istore_n (lv1 := [(3, iv r3.1), (0, rv z 117), (1, iv x1), (2, iv x2)]) dX12_open_26 (by decide) rfl ?_
      refine AW.iload_n 0 dX12_open_27 rfl ?_
      refine AW.iconst dX12_open_28 ?_
      obtain ⟨r12, e13, h⟩ := hC h
      refine AW.join (tgt := 64) (lv1 := []) (st1 := [iv r12.1]) (g1 := r12.2) ?_ (fun J29 => ?_)
      · exact AW.iret1 rfl dX12_open_64 h rfl
      replace h := e13
      refine AW.icmp_ne (tgt := 45) dX12_open_29 (by decide) (fun c5 => ?_) (fun c5 => ?_)
      · replace h := hF h c5
        refine AW.iload_n 3 dX12_open_45 rfl ?_
        refine AW.if_ne (tgt := 58) dX12_open_46 (by decide) (fun c6 => ?_) (fun c6 => ?_)
        · replace h := hF h c6
          refine AW.aloadr_n 1 dX12_open_58 rfl ?_
          refine AW.getR af_X12_54_117 sr_117_15 dX12_open_59 ?_
          refine AW.iload_n 0 dX12_open_62 rfl ?_
          obtain ⟨k7, h⟩ := hK h
          refine AW.iald kc_130 sk_130 k7 dX12_open_63 ?_
          refine AW.sub (lv1 := []) [] rfl ?_
          cases h
          exact J29
        · replace h := hT h c6
          refine AW.aloadr_n 1 dX12_open_49 rfl ?_
          refine AW.getR af_X12_51_117 sr_117_14 dX12_open_50 ?_
          refine AW.iload_n 0 dX12_open_53 rfl ?_
          obtain ⟨k8, h⟩ := hK h
          refine AW.iald kc_129 sk_129 k8 dX12_open_54 ?_
          refine AW.goto (tgt := 64) dX12_open_55 (by decide) ?_
          refine AW.sub (lv1 := []) [] rfl ?_
          cases h
          exact J29
      · replace h := hT h c5
        refine AW.iload_n 3 dX12_open_32 rfl ?_
        obtain ⟨t9, e10, h⟩ := hBe h
        refine AW.join (tgt := 64) (lv1 := [(3, iv r3.1), (0, rv z 117), (1, iv x1), (2, iv x2)]) (st1 := [iv t9]) (g1 := r3.2) ?_ (fun J33 => ?_)
        · refine AW.sub (lv1 := []) [] rfl ?_
          cases h
          exact J29
        refine AW.if_ne (tgt := 40) dX12_open_33 (by decide) (fun c11 => ?_) (fun c11 => ?_)
        · refine AW.bipush dX12_open_40 (by decide) (by decide) ?_
          refine AW.goto (tgt := 64) dX12_open_42 (by decide) ?_
          exact AW.val (e10.trans (if_neg c11)) J33
        · refine AW.iconst dX12_open_36 ?_
          refine AW.goto (tgt := 64) dX12_open_37 (by decide) ?_
          exact AW.val (e10.trans (if_pos c11)) J33
    · replace h := hT h c2
      refine AW.iconst dX12_open_19 ?_
      exact AW.iret1 rfl dX12_open_20 h rfl
theorem M_isBoat_ok {z : AZ} {x1 : Int} {g : AG} : AMf z yX12_isBoat cX12_isBoat 2 (some .boolean) 1 [rv z 117, iv x1] g ((M_isBoat x1 g), g) := by
  intro d hdd
  refine AM.of (by decide +kernel) (Nat.le_of_ble_eq_true rfl) ?_
  show AW z (RX12, cX12_isBoat, 2, (some .boolean)) d (QD (some .boolean) ((M_isBoat x1 g), g)) 0 [(0, rv z 117), (1, iv x1)] [] g
  refine AW.iload_n 1 dX12_isBoat_0 rfl ?_
  refine AW.iconst dX12_isBoat_1 ?_
  refine AW.aloadr_n 0 dX12_isBoat_2 rfl ?_
  refine AW.getI af_X12_235_117 sr_117_12 dX12_isBoat_3 ?_
  refine AW.iconst dX12_isBoat_6 ?_
  refine AW.isub dX12_isBoat_7 ?_
  refine AW.callSi (As := [iv x1, iv 0, iv ((g 117 12) - 1)]) (st := []) M_isIn_ok cq_X12_3 st_X12_isIn (Nat.le_trans (by decide) hdd) rfl dX12_isBoat_8 rfl (Nat.le_of_ble_eq_true rfl) ?_
  exact AW.zret rfl M_isIn_01 dX12_isBoat_11 ⟨congrArg (fun v => some (iv v)) (show M_isBoat x1 g = (M_isIn x1 0 ((g 117 12) - 1)) from rfl).symm, rfl⟩
theorem M_isTime_ok {z : AZ} {x0 : Int} {g : AG} : AMf z yX12_isTime cX12_isTime 1 (some .boolean) 1 [iv x0] g ((M_isTime x0), g) := by
  intro d hdd
  refine AM.of (by decide +kernel) (Nat.le_of_ble_eq_true rfl) ?_
  show AW z (RX12, cX12_isTime, 1, (some .boolean)) d (QD (some .boolean) ((M_isTime x0), g)) 0 [(0, iv x0)] [] g
  refine AW.iload_n 0 dX12_isTime_0 rfl ?_
  refine AW.iconst dX12_isTime_1 ?_
  refine AW.sipush dX12_isTime_2 (by decide) (by decide) ?_
  refine AW.callSi (As := [iv x0, iv 0, iv 20159]) (st := []) M_isIn_ok cq_X12_3 st_X12_isIn (Nat.le_trans (by decide) hdd) rfl dX12_isTime_5 rfl (Nat.le_of_ble_eq_true rfl) ?_
  exact AW.zret rfl M_isIn_01 dX12_isTime_8 ⟨congrArg (fun v => some (iv v)) (show M_isTime x0  = (M_isIn x0 0 20159) from rfl).symm, rfl⟩
set_option synthInstance.maxHeartbeats 2000000 in
theorem M_isStopped_b_ok {z : AZ} {d : Nat} (hdd : 1 ≤ d) {x1 : Int} {x2 : Int} {g : AG} : ∀ (tag : Nat) (x3 : Int) (r : Int × AG), M_isStopped_b x1 x2 g tag x3 = some r → (tag = 1 → AW z (RX12, cX12_isStopped, 4, (some .boolean)) d (QD (some .boolean) r) 2 [(0, rv z 117), (1, iv x1), (2, iv x2), (3, iv x3)] [] g) ∧ (tag = 2 → AW z (RX12, cX12_isStopped, 4, (some .boolean)) d (QD (some .boolean) r) 41 [(0, rv z 117), (1, iv x1), (2, iv x2), (3, iv x3)] [] g) := by
  refine M_isStopped_b.partial_correctness x1 x2 g (fun tag x3 r => (tag = 1 → AW z (RX12, cX12_isStopped, 4, (some .boolean)) d (QD (some .boolean) r) 2 [(0, rv z 117), (1, iv x1), (2, iv x2), (3, iv x3)] [] g) ∧ (tag = 2 → AW z (RX12, cX12_isStopped, 4, (some .boolean)) d (QD (some .boolean) r) 41 [(0, rv z 117), (1, iv x1), (2, iv x2), (3, iv x3)] [] g)) ?_
  intro fb9 ih tag x3 r h
  refine ⟨fun h9 => ?_, fun h9 => ?_⟩
  · subst h9
    replace h := hT h rfl
    refine AW.iload_n 3 dX12_isStopped_2 rfl ?_
    refine AW.aloadr_n 0 dX12_isStopped_3 rfl ?_
    refine AW.getI af_X12_232_117 sr_117_11 dX12_isStopped_4 ?_
    refine AW.icmp_ge (tgt := 47) dX12_isStopped_7 (by decide) (fun c1 => ?_) (fun c1 => ?_)
    · replace h := hT h c1
      refine AW.iconst dX12_isStopped_47 ?_
      exact AW.zret1 rfl (Or.inl rfl) dX12_isStopped_48 h rfl
    · replace h := hF h c1
      refine AW.aloadr_n 0 dX12_isStopped_10 rfl ?_
      refine AW.getR af_X12_23_117 sr_117_3 dX12_isStopped_11 ?_
      refine AW.iload_n 3 dX12_isStopped_14 rfl ?_
      obtain ⟨k2, h⟩ := hK h
      refine AW.iald kc_121 sk_121 k2 dX12_isStopped_15 ?_
      refine AW.iload_n 1 dX12_isStopped_16 rfl ?_
      refine AW.icmp_ne (tgt := 41) dX12_isStopped_17 (by decide) (fun c3 => ?_) (fun c3 => ?_)
      · replace h := hF h c3
        exact (ih _ _ _ h).2 rfl
      · replace h := hT h c3
        refine AW.iload_n 2 dX12_isStopped_20 rfl ?_
        refine AW.aloadr_n 0 dX12_isStopped_21 rfl ?_
        refine AW.getR af_X12_26_117 sr_117_4 dX12_isStopped_22 ?_
        refine AW.iload_n 3 dX12_isStopped_25 rfl ?_
        refine AW.iald kc_122 sk_122 k2 dX12_isStopped_26 ?_
        refine AW.aloadr_n 0 dX12_isStopped_27 rfl ?_
        refine AW.getR af_X12_29_117 sr_117_5 dX12_isStopped_28 ?_
        refine AW.iload_n 3 dX12_isStopped_31 rfl ?_
        refine AW.iald kc_123 sk_123 k2 dX12_isStopped_32 ?_
        refine AW.callSi (As := [iv x2, iv (g 122 (ix x3)), iv (g 123 (ix x3))]) (st := []) M_isIn_ok cq_X12_3 st_X12_isIn (Nat.le_trans (by decide) hdd) rfl dX12_isStopped_33 rfl (Nat.le_of_ble_eq_true rfl) ?_
        refine AW.if_eq (tgt := 41) dX12_isStopped_36 (by decide) (fun c4 => ?_) (fun c4 => ?_)
        · replace h := hT h c4
          exact (ih _ _ _ h).2 rfl
        · replace h := hF h c4
          refine AW.iconst dX12_isStopped_39 ?_
          exact AW.zret1 rfl (Or.inr rfl) dX12_isStopped_40 h rfl
  · subst h9
    replace h := hF h (by decide)
    replace h := hT h rfl
    refine AW.iinc (lv1 := [(3, iv (x3 + 1)), (0, rv z 117), (1, iv x1), (2, iv x2)]) 3 dX12_isStopped_41 rfl (by decide) rfl ?_
    refine AW.goto (tgt := 2) dX12_isStopped_44 (by decide) ?_
    refine AW.sub (lv1 := [(0, rv z 117), (1, iv x1), (2, iv x2), (3, iv (x3 + 1))]) [1, 2, 3, 0] rfl ?_
    exact (ih _ _ _ h).1 rfl
theorem M_isStopped_ok {z : AZ} {x1 : Int} {x2 : Int} {g : AG} {r : Int × AG} (h : M_isStopped x1 x2 g = some r) : AMf z yX12_isStopped cX12_isStopped 4 (some .boolean) 1 [rv z 117, iv x1, iv x2] g r := by
  intro d hdd
  refine AM.of (by decide +kernel) (Nat.le_of_ble_eq_true rfl) ?_
  show AW z (RX12, cX12_isStopped, 4, (some .boolean)) d (QD (some .boolean) r) 0 [(0, rv z 117), (1, iv x1), (2, iv x2)] [] g
  unfold M_isStopped at h
  refine AW.iconst dX12_isStopped_0 ?_
  refine AW.istore_n (lv1 := [(3, iv 0), (0, rv z 117), (1, iv x1), (2, iv x2)]) dX12_isStopped_1 (by decide) rfl ?_
  refine AW.sub (lv1 := [(0, rv z 117), (1, iv x1), (2, iv x2), (3, iv 0)]) [1, 2, 3, 0] rfl ?_
  exact (M_isStopped_b_ok hdd _ _ _ h).1 rfl
theorem M_mayBegin_ok {z : AZ} {x1 : Int} {x2 : Int} {x3 : Int} {x4 : Int} {g : AG} {r : Int × AG} (h : M_mayBegin x1 x2 x3 x4 g = some r) : AMf z yX12_mayBegin cX12_mayBegin 6 (some .boolean) 4 [rv z 117, iv x1, iv x2, iv x3, iv x4] g r := by
  intro d hdd
  refine AM.of (by decide +kernel) (Nat.le_of_ble_eq_true rfl) ?_
  show AW z (RX12, cX12_mayBegin, 6, (some .boolean)) d (QD (some .boolean) r) 0 [(0, rv z 117), (1, iv x1), (2, iv x2), (3, iv x3), (4, iv x4)] [] g
  unfold M_mayBegin at h
  refine AW.iload 4 dX12_mayBegin_0 rfl ?_
  refine AW.bipush dX12_mayBegin_2 (by decide) (by decide) ?_
  refine AW.bipush dX12_mayBegin_4 (by decide) (by decide) ?_
  refine AW.callSi (As := [iv x4, iv 8, iv 19]) (st := []) M_isIn_ok cq_X12_3 st_X12_isIn (Nat.le_trans (by decide) hdd) rfl dX12_mayBegin_6 rfl (Nat.le_of_ble_eq_true rfl) ?_
  refine AW.if_eq (tgt := 21) dX12_mayBegin_9 (by decide) (fun c1 => ?_) (fun c1 => ?_)
  · replace h := hT h c1
    refine AW.iconst dX12_mayBegin_21 ?_
    exact AW.zret1 rfl (Or.inl rfl) dX12_mayBegin_22 h rfl
  · replace h := hF h c1
    refine AW.aloadr_n 0 dX12_mayBegin_12 rfl ?_
    refine AW.iload_n 1 dX12_mayBegin_13 rfl ?_
    refine AW.iload_n 3 dX12_mayBegin_14 rfl ?_
    obtain ⟨r2, e3, h⟩ := hC h
    refine AW.callVi (As := [iv x1, iv x3]) (st := []) (M_isStopped_ok e3) cq_X12_410 cr_117_X12_isStopped (Nat.le_trans (by decide) hdd) rfl dX12_mayBegin_15 rfl (Nat.le_of_ble_eq_true rfl) ?_
    refine AW.if_eq (tgt := 23) dX12_mayBegin_18 (by decide) (fun c4 => ?_) (fun c4 => ?_)
    · replace h := hT h c4
      refine AW.iload_n 2 dX12_mayBegin_23 rfl ?_
      refine AW.if_ne (tgt := 29) dX12_mayBegin_24 (by decide) (fun c5 => ?_) (fun c5 => ?_)
      · replace h := hF h c5
        refine AW.iload_n 2 dX12_mayBegin_29 rfl ?_
        refine AW.iconst dX12_mayBegin_30 ?_
        refine AW.icmp_ne (tgt := 77) dX12_mayBegin_31 (by decide) (fun c6 => ?_) (fun c6 => ?_)
        · replace h := hF h c6
          refine AW.iconst dX12_mayBegin_77 ?_
          refine AW.iload_n 1 dX12_mayBegin_78 rfl ?_
          refine AW.imul dX12_mayBegin_79 ?_
          refine AW.iload_n 2 dX12_mayBegin_80 rfl ?_
          refine AW.iadd dX12_mayBegin_81 ?_
          refine AW.iconst dX12_mayBegin_82 ?_
          refine AW.isub dX12_mayBegin_83 ?_
          refine AW.istore (lv1 := [(5, iv (((2 * x1) + x2) - 2)), (0, rv z 117), (1, iv x1), (2, iv x2), (3, iv x3), (4, iv x4)]) dX12_mayBegin_84 (by decide) rfl ?_
          refine AW.aloadr_n 1 dX12_mayBegin_86 rfl ?_
          refine AW.getR af_X12_96_117 sr_117_29 dX12_mayBegin_87 ?_
          refine AW.iload 0 dX12_mayBegin_90 rfl ?_
          obtain ⟨k7, h⟩ := hK h
          refine AW.zald kc_144 sk_144 k7 dX12_mayBegin_92 ?_
          obtain ⟨r15, e16, h⟩ := hC h
          refine AW.join (tgt := 131) (lv1 := []) (st1 := [iv r15.1]) (g1 := r15.2) ?_ (fun J93 => ?_)
          · obtain ⟨k17, h⟩ := hK h
            exact AW.zret1 rfl k17 dX12_mayBegin_131 h rfl
          replace h := e16
          refine AW.if_eq (tgt := 130) dX12_mayBegin_93 (by decide) (fun c8 => ?_) (fun c8 => ?_)
          · replace h := hT h c8
            refine AW.iconst dX12_mayBegin_130 ?_
            refine AW.sub (lv1 := []) [] rfl ?_
            cases h
            exact J93
          · replace h := hF h c8
            refine AW.iload 5 dX12_mayBegin_96 rfl ?_
            refine AW.aloadr_n 1 dX12_mayBegin_98 rfl ?_
            refine AW.getR af_X12_90_117 sr_117_27 dX12_mayBegin_99 ?_
            refine AW.iconst dX12_mayBegin_102 ?_
            refine AW.iload 0 dX12_mayBegin_103 rfl ?_
            refine AW.imul dX12_mayBegin_105 ?_
            obtain ⟨k9, h⟩ := hK h
            refine AW.iald kc_142 sk_142 k9 dX12_mayBegin_106 ?_
            refine AW.icmp_lt (tgt := 130) dX12_mayBegin_107 (by decide) (fun c10 => ?_) (fun c10 => ?_)
            · replace h := hT h c10
              refine AW.iconst dX12_mayBegin_130 ?_
              refine AW.sub (lv1 := []) [] rfl ?_
              cases h
              exact J93
            · replace h := hF h c10
              refine AW.iload 5 dX12_mayBegin_110 rfl ?_
              refine AW.aloadr_n 1 dX12_mayBegin_112 rfl ?_
              refine AW.getR af_X12_90_117 sr_117_27 dX12_mayBegin_113 ?_
              refine AW.iconst dX12_mayBegin_116 ?_
              refine AW.iload 0 dX12_mayBegin_117 rfl ?_
              refine AW.imul dX12_mayBegin_119 ?_
              refine AW.iconst dX12_mayBegin_120 ?_
              refine AW.iadd dX12_mayBegin_121 ?_
              obtain ⟨k11, h⟩ := hK h
              refine AW.iald kc_142 sk_142 k11 dX12_mayBegin_122 ?_
              obtain ⟨t12, e13, h⟩ := hBe h
              refine AW.join (tgt := 131) (lv1 := [(5, iv (((2 * x1) + x2) - 2)), (0, rv z 117), (1, iv x1), (2, iv x2), (3, iv x3), (4, iv x4)]) (st1 := [iv t12]) (g1 := r2.2) ?_ (fun J123 => ?_)
              · refine AW.sub (lv1 := []) [] rfl ?_
                cases h
                exact J93
              refine AW.icmp_ge (tgt := 130) dX12_mayBegin_123 (by decide) (fun c14 => ?_) (fun c14 => ?_)
              · refine AW.iconst dX12_mayBegin_130 ?_
                exact AW.val (e13.trans (if_pos c14)) J123
              · refine AW.iconst dX12_mayBegin_126 ?_
                refine AW.goto (tgt := 131) dX12_mayBegin_127 (by decide) ?_
                exact AW.val (e13.trans (if_neg c14)) J123
        · replace h := hT h c6
          refine AW.aloadr_n 0 dX12_mayBegin_34 rfl ?_
          refine AW.iload_n 3 dX12_mayBegin_35 rfl ?_
          obtain ⟨r18, e19, h⟩ := hC h
          refine AW.callVi (As := [iv x3]) (st := []) (M_locksLine_ok e19) cq_X12_407 cr_117_X12_locksLine (Nat.le_trans (by decide) hdd) rfl dX12_mayBegin_36 rfl (Nat.le_of_ble_eq_true rfl) ?_
          refine AW.istore (lv1 := [(5, iv r18.1), (0, rv z 117), (1, iv x1), (2, iv x2), (3, iv x3), (4, iv x4)]) dX12_mayBegin_39 (by decide) rfl ?_
          refine AW.iload 0 dX12_mayBegin_41 rfl ?_
          refine AW.iconst dX12_mayBegin_43 ?_
          obtain ⟨r26, e27, h⟩ := hC h
          refine AW.join (tgt := 76) (lv1 := []) (st1 := [iv r26.1]) (g1 := r26.2) ?_ (fun J44 => ?_)
          · obtain ⟨k28, h⟩ := hK h
            exact AW.zret1 rfl k28 dX12_mayBegin_76 h rfl
          replace h := e27
          refine AW.icmp_eq (tgt := 71) dX12_mayBegin_44 (by decide) (fun c20 => ?_) (fun c20 => ?_)
          · replace h := hT h c20
            refine AW.iconst dX12_mayBegin_71 ?_
            refine AW.goto (tgt := 76) dX12_mayBegin_72 (by decide) ?_
            refine AW.sub (lv1 := []) [] rfl ?_
            cases h
            exact J44
          · replace h := hF h c20
            refine AW.iload 5 dX12_mayBegin_47 rfl ?_
            refine AW.aloadr_n 1 dX12_mayBegin_49 rfl ?_
            refine AW.getR af_X12_51_117 sr_117_14 dX12_mayBegin_50 ?_
            refine AW.iload 0 dX12_mayBegin_53 rfl ?_
            obtain ⟨k21, h⟩ := hK h
            refine AW.iald kc_129 sk_129 k21 dX12_mayBegin_55 ?_
            refine AW.icmp_lt (tgt := 75) dX12_mayBegin_56 (by decide) (fun c22 => ?_) (fun c22 => ?_)
            · replace h := hT h c22
              refine AW.iconst dX12_mayBegin_75 ?_
              refine AW.sub (lv1 := []) [] rfl ?_
              cases h
              exact J44
            · replace h := hF h c22
              refine AW.iload 5 dX12_mayBegin_59 rfl ?_
              refine AW.aloadr_n 1 dX12_mayBegin_61 rfl ?_
              refine AW.getR af_X12_54_117 sr_117_15 dX12_mayBegin_62 ?_
              refine AW.iload 0 dX12_mayBegin_65 rfl ?_
              refine AW.iald kc_130 sk_130 k21 dX12_mayBegin_67 ?_
              obtain ⟨t23, e24, h⟩ := hBe h
              refine AW.join (tgt := 76) (lv1 := [(5, iv r18.1), (0, rv z 117), (1, iv x1), (2, iv x2), (3, iv x3), (4, iv x4)]) (st1 := [iv t23]) (g1 := r18.2) ?_ (fun J68 => ?_)
              · refine AW.sub (lv1 := []) [] rfl ?_
                cases h
                exact J44
              refine AW.icmp_ge (tgt := 75) dX12_mayBegin_68 (by decide) (fun c25 => ?_) (fun c25 => ?_)
              · refine AW.iconst dX12_mayBegin_75 ?_
                exact AW.val (e24.trans (if_pos c25)) J68
              · refine AW.iconst dX12_mayBegin_71 ?_
                refine AW.goto (tgt := 76) dX12_mayBegin_72 (by decide) ?_
                exact AW.val (e24.trans (if_neg c25)) J68
      · replace h := hT h c5
        refine AW.iconst dX12_mayBegin_27 ?_
        exact AW.zret1 rfl (Or.inr rfl) dX12_mayBegin_28 h rfl
    · replace h := hF h c4
      refine AW.iconst dX12_mayBegin_21 ?_
      exact AW.zret1 rfl (Or.inl rfl) dX12_mayBegin_22 h rfl
set_option synthInstance.maxHeartbeats 2000000 in
theorem M_endOf_b_ok {z : AZ} {d : Nat} (hdd : 5 ≤ d) {x1 : Int} {x2 : Int} {x4 : Int} : ∀ (tag : Nat) (x5 : Int) (g : AG) (r : Int × AG), M_endOf_b x1 x2 x4 tag x5 g = some r → (tag = 1 → AW z (RX12, cX12_endOf, 6, (some .int)) d (QD (some .int) r) 3 [(0, rv z 117), (1, iv x1), (2, iv x2), (4, iv x4), (5, iv x5)] [] g) ∧ (tag = 2 → AW z (RX12, cX12_endOf, 6, (some .int)) d (QD (some .int) r) 50 [(4, iv x4), (5, iv x5)] [] g) := by
  refine M_endOf_b.partial_correctness x1 x2 x4 (fun tag x5 g r => (tag = 1 → AW z (RX12, cX12_endOf, 6, (some .int)) d (QD (some .int) r) 3 [(0, rv z 117), (1, iv x1), (2, iv x2), (4, iv x4), (5, iv x5)] [] g) ∧ (tag = 2 → AW z (RX12, cX12_endOf, 6, (some .int)) d (QD (some .int) r) 50 [(4, iv x4), (5, iv x5)] [] g)) ?_
  intro fb9 ih tag x5 g r h
  refine ⟨fun h9 => ?_, fun h9 => ?_⟩
  · subst h9
    replace h := hT h rfl
    refine AW.iload 4 dX12_endOf_3 rfl ?_
    refine AW.sipush dX12_endOf_5 (by decide) (by decide) ?_
    refine AW.icmp_gt (tgt := 50) dX12_endOf_8 (by decide) (fun c1 => ?_) (fun c1 => ?_)
    · replace h := hT h c1
      refine AW.sub (lv1 := [(4, iv x4), (5, iv x5)]) [3, 4] rfl ?_
      exact (ih _ _ _ _ h).2 rfl
    · replace h := hF h c1
      refine AW.aloadr_n 0 dX12_endOf_11 rfl ?_
      refine AW.iload_n 1 dX12_endOf_12 rfl ?_
      refine AW.iload_n 2 dX12_endOf_13 rfl ?_
      refine AW.iload 4 dX12_endOf_14 rfl ?_
      refine AW.sipush dX12_endOf_16 (by decide) (by decide) ?_
      refine AW.idiv dX12_endOf_19 (by decide) ?_
      refine AW.iload 4 dX12_endOf_20 rfl ?_
      refine AW.sipush dX12_endOf_22 (by decide) (by decide) ?_
      refine AW.irem dX12_endOf_25 (by decide) ?_
      refine AW.bipush dX12_endOf_26 (by decide) (by decide) ?_
      refine AW.idiv dX12_endOf_28 (by decide) ?_
      obtain ⟨r2, e3, h⟩ := hC h
      refine AW.callVi (As := [iv x1, iv x2, iv ((nw x5).tdiv 1440), iv ((nw ((nw x5).tmod 1440)).tdiv 60)]) (st := []) (M_mayBegin_ok e3) cq_X12_413 cr_117_X12_mayBegin (Nat.le_trans (by decide) hdd) rfl dX12_endOf_29 rfl (Nat.le_of_ble_eq_true rfl) ?_
      refine AW.if_ne (tgt := 50) dX12_endOf_32 (by decide) (fun c4 => ?_) (fun c4 => ?_)
      · replace h := hF h c4
        refine AW.sub (lv1 := [(4, iv x4), (5, iv x5)]) [3, 4] rfl ?_
        exact (ih _ _ _ _ h).2 rfl
      · replace h := hT h c4
        refine AW.iload 4 dX12_endOf_35 rfl ?_
        refine AW.bipush dX12_endOf_37 (by decide) (by decide) ?_
        refine AW.idiv dX12_endOf_39 (by decide) ?_
        refine AW.iconst dX12_endOf_40 ?_
        refine AW.iadd dX12_endOf_41 ?_
        refine AW.bipush dX12_endOf_42 (by decide) (by decide) ?_
        refine AW.imul dX12_endOf_44 ?_
        refine AW.istore (lv1 := [(5, iv ((((nw x5).tdiv 60) + 1) * 60)), (0, rv z 117), (1, iv x1), (2, iv x2), (4, iv x4)]) dX12_endOf_45 (by decide) rfl ?_
        refine AW.goto (tgt := 3) dX12_endOf_47 (by decide) ?_
        refine AW.sub (lv1 := [(0, rv z 117), (1, iv x1), (2, iv x2), (4, iv x4), (5, iv ((((nw x5).tdiv 60) + 1) * 60))]) [1, 2, 3, 4, 0] rfl ?_
        exact (ih _ _ _ _ h).1 rfl
  · subst h9
    replace h := hF h (by decide)
    replace h := hT h rfl
    refine AW.iload 1 dX12_endOf_50 rfl ?_
    refine AW.iload 0 dX12_endOf_52 rfl ?_
    refine AW.iadd dX12_endOf_54 ?_
    refine AW.sipush dX12_endOf_55 (by decide) (by decide) ?_
    obtain ⟨t1, e2, h⟩ := hBe h
    refine AW.join (tgt := 78) (lv1 := [(4, iv x4), (5, iv x5)]) (st1 := [iv t1]) (g1 := g) ?_ (fun J58 => ?_)
    · exact AW.iret1 rfl dX12_endOf_78 h rfl
    refine AW.icmp_gt (tgt := 69) dX12_endOf_58 (by decide) (fun c3 => ?_) (fun c3 => ?_)
    · refine AW.iconst dX12_endOf_69 ?_
      refine AW.goto (tgt := 78) dX12_endOf_70 (by decide) ?_
      exact AW.val (e2.trans (if_pos c3)) J58
    · refine AW.iload 1 dX12_endOf_61 rfl ?_
      refine AW.sipush dX12_endOf_63 (by decide) (by decide) ?_
      refine AW.icmp_le (tgt := 73) dX12_endOf_66 (by decide) (fun c4 => ?_) (fun c4 => ?_)
      · refine AW.iload 1 dX12_endOf_73 rfl ?_
        refine AW.iload 0 dX12_endOf_75 rfl ?_
        refine AW.iadd dX12_endOf_77 ?_
        exact AW.val (e2.trans ((if_neg c3).trans (if_pos c4))) J58
      · refine AW.iconst dX12_endOf_69 ?_
        refine AW.goto (tgt := 78) dX12_endOf_70 (by decide) ?_
        exact AW.val (e2.trans ((if_neg c3).trans (if_neg c4))) J58
theorem M_endOf_ok {z : AZ} {x1 : Int} {x2 : Int} {x3 : Int} {x4 : Int} {g : AG} {r : Int × AG} (h : M_endOf x1 x2 x3 x4 g = some r) : AMf z yX12_endOf cX12_endOf 6 (some .int) 5 [rv z 117, iv x1, iv x2, iv x3, iv x4] g r := by
  intro d hdd
  refine AM.of (by decide +kernel) (Nat.le_of_ble_eq_true rfl) ?_
  show AW z (RX12, cX12_endOf, 6, (some .int)) d (QD (some .int) r) 0 [(0, rv z 117), (1, iv x1), (2, iv x2), (3, iv x3), (4, iv x4)] [] g
  unfold M_endOf at h
  refine AW.iload_n 3 dX12_endOf_0 rfl ?_
  refine AW.istore (lv1 := [(5, iv x3), (0, rv z 117), (1, iv x1), (2, iv x2), (3, iv x3), (4, iv x4)]) dX12_endOf_1 (by decide) rfl ?_
  refine AW.sub (lv1 := [(0, rv z 117), (1, iv x1), (2, iv x2), (4, iv x4), (5, iv x3)]) [1, 2, 3, 5, 0] rfl ?_
  exact (M_endOf_b_ok hdd _ _ _ _ h).1 rfl
theorem M_harmOf_ok {z : AZ} {x1 : Int} {x2 : Int} {g : AG} {r : Int × AG} (h : M_harmOf x1 x2 g = some r) : AMf z yX12_harmOf cX12_harmOf 5 (some .int) 3 [rv z 117, iv x1, iv x2] g r := by
  intro d hdd
  refine AM.of (by decide +kernel) (Nat.le_of_ble_eq_true rfl) ?_
  show AW z (RX12, cX12_harmOf, 5, (some .int)) d (QD (some .int) r) 0 [(0, rv z 117), (1, iv x1), (2, iv x2)] [] g
  unfold M_harmOf at h
  refine AW.aloadr_n 0 dX12_harmOf_0 rfl ?_
  obtain ⟨r1, e2, h⟩ := hC h
  refine AW.callVv (As := []) (st := []) (M_forgets_ok e2) cq_X12_401 cr_117_X12_forgets (Nat.le_trans (by decide) hdd) rfl dX12_harmOf_1 rfl (Nat.le_of_ble_eq_true rfl) ?_
  refine AW.aloadr_n 0 dX12_harmOf_4 rfl ?_
  refine AW.getR af_X12_109_117 sr_117_33 dX12_harmOf_5 ?_
  refine AW.iconst dX12_harmOf_8 ?_
  refine AW.iload_n 2 dX12_harmOf_9 rfl ?_
  refine AW.bipush dX12_harmOf_10 (by decide) (by decide) ?_
  refine AW.irem dX12_harmOf_12 (by decide) ?_
  obtain ⟨g3, e4, h⟩ := hBe h
  refine AW.iast kc_148 sk_148 (by decide) dX12_harmOf_13 e4 ?_
  refine AW.aloadr_n 0 dX12_harmOf_14 rfl ?_
  refine AW.getR af_X12_109_117 sr_117_33 dX12_harmOf_15 ?_
  refine AW.iconst dX12_harmOf_18 ?_
  refine AW.iload_n 2 dX12_harmOf_19 rfl ?_
  refine AW.bipush dX12_harmOf_20 (by decide) (by decide) ?_
  refine AW.idiv dX12_harmOf_22 (by decide) ?_
  obtain ⟨g5, e6, h⟩ := hBe h
  refine AW.iast kc_148 sk_148 (by decide) dX12_harmOf_23 e6 ?_
  refine AW.aloadr_n 0 dX12_harmOf_24 rfl ?_
  refine AW.getR af_X12_109_117 sr_117_33 dX12_harmOf_25 ?_
  refine AW.iconst dX12_harmOf_28 ?_
  refine AW.aloadr_n 0 dX12_harmOf_29 rfl ?_
  refine AW.getI af_X12_44_117 sr_117_10 dX12_harmOf_30 ?_
  obtain ⟨g7, e8, h⟩ := hBe h
  refine AW.iast kc_148 sk_148 (by decide) dX12_harmOf_33 e8 ?_
  refine AW.aloadr_n 0 dX12_harmOf_34 rfl ?_
  refine AW.getR af_X12_109_117 sr_117_33 dX12_harmOf_35 ?_
  refine AW.iconst dX12_harmOf_38 ?_
  refine AW.aloadr_n 0 dX12_harmOf_39 rfl ?_
  refine AW.getR af_X12_32_117 sr_117_6 dX12_harmOf_40 ?_
  refine AW.iload_n 1 dX12_harmOf_43 rfl ?_
  obtain ⟨k9, h⟩ := hK h
  refine AW.iald kc_124 sk_124 k9 dX12_harmOf_44 ?_
  obtain ⟨g10, e11, h⟩ := hBe h
  refine AW.iast kc_148 sk_148 (by decide) dX12_harmOf_45 e11 ?_
  refine AW.aloadr_n 0 dX12_harmOf_46 rfl ?_
  refine AW.getR af_X12_109_117 sr_117_33 dX12_harmOf_47 ?_
  refine AW.bipush dX12_harmOf_50 (by decide) (by decide) ?_
  refine AW.aloadr_n 0 dX12_harmOf_52 rfl ?_
  refine AW.getR af_X12_35_117 sr_117_7 dX12_harmOf_53 ?_
  refine AW.iload_n 1 dX12_harmOf_56 rfl ?_
  refine AW.iald kc_125 sk_125 k9 dX12_harmOf_57 ?_
  obtain ⟨g12, e13, h⟩ := hBe h
  refine AW.iast kc_148 sk_148 (by decide) dX12_harmOf_58 e13 ?_
  refine AW.aloadr_n 0 dX12_harmOf_59 rfl ?_
  refine AW.getR af_X12_109_117 sr_117_33 dX12_harmOf_60 ?_
  refine AW.bipush dX12_harmOf_63 (by decide) (by decide) ?_
  refine AW.aloadr_n 0 dX12_harmOf_65 rfl ?_
  refine AW.getR af_X12_41_117 sr_117_9 dX12_harmOf_66 ?_
  refine AW.iload_n 1 dX12_harmOf_69 rfl ?_
  refine AW.iald kc_127 sk_127 k9 dX12_harmOf_70 ?_
  obtain ⟨g14, e15, h⟩ := hBe h
  refine AW.iast kc_148 sk_148 (by decide) dX12_harmOf_71 e15 ?_
  refine AW.aloadr_n 0 dX12_harmOf_72 rfl ?_
  refine AW.iconst dX12_harmOf_73 ?_
  obtain ⟨r16, e17, h⟩ := hC h
  refine AW.callVi (As := [iv 4]) (st := []) (M_serves_ok e17) cq_X12_404 cr_117_X12_serves (Nat.le_trans (by decide) hdd) rfl dX12_harmOf_74 rfl (Nat.le_of_ble_eq_true rfl) ?_
  refine AW.istore_n (lv1 := [(3, iv r16.1), (0, rv z 117), (1, iv x1), (2, iv x2)]) dX12_harmOf_77 (by decide) rfl ?_
  refine AW.iload_n 0 dX12_harmOf_78 rfl ?_
  refine AW.iconst dX12_harmOf_79 ?_
  obtain ⟨r22, e23, h⟩ := hC h
  refine AW.join (tgt := 103) (lv1 := []) (st1 := [iv r22.1]) (g1 := r22.2) ?_ (fun J80 => ?_)
  · refine AW.istore (lv1 := [(4, iv r22.1)]) dX12_harmOf_103 (by decide) rfl ?_
    refine AW.iload 0 dX12_harmOf_105 rfl ?_
    obtain ⟨t24, e25, h⟩ := hBe h
    refine AW.join (tgt := 130) (lv1 := [(4, iv r22.1)]) (st1 := [iv t24]) (g1 := r22.2) ?_ (fun J107 => ?_)
    · exact AW.iret1 rfl dX12_harmOf_130 h rfl
    refine AW.if_ge (tgt := 114) dX12_harmOf_107 (by decide) (fun c26 => ?_) (fun c26 => ?_)
    · refine AW.iload 0 dX12_harmOf_114 rfl ?_
      refine AW.sipush dX12_harmOf_116 (by decide) (by decide) ?_
      refine AW.icmp_le (tgt := 128) dX12_harmOf_119 (by decide) (fun c27 => ?_) (fun c27 => ?_)
      · refine AW.iload 0 dX12_harmOf_128 rfl ?_
        exact AW.val (e25.trans ((if_pos c26).trans (if_pos c27))) J107
      · refine AW.sipush dX12_harmOf_122 (by decide) (by decide) ?_
        refine AW.goto (tgt := 130) dX12_harmOf_125 (by decide) ?_
        exact AW.val (e25.trans ((if_pos c26).trans (if_neg c27))) J107
    · refine AW.iconst dX12_harmOf_110 ?_
      refine AW.goto (tgt := 130) dX12_harmOf_111 (by decide) ?_
      exact AW.val (e25.trans (if_neg c26)) J107
  replace h := e23
  refine AW.icmp_ne (tgt := 87) dX12_harmOf_80 (by decide) (fun c18 => ?_) (fun c18 => ?_)
  · replace h := hF h c18
    refine AW.aloadr_n 1 dX12_harmOf_87 rfl ?_
    refine AW.aloadr_n 1 dX12_harmOf_88 rfl ?_
    refine AW.getR af_X12_57_117 sr_117_16 dX12_harmOf_89 ?_
    refine AW.iload_n 0 dX12_harmOf_92 rfl ?_
    obtain ⟨k19, h⟩ := hK h
    refine AW.iald kc_131 sk_131 k19 dX12_harmOf_93 ?_
    refine AW.aloadr_n 1 dX12_harmOf_94 rfl ?_
    refine AW.getR af_X12_60_117 sr_117_17 dX12_harmOf_95 ?_
    refine AW.iload_n 0 dX12_harmOf_98 rfl ?_
    refine AW.iald kc_132 sk_132 k19 dX12_harmOf_99 ?_
    obtain ⟨r20, e21, h⟩ := hC h
    refine AW.callVi (As := [iv (r16.2 131 (ix r16.1)), iv (r16.2 132 (ix r16.1))]) (st := []) (M_comesTo_ok e21) cq_X12_397 cr_117_X12_comesTo (Nat.le_trans (by decide) hdd) rfl dX12_harmOf_100 rfl (Nat.le_of_ble_eq_true rfl) ?_
    refine AW.sub (lv1 := []) [] rfl ?_
    cases h
    exact J80
  · replace h := hT h c18
    refine AW.iconst dX12_harmOf_83 ?_
    refine AW.goto (tgt := 103) dX12_harmOf_84 (by decide) ?_
    refine AW.sub (lv1 := []) [] rfl ?_
    cases h
    exact J80
set_option synthInstance.maxHeartbeats 2000000 in
theorem M_through_b_ok {z : AZ} {d : Nat} (hdd : 6 ≤ d) {x1 : Int} {x2 : Int} {x3 : Int} : ∀ (tag : Nat) (x5 : Int) (x6 : Int) (x7 : Int) (g : AG) (r : Int × AG), M_through_b x1 x2 x3 tag x5 x6 x7 g = some r → (tag = 1 → AW z (RX12, cX12_through, 8, (some .int)) d (QD (some .int) r) 28 [(0, rv z 117), (1, iv x1), (2, iv x2), (3, iv x3), (5, iv x5)] [] g) ∧ (tag = 2 → AW z (RX12, cX12_through, 8, (some .int)) d (QD (some .int) r) 70 [(0, rv z 117), (1, iv x1), (2, iv x2), (5, iv x5), (6, iv x6)] [] g) ∧ (tag = 3 → AW z (RX12, cX12_through, 8, (some .int)) d (QD (some .int) r) 105 [(0, rv z 117), (1, iv x1), (2, iv x2), (5, iv x5)] [] g) ∧ (tag = 4 → AW z (RX12, cX12_through, 8, (some .int)) d (QD (some .int) r) 125 [(0, rv z 117), (1, iv x1), (2, iv x2), (5, iv x5), (6, iv x6), (7, iv x7)] [] g) := by
  refine M_through_b.partial_correctness x1 x2 x3 (fun tag x5 x6 x7 g r => (tag = 1 → AW z (RX12, cX12_through, 8, (some .int)) d (QD (some .int) r) 28 [(0, rv z 117), (1, iv x1), (2, iv x2), (3, iv x3), (5, iv x5)] [] g) ∧ (tag = 2 → AW z (RX12, cX12_through, 8, (some .int)) d (QD (some .int) r) 70 [(0, rv z 117), (1, iv x1), (2, iv x2), (5, iv x5), (6, iv x6)] [] g) ∧ (tag = 3 → AW z (RX12, cX12_through, 8, (some .int)) d (QD (some .int) r) 105 [(0, rv z 117), (1, iv x1), (2, iv x2), (5, iv x5)] [] g) ∧ (tag = 4 → AW z (RX12, cX12_through, 8, (some .int)) d (QD (some .int) r) 125 [(0, rv z 117), (1, iv x1), (2, iv x2), (5, iv x5), (6, iv x6), (7, iv x7)] [] g)) ?_
  intro fb9 ih tag x5 x6 x7 g r h
  refine ⟨fun h9 => ?_, fun h9 => ?_, fun h9 => ?_, fun h9 => ?_⟩
  · subst h9
    replace h := hT h rfl
    refine AW.aloadr_n 0 dX12_through_28 rfl ?_
    refine AW.getR af_X12_13_117 sr_117_0 dX12_through_29 ?_
    refine AW.iload_n 2 dX12_through_32 rfl ?_
    obtain ⟨k1, h⟩ := hK h
    refine AW.iald kc_118 sk_118 k1 dX12_through_33 ?_
    obtain ⟨r8, e9, h⟩ := hC h
    refine AW.join (tgt := 105) (lv1 := [(0, rv z 117), (1, iv x1), (2, iv x2), (5, iv r8.1)]) (st1 := []) (g1 := r8.2) ?_ (fun J34 => ?_)
    · refine AW.bipush dX12_through_105 (by decide) (by decide) ?_
      refine AW.bipush dX12_through_107 (by decide) (by decide) ?_
      refine AW.aloadr_n 0 dX12_through_109 rfl ?_
      refine AW.getR af_X12_41_117 sr_117_9 dX12_through_110 ?_
      refine AW.iload_n 1 dX12_through_113 rfl ?_
      obtain ⟨k10, h⟩ := hK h
      refine AW.iald kc_127 sk_127 k10 dX12_through_114 ?_
      refine AW.isub dX12_through_115 ?_
      refine AW.bipush dX12_through_116 (by decide) (by decide) ?_
      refine AW.idiv dX12_through_118 (by decide) ?_
      refine AW.iadd dX12_through_119 ?_
      refine AW.istore (lv1 := [(6, iv (15 + ((nw (60 - (r8.2 127 (ix x1)))).tdiv 6))), (0, rv z 117), (1, iv x1), (2, iv x2), (5, iv r8.1)]) dX12_through_120 (by decide) rfl ?_
      refine AW.iconst dX12_through_122 ?_
      refine AW.istore (lv1 := [(7, iv 0), (6, iv (15 + ((nw (60 - (r8.2 127 (ix x1)))).tdiv 6))), (0, rv z 117), (1, iv x1), (2, iv x2), (5, iv r8.1)]) dX12_through_123 (by decide) rfl ?_
      refine AW.sub (lv1 := [(0, rv z 117), (1, iv x1), (2, iv x2), (5, iv r8.1), (6, iv (15 + ((nw (60 - (r8.2 127 (ix x1)))).tdiv 6))), (7, iv 0)]) [2, 3, 4, 5, 1, 0] rfl ?_
      exact (ih _ _ _ _ _ _ h).2.2.2 rfl
    replace h := e9
    refine AW.if_le (tgt := 105) dX12_through_34 (by decide) (fun c2 => ?_) (fun c2 => ?_)
    · replace h := hT h c2
      refine AW.sub (lv1 := [(0, rv z 117), (1, iv x1), (2, iv x2), (5, iv x5)]) [0, 1, 2, 4] rfl ?_
      cases h
      exact J34
    · replace h := hF h c2
      refine AW.aloadr_n 0 dX12_through_37 rfl ?_
      refine AW.iload_n 2 dX12_through_38 rfl ?_
      refine AW.iload_n 3 dX12_through_39 rfl ?_
      obtain ⟨t3, e4, h⟩ := hBe h
      refine AW.join (tgt := 48) (lv1 := [(0, rv z 117), (1, iv x1), (2, iv x2), (3, iv x3), (5, iv x5)]) (st1 := [iv t3, iv x2, rv z 117]) (g1 := g) ?_ (fun J40 => ?_)
      · refine AW.iload 4 dX12_through_48 rfl ?_
        refine AW.bipush dX12_through_50 (by decide) (by decide) ?_
        refine AW.aloadr_n 0 dX12_through_52 rfl ?_
        refine AW.getR af_X12_13_117 sr_117_0 dX12_through_53 ?_
        refine AW.iload_n 2 dX12_through_56 rfl ?_
        refine AW.iald kc_118 sk_118 k1 dX12_through_57 ?_
        refine AW.imul dX12_through_58 ?_
        obtain ⟨r5, e6, h⟩ := hC h
        refine AW.callVi (As := [iv x2, iv t3, iv x5, iv (20 * (g 118 (ix x2)))]) (st := []) (M_endOf_ok e6) cq_X12_417 cr_117_X12_endOf (Nat.le_trans (by decide) hdd) rfl dX12_through_59 rfl (Nat.le_of_ble_eq_true rfl) ?_
        refine AW.istore (lv1 := [(5, iv r5.1), (0, rv z 117), (1, iv x1), (2, iv x2), (3, iv x3)]) dX12_through_62 (by decide) rfl ?_
        refine AW.goto (tgt := 105) dX12_through_64 (by decide) ?_
        refine AW.sub (lv1 := [(0, rv z 117), (1, iv x1), (2, iv x2), (5, iv r5.1)]) [1, 2, 3, 0] rfl ?_
        cases h
        exact J34
      refine AW.if_eq (tgt := 47) dX12_through_40 (by decide) (fun c7 => ?_) (fun c7 => ?_)
      · refine AW.iconst dX12_through_47 ?_
        exact AW.val (e4.trans (if_pos c7)) J40
      · refine AW.iconst dX12_through_43 ?_
        refine AW.goto (tgt := 48) dX12_through_44 (by decide) ?_
        exact AW.val (e4.trans (if_neg c7)) J40
  · subst h9
    replace h := hF h (by decide)
    replace h := hT h rfl
    refine AW.iload 4 dX12_through_70 rfl ?_
    refine AW.aloadr_n 0 dX12_through_72 rfl ?_
    refine AW.getR af_X12_13_117 sr_117_0 dX12_through_73 ?_
    refine AW.iload_n 2 dX12_through_76 rfl ?_
    obtain ⟨k1, h⟩ := hK h
    refine AW.iald kc_118 sk_118 k1 dX12_through_77 ?_
    refine AW.icmp_ge (tgt := 105) dX12_through_78 (by decide) (fun c2 => ?_) (fun c2 => ?_)
    · replace h := hT h c2
      refine AW.sub (lv1 := [(0, rv z 117), (1, iv x1), (2, iv x2), (5, iv x5)]) [0, 1, 2, 3] rfl ?_
      exact (ih _ _ _ _ _ _ h).2.2.1 rfl
    · replace h := hF h c2
      refine AW.iload 3 dX12_through_81 rfl ?_
      refine AW.iconst dX12_through_83 ?_
      refine AW.icmp_eq (tgt := 105) dX12_through_84 (by decide) (fun c3 => ?_) (fun c3 => ?_)
      · replace h := hT h c3
        refine AW.sub (lv1 := [(0, rv z 117), (1, iv x1), (2, iv x2), (5, iv x5)]) [0, 1, 2, 3] rfl ?_
        exact (ih _ _ _ _ _ _ h).2.2.1 rfl
      · replace h := hF h c3
        refine AW.aloadr_n 0 dX12_through_87 rfl ?_
        refine AW.iload_n 2 dX12_through_88 rfl ?_
        refine AW.iconst dX12_through_89 ?_
        refine AW.iload 3 dX12_through_90 rfl ?_
        refine AW.bipush dX12_through_92 (by decide) (by decide) ?_
        obtain ⟨r4, e5, h⟩ := hC h
        refine AW.callVi (As := [iv x2, iv 0, iv x5, iv 20]) (st := []) (M_endOf_ok e5) cq_X12_417 cr_117_X12_endOf (Nat.le_trans (by decide) hdd) rfl dX12_through_94 rfl (Nat.le_of_ble_eq_true rfl) ?_
        refine AW.istore (lv1 := [(5, iv r4.1), (0, rv z 117), (1, iv x1), (2, iv x2), (6, iv x6)]) dX12_through_97 (by decide) rfl ?_
        refine AW.iinc (lv1 := [(6, iv (x6 + 1)), (5, iv r4.1), (0, rv z 117), (1, iv x1), (2, iv x2)]) 4 dX12_through_99 rfl (by decide) rfl ?_
        refine AW.goto (tgt := 70) dX12_through_102 (by decide) ?_
        refine AW.sub (lv1 := [(0, rv z 117), (1, iv x1), (2, iv x2), (5, iv r4.1), (6, iv (x6 + 1))]) [2, 3, 4, 1, 0] rfl ?_
        exact (ih _ _ _ _ _ _ h).2.1 rfl
  · subst h9
    replace h := hF h (by decide)
    replace h := hF h (by decide)
    replace h := hT h rfl
    refine AW.bipush dX12_through_105 (by decide) (by decide) ?_
    refine AW.bipush dX12_through_107 (by decide) (by decide) ?_
    refine AW.aloadr_n 0 dX12_through_109 rfl ?_
    refine AW.getR af_X12_41_117 sr_117_9 dX12_through_110 ?_
    refine AW.iload_n 1 dX12_through_113 rfl ?_
    obtain ⟨k1, h⟩ := hK h
    refine AW.iald kc_127 sk_127 k1 dX12_through_114 ?_
    refine AW.isub dX12_through_115 ?_
    refine AW.bipush dX12_through_116 (by decide) (by decide) ?_
    refine AW.idiv dX12_through_118 (by decide) ?_
    refine AW.iadd dX12_through_119 ?_
    refine AW.istore (lv1 := [(6, iv (15 + ((nw (60 - (g 127 (ix x1)))).tdiv 6))), (0, rv z 117), (1, iv x1), (2, iv x2), (5, iv x5)]) dX12_through_120 (by decide) rfl ?_
    refine AW.iconst dX12_through_122 ?_
    refine AW.istore (lv1 := [(7, iv 0), (6, iv (15 + ((nw (60 - (g 127 (ix x1)))).tdiv 6))), (0, rv z 117), (1, iv x1), (2, iv x2), (5, iv x5)]) dX12_through_123 (by decide) rfl ?_
    refine AW.sub (lv1 := [(0, rv z 117), (1, iv x1), (2, iv x2), (5, iv x5), (6, iv (15 + ((nw (60 - (g 127 (ix x1)))).tdiv 6))), (7, iv 0)]) [2, 3, 4, 5, 1, 0] rfl ?_
    exact (ih _ _ _ _ _ _ h).2.2.2 rfl
  · subst h9
    replace h := hF h (by decide)
    replace h := hF h (by decide)
    replace h := hF h (by decide)
    replace h := hT h rfl
    refine AW.iload 5 dX12_through_125 rfl ?_
    refine AW.aloadr_n 0 dX12_through_127 rfl ?_
    refine AW.getR af_X12_17_117 sr_117_1 dX12_through_128 ?_
    refine AW.iload_n 2 dX12_through_131 rfl ?_
    obtain ⟨k1, h⟩ := hK h
    refine AW.iald kc_119 sk_119 k1 dX12_through_132 ?_
    refine AW.icmp_ge (tgt := 196) dX12_through_133 (by decide) (fun c2 => ?_) (fun c2 => ?_)
    · replace h := hT h c2
      refine AW.iload 3 dX12_through_196 rfl ?_
      exact AW.iret1 rfl dX12_through_198 h rfl
    · replace h := hF h c2
      refine AW.iload 3 dX12_through_136 rfl ?_
      refine AW.iconst dX12_through_138 ?_
      refine AW.icmp_eq (tgt := 196) dX12_through_139 (by decide) (fun c3 => ?_) (fun c3 => ?_)
      · replace h := hT h c3
        refine AW.iload 3 dX12_through_196 rfl ?_
        exact AW.iret1 rfl dX12_through_198 h rfl
      · replace h := hF h c3
        refine AW.aloadr_n 0 dX12_through_142 rfl ?_
        refine AW.iload_n 2 dX12_through_143 rfl ?_
        refine AW.iconst dX12_through_144 ?_
        refine AW.iload 3 dX12_through_145 rfl ?_
        refine AW.iload 4 dX12_through_147 rfl ?_
        obtain ⟨r4, e5, h⟩ := hC h
        refine AW.callVi (As := [iv x2, iv 1, iv x5, iv x6]) (st := []) (M_endOf_ok e5) cq_X12_417 cr_117_X12_endOf (Nat.le_trans (by decide) hdd) rfl dX12_through_149 rfl (Nat.le_of_ble_eq_true rfl) ?_
        refine AW.istore (lv1 := [(5, iv r4.1), (0, rv z 117), (1, iv x1), (2, iv x2), (6, iv x6), (7, iv x7)]) dX12_through_152 (by decide) rfl ?_
        refine AW.aloadr_n 1 dX12_through_154 rfl ?_
        refine AW.getI af_X12_421_117 sr_117_47 dX12_through_155 ?_
        obtain ⟨r12, e13, h⟩ := hC h
        refine AW.join (tgt := 190) (lv1 := [(0, rv z 117), (1, iv x1), (2, iv x2), (5, iv r4.1), (6, iv x6), (7, iv x7)]) (st1 := []) (g1 := r12) ?_ (fun J158 => ?_)
        · refine AW.iinc (lv1 := [(7, iv (x7 + 1)), (0, rv z 117), (1, iv x1), (2, iv x2), (5, iv r4.1), (6, iv x6)]) 5 dX12_through_190 rfl (by decide) rfl ?_
          refine AW.goto (tgt := 125) dX12_through_193 (by decide) ?_
          refine AW.sub (lv1 := [(0, rv z 117), (1, iv x1), (2, iv x2), (5, iv r4.1), (6, iv x6), (7, iv (x7 + 1))]) [1, 2, 3, 4, 5, 0] rfl ?_
          exact (ih _ _ _ _ _ _ h).2.2.2 rfl
        replace h := e13
        refine AW.if_eq (tgt := 190) dX12_through_158 (by decide) (fun c6 => ?_) (fun c6 => ?_)
        · replace h := hT h c6
          refine AW.sub (lv1 := [(0, rv z 117), (1, iv x1), (2, iv x2), (5, iv r4.1), (6, iv x6), (7, iv x7)]) [1, 2, 3, 0, 4, 5] rfl ?_
          cases h
          exact J158
        · replace h := hF h c6
          refine AW.iload 0 dX12_through_161 rfl ?_
          refine AW.iconst dX12_through_163 ?_
          refine AW.icmp_eq (tgt := 190) dX12_through_164 (by decide) (fun c7 => ?_) (fun c7 => ?_)
          · replace h := hT h c7
            refine AW.sub (lv1 := [(0, rv z 117), (1, iv x1), (2, iv x2), (5, iv r4.1), (6, iv x6), (7, iv x7)]) [1, 2, 3, 0, 4, 5] rfl ?_
            cases h
            exact J158
          · replace h := hF h c7
            refine AW.aloadr_n 1 dX12_through_167 rfl ?_
            refine AW.duprr dX12_through_168 ?_
            refine AW.getI af_X12_425_117 sr_117_48 dX12_through_169 ?_
            refine AW.aloadr_n 1 dX12_through_172 rfl ?_
            refine AW.iload_n 2 dX12_through_173 rfl ?_
            refine AW.iload 0 dX12_through_174 rfl ?_
            refine AW.iload 4 dX12_through_176 rfl ?_
            refine AW.isub dX12_through_178 ?_
            refine AW.sipush dX12_through_179 (by decide) (by decide) ?_
            refine AW.idiv dX12_through_182 (by decide) ?_
            obtain ⟨r8, e9, h⟩ := hC h
            refine AW.callVi (As := [iv x1, iv ((nw (r4.1 - x6)).tdiv 1440)]) (st := [iv (r4.2 117 48), rv z 117]) (M_harmOf_ok e9) cq_X12_428 cr_117_X12_harmOf (Nat.le_trans (by decide) hdd) rfl dX12_through_183 rfl (Nat.le_of_ble_eq_true rfl) ?_
            refine AW.iadd dX12_through_186 ?_
            obtain ⟨g10, e11, h⟩ := hBe h
            refine AW.putI ap_X12_425_117 sr_117_48 dX12_through_187 e11 ?_
            refine AW.sub (lv1 := [(0, rv z 117), (1, iv x1), (2, iv x2), (5, iv r4.1), (6, iv x6), (7, iv x7)]) [1, 2, 3, 0, 4, 5] rfl ?_
            cases h
            exact J158
theorem M_through_ok {z : AZ} {x1 : Int} {x2 : Int} {x3 : Int} {x4 : Int} {g : AG} {r : Int × AG} (h : M_through x1 x2 x3 x4 g = some r) : AMf z yX12_through cX12_through 8 (some .int) 6 [rv z 117, iv x1, iv x2, iv x3, iv x4] g r := by
  intro d hdd
  refine AM.of (by decide +kernel) (Nat.le_of_ble_eq_true rfl) ?_
  show AW z (RX12, cX12_through, 8, (some .int)) d (QD (some .int) r) 0 [(0, rv z 117), (1, iv x1), (2, iv x2), (3, iv x3), (4, iv x4)] [] g
  unfold M_through at h
  refine AW.iload 4 dX12_through_0 rfl ?_
  refine AW.istore (lv1 := [(5, iv x4), (0, rv z 117), (1, iv x1), (2, iv x2), (3, iv x3), (4, iv x4)]) dX12_through_2 (by decide) rfl ?_
  refine AW.aloadr_n 1 dX12_through_4 rfl ?_
  refine AW.getR af_X12_96_117 sr_117_29 dX12_through_5 ?_
  refine AW.iconst dX12_through_8 ?_
  refine AW.iload_n 3 dX12_through_9 rfl ?_
  refine AW.imul dX12_through_10 ?_
  obtain ⟨k1, h⟩ := hK h
  refine AW.zald kc_144 sk_144 k1 dX12_through_11 ?_
  refine AW.if_ne (tgt := 28) dX12_through_12 (by decide) (fun c2 => ?_) (fun c2 => ?_)
  · replace h := hF h c2
    refine AW.sub (lv1 := [(0, rv z 117), (1, iv x1), (2, iv x2), (3, iv x3), (5, iv x4)]) [1, 2, 3, 4, 0] rfl ?_
    exact (M_through_b_ok hdd _ _ _ _ _ _ h).1 rfl
  · replace h := hT h c2
    refine AW.aloadr_n 1 dX12_through_15 rfl ?_
    refine AW.getR af_X12_96_117 sr_117_29 dX12_through_16 ?_
    refine AW.iconst dX12_through_19 ?_
    refine AW.iload_n 3 dX12_through_20 rfl ?_
    refine AW.imul dX12_through_21 ?_
    refine AW.iconst dX12_through_22 ?_
    refine AW.iadd dX12_through_23 ?_
    obtain ⟨k3, h⟩ := hK h
    refine AW.zald kc_144 sk_144 k3 dX12_through_24 ?_
    refine AW.if_eq (tgt := 67) dX12_through_25 (by decide) (fun c4 => ?_) (fun c4 => ?_)
    · replace h := hT h c4
      refine AW.iconst dX12_through_67 ?_
      refine AW.istore (lv1 := [(6, iv 0), (5, iv x4), (0, rv z 117), (1, iv x1), (2, iv x2), (3, iv x3), (4, iv x4)]) dX12_through_68 (by decide) rfl ?_
      refine AW.sub (lv1 := [(0, rv z 117), (1, iv x1), (2, iv x2), (5, iv x4), (6, iv 0)]) [2, 3, 4, 1, 0] rfl ?_
      exact (M_through_b_ok hdd _ _ _ _ _ _ h).2.1 rfl
    · replace h := hF h c4
      refine AW.sub (lv1 := [(0, rv z 117), (1, iv x1), (2, iv x2), (3, iv x3), (5, iv x4)]) [1, 2, 3, 4, 0] rfl ?_
      exact (M_through_b_ok hdd _ _ _ _ _ _ h).1 rfl
set_option synthInstance.maxHeartbeats 2000000 in
theorem M_led_b_ok {z : AZ} {d : Nat} (hdd : 7 ≤ d) {x1 : Int} {x2 : Int} {x3 : Int} : ∀ (tag : Nat) (x5 : Int) (x6 : Int) (g : AG) (r : Int × AG), M_led_b x1 x2 x3 tag x5 x6 g = some r → (tag = 1 → AW z (RX12, cX12_led, 7, (some .int)) d (QD (some .int) r) 7 [(0, rv z 117), (1, iv x1), (2, iv x2), (3, iv x3), (5, iv x5), (6, iv x6)] [] g) ∧ (tag = 2 → AW z (RX12, cX12_led, 7, (some .int)) d (QD (some .int) r) 37 [(0, rv z 117), (1, iv x1), (2, iv x2), (3, iv x3), (5, iv x5)] [] g) ∧ (tag = 3 → AW z (RX12, cX12_led, 7, (some .int)) d (QD (some .int) r) 40 [(0, rv z 117), (1, iv x1), (3, iv x3), (5, iv x5), (6, iv x6)] [] g) := by
  refine M_led_b.partial_correctness x1 x2 x3 (fun tag x5 x6 g r => (tag = 1 → AW z (RX12, cX12_led, 7, (some .int)) d (QD (some .int) r) 7 [(0, rv z 117), (1, iv x1), (2, iv x2), (3, iv x3), (5, iv x5), (6, iv x6)] [] g) ∧ (tag = 2 → AW z (RX12, cX12_led, 7, (some .int)) d (QD (some .int) r) 37 [(0, rv z 117), (1, iv x1), (2, iv x2), (3, iv x3), (5, iv x5)] [] g) ∧ (tag = 3 → AW z (RX12, cX12_led, 7, (some .int)) d (QD (some .int) r) 40 [(0, rv z 117), (1, iv x1), (3, iv x3), (5, iv x5), (6, iv x6)] [] g)) ?_
  intro fb9 ih tag x5 x6 g r h
  refine ⟨fun h9 => ?_, fun h9 => ?_, fun h9 => ?_⟩
  · subst h9
    replace h := hT h rfl
    refine AW.iload 5 dX12_led_7 rfl ?_
    refine AW.iload_n 3 dX12_led_9 rfl ?_
    refine AW.icmp_ge (tgt := 37) dX12_led_10 (by decide) (fun c1 => ?_) (fun c1 => ?_)
    · replace h := hT h c1
      refine AW.sub (lv1 := [(0, rv z 117), (1, iv x1), (2, iv x2), (3, iv x3), (5, iv x5)]) [0, 1, 2, 3, 4] rfl ?_
      exact (ih _ _ _ _ _ h).2.1 rfl
    · replace h := hF h c1
      refine AW.iload 4 dX12_led_13 rfl ?_
      refine AW.iconst dX12_led_15 ?_
      refine AW.icmp_eq (tgt := 37) dX12_led_16 (by decide) (fun c2 => ?_) (fun c2 => ?_)
      · replace h := hT h c2
        refine AW.sub (lv1 := [(0, rv z 117), (1, iv x1), (2, iv x2), (3, iv x3), (5, iv x5)]) [0, 1, 2, 3, 4] rfl ?_
        exact (ih _ _ _ _ _ h).2.1 rfl
      · replace h := hF h c2
        refine AW.aloadr_n 0 dX12_led_19 rfl ?_
        refine AW.iload_n 1 dX12_led_20 rfl ?_
        refine AW.iload 5 dX12_led_21 rfl ?_
        refine AW.iconst dX12_led_23 ?_
        refine AW.iload 4 dX12_led_24 rfl ?_
        obtain ⟨r3, e4, h⟩ := hC h
        refine AW.callVi (As := [iv x1, iv x6, iv 1, iv x5]) (st := []) (M_through_ok e4) cq_X12_431 cr_117_X12_through (Nat.le_trans (by decide) hdd) rfl dX12_led_26 rfl (Nat.le_of_ble_eq_true rfl) ?_
        refine AW.istore (lv1 := [(5, iv r3.1), (0, rv z 117), (1, iv x1), (2, iv x2), (3, iv x3), (6, iv x6)]) dX12_led_29 (by decide) rfl ?_
        refine AW.iinc (lv1 := [(6, iv (x6 + 1)), (5, iv r3.1), (0, rv z 117), (1, iv x1), (2, iv x2), (3, iv x3)]) 5 dX12_led_31 rfl (by decide) rfl ?_
        refine AW.goto (tgt := 7) dX12_led_34 (by decide) ?_
        refine AW.sub (lv1 := [(0, rv z 117), (1, iv x1), (2, iv x2), (3, iv x3), (5, iv r3.1), (6, iv (x6 + 1))]) [2, 3, 4, 5, 1, 0] rfl ?_
        exact (ih _ _ _ _ _ h).1 rfl
  · subst h9
    replace h := hF h (by decide)
    replace h := hT h rfl
    refine AW.iload_n 2 dX12_led_37 rfl ?_
    refine AW.istore (lv1 := [(6, iv x2), (0, rv z 117), (1, iv x1), (2, iv x2), (3, iv x3), (5, iv x5)]) dX12_led_38 (by decide) rfl ?_
    refine AW.sub (lv1 := [(0, rv z 117), (1, iv x1), (3, iv x3), (5, iv x5), (6, iv x2)]) [1, 2, 4, 5, 0] rfl ?_
    exact (ih _ _ _ _ _ h).2.2 rfl
  · subst h9
    replace h := hF h (by decide)
    replace h := hF h (by decide)
    replace h := hT h rfl
    refine AW.iload 4 dX12_led_40 rfl ?_
    refine AW.iload_n 2 dX12_led_42 rfl ?_
    refine AW.icmp_le (tgt := 72) dX12_led_43 (by decide) (fun c1 => ?_) (fun c1 => ?_)
    · replace h := hT h c1
      refine AW.iload 3 dX12_led_72 rfl ?_
      exact AW.iret1 rfl dX12_led_74 h rfl
    · replace h := hF h c1
      refine AW.iload 3 dX12_led_46 rfl ?_
      refine AW.iconst dX12_led_48 ?_
      refine AW.icmp_eq (tgt := 72) dX12_led_49 (by decide) (fun c2 => ?_) (fun c2 => ?_)
      · replace h := hT h c2
        refine AW.iload 3 dX12_led_72 rfl ?_
        exact AW.iret1 rfl dX12_led_74 h rfl
      · replace h := hF h c2
        refine AW.aloadr_n 0 dX12_led_52 rfl ?_
        refine AW.iload_n 1 dX12_led_53 rfl ?_
        refine AW.iload 4 dX12_led_54 rfl ?_
        refine AW.iconst dX12_led_56 ?_
        refine AW.isub dX12_led_57 ?_
        refine AW.iconst dX12_led_58 ?_
        refine AW.iload 3 dX12_led_59 rfl ?_
        obtain ⟨r3, e4, h⟩ := hC h
        refine AW.callVi (As := [iv x1, iv (x6 - 1), iv 0, iv x5]) (st := []) (M_through_ok e4) cq_X12_431 cr_117_X12_through (Nat.le_trans (by decide) hdd) rfl dX12_led_61 rfl (Nat.le_of_ble_eq_true rfl) ?_
        refine AW.istore (lv1 := [(5, iv r3.1), (0, rv z 117), (1, iv x1), (3, iv x3), (6, iv x6)]) dX12_led_64 (by decide) rfl ?_
        refine AW.iinc (lv1 := [(6, iv (x6 + (-1))), (5, iv r3.1), (0, rv z 117), (1, iv x1), (3, iv x3)]) 4 dX12_led_66 rfl (by decide) rfl ?_
        refine AW.goto (tgt := 40) dX12_led_69 (by decide) ?_
        refine AW.sub (lv1 := [(0, rv z 117), (1, iv x1), (3, iv x3), (5, iv r3.1), (6, iv (x6 + (-1)))]) [2, 3, 4, 1, 0] rfl ?_
        exact (ih _ _ _ _ _ h).2.2 rfl
theorem M_led_ok {z : AZ} {x1 : Int} {x2 : Int} {x3 : Int} {x4 : Int} {g : AG} {r : Int × AG} (h : M_led x1 x2 x3 x4 g = some r) : AMf z yX12_led cX12_led 7 (some .int) 7 [rv z 117, iv x1, iv x2, iv x3, iv x4] g r := by
  intro d hdd
  refine AM.of (by decide +kernel) (Nat.le_of_ble_eq_true rfl) ?_
  show AW z (RX12, cX12_led, 7, (some .int)) d (QD (some .int) r) 0 [(0, rv z 117), (1, iv x1), (2, iv x2), (3, iv x3), (4, iv x4)] [] g
  unfold M_led at h
  refine AW.iload 4 dX12_led_0 rfl ?_
  refine AW.istore (lv1 := [(5, iv x4), (0, rv z 117), (1, iv x1), (2, iv x2), (3, iv x3), (4, iv x4)]) dX12_led_2 (by decide) rfl ?_
  refine AW.iload_n 3 dX12_led_4 rfl ?_
  refine AW.istore (lv1 := [(6, iv x2), (5, iv x4), (0, rv z 117), (1, iv x1), (2, iv x2), (3, iv x3), (4, iv x4)]) dX12_led_5 (by decide) rfl ?_
  refine AW.sub (lv1 := [(0, rv z 117), (1, iv x1), (2, iv x2), (3, iv x3), (5, iv x4), (6, iv x2)]) [2, 3, 4, 5, 1, 0] rfl ?_
  exact (M_led_b_ok hdd _ _ _ _ _ h).1 rfl
theorem M_comes_ok {z : AZ} {x1 : Int} {x2 : Int} {x3 : Int} {x4 : Int} {g : AG} {r : Int × AG} (h : M_comes x1 x2 x3 x4 g = some r) : AMf z yX12_comes cX12_comes 5 (some .int) 8 [rv z 117, iv x1, iv x2, iv x3, iv x4] g r := by
  intro d hdd
  refine AM.of (by decide +kernel) (Nat.le_of_ble_eq_true rfl) ?_
  show AW z (RX12, cX12_comes, 5, (some .int)) d (QD (some .int) r) 0 [(0, rv z 117), (1, iv x1), (2, iv x2), (3, iv x3), (4, iv x4)] [] g
  unfold M_comes at h
  refine AW.aloadr_n 0 dX12_comes_0 rfl ?_
  refine AW.iload_n 1 dX12_comes_1 rfl ?_
  refine AW.callVi (As := [iv x1]) (st := []) M_isBoat_ok cq_X12_435 cr_117_X12_isBoat (Nat.le_trans (by decide) hdd) rfl dX12_comes_2 rfl (Nat.le_of_ble_eq_true rfl) ?_
  obtain ⟨r7, e8, h⟩ := hC h
  refine AW.join (tgt := 43) (lv1 := []) (st1 := [iv r7.1]) (g1 := r7.2) ?_ (fun J5 => ?_)
  · exact AW.iret1 rfl dX12_comes_43 h rfl
  replace h := e8
  refine AW.if_eq (tgt := 42) dX12_comes_5 (by decide) (fun c1 => ?_) (fun c1 => ?_)
  · replace h := hT h c1
    refine AW.iconst dX12_comes_42 ?_
    refine AW.sub (lv1 := []) [] rfl ?_
    cases h
    exact J5
  · replace h := hF h c1
    refine AW.iload_n 2 dX12_comes_8 rfl ?_
    refine AW.callSi (As := [iv x2]) (st := []) M_isPoint_ok cq_X12_238 st_X12_isPoint (Nat.le_trans (by decide) hdd) rfl dX12_comes_9 rfl (Nat.le_of_ble_eq_true rfl) ?_
    refine AW.if_eq (tgt := 42) dX12_comes_12 (by decide) (fun c2 => ?_) (fun c2 => ?_)
    · replace h := hT h c2
      refine AW.iconst dX12_comes_42 ?_
      refine AW.sub (lv1 := []) [] rfl ?_
      cases h
      exact J5
    · replace h := hF h c2
      refine AW.iload_n 3 dX12_comes_15 rfl ?_
      refine AW.callSi (As := [iv x3]) (st := []) M_isPoint_ok cq_X12_238 st_X12_isPoint (Nat.le_trans (by decide) hdd) rfl dX12_comes_16 rfl (Nat.le_of_ble_eq_true rfl) ?_
      refine AW.if_eq (tgt := 42) dX12_comes_19 (by decide) (fun c3 => ?_) (fun c3 => ?_)
      · replace h := hT h c3
        refine AW.iconst dX12_comes_42 ?_
        refine AW.sub (lv1 := []) [] rfl ?_
        cases h
        exact J5
      · replace h := hF h c3
        refine AW.iload 4 dX12_comes_22 rfl ?_
        refine AW.callSi (As := [iv x4]) (st := []) M_isTime_ok cq_X12_438 st_X12_isTime (Nat.le_trans (by decide) hdd) rfl dX12_comes_24 rfl (Nat.le_of_ble_eq_true rfl) ?_
        refine AW.if_eq (tgt := 42) dX12_comes_27 (by decide) (fun c4 => ?_) (fun c4 => ?_)
        · replace h := hT h c4
          refine AW.iconst dX12_comes_42 ?_
          refine AW.sub (lv1 := []) [] rfl ?_
          cases h
          exact J5
        · replace h := hF h c4
          refine AW.aloadr_n 0 dX12_comes_30 rfl ?_
          refine AW.iload_n 1 dX12_comes_31 rfl ?_
          refine AW.iload_n 2 dX12_comes_32 rfl ?_
          refine AW.iload_n 3 dX12_comes_33 rfl ?_
          refine AW.iload 4 dX12_comes_34 rfl ?_
          obtain ⟨r5, e6, h⟩ := hC h
          refine AW.callVi (As := [iv x1, iv x2, iv x3, iv x4]) (st := []) (M_led_ok e6) cq_X12_441 cr_117_X12_led (Nat.le_trans (by decide) hdd) rfl dX12_comes_36 rfl (Nat.le_of_ble_eq_true rfl) ?_
          refine AW.goto (tgt := 43) dX12_comes_39 (by decide) ?_
          refine AW.sub (lv1 := []) [] rfl ?_
          cases h
          exact J5
theorem M_harm_ok {z : AZ} {x1 : Int} {x2 : Int} {x3 : Int} {x4 : Int} {g : AG} {r : Int × AG} (h : M_harm x1 x2 x3 x4 g = some r) : AMf z yX12_harm cX12_harm 6 (some .int) 8 [rv z 117, iv x1, iv x2, iv x3, iv x4] g r := by
  intro d hdd
  refine AM.of (by decide +kernel) (Nat.le_of_ble_eq_true rfl) ?_
  show AW z (RX12, cX12_harm, 6, (some .int)) d (QD (some .int) r) 0 [(0, rv z 117), (1, iv x1), (2, iv x2), (3, iv x3), (4, iv x4)] [] g
  unfold M_harm at h
  refine AW.aloadr_n 0 dX12_harm_0 rfl ?_
  refine AW.iload_n 1 dX12_harm_1 rfl ?_
  refine AW.callVi (As := [iv x1]) (st := []) M_isBoat_ok cq_X12_435 cr_117_X12_isBoat (Nat.le_trans (by decide) hdd) rfl dX12_harm_2 rfl (Nat.le_of_ble_eq_true rfl) ?_
  refine AW.if_eq (tgt := 30) dX12_harm_5 (by decide) (fun c1 => ?_) (fun c1 => ?_)
  · replace h := hT h c1
    refine AW.iconst dX12_harm_30 ?_
    exact AW.iret1 rfl dX12_harm_31 h rfl
  · replace h := hF h c1
    refine AW.iload_n 2 dX12_harm_8 rfl ?_
    refine AW.callSi (As := [iv x2]) (st := []) M_isPoint_ok cq_X12_238 st_X12_isPoint (Nat.le_trans (by decide) hdd) rfl dX12_harm_9 rfl (Nat.le_of_ble_eq_true rfl) ?_
    refine AW.if_eq (tgt := 30) dX12_harm_12 (by decide) (fun c2 => ?_) (fun c2 => ?_)
    · replace h := hT h c2
      refine AW.iconst dX12_harm_30 ?_
      exact AW.iret1 rfl dX12_harm_31 h rfl
    · replace h := hF h c2
      refine AW.iload_n 3 dX12_harm_15 rfl ?_
      refine AW.callSi (As := [iv x3]) (st := []) M_isPoint_ok cq_X12_238 st_X12_isPoint (Nat.le_trans (by decide) hdd) rfl dX12_harm_16 rfl (Nat.le_of_ble_eq_true rfl) ?_
      refine AW.if_eq (tgt := 30) dX12_harm_19 (by decide) (fun c3 => ?_) (fun c3 => ?_)
      · replace h := hT h c3
        refine AW.iconst dX12_harm_30 ?_
        exact AW.iret1 rfl dX12_harm_31 h rfl
      · replace h := hF h c3
        refine AW.iload 4 dX12_harm_22 rfl ?_
        refine AW.callSi (As := [iv x4]) (st := []) M_isTime_ok cq_X12_438 st_X12_isTime (Nat.le_trans (by decide) hdd) rfl dX12_harm_24 rfl (Nat.le_of_ble_eq_true rfl) ?_
        refine AW.if_ne (tgt := 32) dX12_harm_27 (by decide) (fun c4 => ?_) (fun c4 => ?_)
        · replace h := hF h c4
          refine AW.aloadr_n 0 dX12_harm_32 rfl ?_
          refine AW.iconst dX12_harm_33 ?_
          obtain ⟨g5, e6, h⟩ := hBe h
          refine AW.putZ ap_X12_421_117 sr_117_47 (Or.inr rfl) dX12_harm_34 e6 ?_
          refine AW.aloadr_n 0 dX12_harm_37 rfl ?_
          refine AW.iconst dX12_harm_38 ?_
          obtain ⟨g7, e8, h⟩ := hBe h
          refine AW.putI ap_X12_425_117 sr_117_48 dX12_harm_39 e8 ?_
          refine AW.aloadr_n 0 dX12_harm_42 rfl ?_
          refine AW.iload_n 1 dX12_harm_43 rfl ?_
          refine AW.iload_n 2 dX12_harm_44 rfl ?_
          refine AW.iload_n 3 dX12_harm_45 rfl ?_
          refine AW.iload 4 dX12_harm_46 rfl ?_
          obtain ⟨r9, e10, h⟩ := hC h
          refine AW.callVi (As := [iv x1, iv x2, iv x3, iv x4]) (st := []) (M_led_ok e10) cq_X12_441 cr_117_X12_led (Nat.le_trans (by decide) hdd) rfl dX12_harm_48 rfl (Nat.le_of_ble_eq_true rfl) ?_
          refine AW.istore (lv1 := [(5, iv r9.1), (0, rv z 117), (1, iv x1), (2, iv x2), (3, iv x3), (4, iv x4)]) dX12_harm_51 (by decide) rfl ?_
          refine AW.aloadr_n 1 dX12_harm_53 rfl ?_
          refine AW.iconst dX12_harm_54 ?_
          obtain ⟨g11, e12, h⟩ := hBe h
          refine AW.putZ ap_X12_421_117 sr_117_47 (Or.inl rfl) dX12_harm_55 e12 ?_
          refine AW.iload 0 dX12_harm_58 rfl ?_
          refine AW.iconst dX12_harm_60 ?_
          obtain ⟨t13, e14, h⟩ := hBe h
          refine AW.join (tgt := 72) (lv1 := [(5, iv r9.1), (0, rv z 117), (1, iv x1), (2, iv x2), (3, iv x3), (4, iv x4)]) (st1 := [iv t13]) (g1 := g11) ?_ (fun J61 => ?_)
          · exact AW.iret1 rfl dX12_harm_72 h rfl
          refine AW.icmp_ne (tgt := 68) dX12_harm_61 (by decide) (fun c15 => ?_) (fun c15 => ?_)
          · refine AW.aloadr_n 1 dX12_harm_68 rfl ?_
            refine AW.getI af_X12_425_117 sr_117_48 dX12_harm_69 ?_
            exact AW.val (e14.trans (if_neg c15)) J61
          · refine AW.iconst dX12_harm_64 ?_
            refine AW.goto (tgt := 72) dX12_harm_65 (by decide) ?_
            exact AW.val (e14.trans (if_pos c15)) J61
        · replace h := hT h c4
          refine AW.iconst dX12_harm_30 ?_
          exact AW.iret1 rfl dX12_harm_31 h rfl
set_option synthInstance.maxHeartbeats 2000000 in
theorem M_enough_b_ok {z : AZ} {d : Nat} (hdd : 8 ≤ d) {x1 : Int} {x2 : Int} {x3 : Int} {x4 : Int} {x5 : Int} {x6 : Int} : ∀ (tag : Nat) (x7 : Int) (x8 : Int) (g : AG) (r : Int × AG), M_enough_b x1 x2 x3 x4 x5 x6 tag x7 x8 g = some r → (tag = 1 → AW z (RX12, cX12_enough, 10, (some .int)) d (QD (some .int) r) 54 [(0, rv z 117), (1, iv x1), (2, iv x2), (3, iv x3), (4, iv x4), (5, iv x5), (6, iv x6), (7, iv x7), (8, iv x8)] [] g) ∧ (tag = 2 → AW z (RX12, cX12_enough, 10, (some .int)) d (QD (some .int) r) 127 [(0, rv z 117), (1, iv x1), (6, iv x6), (7, iv x7)] [] g) := by
  refine M_enough_b.partial_correctness x1 x2 x3 x4 x5 x6 (fun tag x7 x8 g r => (tag = 1 → AW z (RX12, cX12_enough, 10, (some .int)) d (QD (some .int) r) 54 [(0, rv z 117), (1, iv x1), (2, iv x2), (3, iv x3), (4, iv x4), (5, iv x5), (6, iv x6), (7, iv x7), (8, iv x8)] [] g) ∧ (tag = 2 → AW z (RX12, cX12_enough, 10, (some .int)) d (QD (some .int) r) 127 [(0, rv z 117), (1, iv x1), (6, iv x6), (7, iv x7)] [] g)) ?_
  intro fb9 ih tag x7 x8 g r h
  refine ⟨fun h9 => ?_, fun h9 => ?_⟩
  · subst h9
    replace h := hT h rfl
    refine AW.iload 8 dX12_enough_54 rfl ?_
    refine AW.bipush dX12_enough_56 (by decide) (by decide) ?_
    refine AW.icmp_gt (tgt := 127) dX12_enough_58 (by decide) (fun c1 => ?_) (fun c1 => ?_)
    · replace h := hT h c1
      refine AW.sub (lv1 := [(0, rv z 117), (1, iv x1), (6, iv x6), (7, iv x7)]) [0, 1, 6, 7] rfl ?_
      exact (ih _ _ _ _ _ h).2 rfl
    · replace h := hF h c1
      refine AW.iload 4 dX12_enough_61 rfl ?_
      refine AW.iload 8 dX12_enough_63 rfl ?_
      refine AW.iadd dX12_enough_65 ?_
      refine AW.sipush dX12_enough_66 (by decide) (by decide) ?_
      refine AW.icmp_gt (tgt := 127) dX12_enough_69 (by decide) (fun c2 => ?_) (fun c2 => ?_)
      · replace h := hT h c2
        refine AW.sub (lv1 := [(0, rv z 117), (1, iv x1), (6, iv x6), (7, iv x7)]) [0, 1, 6, 7] rfl ?_
        exact (ih _ _ _ _ _ h).2 rfl
      · replace h := hF h c2
        refine AW.iload 7 dX12_enough_72 rfl ?_
        refine AW.iconst dX12_enough_74 ?_
        refine AW.icmp_ne (tgt := 127) dX12_enough_75 (by decide) (fun c3 => ?_) (fun c3 => ?_)
        · replace h := hF h c3
          refine AW.sub (lv1 := [(0, rv z 117), (1, iv x1), (6, iv x6), (7, iv x7)]) [0, 1, 6, 7] rfl ?_
          exact (ih _ _ _ _ _ h).2 rfl
        · replace h := hT h c3
          refine AW.aloadr_n 0 dX12_enough_78 rfl ?_
          refine AW.getR af_X12_41_117 sr_117_9 dX12_enough_79 ?_
          refine AW.iload_n 1 dX12_enough_82 rfl ?_
          refine AW.iload 8 dX12_enough_83 rfl ?_
          obtain ⟨k4, h⟩ := hK h
          obtain ⟨g5, e6, h⟩ := hBe h
          refine AW.iast kc_127 sk_127 k4 dX12_enough_85 e6 ?_
          refine AW.aloadr_n 0 dX12_enough_86 rfl ?_
          refine AW.iload_n 1 dX12_enough_87 rfl ?_
          refine AW.iload_n 2 dX12_enough_88 rfl ?_
          refine AW.iload_n 3 dX12_enough_89 rfl ?_
          refine AW.iload 4 dX12_enough_90 rfl ?_
          refine AW.iload 8 dX12_enough_92 rfl ?_
          refine AW.iadd dX12_enough_94 ?_
          obtain ⟨r7, e8, h⟩ := hC h
          refine AW.callVi (As := [iv x1, iv x2, iv x3, iv (x4 + x8)]) (st := []) (M_led_ok e8) cq_X12_441 cr_117_X12_led (Nat.le_trans (by decide) hdd) rfl dX12_enough_95 rfl (Nat.le_of_ble_eq_true rfl) ?_
          refine AW.istore (lv1 := [(9, iv r7.1), (0, rv z 117), (1, iv x1), (2, iv x2), (3, iv x3), (4, iv x4), (5, iv x5), (6, iv x6), (7, iv x7), (8, iv x8)]) dX12_enough_98 (by decide) rfl ?_
          refine AW.iload 0 dX12_enough_100 rfl ?_
          refine AW.iconst dX12_enough_102 ?_
          obtain ⟨t9, e10, h⟩ := hBe h
          refine AW.join (tgt := 119) (lv1 := [(9, iv r7.1), (0, rv z 117), (1, iv x1), (2, iv x2), (3, iv x3), (4, iv x4), (5, iv x5), (6, iv x6), (7, iv x7), (8, iv x8)]) (st1 := [iv t9]) (g1 := r7.2) ?_ (fun J103 => ?_)
          · refine AW.istore (lv1 := [(7, iv t9), (9, iv r7.1), (0, rv z 117), (1, iv x1), (2, iv x2), (3, iv x3), (4, iv x4), (5, iv x5), (6, iv x6), (8, iv x8)]) dX12_enough_119 (by decide) rfl ?_
            refine AW.iinc (lv1 := [(8, iv (x8 + 1)), (7, iv t9), (9, iv r7.1), (0, rv z 117), (1, iv x1), (2, iv x2), (3, iv x3), (4, iv x4), (5, iv x5), (6, iv x6)]) 9 dX12_enough_121 rfl (by decide) rfl ?_
            refine AW.goto (tgt := 54) dX12_enough_124 (by decide) ?_
            refine AW.sub (lv1 := [(0, rv z 117), (1, iv x1), (2, iv x2), (3, iv x3), (4, iv x4), (5, iv x5), (6, iv x6), (7, iv t9), (8, iv (x8 + 1))]) [3, 4, 5, 6, 7, 8, 9, 1, 0] rfl ?_
            exact (ih _ _ _ _ _ h).1 rfl
          refine AW.icmp_eq (tgt := 118) dX12_enough_103 (by decide) (fun c11 => ?_) (fun c11 => ?_)
          · refine AW.iconst dX12_enough_118 ?_
            exact AW.val (e10.trans (if_pos c11)) J103
          · refine AW.iload 0 dX12_enough_106 rfl ?_
            refine AW.iload 6 dX12_enough_108 rfl ?_
            refine AW.icmp_gt (tgt := 118) dX12_enough_110 (by decide) (fun c12 => ?_) (fun c12 => ?_)
            · refine AW.iconst dX12_enough_118 ?_
              exact AW.val (e10.trans ((if_neg c11).trans (if_pos c12))) J103
            · refine AW.iload 9 dX12_enough_113 rfl ?_
              refine AW.goto (tgt := 119) dX12_enough_115 (by decide) ?_
              exact AW.val (e10.trans ((if_neg c11).trans (if_neg c12))) J103
  · subst h9
    replace h := hF h (by decide)
    replace h := hT h rfl
    refine AW.aloadr_n 0 dX12_enough_127 rfl ?_
    refine AW.getR af_X12_41_117 sr_117_9 dX12_enough_128 ?_
    refine AW.iload_n 1 dX12_enough_131 rfl ?_
    refine AW.iload 2 dX12_enough_132 rfl ?_
    obtain ⟨k1, h⟩ := hK h
    obtain ⟨g2, e3, h⟩ := hBe h
    refine AW.iast kc_127 sk_127 k1 dX12_enough_134 e3 ?_
    refine AW.iload 3 dX12_enough_135 rfl ?_
    exact AW.iret1 rfl dX12_enough_137 h rfl
theorem M_enough_ok {z : AZ} {x1 : Int} {x2 : Int} {x3 : Int} {x4 : Int} {x5 : Int} {g : AG} {r : Int × AG} (h : M_enough x1 x2 x3 x4 x5 g = some r) : AMf z yX12_enough cX12_enough 10 (some .int) 8 [rv z 117, iv x1, iv x2, iv x3, iv x4, iv x5] g r := by
  intro d hdd
  refine AM.of (by decide +kernel) (Nat.le_of_ble_eq_true rfl) ?_
  show AW z (RX12, cX12_enough, 10, (some .int)) d (QD (some .int) r) 0 [(0, rv z 117), (1, iv x1), (2, iv x2), (3, iv x3), (4, iv x4), (5, iv x5)] [] g
  unfold M_enough at h
  refine AW.aloadr_n 0 dX12_enough_0 rfl ?_
  refine AW.iload_n 1 dX12_enough_1 rfl ?_
  refine AW.callVi (As := [iv x1]) (st := []) M_isBoat_ok cq_X12_435 cr_117_X12_isBoat (Nat.le_trans (by decide) hdd) rfl dX12_enough_2 rfl (Nat.le_of_ble_eq_true rfl) ?_
  refine AW.if_eq (tgt := 38) dX12_enough_5 (by decide) (fun c1 => ?_) (fun c1 => ?_)
  · replace h := hT h c1
    refine AW.iconst dX12_enough_38 ?_
    exact AW.iret1 rfl dX12_enough_39 h rfl
  · replace h := hF h c1
    refine AW.iload_n 2 dX12_enough_8 rfl ?_
    refine AW.callSi (As := [iv x2]) (st := []) M_isPoint_ok cq_X12_238 st_X12_isPoint (Nat.le_trans (by decide) hdd) rfl dX12_enough_9 rfl (Nat.le_of_ble_eq_true rfl) ?_
    refine AW.if_eq (tgt := 38) dX12_enough_12 (by decide) (fun c2 => ?_) (fun c2 => ?_)
    · replace h := hT h c2
      refine AW.iconst dX12_enough_38 ?_
      exact AW.iret1 rfl dX12_enough_39 h rfl
    · replace h := hF h c2
      refine AW.iload_n 3 dX12_enough_15 rfl ?_
      refine AW.callSi (As := [iv x3]) (st := []) M_isPoint_ok cq_X12_238 st_X12_isPoint (Nat.le_trans (by decide) hdd) rfl dX12_enough_16 rfl (Nat.le_of_ble_eq_true rfl) ?_
      refine AW.if_eq (tgt := 38) dX12_enough_19 (by decide) (fun c3 => ?_) (fun c3 => ?_)
      · replace h := hT h c3
        refine AW.iconst dX12_enough_38 ?_
        exact AW.iret1 rfl dX12_enough_39 h rfl
      · replace h := hF h c3
        refine AW.iload 4 dX12_enough_22 rfl ?_
        refine AW.callSi (As := [iv x4]) (st := []) M_isTime_ok cq_X12_438 st_X12_isTime (Nat.le_trans (by decide) hdd) rfl dX12_enough_24 rfl (Nat.le_of_ble_eq_true rfl) ?_
        refine AW.if_eq (tgt := 38) dX12_enough_27 (by decide) (fun c4 => ?_) (fun c4 => ?_)
        · replace h := hT h c4
          refine AW.iconst dX12_enough_38 ?_
          exact AW.iret1 rfl dX12_enough_39 h rfl
        · replace h := hF h c4
          refine AW.iload 5 dX12_enough_30 rfl ?_
          refine AW.callSi (As := [iv x5]) (st := []) M_isTime_ok cq_X12_438 st_X12_isTime (Nat.le_trans (by decide) hdd) rfl dX12_enough_32 rfl (Nat.le_of_ble_eq_true rfl) ?_
          refine AW.if_ne (tgt := 40) dX12_enough_35 (by decide) (fun c5 => ?_) (fun c5 => ?_)
          · replace h := hF h c5
            refine AW.aloadr_n 0 dX12_enough_40 rfl ?_
            refine AW.getR af_X12_41_117 sr_117_9 dX12_enough_41 ?_
            refine AW.iload_n 1 dX12_enough_44 rfl ?_
            obtain ⟨k6, h⟩ := hK h
            refine AW.iald kc_127 sk_127 k6 dX12_enough_45 ?_
            refine AW.istore (lv1 := [(6, iv (g 127 (ix x1))), (0, rv z 117), (1, iv x1), (2, iv x2), (3, iv x3), (4, iv x4), (5, iv x5)]) dX12_enough_46 (by decide) rfl ?_
            refine AW.iconst dX12_enough_48 ?_
            refine AW.istore (lv1 := [(7, iv (-1)), (6, iv (g 127 (ix x1))), (0, rv z 117), (1, iv x1), (2, iv x2), (3, iv x3), (4, iv x4), (5, iv x5)]) dX12_enough_49 (by decide) rfl ?_
            refine AW.iconst dX12_enough_51 ?_
            refine AW.istore (lv1 := [(8, iv 0), (7, iv (-1)), (6, iv (g 127 (ix x1))), (0, rv z 117), (1, iv x1), (2, iv x2), (3, iv x3), (4, iv x4), (5, iv x5)]) dX12_enough_52 (by decide) rfl ?_
            refine AW.sub (lv1 := [(0, rv z 117), (1, iv x1), (2, iv x2), (3, iv x3), (4, iv x4), (5, iv x5), (6, iv (g 127 (ix x1))), (7, iv (-1)), (8, iv 0)]) [3, 4, 5, 6, 7, 8, 2, 1, 0] rfl ?_
            exact (M_enough_b_ok hdd _ _ _ _ _ h).1 rfl
          · replace h := hT h c5
            refine AW.iconst dX12_enough_38 ?_
            exact AW.iret1 rfl dX12_enough_39 h rfl
set_option synthInstance.maxHeartbeats 2000000 in
theorem M_maybe_b_ok {z : AZ} {d : Nat} (hdd : 8 ≤ d) {x1 : Int} {x2 : Int} {x3 : Int} {x4 : Int} : ∀ (x5 : Int) (x6 : Int) (g : AG) (r : Int × AG), M_maybe_b x1 x2 x3 x4 x5 x6 g = some r → AW z (RX12, cX12_maybe, 8, (some .int)) d (QD (some .int) r) 42 [(0, rv z 117), (1, iv x1), (2, iv x2), (3, iv x3), (4, iv x4), (5, iv x5), (6, iv x6)] [] g := by
  refine M_maybe_b.partial_correctness x1 x2 x3 x4 (fun x5 x6 g r => AW z (RX12, cX12_maybe, 8, (some .int)) d (QD (some .int) r) 42 [(0, rv z 117), (1, iv x1), (2, iv x2), (3, iv x3), (4, iv x4), (5, iv x5), (6, iv x6)] [] g) ?_
  intro fb9 ih x5 x6 g r h
  refine AW.iload 6 dX12_maybe_42 rfl ?_
  refine AW.bipush dX12_maybe_44 (by decide) (by decide) ?_
  refine AW.icmp_ge (tgt := 92) dX12_maybe_46 (by decide) (fun c1 => ?_) (fun c1 => ?_)
  · replace h := hT h c1
    refine AW.iload 5 dX12_maybe_92 rfl ?_
    exact AW.iret1 rfl dX12_maybe_94 h rfl
  · replace h := hF h c1
    refine AW.aloadr_n 0 dX12_maybe_49 rfl ?_
    refine AW.iload_n 1 dX12_maybe_50 rfl ?_
    refine AW.iload_n 2 dX12_maybe_51 rfl ?_
    refine AW.iload 6 dX12_maybe_52 rfl ?_
    refine AW.iload_n 3 dX12_maybe_54 rfl ?_
    obtain ⟨r2, e3, h⟩ := hC h
    refine AW.callVi (As := [iv x1, iv x2, iv x6, iv x3]) (st := []) (M_led_ok e3) cq_X12_441 cr_117_X12_led (Nat.le_trans (by decide) hdd) rfl dX12_maybe_55 rfl (Nat.le_of_ble_eq_true rfl) ?_
    refine AW.istore (lv1 := [(7, iv r2.1), (0, rv z 117), (1, iv x1), (2, iv x2), (3, iv x3), (4, iv x4), (5, iv x5), (6, iv x6)]) dX12_maybe_58 (by decide) rfl ?_
    refine AW.iload 6 dX12_maybe_60 rfl ?_
    refine AW.iload 0 dX12_maybe_62 rfl ?_
    refine AW.iconst dX12_maybe_64 ?_
    obtain ⟨t4, e5, h⟩ := hBe h
    refine AW.join (tgt := 83) (lv1 := [(7, iv r2.1), (0, rv z 117), (1, iv x1), (2, iv x2), (3, iv x3), (4, iv x4), (5, iv x5), (6, iv x6)]) (st1 := [iv t4, iv x5]) (g1 := r2.2) ?_ (fun J65 => ?_)
    · refine AW.ior dX12_maybe_83 ?_
      refine AW.istore (lv1 := [(5, iv (orI x5 t4)), (7, iv r2.1), (0, rv z 117), (1, iv x1), (2, iv x2), (3, iv x3), (4, iv x4), (6, iv x6)]) dX12_maybe_84 (by decide) rfl ?_
      refine AW.iinc (lv1 := [(6, iv (x6 + 1)), (5, iv (orI x5 t4)), (7, iv r2.1), (0, rv z 117), (1, iv x1), (2, iv x2), (3, iv x3), (4, iv x4)]) 7 dX12_maybe_86 rfl (by decide) rfl ?_
      refine AW.goto (tgt := 42) dX12_maybe_89 (by decide) ?_
      refine AW.sub (lv1 := [(0, rv z 117), (1, iv x1), (2, iv x2), (3, iv x3), (4, iv x4), (5, iv (orI x5 t4)), (6, iv (x6 + 1))]) [3, 4, 5, 6, 7, 1, 0] rfl ?_
      exact ih _ _ _ _ h
    refine AW.icmp_eq (tgt := 82) dX12_maybe_65 (by decide) (fun c6 => ?_) (fun c6 => ?_)
    · refine AW.iconst dX12_maybe_82 ?_
      exact AW.val (e5.trans (if_pos c6)) J65
    · refine AW.iload 0 dX12_maybe_68 rfl ?_
      refine AW.iload 5 dX12_maybe_70 rfl ?_
      refine AW.icmp_gt (tgt := 82) dX12_maybe_72 (by decide) (fun c7 => ?_) (fun c7 => ?_)
      · refine AW.iconst dX12_maybe_82 ?_
        exact AW.val (e5.trans ((if_neg c6).trans (if_pos c7))) J65
      · refine AW.iconst dX12_maybe_75 ?_
        refine AW.iload 7 dX12_maybe_76 rfl ?_
        refine AW.ishl dX12_maybe_78 ?_
        refine AW.goto (tgt := 83) dX12_maybe_79 (by decide) ?_
        exact AW.val (e5.trans ((if_neg c6).trans (if_neg c7))) J65
theorem M_maybe_ok {z : AZ} {x1 : Int} {x2 : Int} {x3 : Int} {x4 : Int} {g : AG} {r : Int × AG} (h : M_maybe x1 x2 x3 x4 g = some r) : AMf z yX12_maybe cX12_maybe 8 (some .int) 8 [rv z 117, iv x1, iv x2, iv x3, iv x4] g r := by
  intro d hdd
  refine AM.of (by decide +kernel) (Nat.le_of_ble_eq_true rfl) ?_
  show AW z (RX12, cX12_maybe, 8, (some .int)) d (QD (some .int) r) 0 [(0, rv z 117), (1, iv x1), (2, iv x2), (3, iv x3), (4, iv x4)] [] g
  unfold M_maybe at h
  refine AW.aloadr_n 0 dX12_maybe_0 rfl ?_
  refine AW.iload_n 1 dX12_maybe_1 rfl ?_
  refine AW.callVi (As := [iv x1]) (st := []) M_isBoat_ok cq_X12_435 cr_117_X12_isBoat (Nat.le_trans (by decide) hdd) rfl dX12_maybe_2 rfl (Nat.le_of_ble_eq_true rfl) ?_
  refine AW.if_eq (tgt := 34) dX12_maybe_5 (by decide) (fun c1 => ?_) (fun c1 => ?_)
  · replace h := hT h c1
    refine AW.iconst dX12_maybe_34 ?_
    exact AW.iret1 rfl dX12_maybe_35 h rfl
  · replace h := hF h c1
    refine AW.iload_n 2 dX12_maybe_8 rfl ?_
    refine AW.callSi (As := [iv x2]) (st := []) M_isPoint_ok cq_X12_238 st_X12_isPoint (Nat.le_trans (by decide) hdd) rfl dX12_maybe_9 rfl (Nat.le_of_ble_eq_true rfl) ?_
    refine AW.if_eq (tgt := 34) dX12_maybe_12 (by decide) (fun c2 => ?_) (fun c2 => ?_)
    · replace h := hT h c2
      refine AW.iconst dX12_maybe_34 ?_
      exact AW.iret1 rfl dX12_maybe_35 h rfl
    · replace h := hF h c2
      refine AW.iload_n 3 dX12_maybe_15 rfl ?_
      refine AW.callSi (As := [iv x3]) (st := []) M_isTime_ok cq_X12_438 st_X12_isTime (Nat.le_trans (by decide) hdd) rfl dX12_maybe_16 rfl (Nat.le_of_ble_eq_true rfl) ?_
      refine AW.if_eq (tgt := 34) dX12_maybe_19 (by decide) (fun c3 => ?_) (fun c3 => ?_)
      · replace h := hT h c3
        refine AW.iconst dX12_maybe_34 ?_
        exact AW.iret1 rfl dX12_maybe_35 h rfl
      · replace h := hF h c3
        refine AW.iload 4 dX12_maybe_22 rfl ?_
        refine AW.iload_n 3 dX12_maybe_24 rfl ?_
        refine AW.sipush dX12_maybe_25 (by decide) (by decide) ?_
        refine AW.callSi (As := [iv x4, iv x3, iv 20159]) (st := []) M_isIn_ok cq_X12_3 st_X12_isIn (Nat.le_trans (by decide) hdd) rfl dX12_maybe_28 rfl (Nat.le_of_ble_eq_true rfl) ?_
        refine AW.if_ne (tgt := 36) dX12_maybe_31 (by decide) (fun c4 => ?_) (fun c4 => ?_)
        · replace h := hF h c4
          refine AW.iconst dX12_maybe_36 ?_
          refine AW.istore (lv1 := [(5, iv 0), (0, rv z 117), (1, iv x1), (2, iv x2), (3, iv x3), (4, iv x4)]) dX12_maybe_37 (by decide) rfl ?_
          refine AW.iconst dX12_maybe_39 ?_
          refine AW.istore (lv1 := [(6, iv 0), (5, iv 0), (0, rv z 117), (1, iv x1), (2, iv x2), (3, iv x3), (4, iv x4)]) dX12_maybe_40 (by decide) rfl ?_
          refine AW.sub (lv1 := [(0, rv z 117), (1, iv x1), (2, iv x2), (3, iv x3), (4, iv x4), (5, iv 0), (6, iv 0)]) [2, 3, 4, 5, 6, 1, 0] rfl ?_
          exact M_maybe_b_ok hdd _ _ _ _ h
        · replace h := hT h c4
          refine AW.iconst dX12_maybe_34 ?_
          exact AW.iret1 rfl dX12_maybe_35 h rfl
theorem M_trip_ok {z : AZ} {x1 : Int} {x2 : Int} {x3 : Int} {x4 : Int} {x5 : Int} {g : AG} {r : Int × AG} (h : M_trip x1 x2 x3 x4 x5 g = some r) : AMf z yX12_trip cX12_trip 6 (some .int) 2 [rv z 117, iv x1, iv x2, iv x3, iv x4, iv x5] g r := by
  intro d hdd
  refine AM.of (by decide +kernel) (Nat.le_of_ble_eq_true rfl) ?_
  show AW z (RX12, cX12_trip, 6, (some .int)) d (QD (some .int) r) 0 [(0, rv z 117), (1, iv x1), (2, iv x2), (3, iv x3), (4, iv x4), (5, iv x5)] [] g
  unfold M_trip at h
  refine AW.aloadr_n 0 dX12_trip_0 rfl ?_
  refine AW.iload_n 1 dX12_trip_1 rfl ?_
  refine AW.callVi (As := [iv x1]) (st := []) M_isBoat_ok cq_X12_435 cr_117_X12_isBoat (Nat.le_trans (by decide) hdd) rfl dX12_trip_2 rfl (Nat.le_of_ble_eq_true rfl) ?_
  refine AW.if_eq (tgt := 47) dX12_trip_5 (by decide) (fun c1 => ?_) (fun c1 => ?_)
  · replace h := hT h c1
    refine AW.iconst dX12_trip_47 ?_
    exact AW.iret1 rfl dX12_trip_48 h rfl
  · replace h := hF h c1
    refine AW.iload_n 2 dX12_trip_8 rfl ?_
    refine AW.callSi (As := [iv x2]) (st := []) M_isPoint_ok cq_X12_238 st_X12_isPoint (Nat.le_trans (by decide) hdd) rfl dX12_trip_9 rfl (Nat.le_of_ble_eq_true rfl) ?_
    refine AW.if_eq (tgt := 47) dX12_trip_12 (by decide) (fun c2 => ?_) (fun c2 => ?_)
    · replace h := hT h c2
      refine AW.iconst dX12_trip_47 ?_
      exact AW.iret1 rfl dX12_trip_48 h rfl
    · replace h := hF h c2
      refine AW.iload_n 3 dX12_trip_15 rfl ?_
      refine AW.callSi (As := [iv x3]) (st := []) M_isPoint_ok cq_X12_238 st_X12_isPoint (Nat.le_trans (by decide) hdd) rfl dX12_trip_16 rfl (Nat.le_of_ble_eq_true rfl) ?_
      refine AW.if_eq (tgt := 47) dX12_trip_19 (by decide) (fun c3 => ?_) (fun c3 => ?_)
      · replace h := hT h c3
        refine AW.iconst dX12_trip_47 ?_
        exact AW.iret1 rfl dX12_trip_48 h rfl
      · replace h := hF h c3
        refine AW.iload 4 dX12_trip_22 rfl ?_
        refine AW.callSi (As := [iv x4]) (st := []) M_isTime_ok cq_X12_438 st_X12_isTime (Nat.le_trans (by decide) hdd) rfl dX12_trip_24 rfl (Nat.le_of_ble_eq_true rfl) ?_
        refine AW.if_eq (tgt := 47) dX12_trip_27 (by decide) (fun c4 => ?_) (fun c4 => ?_)
        · replace h := hT h c4
          refine AW.iconst dX12_trip_47 ?_
          exact AW.iret1 rfl dX12_trip_48 h rfl
        · replace h := hF h c4
          refine AW.iload 5 dX12_trip_30 rfl ?_
          refine AW.callSi (As := [iv x5]) (st := []) M_isTime_ok cq_X12_438 st_X12_isTime (Nat.le_trans (by decide) hdd) rfl dX12_trip_32 rfl (Nat.le_of_ble_eq_true rfl) ?_
          refine AW.if_eq (tgt := 47) dX12_trip_35 (by decide) (fun c5 => ?_) (fun c5 => ?_)
          · replace h := hT h c5
            refine AW.iconst dX12_trip_47 ?_
            exact AW.iret1 rfl dX12_trip_48 h rfl
          · replace h := hF h c5
            refine AW.aloadr_n 0 dX12_trip_38 rfl ?_
            refine AW.getI af_X12_444_117 sr_117_49 dX12_trip_39 ?_
            refine AW.bipush dX12_trip_42 (by decide) (by decide) ?_
            refine AW.icmp_ne (tgt := 49) dX12_trip_44 (by decide) (fun c6 => ?_) (fun c6 => ?_)
            · replace h := hF h c6
              refine AW.aloadr_n 0 dX12_trip_49 rfl ?_
              refine AW.getR af_X12_115_117 sr_117_50 dX12_trip_50 ?_
              refine AW.aloadr_n 0 dX12_trip_53 rfl ?_
              refine AW.getI af_X12_444_117 sr_117_49 dX12_trip_54 ?_
              refine AW.iload_n 1 dX12_trip_57 rfl ?_
              obtain ⟨k7, h⟩ := hK h
              obtain ⟨g8, e9, h⟩ := hBe h
              refine AW.iast kc_149 sk_149 k7 dX12_trip_58 e9 ?_
              refine AW.aloadr_n 0 dX12_trip_59 rfl ?_
              refine AW.getR af_X12_118_117 sr_117_51 dX12_trip_60 ?_
              refine AW.aloadr_n 0 dX12_trip_63 rfl ?_
              refine AW.getI af_X12_444_117 sr_117_49 dX12_trip_64 ?_
              refine AW.iload_n 2 dX12_trip_67 rfl ?_
              obtain ⟨k10, h⟩ := hK h
              obtain ⟨g11, e12, h⟩ := hBe h
              refine AW.iast kc_150 sk_150 k10 dX12_trip_68 e12 ?_
              refine AW.aloadr_n 0 dX12_trip_69 rfl ?_
              refine AW.getR af_X12_121_117 sr_117_52 dX12_trip_70 ?_
              refine AW.aloadr_n 0 dX12_trip_73 rfl ?_
              refine AW.getI af_X12_444_117 sr_117_49 dX12_trip_74 ?_
              refine AW.iload_n 3 dX12_trip_77 rfl ?_
              obtain ⟨k13, h⟩ := hK h
              obtain ⟨g14, e15, h⟩ := hBe h
              refine AW.iast kc_151 sk_151 k13 dX12_trip_78 e15 ?_
              refine AW.aloadr_n 0 dX12_trip_79 rfl ?_
              refine AW.getR af_X12_124_117 sr_117_53 dX12_trip_80 ?_
              refine AW.aloadr_n 0 dX12_trip_83 rfl ?_
              refine AW.getI af_X12_444_117 sr_117_49 dX12_trip_84 ?_
              refine AW.iload 4 dX12_trip_87 rfl ?_
              obtain ⟨k16, h⟩ := hK h
              obtain ⟨g17, e18, h⟩ := hBe h
              refine AW.iast kc_152 sk_152 k16 dX12_trip_89 e18 ?_
              refine AW.aloadr_n 0 dX12_trip_90 rfl ?_
              refine AW.getR af_X12_127_117 sr_117_54 dX12_trip_91 ?_
              refine AW.aloadr_n 0 dX12_trip_94 rfl ?_
              refine AW.getI af_X12_444_117 sr_117_49 dX12_trip_95 ?_
              refine AW.iload 5 dX12_trip_98 rfl ?_
              obtain ⟨k19, h⟩ := hK h
              obtain ⟨g20, e21, h⟩ := hBe h
              refine AW.iast kc_153 sk_153 k19 dX12_trip_100 e21 ?_
              refine AW.aloadr_n 0 dX12_trip_101 rfl ?_
              refine AW.duprr dX12_trip_102 ?_
              refine AW.getI af_X12_444_117 sr_117_49 dX12_trip_103 ?_
              refine AW.iconst dX12_trip_106 ?_
              refine AW.iadd dX12_trip_107 ?_
              obtain ⟨g22, e23, h⟩ := hBe h
              refine AW.putI ap_X12_444_117 sr_117_49 dX12_trip_108 e23 ?_
              refine AW.aloadr_n 0 dX12_trip_111 rfl ?_
              refine AW.getI af_X12_444_117 sr_117_49 dX12_trip_112 ?_
              refine AW.iconst dX12_trip_115 ?_
              refine AW.isub dX12_trip_116 ?_
              exact AW.iret1 rfl dX12_trip_117 h rfl
            · replace h := hT h c6
              refine AW.iconst dX12_trip_47 ?_
              exact AW.iret1 rfl dX12_trip_48 h rfl
theorem M_lateOf_ok {z : AZ} {x1 : Int} {g : AG} {r : Int × AG} (h : M_lateOf x1 g = some r) : AMf z yX12_lateOf cX12_lateOf 3 (some .int) 8 [rv z 117, iv x1] g r := by
  intro d hdd
  refine AM.of (by decide +kernel) (Nat.le_of_ble_eq_true rfl) ?_
  show AW z (RX12, cX12_lateOf, 3, (some .int)) d (QD (some .int) r) 0 [(0, rv z 117), (1, iv x1)] [] g
  unfold M_lateOf at h
  refine AW.aloadr_n 0 dX12_lateOf_0 rfl ?_
  refine AW.aloadr_n 0 dX12_lateOf_1 rfl ?_
  refine AW.getR af_X12_115_117 sr_117_50 dX12_lateOf_2 ?_
  refine AW.iload_n 1 dX12_lateOf_5 rfl ?_
  obtain ⟨k1, h⟩ := hK h
  refine AW.iald kc_149 sk_149 k1 dX12_lateOf_6 ?_
  refine AW.aloadr_n 0 dX12_lateOf_7 rfl ?_
  refine AW.getR af_X12_118_117 sr_117_51 dX12_lateOf_8 ?_
  refine AW.iload_n 1 dX12_lateOf_11 rfl ?_
  refine AW.iald kc_150 sk_150 k1 dX12_lateOf_12 ?_
  refine AW.aloadr_n 0 dX12_lateOf_13 rfl ?_
  refine AW.getR af_X12_121_117 sr_117_52 dX12_lateOf_14 ?_
  refine AW.iload_n 1 dX12_lateOf_17 rfl ?_
  refine AW.iald kc_151 sk_151 k1 dX12_lateOf_18 ?_
  refine AW.aloadr_n 0 dX12_lateOf_19 rfl ?_
  refine AW.getR af_X12_124_117 sr_117_53 dX12_lateOf_20 ?_
  refine AW.iload_n 1 dX12_lateOf_23 rfl ?_
  refine AW.iald kc_152 sk_152 k1 dX12_lateOf_24 ?_
  obtain ⟨r2, e3, h⟩ := hC h
  refine AW.callVi (As := [iv (g 149 (ix x1)), iv (g 150 (ix x1)), iv (g 151 (ix x1)), iv (g 152 (ix x1))]) (st := []) (M_led_ok e3) cq_X12_441 cr_117_X12_led (Nat.le_trans (by decide) hdd) rfl dX12_lateOf_25 rfl (Nat.le_of_ble_eq_true rfl) ?_
  refine AW.istore_n (lv1 := [(2, iv r2.1), (0, rv z 117), (1, iv x1)]) dX12_lateOf_28 (by decide) rfl ?_
  refine AW.iload_n 0 dX12_lateOf_29 rfl ?_
  refine AW.iconst dX12_lateOf_30 ?_
  obtain ⟨r6, e7, h⟩ := hC h
  refine AW.join (tgt := 62) (lv1 := []) (st1 := [iv r6.1]) (g1 := r6.2) ?_ (fun J31 => ?_)
  · exact AW.iret1 rfl dX12_lateOf_62 h rfl
  replace h := e7
  refine AW.icmp_ne (tgt := 40) dX12_lateOf_31 (by decide) (fun c4 => ?_) (fun c4 => ?_)
  · replace h := hF h c4
    refine AW.iload_n 0 dX12_lateOf_40 rfl ?_
    refine AW.aloadr_n 1 dX12_lateOf_41 rfl ?_
    refine AW.getR af_X12_127_117 sr_117_54 dX12_lateOf_42 ?_
    refine AW.iload_n 2 dX12_lateOf_45 rfl ?_
    refine AW.iald kc_153 sk_153 k1 dX12_lateOf_46 ?_
    refine AW.icmp_le (tgt := 61) dX12_lateOf_47 (by decide) (fun c5 => ?_) (fun c5 => ?_)
    · replace h := hT h c5
      refine AW.iconst dX12_lateOf_61 ?_
      refine AW.sub (lv1 := []) [] rfl ?_
      cases h
      exact J31
    · replace h := hF h c5
      refine AW.iload_n 0 dX12_lateOf_50 rfl ?_
      refine AW.aloadr_n 1 dX12_lateOf_51 rfl ?_
      refine AW.getR af_X12_127_117 sr_117_54 dX12_lateOf_52 ?_
      refine AW.iload_n 2 dX12_lateOf_55 rfl ?_
      refine AW.iald kc_153 sk_153 k1 dX12_lateOf_56 ?_
      refine AW.isub dX12_lateOf_57 ?_
      refine AW.goto (tgt := 62) dX12_lateOf_58 (by decide) ?_
      refine AW.sub (lv1 := []) [] rfl ?_
      cases h
      exact J31
  · replace h := hT h c4
    refine AW.sipush dX12_lateOf_34 (by decide) (by decide) ?_
    refine AW.goto (tgt := 62) dX12_lateOf_37 (by decide) ?_
    refine AW.sub (lv1 := []) [] rfl ?_
    cases h
    exact J31
set_option synthInstance.maxHeartbeats 2000000 in
theorem M_late_b_ok {z : AZ} {d : Nat} (hdd : 9 ≤ d) : ∀ (x2 : Int) (x3 : Int) (g : AG) (r : Int × AG), M_late_b x2 x3 g = some r → AW z (RX12, cX12_late, 4, (some .int)) d (QD (some .int) r) 33 [(0, rv z 117), (2, iv x2), (3, iv x3)] [] g := by
  refine M_late_b.partial_correctness (fun x2 x3 g r => AW z (RX12, cX12_late, 4, (some .int)) d (QD (some .int) r) 33 [(0, rv z 117), (2, iv x2), (3, iv x3)] [] g) ?_
  intro fb9 ih x2 x3 g r h
  refine AW.iload_n 2 dX12_late_33 rfl ?_
  refine AW.aloadr_n 0 dX12_late_34 rfl ?_
  refine AW.getI af_X12_444_117 sr_117_49 dX12_late_35 ?_
  refine AW.icmp_ge (tgt := 63) dX12_late_38 (by decide) (fun c1 => ?_) (fun c1 => ?_)
  · replace h := hT h c1
    refine AW.iload_n 1 dX12_late_63 rfl ?_
    exact AW.iret1 rfl dX12_late_64 h rfl
  · replace h := hF h c1
    refine AW.iload_n 1 dX12_late_41 rfl ?_
    refine AW.aloadr_n 0 dX12_late_42 rfl ?_
    refine AW.iload_n 2 dX12_late_43 rfl ?_
    obtain ⟨r2, e3, h⟩ := hC h
    refine AW.callVi (As := [iv x3]) (st := [iv x2]) (M_lateOf_ok e3) cq_X12_447 cr_117_X12_lateOf (Nat.le_trans (by decide) hdd) rfl dX12_late_44 rfl (Nat.le_of_ble_eq_true rfl) ?_
    obtain ⟨t4, e5, h⟩ := hBe h
    refine AW.join (tgt := 55) (lv1 := [(0, rv z 117), (2, iv x2), (3, iv x3)]) (st1 := [iv t4, iv x2]) (g1 := r2.2) ?_ (fun J47 => ?_)
    · refine AW.iadd dX12_late_55 ?_
      refine AW.istore_n (lv1 := [(2, iv (x2 + t4)), (0, rv z 117), (3, iv x3)]) dX12_late_56 (by decide) rfl ?_
      refine AW.iinc (lv1 := [(3, iv (x3 + 1)), (2, iv (x2 + t4)), (0, rv z 117)]) 2 dX12_late_57 rfl (by decide) rfl ?_
      refine AW.goto (tgt := 33) dX12_late_60 (by decide) ?_
      refine AW.sub (lv1 := [(0, rv z 117), (2, iv (x2 + t4)), (3, iv (x3 + 1))]) [2, 1, 0] rfl ?_
      exact ih _ _ _ _ h
    refine AW.if_le (tgt := 54) dX12_late_47 (by decide) (fun c6 => ?_) (fun c6 => ?_)
    · refine AW.iconst dX12_late_54 ?_
      exact AW.val (e5.trans (if_pos c6)) J47
    · refine AW.iconst dX12_late_50 ?_
      refine AW.goto (tgt := 55) dX12_late_51 (by decide) ?_
      exact AW.val (e5.trans (if_neg c6)) J47
theorem M_late_ok {z : AZ} {x1 : Int} {g : AG} {r : Int × AG} (h : M_late x1 g = some r) : AMf z yX12_late cX12_late 4 (some .int) 9 [rv z 117, iv x1] g r := by
  intro d hdd
  refine AM.of (by decide +kernel) (Nat.le_of_ble_eq_true rfl) ?_
  show AW z (RX12, cX12_late, 4, (some .int)) d (QD (some .int) r) 0 [(0, rv z 117), (1, iv x1)] [] g
  unfold M_late at h
  refine AW.iload_n 1 dX12_late_0 rfl ?_
  refine AW.iconst dX12_late_1 ?_
  refine AW.icmp_eq (tgt := 29) dX12_late_2 (by decide) (fun c1 => ?_) (fun c1 => ?_)
  · replace h := hT h c1
    refine AW.iconst dX12_late_29 ?_
    refine AW.istore_n (lv1 := [(2, iv 0), (0, rv z 117), (1, iv x1)]) dX12_late_30 (by decide) rfl ?_
    refine AW.iconst dX12_late_31 ?_
    refine AW.istore_n (lv1 := [(3, iv 0), (2, iv 0), (0, rv z 117), (1, iv x1)]) dX12_late_32 (by decide) rfl ?_
    refine AW.sub (lv1 := [(0, rv z 117), (2, iv 0), (3, iv 0)]) [2, 1, 0] rfl ?_
    exact M_late_b_ok hdd _ _ _ _ h
  · replace h := hF h c1
    refine AW.iload_n 1 dX12_late_5 rfl ?_
    refine AW.iconst dX12_late_6 ?_
    refine AW.aloadr_n 0 dX12_late_7 rfl ?_
    refine AW.getI af_X12_444_117 sr_117_49 dX12_late_8 ?_
    refine AW.iconst dX12_late_11 ?_
    refine AW.isub dX12_late_12 ?_
    refine AW.callSi (As := [iv x1, iv 0, iv ((g 117 49) - 1)]) (st := []) M_isIn_ok cq_X12_3 st_X12_isIn (Nat.le_trans (by decide) hdd) rfl dX12_late_13 rfl (Nat.le_of_ble_eq_true rfl) ?_
    obtain ⟨r5, e6, h⟩ := hC h
    refine AW.join (tgt := 28) (lv1 := []) (st1 := [iv r5.1]) (g1 := r5.2) ?_ (fun J16 => ?_)
    · exact AW.iret1 rfl dX12_late_28 h rfl
    replace h := e6
    refine AW.if_eq (tgt := 27) dX12_late_16 (by decide) (fun c2 => ?_) (fun c2 => ?_)
    · replace h := hT h c2
      refine AW.iconst dX12_late_27 ?_
      refine AW.sub (lv1 := []) [] rfl ?_
      cases h
      exact J16
    · replace h := hF h c2
      refine AW.aloadr_n 0 dX12_late_19 rfl ?_
      refine AW.iload_n 1 dX12_late_20 rfl ?_
      obtain ⟨r3, e4, h⟩ := hC h
      refine AW.callVi (As := [iv x1]) (st := []) (M_lateOf_ok e4) cq_X12_447 cr_117_X12_lateOf (Nat.le_trans (by decide) hdd) rfl dX12_late_21 rfl (Nat.le_of_ble_eq_true rfl) ?_
      refine AW.goto (tgt := 28) dX12_late_24 (by decide) ?_
      refine AW.sub (lv1 := []) [] rfl ?_
      cases h
      exact J16
theorem M_price_ok {z : AZ} {x1 : Int} {x2 : Int} {x3 : Int} {g : AG} {r : Int × AG} (h : M_price x1 x2 x3 g = some r) : AMf z yX12_price cX12_price 5 (some .int) 3 [rv z 117, iv x1, iv x2, iv x3] g r := by
  intro d hdd
  refine AM.of (by decide +kernel) (Nat.le_of_ble_eq_true rfl) ?_
  show AW z (RX12, cX12_price, 5, (some .int)) d (QD (some .int) r) 0 [(0, rv z 117), (1, iv x1), (2, iv x2), (3, iv x3)] [] g
  unfold M_price at h
  refine AW.aloadr_n 0 dX12_price_0 rfl ?_
  refine AW.iload_n 1 dX12_price_1 rfl ?_
  refine AW.callVi (As := [iv x1]) (st := []) M_isBoat_ok cq_X12_435 cr_117_X12_isBoat (Nat.le_trans (by decide) hdd) rfl dX12_price_2 rfl (Nat.le_of_ble_eq_true rfl) ?_
  refine AW.if_eq (tgt := 18) dX12_price_5 (by decide) (fun c1 => ?_) (fun c1 => ?_)
  · replace h := hT h c1
    refine AW.ldcw dX12_price_18 cw_X12_450 ?_
    exact AW.iret1 rfl dX12_price_21 h rfl
  · replace h := hF h c1
    refine AW.iload_n 2 dX12_price_8 rfl ?_
    refine AW.iconst dX12_price_9 ?_
    refine AW.bipush dX12_price_10 (by decide) (by decide) ?_
    refine AW.callSi (As := [iv x2, iv 0, iv 9]) (st := []) M_isIn_ok cq_X12_3 st_X12_isIn (Nat.le_trans (by decide) hdd) rfl dX12_price_12 rfl (Nat.le_of_ble_eq_true rfl) ?_
    refine AW.if_ne (tgt := 22) dX12_price_15 (by decide) (fun c2 => ?_) (fun c2 => ?_)
    · replace h := hF h c2
      refine AW.aloadr_n 0 dX12_price_22 rfl ?_
      obtain ⟨r3, e4, h⟩ := hC h
      refine AW.callVv (As := []) (st := []) (M_forgets_ok e4) cq_X12_401 cr_117_X12_forgets (Nat.le_trans (by decide) hdd) rfl dX12_price_23 rfl (Nat.le_of_ble_eq_true rfl) ?_
      refine AW.aloadr_n 0 dX12_price_26 rfl ?_
      refine AW.getR af_X12_109_117 sr_117_33 dX12_price_27 ?_
      refine AW.iconst dX12_price_30 ?_
      refine AW.iload_n 2 dX12_price_31 rfl ?_
      obtain ⟨g5, e6, h⟩ := hBe h
      refine AW.iast kc_148 sk_148 (by decide) dX12_price_32 e6 ?_
      refine AW.aloadr_n 0 dX12_price_33 rfl ?_
      refine AW.getR af_X12_109_117 sr_117_33 dX12_price_34 ?_
      refine AW.iconst dX12_price_37 ?_
      refine AW.aloadr_n 0 dX12_price_38 rfl ?_
      refine AW.getR af_X12_32_117 sr_117_6 dX12_price_39 ?_
      refine AW.iload_n 1 dX12_price_42 rfl ?_
      obtain ⟨k7, h⟩ := hK h
      refine AW.iald kc_124 sk_124 k7 dX12_price_43 ?_
      obtain ⟨g8, e9, h⟩ := hBe h
      refine AW.iast kc_148 sk_148 (by decide) dX12_price_44 e9 ?_
      refine AW.aloadr_n 0 dX12_price_45 rfl ?_
      refine AW.getR af_X12_109_117 sr_117_33 dX12_price_46 ?_
      refine AW.iconst dX12_price_49 ?_
      refine AW.iload_n 3 dX12_price_50 rfl ?_
      obtain ⟨t10, e11, h⟩ := hBe h
      refine AW.join (tgt := 59) (lv1 := [(0, rv z 117), (1, iv x1), (2, iv x2), (3, iv x3)]) (st1 := [iv t10, iv 5, rv z 148]) (g1 := g8) ?_ (fun J51 => ?_)
      · obtain ⟨g12, e13, h⟩ := hBe h
        refine AW.iast kc_148 sk_148 (by decide) dX12_price_59 e13 ?_
        refine AW.aloadr_n 0 dX12_price_60 rfl ?_
        refine AW.getR af_X12_109_117 sr_117_33 dX12_price_61 ?_
        refine AW.bipush dX12_price_64 (by decide) (by decide) ?_
        refine AW.aloadr_n 0 dX12_price_66 rfl ?_
        refine AW.getR af_X12_35_117 sr_117_7 dX12_price_67 ?_
        refine AW.iload_n 1 dX12_price_70 rfl ?_
        refine AW.iald kc_125 sk_125 k7 dX12_price_71 ?_
        obtain ⟨g14, e15, h⟩ := hBe h
        refine AW.iast kc_148 sk_148 (by decide) dX12_price_72 e15 ?_
        refine AW.aloadr_n 0 dX12_price_73 rfl ?_
        refine AW.iconst dX12_price_74 ?_
        obtain ⟨r16, e17, h⟩ := hC h
        refine AW.callVi (As := [iv 2]) (st := []) (M_serves_ok e17) cq_X12_404 cr_117_X12_serves (Nat.le_trans (by decide) hdd) rfl dX12_price_75 rfl (Nat.le_of_ble_eq_true rfl) ?_
        refine AW.istore (lv1 := [(4, iv r16.1), (0, rv z 117), (1, iv x1), (2, iv x2), (3, iv x3)]) dX12_price_78 (by decide) rfl ?_
        refine AW.aloadr_n 1 dX12_price_80 rfl ?_
        refine AW.iload 0 dX12_price_81 rfl ?_
        refine AW.iconst dX12_price_83 ?_
        obtain ⟨t18, e19, h⟩ := hBe h
        refine AW.join (tgt := 92) (lv1 := [(4, iv r16.1), (0, rv z 117), (1, iv x1), (2, iv x2), (3, iv x3)]) (st1 := [iv t18, rv z 117]) (g1 := r16.2) ?_ (fun J84 => ?_)
        · obtain ⟨g20, e21, h⟩ := hBe h
          refine AW.putZ ap_X12_454_117 sr_117_100 (by rw [e19]; (repeat' split) <;> first | exact Or.inl rfl | exact Or.inr rfl) dX12_price_92 e21 ?_
          refine AW.iload 0 dX12_price_95 rfl ?_
          refine AW.iconst dX12_price_97 ?_
          obtain ⟨r26, e27, h⟩ := hC h
          refine AW.join (tgt := 125) (lv1 := []) (st1 := [iv r26.1]) (g1 := r26.2) ?_ (fun J98 => ?_)
          · exact AW.iret1 rfl dX12_price_125 h rfl
          replace h := e27
          refine AW.icmp_ne (tgt := 107) dX12_price_98 (by decide) (fun c22 => ?_) (fun c22 => ?_)
          · replace h := hF h c22
            refine AW.aloadr_n 1 dX12_price_107 rfl ?_
            refine AW.aloadr_n 1 dX12_price_108 rfl ?_
            refine AW.getR af_X12_57_117 sr_117_16 dX12_price_109 ?_
            refine AW.iload 0 dX12_price_112 rfl ?_
            obtain ⟨k23, h⟩ := hK h
            refine AW.iald kc_131 sk_131 k23 dX12_price_114 ?_
            refine AW.aloadr_n 1 dX12_price_115 rfl ?_
            refine AW.getR af_X12_60_117 sr_117_17 dX12_price_116 ?_
            refine AW.iload 0 dX12_price_119 rfl ?_
            refine AW.iald kc_132 sk_132 k23 dX12_price_121 ?_
            obtain ⟨r24, e25, h⟩ := hC h
            refine AW.callVi (As := [iv (g20 131 (ix r16.1)), iv (g20 132 (ix r16.1))]) (st := []) (M_comesTo_ok e25) cq_X12_397 cr_117_X12_comesTo (Nat.le_trans (by decide) hdd) rfl dX12_price_122 rfl (Nat.le_of_ble_eq_true rfl) ?_
            refine AW.sub (lv1 := []) [] rfl ?_
            cases h
            exact J98
          · replace h := hT h c22
            refine AW.ldcw dX12_price_101 cw_X12_450 ?_
            refine AW.goto (tgt := 125) dX12_price_104 (by decide) ?_
            refine AW.sub (lv1 := []) [] rfl ?_
            cases h
            exact J98
        refine AW.icmp_eq (tgt := 91) dX12_price_84 (by decide) (fun c28 => ?_) (fun c28 => ?_)
        · refine AW.iconst dX12_price_91 ?_
          exact AW.val (e19.trans (if_pos c28)) J84
        · refine AW.iconst dX12_price_87 ?_
          refine AW.goto (tgt := 92) dX12_price_88 (by decide) ?_
          exact AW.val (e19.trans (if_neg c28)) J84
      refine AW.if_eq (tgt := 58) dX12_price_51 (by decide) (fun c29 => ?_) (fun c29 => ?_)
      · refine AW.iconst dX12_price_58 ?_
        exact AW.val (e11.trans (if_pos c29)) J51
      · refine AW.iconst dX12_price_54 ?_
        refine AW.goto (tgt := 59) dX12_price_55 (by decide) ?_
        exact AW.val (e11.trans (if_neg c29)) J51
    · replace h := hT h c2
      refine AW.ldcw dX12_price_18 cw_X12_450 ?_
      exact AW.iret1 rfl dX12_price_21 h rfl
theorem M_refund_ok {z : AZ} {x1 : Int} {g : AG} {r : Int × AG} (h : M_refund x1 g = some r) : AMf z yX12_refund cX12_refund 5 (some .int) 9 [rv z 117, iv x1] g r := by
  intro d hdd
  refine AM.of (by decide +kernel) (Nat.le_of_ble_eq_true rfl) ?_
  show AW z (RX12, cX12_refund, 5, (some .int)) d (QD (some .int) r) 0 [(0, rv z 117), (1, iv x1)] [] g
  unfold M_refund at h
  refine AW.aloadr_n 0 dX12_refund_0 rfl ?_
  refine AW.iload_n 1 dX12_refund_1 rfl ?_
  obtain ⟨r1, e2, h⟩ := hC h
  refine AW.callVi (As := [iv x1]) (st := []) (M_lateOf_ok e2) cq_X12_447 cr_117_X12_lateOf (Nat.le_trans (by decide) hdd) rfl dX12_refund_2 rfl (Nat.le_of_ble_eq_true rfl) ?_
  refine AW.istore_n (lv1 := [(2, iv r1.1), (0, rv z 117), (1, iv x1)]) dX12_refund_5 (by decide) rfl ?_
  refine AW.iload_n 0 dX12_refund_6 rfl ?_
  refine AW.if_ne (tgt := 12) dX12_refund_7 (by decide) (fun c3 => ?_) (fun c3 => ?_)
  · replace h := hF h c3
    refine AW.iload_n 0 dX12_refund_12 rfl ?_
    refine AW.sipush dX12_refund_13 (by decide) (by decide) ?_
    refine AW.iadd dX12_refund_16 ?_
    refine AW.sipush dX12_refund_17 (by decide) (by decide) ?_
    refine AW.idiv dX12_refund_20 (by decide) ?_
    refine AW.istore_n (lv1 := [(3, iv ((nw (r1.1 + 1439)).tdiv 1440)), (2, iv r1.1), (0, rv z 117), (1, iv x1)]) dX12_refund_21 (by decide) rfl ?_
    refine AW.aloadr_n 2 dX12_refund_22 rfl ?_
    refine AW.aloadr_n 2 dX12_refund_23 rfl ?_
    refine AW.getR af_X12_115_117 sr_117_50 dX12_refund_24 ?_
    refine AW.iload_n 3 dX12_refund_27 rfl ?_
    obtain ⟨k4, h⟩ := hK h
    refine AW.iald kc_149 sk_149 k4 dX12_refund_28 ?_
    refine AW.aloadr_n 2 dX12_refund_29 rfl ?_
    refine AW.getR af_X12_124_117 sr_117_53 dX12_refund_30 ?_
    refine AW.iload_n 3 dX12_refund_33 rfl ?_
    refine AW.iald kc_152 sk_152 k4 dX12_refund_34 ?_
    refine AW.sipush dX12_refund_35 (by decide) (by decide) ?_
    refine AW.idiv dX12_refund_38 (by decide) ?_
    refine AW.bipush dX12_refund_39 (by decide) (by decide) ?_
    refine AW.idiv dX12_refund_41 (by decide) ?_
    refine AW.aloadr_n 2 dX12_refund_42 rfl ?_
    refine AW.getR af_X12_118_117 sr_117_51 dX12_refund_43 ?_
    refine AW.iload_n 3 dX12_refund_46 rfl ?_
    refine AW.iald kc_150 sk_150 k4 dX12_refund_47 ?_
    refine AW.aloadr_n 2 dX12_refund_48 rfl ?_
    refine AW.getR af_X12_121_117 sr_117_52 dX12_refund_49 ?_
    refine AW.iload_n 3 dX12_refund_52 rfl ?_
    refine AW.iald kc_151 sk_151 k4 dX12_refund_53 ?_
    obtain ⟨t5, e6, h⟩ := hBe h
    refine AW.join (tgt := 62) (lv1 := [(3, iv ((nw (r1.1 + 1439)).tdiv 1440)), (2, iv r1.1), (0, rv z 117), (1, iv x1)]) (st1 := [iv t5, iv ((nw ((nw (r1.2 152 (ix x1))).tdiv 1440)).tdiv 7), iv (r1.2 149 (ix x1)), rv z 117]) (g1 := r1.2) ?_ (fun J54 => ?_)
    · obtain ⟨r7, e8, h⟩ := hC h
      refine AW.callVi (As := [iv (r1.2 149 (ix x1)), iv ((nw ((nw (r1.2 152 (ix x1))).tdiv 1440)).tdiv 7), iv t5]) (st := []) (M_price_ok e8) cq_X12_451 cr_117_X12_price (Nat.le_trans (by decide) hdd) rfl dX12_refund_62 rfl (Nat.le_of_ble_eq_true rfl) ?_
      refine AW.istore (lv1 := [(4, iv r7.1), (3, iv ((nw (r1.1 + 1439)).tdiv 1440)), (2, iv r1.1), (0, rv z 117), (1, iv x1)]) dX12_refund_65 (by decide) rfl ?_
      refine AW.aloadr_n 3 dX12_refund_67 rfl ?_
      refine AW.getI af_X12_454_117 sr_117_100 dX12_refund_68 ?_
      obtain ⟨r13, e14, h⟩ := hC h
      refine AW.join (tgt := 102) (lv1 := []) (st1 := [iv r13.1]) (g1 := r13.2) ?_ (fun J71 => ?_)
      · exact AW.iret1 rfl dX12_refund_102 h rfl
      replace h := e14
      refine AW.if_eq (tgt := 99) dX12_refund_71 (by decide) (fun c9 => ?_) (fun c9 => ?_)
      · replace h := hT h c9
        refine AW.ldcw dX12_refund_99 cw_X12_450 ?_
        refine AW.sub (lv1 := []) [] rfl ?_
        cases h
        exact J71
      · replace h := hF h c9
        refine AW.iload 0 dX12_refund_74 rfl ?_
        refine AW.i2l dX12_refund_76 ?_
        refine AW.iload_n 1 dX12_refund_77 rfl ?_
        refine AW.bipush dX12_refund_78 (by decide) (by decide) ?_
        obtain ⟨t10, e11, h⟩ := hBe h
        refine AW.join (tgt := 89) (lv1 := [(4, iv r7.1), (3, iv ((nw (r1.1 + 1439)).tdiv 1440)), (2, iv r1.1), (0, rv z 117), (1, iv x1)]) (st1 := [iv t10, jv (nw r7.1)]) (g1 := r7.2) ?_ (fun J80 => ?_)
        · refine AW.i2l dX12_refund_89 ?_
          refine AW.lmul dX12_refund_90 ?_
          refine AW.ldc2 dX12_refund_91 cw_X12_457 ?_
          refine AW.ldiv dX12_refund_94 (by decide) ?_
          refine AW.l2i dX12_refund_95 ?_
          refine AW.goto (tgt := 102) dX12_refund_96 (by decide) ?_
          refine AW.sub (lv1 := []) [] rfl ?_
          cases h
          exact J71
        refine AW.icmp_le (tgt := 88) dX12_refund_80 (by decide) (fun c12 => ?_) (fun c12 => ?_)
        · refine AW.iload_n 1 dX12_refund_88 rfl ?_
          exact AW.val (e11.trans (if_pos c12)) J80
        · refine AW.bipush dX12_refund_83 (by decide) (by decide) ?_
          refine AW.goto (tgt := 89) dX12_refund_85 (by decide) ?_
          exact AW.val (e11.trans (if_neg c12)) J80
    refine AW.icmp_eq (tgt := 61) dX12_refund_54 (by decide) (fun c15 => ?_) (fun c15 => ?_)
    · refine AW.iconst dX12_refund_61 ?_
      exact AW.val (e6.trans (if_pos c15)) J54
    · refine AW.iconst dX12_refund_57 ?_
      refine AW.goto (tgt := 62) dX12_refund_58 (by decide) ?_
      exact AW.val (e6.trans (if_neg c15)) J54
  · replace h := hT h c3
    refine AW.iconst dX12_refund_10 ?_
    exact AW.iret1 rfl dX12_refund_11 h rfl
set_option synthInstance.maxHeartbeats 2000000 in
theorem M_turningBack_b_ok {z : AZ} {d : Nat} (hdd : 8 ≤ d) {x1 : Int} {x3 : Int} : ∀ (tag : Nat) (x2 : Int) (x4 : Int) (g : AG) (r : Int × AG), M_turningBack_b x1 x3 tag x2 x4 g = some r → (tag = 1 → AW z (RX12, cX12_turningBack, 8, (some .int)) d (QD (some .int) r) 26 [(0, rv z 117), (1, iv x1), (2, iv x2), (3, iv x3), (4, iv x4)] [] g) ∧ (tag = 2 → AW z (RX12, cX12_turningBack, 8, (some .int)) d (QD (some .int) r) 167 [(2, iv x2)] [] g) := by
  refine M_turningBack_b.partial_correctness x1 x3 (fun tag x2 x4 g r => (tag = 1 → AW z (RX12, cX12_turningBack, 8, (some .int)) d (QD (some .int) r) 26 [(0, rv z 117), (1, iv x1), (2, iv x2), (3, iv x3), (4, iv x4)] [] g) ∧ (tag = 2 → AW z (RX12, cX12_turningBack, 8, (some .int)) d (QD (some .int) r) 167 [(2, iv x2)] [] g)) ?_
  intro fb9 ih tag x2 x4 g r h
  refine ⟨fun h9 => ?_, fun h9 => ?_⟩
  · subst h9
    replace h := hT h rfl
    refine AW.iload 4 dX12_turningBack_26 rfl ?_
    refine AW.aloadr_n 0 dX12_turningBack_28 rfl ?_
    refine AW.getR af_X12_121_117 sr_117_52 dX12_turningBack_29 ?_
    refine AW.iload_n 1 dX12_turningBack_32 rfl ?_
    obtain ⟨k1, h⟩ := hK h
    refine AW.iald kc_151 sk_151 k1 dX12_turningBack_33 ?_
    refine AW.aloadr_n 0 dX12_turningBack_34 rfl ?_
    refine AW.getR af_X12_118_117 sr_117_51 dX12_turningBack_35 ?_
    refine AW.iload_n 1 dX12_turningBack_38 rfl ?_
    refine AW.iald kc_150 sk_150 k1 dX12_turningBack_39 ?_
    refine AW.isub dX12_turningBack_40 ?_
    refine AW.iload_n 3 dX12_turningBack_41 rfl ?_
    refine AW.imul dX12_turningBack_42 ?_
    refine AW.icmp_gt (tgt := 167) dX12_turningBack_43 (by decide) (fun c2 => ?_) (fun c2 => ?_)
    · replace h := hT h c2
      refine AW.sub (lv1 := [(2, iv x2)]) [2] rfl ?_
      exact (ih _ _ _ _ _ h).2 rfl
    · replace h := hF h c2
      refine AW.aloadr_n 0 dX12_turningBack_46 rfl ?_
      refine AW.getR af_X12_124_117 sr_117_53 dX12_turningBack_47 ?_
      refine AW.iload_n 1 dX12_turningBack_50 rfl ?_
      refine AW.iald kc_152 sk_152 k1 dX12_turningBack_51 ?_
      refine AW.aloadr_n 0 dX12_turningBack_52 rfl ?_
      refine AW.getR af_X12_127_117 sr_117_54 dX12_turningBack_53 ?_
      refine AW.iload_n 1 dX12_turningBack_56 rfl ?_
      refine AW.iald kc_153 sk_153 k1 dX12_turningBack_57 ?_
      refine AW.icmp_gt (tgt := 167) dX12_turningBack_58 (by decide) (fun c3 => ?_) (fun c3 => ?_)
      · replace h := hT h c3
        refine AW.sub (lv1 := [(2, iv x2)]) [2] rfl ?_
        exact (ih _ _ _ _ _ h).2 rfl
      · replace h := hF h c3
        refine AW.aloadr_n 0 dX12_turningBack_61 rfl ?_
        refine AW.getR af_X12_118_117 sr_117_51 dX12_turningBack_62 ?_
        refine AW.iload_n 1 dX12_turningBack_65 rfl ?_
        refine AW.iald kc_150 sk_150 k1 dX12_turningBack_66 ?_
        refine AW.iload 4 dX12_turningBack_67 rfl ?_
        refine AW.iload_n 3 dX12_turningBack_69 rfl ?_
        refine AW.imul dX12_turningBack_70 ?_
        refine AW.iadd dX12_turningBack_71 ?_
        refine AW.istore (lv1 := [(5, iv ((g 150 (ix x1)) + (x4 * x3))), (0, rv z 117), (1, iv x1), (2, iv x2), (3, iv x3), (4, iv x4)]) dX12_turningBack_72 (by decide) rfl ?_
        refine AW.aloadr_n 1 dX12_turningBack_74 rfl ?_
        refine AW.aloadr_n 1 dX12_turningBack_75 rfl ?_
        refine AW.getR af_X12_115_117 sr_117_50 dX12_turningBack_76 ?_
        refine AW.iload_n 2 dX12_turningBack_79 rfl ?_
        refine AW.iald kc_149 sk_149 k1 dX12_turningBack_80 ?_
        refine AW.aloadr_n 1 dX12_turningBack_81 rfl ?_
        refine AW.getR af_X12_118_117 sr_117_51 dX12_turningBack_82 ?_
        refine AW.iload_n 2 dX12_turningBack_85 rfl ?_
        refine AW.iald kc_150 sk_150 k1 dX12_turningBack_86 ?_
        refine AW.iload 0 dX12_turningBack_87 rfl ?_
        refine AW.aloadr_n 1 dX12_turningBack_89 rfl ?_
        refine AW.getR af_X12_124_117 sr_117_53 dX12_turningBack_90 ?_
        refine AW.iload_n 2 dX12_turningBack_93 rfl ?_
        refine AW.iald kc_152 sk_152 k1 dX12_turningBack_94 ?_
        obtain ⟨r4, e5, h⟩ := hC h
        refine AW.callVi (As := [iv (g 149 (ix x1)), iv (g 150 (ix x1)), iv ((g 150 (ix x1)) + (x4 * x3)), iv (g 152 (ix x1))]) (st := []) (M_led_ok e5) cq_X12_441 cr_117_X12_led (Nat.le_trans (by decide) hdd) rfl dX12_turningBack_95 rfl (Nat.le_of_ble_eq_true rfl) ?_
        refine AW.istore (lv1 := [(6, iv r4.1), (5, iv ((g 150 (ix x1)) + (x4 * x3))), (0, rv z 117), (1, iv x1), (2, iv x2), (3, iv x3), (4, iv x4)]) dX12_turningBack_98 (by decide) rfl ?_
        refine AW.iload 0 dX12_turningBack_100 rfl ?_
        refine AW.iconst dX12_turningBack_102 ?_
        refine AW.icmp_ne (tgt := 119) dX12_turningBack_103 (by decide) (fun c6 => ?_) (fun c6 => ?_)
        · replace h := hF h c6
          refine AW.aloadr_n 2 dX12_turningBack_119 rfl ?_
          refine AW.aloadr_n 2 dX12_turningBack_120 rfl ?_
          refine AW.getR af_X12_115_117 sr_117_50 dX12_turningBack_121 ?_
          refine AW.iload_n 3 dX12_turningBack_124 rfl ?_
          refine AW.iald kc_149 sk_149 k1 dX12_turningBack_125 ?_
          refine AW.iload 1 dX12_turningBack_126 rfl ?_
          refine AW.aloadr_n 2 dX12_turningBack_128 rfl ?_
          refine AW.getR af_X12_118_117 sr_117_51 dX12_turningBack_129 ?_
          refine AW.iload_n 3 dX12_turningBack_132 rfl ?_
          refine AW.iald kc_150 sk_150 k1 dX12_turningBack_133 ?_
          refine AW.iload 0 dX12_turningBack_134 rfl ?_
          obtain ⟨r7, e8, h⟩ := hC h
          refine AW.callVi (As := [iv (r4.2 149 (ix x1)), iv ((g 150 (ix x1)) + (x4 * x3)), iv (r4.2 150 (ix x1)), iv r4.1]) (st := []) (M_led_ok e8) cq_X12_441 cr_117_X12_led (Nat.le_trans (by decide) hdd) rfl dX12_turningBack_136 rfl (Nat.le_of_ble_eq_true rfl) ?_
          refine AW.istore (lv1 := [(7, iv r7.1), (6, iv r4.1), (5, iv ((g 150 (ix x1)) + (x4 * x3))), (0, rv z 117), (1, iv x1), (2, iv x2), (3, iv x3), (4, iv x4)]) dX12_turningBack_139 (by decide) rfl ?_
          refine AW.iload 0 dX12_turningBack_141 rfl ?_
          refine AW.iconst dX12_turningBack_143 ?_
          obtain ⟨r11, e12, h⟩ := hC h
          refine AW.join (tgt := 161) (lv1 := [(0, rv z 117), (1, iv x1), (2, iv r11.1), (3, iv x3), (4, iv x4)]) (st1 := []) (g1 := r11.2) ?_ (fun J144 => ?_)
          · refine AW.iinc (lv1 := [(4, iv (x4 + 1)), (0, rv z 117), (1, iv x1), (2, iv r11.1), (3, iv x3)]) 4 dX12_turningBack_161 rfl (by decide) rfl ?_
            refine AW.goto (tgt := 26) dX12_turningBack_164 (by decide) ?_
            refine AW.sub (lv1 := [(0, rv z 117), (1, iv x1), (2, iv r11.1), (3, iv x3), (4, iv (x4 + 1))]) [1, 2, 3, 4, 0] rfl ?_
            exact (ih _ _ _ _ _ h).1 rfl
          replace h := e12
          refine AW.icmp_eq (tgt := 161) dX12_turningBack_144 (by decide) (fun c9 => ?_) (fun c9 => ?_)
          · replace h := hT h c9
            refine AW.sub (lv1 := [(0, rv z 117), (1, iv x1), (2, iv x2), (3, iv x3), (4, iv x4)]) [3, 4, 5, 6, 7] rfl ?_
            cases h
            exact J144
          · replace h := hF h c9
            refine AW.iload 0 dX12_turningBack_147 rfl ?_
            refine AW.aloadr_n 3 dX12_turningBack_149 rfl ?_
            refine AW.getR af_X12_127_117 sr_117_54 dX12_turningBack_150 ?_
            refine AW.iload_n 4 dX12_turningBack_153 rfl ?_
            refine AW.iald kc_153 sk_153 k1 dX12_turningBack_154 ?_
            refine AW.icmp_gt (tgt := 161) dX12_turningBack_155 (by decide) (fun c10 => ?_) (fun c10 => ?_)
            · replace h := hT h c10
              refine AW.sub (lv1 := [(0, rv z 117), (1, iv x1), (2, iv x2), (3, iv x3), (4, iv x4)]) [3, 4, 5, 6, 7] rfl ?_
              cases h
              exact J144
            · replace h := hF h c10
              refine AW.iload 2 dX12_turningBack_158 rfl ?_
              refine AW.istore_n (lv1 := [(2, iv ((g 150 (ix x1)) + (x4 * x3))), (7, iv r7.1), (6, iv r4.1), (5, iv ((g 150 (ix x1)) + (x4 * x3))), (0, rv z 117), (1, iv x1), (3, iv x3), (4, iv x4)]) dX12_turningBack_160 (by decide) rfl ?_
              refine AW.sub (lv1 := [(0, rv z 117), (1, iv x1), (2, iv ((g 150 (ix x1)) + (x4 * x3))), (3, iv x3), (4, iv x4)]) [4, 5, 0, 6, 7] rfl ?_
              cases h
              exact J144
        · replace h := hT h c6
          refine AW.iload_n 4 dX12_turningBack_106 rfl ?_
          refine AW.iconst dX12_turningBack_107 ?_
          obtain ⟨t13, e14, h⟩ := hBe h
          refine AW.join (tgt := 118) (lv1 := [(6, iv r4.1), (5, iv ((g 150 (ix x1)) + (x4 * x3))), (0, rv z 117), (1, iv x1), (2, iv x2), (3, iv x3), (4, iv x4)]) (st1 := [iv t13]) (g1 := r4.2) ?_ (fun J108 => ?_)
          · exact AW.iret1 rfl dX12_turningBack_118 h rfl
          refine AW.icmp_ne (tgt := 117) dX12_turningBack_108 (by decide) (fun c15 => ?_) (fun c15 => ?_)
          · refine AW.iload_n 4 dX12_turningBack_117 rfl ?_
            exact AW.val (e14.trans (if_neg c15)) J108
          · refine AW.ldcw dX12_turningBack_111 cw_X12_450 ?_
            refine AW.goto (tgt := 118) dX12_turningBack_114 (by decide) ?_
            exact AW.val (e14.trans (if_pos c15)) J108
  · subst h9
    replace h := hF h (by decide)
    replace h := hT h rfl
    refine AW.iload_n 0 dX12_turningBack_167 rfl ?_
    refine AW.iconst dX12_turningBack_168 ?_
    obtain ⟨t1, e2, h⟩ := hBe h
    refine AW.join (tgt := 179) (lv1 := [(2, iv x2)]) (st1 := [iv t1]) (g1 := g) ?_ (fun J169 => ?_)
    · exact AW.iret1 rfl dX12_turningBack_179 h rfl
    refine AW.icmp_ne (tgt := 178) dX12_turningBack_169 (by decide) (fun c3 => ?_) (fun c3 => ?_)
    · refine AW.iload_n 0 dX12_turningBack_178 rfl ?_
      exact AW.val (e2.trans (if_neg c3)) J169
    · refine AW.ldcw dX12_turningBack_172 cw_X12_450 ?_
      refine AW.goto (tgt := 179) dX12_turningBack_175 (by decide) ?_
      exact AW.val (e2.trans (if_pos c3)) J169
theorem M_turningBack_ok {z : AZ} {x1 : Int} {g : AG} {r : Int × AG} (h : M_turningBack x1 g = some r) : AMf z yX12_turningBack cX12_turningBack 8 (some .int) 8 [rv z 117, iv x1] g r := by
  intro d hdd
  refine AM.of (by decide +kernel) (Nat.le_of_ble_eq_true rfl) ?_
  show AW z (RX12, cX12_turningBack, 8, (some .int)) d (QD (some .int) r) 0 [(0, rv z 117), (1, iv x1)] [] g
  unfold M_turningBack at h
  refine AW.iconst dX12_turningBack_0 ?_
  refine AW.istore_n (lv1 := [(2, iv (-1)), (0, rv z 117), (1, iv x1)]) dX12_turningBack_1 (by decide) rfl ?_
  refine AW.aloadr_n 1 dX12_turningBack_2 rfl ?_
  refine AW.getR af_X12_118_117 sr_117_51 dX12_turningBack_3 ?_
  refine AW.iload_n 2 dX12_turningBack_6 rfl ?_
  obtain ⟨k1, h⟩ := hK h
  refine AW.iald kc_150 sk_150 k1 dX12_turningBack_7 ?_
  refine AW.aloadr_n 1 dX12_turningBack_8 rfl ?_
  refine AW.getR af_X12_121_117 sr_117_52 dX12_turningBack_9 ?_
  refine AW.iload_n 2 dX12_turningBack_12 rfl ?_
  refine AW.iald kc_151 sk_151 k1 dX12_turningBack_13 ?_
  obtain ⟨t2, e3, h⟩ := hBe h
  refine AW.join (tgt := 22) (lv1 := [(2, iv (-1)), (0, rv z 117), (1, iv x1)]) (st1 := [iv t2]) (g1 := g) ?_ (fun J14 => ?_)
  · refine AW.istore_n (lv1 := [(3, iv t2), (2, iv (-1)), (0, rv z 117), (1, iv x1)]) dX12_turningBack_22 (by decide) rfl ?_
    refine AW.iconst dX12_turningBack_23 ?_
    refine AW.istore (lv1 := [(4, iv 0), (3, iv t2), (2, iv (-1)), (0, rv z 117), (1, iv x1)]) dX12_turningBack_24 (by decide) rfl ?_
    refine AW.sub (lv1 := [(0, rv z 117), (1, iv x1), (2, iv (-1)), (3, iv t2), (4, iv 0)]) [3, 4, 2, 1, 0] rfl ?_
    exact (M_turningBack_b_ok hdd _ _ _ _ _ h).1 rfl
  refine AW.icmp_ge (tgt := 21) dX12_turningBack_14 (by decide) (fun c4 => ?_) (fun c4 => ?_)
  · refine AW.iconst dX12_turningBack_21 ?_
    exact AW.val (e3.trans (if_pos c4)) J14
  · refine AW.iconst dX12_turningBack_17 ?_
    refine AW.goto (tgt := 22) dX12_turningBack_18 (by decide) ?_
    exact AW.val (e3.trans (if_neg c4)) J14
theorem M_back_ok {z : AZ} {x1 : Int} {x2 : Int} {g : AG} {r : Int × AG} (h : M_back x1 x2 g = some r) : AMf z yX12_back cX12_back 3 (some .int) 10 [rv z 117, iv x1, iv x2] g r := by
  intro d hdd
  refine AM.of (by decide +kernel) (Nat.le_of_ble_eq_true rfl) ?_
  show AW z (RX12, cX12_back, 3, (some .int)) d (QD (some .int) r) 0 [(0, rv z 117), (1, iv x1), (2, iv x2)] [] g
  unfold M_back at h
  refine AW.iload_n 1 dX12_back_0 rfl ?_
  refine AW.iconst dX12_back_1 ?_
  refine AW.aloadr_n 0 dX12_back_2 rfl ?_
  refine AW.getI af_X12_444_117 sr_117_49 dX12_back_3 ?_
  refine AW.iconst dX12_back_6 ?_
  refine AW.isub dX12_back_7 ?_
  refine AW.callSi (As := [iv x1, iv 0, iv ((g 117 49) - 1)]) (st := []) M_isIn_ok cq_X12_3 st_X12_isIn (Nat.le_trans (by decide) hdd) rfl dX12_back_8 rfl (Nat.le_of_ble_eq_true rfl) ?_
  obtain ⟨r8, e9, h⟩ := hC h
  refine AW.join (tgt := 46) (lv1 := []) (st1 := [iv r8.1]) (g1 := r8.2) ?_ (fun J11 => ?_)
  · exact AW.iret1 rfl dX12_back_46 h rfl
  replace h := e9
  refine AW.if_eq (tgt := 43) dX12_back_11 (by decide) (fun c1 => ?_) (fun c1 => ?_)
  · replace h := hT h c1
    refine AW.ldcw dX12_back_43 cw_X12_450 ?_
    refine AW.sub (lv1 := []) [] rfl ?_
    cases h
    exact J11
  · replace h := hF h c1
    refine AW.iload_n 2 dX12_back_14 rfl ?_
    refine AW.iconst dX12_back_15 ?_
    refine AW.iconst dX12_back_16 ?_
    refine AW.callSi (As := [iv x2, iv 0, iv 1]) (st := []) M_isIn_ok cq_X12_3 st_X12_isIn (Nat.le_trans (by decide) hdd) rfl dX12_back_17 rfl (Nat.le_of_ble_eq_true rfl) ?_
    refine AW.if_eq (tgt := 43) dX12_back_20 (by decide) (fun c2 => ?_) (fun c2 => ?_)
    · replace h := hT h c2
      refine AW.ldcw dX12_back_43 cw_X12_450 ?_
      refine AW.sub (lv1 := []) [] rfl ?_
      cases h
      exact J11
    · replace h := hF h c2
      refine AW.iload_n 2 dX12_back_23 rfl ?_
      refine AW.if_ne (tgt := 35) dX12_back_24 (by decide) (fun c3 => ?_) (fun c3 => ?_)
      · replace h := hF h c3
        refine AW.aloadr_n 0 dX12_back_35 rfl ?_
        refine AW.iload_n 1 dX12_back_36 rfl ?_
        obtain ⟨r4, e5, h⟩ := hC h
        refine AW.callVi (As := [iv x1]) (st := []) (M_refund_ok e5) cq_X12_462 cr_117_X12_refund (Nat.le_trans (by decide) hdd) rfl dX12_back_37 rfl (Nat.le_of_ble_eq_true rfl) ?_
        refine AW.goto (tgt := 46) dX12_back_40 (by decide) ?_
        refine AW.sub (lv1 := []) [] rfl ?_
        cases h
        exact J11
      · replace h := hT h c3
        refine AW.aloadr_n 0 dX12_back_27 rfl ?_
        refine AW.iload_n 1 dX12_back_28 rfl ?_
        obtain ⟨r6, e7, h⟩ := hC h
        refine AW.callVi (As := [iv x1]) (st := []) (M_turningBack_ok e7) cq_X12_459 cr_117_X12_turningBack (Nat.le_trans (by decide) hdd) rfl dX12_back_29 rfl (Nat.le_of_ble_eq_true rfl) ?_
        refine AW.goto (tgt := 46) dX12_back_32 (by decide) ?_
        refine AW.sub (lv1 := []) [] rfl ?_
        cases h
        exact J11
set_option synthInstance.maxHeartbeats 2000000 in
theorem M_rung_b_ok {z : AZ} {d : Nat} (hdd : 9 ≤ d) {x2 : Int} : ∀ (x1 : Int) (x3 : Int) (g : AG) (r : Int × AG), M_rung_b x2 x1 x3 g = some r → AW z (RX12, cX12_rung, 5, (some .int)) d (QD (some .int) r) 9 [(0, rv z 117), (1, iv x1), (2, iv x2), (3, iv x3)] [] g := by
  refine M_rung_b.partial_correctness x2 (fun x1 x3 g r => AW z (RX12, cX12_rung, 5, (some .int)) d (QD (some .int) r) 9 [(0, rv z 117), (1, iv x1), (2, iv x2), (3, iv x3)] [] g) ?_
  intro fb9 ih x1 x3 g r h
  refine AW.iload_n 3 dX12_rung_9 rfl ?_
  refine AW.aloadr_n 0 dX12_rung_10 rfl ?_
  refine AW.getI af_X12_444_117 sr_117_49 dX12_rung_11 ?_
  refine AW.icmp_ge (tgt := 67) dX12_rung_14 (by decide) (fun c1 => ?_) (fun c1 => ?_)
  · replace h := hT h c1
    refine AW.iload_n 1 dX12_rung_67 rfl ?_
    exact AW.iret1 rfl dX12_rung_68 h rfl
  · replace h := hF h c1
    refine AW.aloadr_n 0 dX12_rung_17 rfl ?_
    refine AW.iload_n 3 dX12_rung_18 rfl ?_
    obtain ⟨r2, e3, h⟩ := hC h
    refine AW.callVi (As := [iv x3]) (st := []) (M_lateOf_ok e3) cq_X12_447 cr_117_X12_lateOf (Nat.le_trans (by decide) hdd) rfl dX12_rung_19 rfl (Nat.le_of_ble_eq_true rfl) ?_
    obtain ⟨t4, e5, h⟩ := hBe h
    refine AW.join (tgt := 30) (lv1 := [(0, rv z 117), (1, iv x1), (2, iv x2), (3, iv x3)]) (st1 := [iv t4]) (g1 := r2.2) ?_ (fun J22 => ?_)
    · refine AW.istore (lv1 := [(4, iv t4), (0, rv z 117), (1, iv x1), (2, iv x2), (3, iv x3)]) dX12_rung_30 (by decide) rfl ?_
      refine AW.aloadr_n 1 dX12_rung_32 rfl ?_
      refine AW.iconst dX12_rung_33 ?_
      obtain ⟨g6, e7, h⟩ := hBe h
      refine AW.putI ap_X12_232_117 sr_117_11 dX12_rung_34 e7 ?_
      refine AW.iload 0 dX12_rung_37 rfl ?_
      obtain ⟨r12, e13, h⟩ := hC h
      refine AW.join (tgt := 56) (lv1 := [(0, rv z 117), (1, iv r12.1), (2, iv x2), (3, iv x3)]) (st1 := []) (g1 := r12.2) ?_ (fun J39 => ?_)
      · refine AW.aloadr_n 0 dX12_rung_56 rfl ?_
        refine AW.iload_n 2 dX12_rung_57 rfl ?_
        obtain ⟨g14, e15, h⟩ := hBe h
        refine AW.putI ap_X12_232_117 sr_117_11 dX12_rung_58 e15 ?_
        refine AW.iinc (lv1 := [(3, iv (x3 + 1)), (0, rv z 117), (1, iv r12.1), (2, iv x2)]) 3 dX12_rung_61 rfl (by decide) rfl ?_
        refine AW.goto (tgt := 9) dX12_rung_64 (by decide) ?_
        refine AW.sub (lv1 := [(0, rv z 117), (1, iv r12.1), (2, iv x2), (3, iv (x3 + 1))]) [1, 2, 3, 0] rfl ?_
        exact ih _ _ _ _ h
      replace h := e13
      refine AW.if_eq (tgt := 56) dX12_rung_39 (by decide) (fun c8 => ?_) (fun c8 => ?_)
      · replace h := hT h c8
        refine AW.sub (lv1 := [(0, rv z 117), (1, iv x1), (2, iv x2), (3, iv x3)]) [1, 2, 3, 4] rfl ?_
        cases h
        exact J39
      · replace h := hF h c8
        refine AW.aloadr_n 1 dX12_rung_42 rfl ?_
        refine AW.iload_n 4 dX12_rung_43 rfl ?_
        obtain ⟨r9, e10, h⟩ := hC h
        refine AW.callVi (As := [iv x3]) (st := []) (M_lateOf_ok e10) cq_X12_447 cr_117_X12_lateOf (Nat.le_trans (by decide) hdd) rfl dX12_rung_44 rfl (Nat.le_of_ble_eq_true rfl) ?_
        refine AW.if_ne (tgt := 56) dX12_rung_47 (by decide) (fun c11 => ?_) (fun c11 => ?_)
        · replace h := hF h c11
          refine AW.sub (lv1 := [(0, rv z 117), (1, iv x1), (2, iv x2), (3, iv x3)]) [1, 2, 3, 4] rfl ?_
          cases h
          exact J39
        · replace h := hT h c11
          refine AW.iload_n 2 dX12_rung_50 rfl ?_
          refine AW.iconst dX12_rung_51 ?_
          refine AW.iload_n 4 dX12_rung_52 rfl ?_
          refine AW.ishl dX12_rung_53 ?_
          refine AW.ior dX12_rung_54 ?_
          refine AW.istore_n (lv1 := [(1, iv (orI x1 (shlI 1 x3))), (4, iv t4), (0, rv z 117), (2, iv x2), (3, iv x3)]) dX12_rung_55 (by decide) rfl ?_
          refine AW.sub (lv1 := [(0, rv z 117), (1, iv (orI x1 (shlI 1 x3))), (2, iv x2), (3, iv x3)]) [2, 0, 3, 4] rfl ?_
          cases h
          exact J39
    refine AW.if_le (tgt := 29) dX12_rung_22 (by decide) (fun c16 => ?_) (fun c16 => ?_)
    · refine AW.iconst dX12_rung_29 ?_
      exact AW.val (e5.trans (if_pos c16)) J22
    · refine AW.iconst dX12_rung_25 ?_
      refine AW.goto (tgt := 30) dX12_rung_26 (by decide) ?_
      exact AW.val (e5.trans (if_neg c16)) J22
theorem M_rung_ok {z : AZ} {g : AG} {r : Int × AG} (h : M_rung g = some r) : AMf z yX12_rung cX12_rung 5 (some .int) 9 [rv z 117] g r := by
  intro d hdd
  refine AM.of (by decide +kernel) (Nat.le_of_ble_eq_true rfl) ?_
  show AW z (RX12, cX12_rung, 5, (some .int)) d (QD (some .int) r) 0 [(0, rv z 117)] [] g
  unfold M_rung at h
  refine AW.iconst dX12_rung_0 ?_
  refine AW.istore_n (lv1 := [(1, iv 0), (0, rv z 117)]) dX12_rung_1 (by decide) rfl ?_
  refine AW.aloadr_n 1 dX12_rung_2 rfl ?_
  refine AW.getI af_X12_232_117 sr_117_11 dX12_rung_3 ?_
  refine AW.istore_n (lv1 := [(2, iv (g 117 11)), (1, iv 0), (0, rv z 117)]) dX12_rung_6 (by decide) rfl ?_
  refine AW.iconst dX12_rung_7 ?_
  refine AW.istore_n (lv1 := [(3, iv 0), (2, iv (g 117 11)), (1, iv 0), (0, rv z 117)]) dX12_rung_8 (by decide) rfl ?_
  refine AW.sub (lv1 := [(0, rv z 117), (1, iv 0), (2, iv (g 117 11)), (3, iv 0)]) [3, 2, 1, 0] rfl ?_
  exact M_rung_b_ok hdd _ _ _ _ h
theorem M_pump_ok {z : AZ} {x1 : Int} {x2 : Int} {g : AG} {r : Int × AG} (h : M_pump x1 x2 g = some r) : AMf z yX12_pump cX12_pump 3 (some .boolean) 2 [rv z 117, iv x1, iv x2] g r := by
  intro d hdd
  refine AM.of (by decide +kernel) (Nat.le_of_ble_eq_true rfl) ?_
  show AW z (RX12, cX12_pump, 3, (some .boolean)) d (QD (some .boolean) r) 0 [(0, rv z 117), (1, iv x1), (2, iv x2)] [] g
  unfold M_pump at h
  refine AW.iload_n 1 dX12_pump_0 rfl ?_
  refine AW.callSi (As := [iv x1]) (st := []) M_isPoint_ok cq_X12_238 st_X12_isPoint (Nat.le_trans (by decide) hdd) rfl dX12_pump_1 rfl (Nat.le_of_ble_eq_true rfl) ?_
  refine AW.if_ne (tgt := 9) dX12_pump_4 (by decide) (fun c1 => ?_) (fun c1 => ?_)
  · replace h := hF h c1
    refine AW.aloadr_n 0 dX12_pump_9 rfl ?_
    refine AW.getR af_X12_130_117 sr_117_55 dX12_pump_10 ?_
    refine AW.iload_n 1 dX12_pump_13 rfl ?_
    refine AW.iload_n 2 dX12_pump_14 rfl ?_
    obtain ⟨k2, h⟩ := hK h
    obtain ⟨g3, e4, h⟩ := hBe h
    refine AW.zast kc_154 sk_154 k2 k3 dX12_pump_15 e4 ?_
    refine AW.iconst dX12_pump_16 ?_
    exact AW.zret1 rfl (Or.inr rfl) dX12_pump_17 h rfl
  · replace h := hT h c1
    refine AW.iconst dX12_pump_7 ?_
    exact AW.zret1 rfl (Or.inl rfl) dX12_pump_8 h rfl
set_option synthInstance.maxHeartbeats 2000000 in
theorem M_pumped_b_ok {z : AZ} {d : Nat} (hdd : 8 ≤ d) {x1 : Int} {x2 : Int} {x3 : Int} {x4 : Int} {x5 : Int} : ∀ (x6 : Int) (x7 : Int) (x8 : Int) (g : AG) (r : Int × AG), M_pumped_b x1 x2 x3 x4 x5 x6 x7 x8 g = some r → AW z (RX12, cX12_pumped, 10, (some .int)) d (QD (some .int) r) 53 [(0, rv z 117), (1, iv x1), (2, iv x2), (3, iv x3), (4, iv x4), (5, iv x5), (6, iv x6), (7, iv x7), (8, iv x8)] [] g := by
  refine M_pumped_b.partial_correctness x1 x2 x3 x4 x5 (fun x6 x7 x8 g r => AW z (RX12, cX12_pumped, 10, (some .int)) d (QD (some .int) r) 53 [(0, rv z 117), (1, iv x1), (2, iv x2), (3, iv x3), (4, iv x4), (5, iv x5), (6, iv x6), (7, iv x7), (8, iv x8)] [] g) ?_
  intro fb9 ih x6 x7 x8 g r h
  refine AW.iload 8 dX12_pumped_53 rfl ?_
  refine AW.bipush dX12_pumped_55 (by decide) (by decide) ?_
  refine AW.icmp_ge (tgt := 121) dX12_pumped_57 (by decide) (fun c1 => ?_) (fun c1 => ?_)
  · replace h := hT h c1
    refine AW.iload 6 dX12_pumped_121 rfl ?_
    refine AW.iconst dX12_pumped_123 ?_
    obtain ⟨t2, e3, h⟩ := hBe h
    refine AW.join (tgt := 164) (lv1 := [(0, rv z 117), (1, iv x1), (2, iv x2), (3, iv x3), (4, iv x4), (5, iv x5), (6, iv x6), (7, iv x7), (8, iv x8)]) (st1 := [iv t2]) (g1 := g) ?_ (fun J124 => ?_)
    · exact AW.iret1 rfl dX12_pumped_164 h rfl
    refine AW.icmp_eq (tgt := 132) dX12_pumped_124 (by decide) (fun c4 => ?_) (fun c4 => ?_)
    · refine AW.iload 6 dX12_pumped_132 rfl ?_
      refine AW.goto (tgt := 164) dX12_pumped_134 (by decide) ?_
      exact AW.val (e3.trans (if_pos c4)) J124
    · refine AW.iload 5 dX12_pumped_127 rfl ?_
      refine AW.if_ne (tgt := 137) dX12_pumped_129 (by decide) (fun c5 => ?_) (fun c5 => ?_)
      · refine AW.iload 5 dX12_pumped_137 rfl ?_
        refine AW.iconst dX12_pumped_139 ?_
        refine AW.icmp_ne (tgt := 148) dX12_pumped_140 (by decide) (fun c6 => ?_) (fun c6 => ?_)
        · refine AW.iload 4 dX12_pumped_148 rfl ?_
          refine AW.sipush dX12_pumped_150 (by decide) (by decide) ?_
          refine AW.iadd dX12_pumped_153 ?_
          refine AW.iload 7 dX12_pumped_154 rfl ?_
          refine AW.icmp_ge (tgt := 163) dX12_pumped_156 (by decide) (fun c7 => ?_) (fun c7 => ?_)
          · refine AW.iconst dX12_pumped_163 ?_
            exact AW.val (e3.trans ((if_neg c4).trans ((if_neg c5).trans ((if_neg c6).trans (if_pos c7))))) J124
          · refine AW.iconst dX12_pumped_159 ?_
            refine AW.goto (tgt := 164) dX12_pumped_160 (by decide) ?_
            exact AW.val (e3.trans ((if_neg c4).trans ((if_neg c5).trans ((if_neg c6).trans (if_neg c7))))) J124
        · refine AW.iload 7 dX12_pumped_143 rfl ?_
          refine AW.goto (tgt := 164) dX12_pumped_145 (by decide) ?_
          exact AW.val (e3.trans ((if_neg c4).trans ((if_neg c5).trans (if_pos c6)))) J124
      · refine AW.iload 6 dX12_pumped_132 rfl ?_
        refine AW.goto (tgt := 164) dX12_pumped_134 (by decide) ?_
        exact AW.val (e3.trans ((if_neg c4).trans (if_pos c5))) J124
  · replace h := hF h c1
    refine AW.aloadr_n 0 dX12_pumped_60 rfl ?_
    refine AW.getR af_X12_130_117 sr_117_55 dX12_pumped_61 ?_
    refine AW.iload 8 dX12_pumped_64 rfl ?_
    obtain ⟨k8, h⟩ := hK h
    refine AW.zald kc_154 sk_154 k8 dX12_pumped_66 ?_
    obtain ⟨r12, e13, h⟩ := hC h
    refine AW.join (tgt := 83) (lv1 := [(0, rv z 117), (1, iv x1), (2, iv x2), (3, iv x3), (4, iv x4), (5, iv x5), (6, iv x6), (7, iv x7), (8, iv x8)]) (st1 := [iv r12.1]) (g1 := r12.2) ?_ (fun J67 => ?_)
    · refine AW.istore (lv1 := [(9, iv r12.1), (0, rv z 117), (1, iv x1), (2, iv x2), (3, iv x3), (4, iv x4), (5, iv x5), (6, iv x6), (7, iv x7), (8, iv x8)]) dX12_pumped_83 (by decide) rfl ?_
      refine AW.iload 0 dX12_pumped_85 rfl ?_
      refine AW.iconst dX12_pumped_87 ?_
      obtain ⟨r17, e18, h⟩ := hC h
      refine AW.join (tgt := 115) (lv1 := [(0, rv z 117), (1, iv x1), (2, iv x2), (3, iv x3), (4, iv x4), (5, iv x5), (6, iv r17.1), (7, iv r17.2.1), (8, iv x8)]) (st1 := []) (g1 := r17.2.2) ?_ (fun J88 => ?_)
      · refine AW.iinc (lv1 := [(8, iv (x8 + 1)), (0, rv z 117), (1, iv x1), (2, iv x2), (3, iv x3), (4, iv x4), (5, iv x5), (6, iv r17.1), (7, iv r17.2.1)]) 8 dX12_pumped_115 rfl (by decide) rfl ?_
        refine AW.goto (tgt := 53) dX12_pumped_118 (by decide) ?_
        refine AW.sub (lv1 := [(0, rv z 117), (1, iv x1), (2, iv x2), (3, iv x3), (4, iv x4), (5, iv x5), (6, iv r17.1), (7, iv r17.2.1), (8, iv (x8 + 1))]) [1, 2, 3, 4, 5, 6, 7, 8, 0] rfl ?_
        exact ih _ _ _ _ _ h
      replace h := e18
      refine AW.icmp_eq (tgt := 115) dX12_pumped_88 (by decide) (fun c14 => ?_) (fun c14 => ?_)
      · replace h := hT h c14
        refine AW.sub (lv1 := [(0, rv z 117), (1, iv x1), (2, iv x2), (3, iv x3), (4, iv x4), (5, iv x5), (6, iv x6), (7, iv x7), (8, iv x8)]) [1, 2, 3, 4, 5, 6, 7, 8, 9] rfl ?_
        cases h
        exact J88
      · replace h := hF h c14
        refine AW.iload 7 dX12_pumped_91 rfl ?_
        refine AW.iconst dX12_pumped_93 ?_
        refine AW.icmp_eq (tgt := 107) dX12_pumped_94 (by decide) (fun c15 => ?_) (fun c15 => ?_)
        · replace h := hT h c15
          refine AW.iload 9 dX12_pumped_107 rfl ?_
          refine AW.istore (lv1 := [(6, iv x8), (9, iv r12.1), (0, rv z 117), (1, iv x1), (2, iv x2), (3, iv x3), (4, iv x4), (5, iv x5), (7, iv x7), (8, iv x8)]) dX12_pumped_109 (by decide) rfl ?_
          refine AW.iload 1 dX12_pumped_111 rfl ?_
          refine AW.istore (lv1 := [(7, iv r12.1), (6, iv x8), (9, iv r12.1), (0, rv z 117), (1, iv x1), (2, iv x2), (3, iv x3), (4, iv x4), (5, iv x5), (8, iv x8)]) dX12_pumped_113 (by decide) rfl ?_
          refine AW.sub (lv1 := [(0, rv z 117), (1, iv x1), (2, iv x2), (3, iv x3), (4, iv x4), (5, iv x5), (6, iv x8), (7, iv r12.1), (8, iv x8)]) [3, 4, 5, 6, 7, 8, 1, 0, 9] rfl ?_
          cases h
          exact J88
        · replace h := hF h c15
          refine AW.iload 0 dX12_pumped_97 rfl ?_
          refine AW.iload 8 dX12_pumped_99 rfl ?_
          refine AW.icmp_lt (tgt := 107) dX12_pumped_101 (by decide) (fun c16 => ?_) (fun c16 => ?_)
          · replace h := hT h c16
            refine AW.iload 9 dX12_pumped_107 rfl ?_
            refine AW.istore (lv1 := [(6, iv x8), (9, iv r12.1), (0, rv z 117), (1, iv x1), (2, iv x2), (3, iv x3), (4, iv x4), (5, iv x5), (7, iv x7), (8, iv x8)]) dX12_pumped_109 (by decide) rfl ?_
            refine AW.iload 1 dX12_pumped_111 rfl ?_
            refine AW.istore (lv1 := [(7, iv r12.1), (6, iv x8), (9, iv r12.1), (0, rv z 117), (1, iv x1), (2, iv x2), (3, iv x3), (4, iv x4), (5, iv x5), (8, iv x8)]) dX12_pumped_113 (by decide) rfl ?_
            refine AW.sub (lv1 := [(0, rv z 117), (1, iv x1), (2, iv x2), (3, iv x3), (4, iv x4), (5, iv x5), (6, iv x8), (7, iv r12.1), (8, iv x8)]) [3, 4, 5, 6, 7, 8, 1, 0, 9] rfl ?_
            cases h
            exact J88
          · replace h := hF h c16
            refine AW.goto (tgt := 115) dX12_pumped_104 (by decide) ?_
            refine AW.sub (lv1 := [(0, rv z 117), (1, iv x1), (2, iv x2), (3, iv x3), (4, iv x4), (5, iv x5), (6, iv x6), (7, iv x7), (8, iv x8)]) [1, 2, 3, 4, 5, 6, 7, 8, 9] rfl ?_
            cases h
            exact J88
    replace h := e13
    refine AW.if_eq (tgt := 82) dX12_pumped_67 (by decide) (fun c9 => ?_) (fun c9 => ?_)
    · replace h := hT h c9
      refine AW.iconst dX12_pumped_82 ?_
      cases h
      exact J67
    · replace h := hF h c9
      refine AW.aloadr_n 0 dX12_pumped_70 rfl ?_
      refine AW.iload_n 1 dX12_pumped_71 rfl ?_
      refine AW.iload_n 2 dX12_pumped_72 rfl ?_
      refine AW.iload 8 dX12_pumped_73 rfl ?_
      refine AW.iload_n 3 dX12_pumped_75 rfl ?_
      obtain ⟨r10, e11, h⟩ := hC h
      refine AW.callVi (As := [iv x1, iv x2, iv x8, iv x3]) (st := []) (M_led_ok e11) cq_X12_441 cr_117_X12_led (Nat.le_trans (by decide) hdd) rfl dX12_pumped_76 rfl (Nat.le_of_ble_eq_true rfl) ?_
      refine AW.goto (tgt := 83) dX12_pumped_79 (by decide) ?_
      cases h
      exact J67
theorem M_pumped_ok {z : AZ} {x1 : Int} {x2 : Int} {x3 : Int} {x4 : Int} {x5 : Int} {g : AG} {r : Int × AG} (h : M_pumped x1 x2 x3 x4 x5 g = some r) : AMf z yX12_pumped cX12_pumped 10 (some .int) 8 [rv z 117, iv x1, iv x2, iv x3, iv x4, iv x5] g r := by
  intro d hdd
  refine AM.of (by decide +kernel) (Nat.le_of_ble_eq_true rfl) ?_
  show AW z (RX12, cX12_pumped, 10, (some .int)) d (QD (some .int) r) 0 [(0, rv z 117), (1, iv x1), (2, iv x2), (3, iv x3), (4, iv x4), (5, iv x5)] [] g
  unfold M_pumped at h
  refine AW.aloadr_n 0 dX12_pumped_0 rfl ?_
  refine AW.iload_n 1 dX12_pumped_1 rfl ?_
  refine AW.callVi (As := [iv x1]) (st := []) M_isBoat_ok cq_X12_435 cr_117_X12_isBoat (Nat.le_trans (by decide) hdd) rfl dX12_pumped_2 rfl (Nat.le_of_ble_eq_true rfl) ?_
  refine AW.if_eq (tgt := 42) dX12_pumped_5 (by decide) (fun c1 => ?_) (fun c1 => ?_)
  · replace h := hT h c1
    refine AW.iconst dX12_pumped_42 ?_
    exact AW.iret1 rfl dX12_pumped_43 h rfl
  · replace h := hF h c1
    refine AW.iload_n 2 dX12_pumped_8 rfl ?_
    refine AW.callSi (As := [iv x2]) (st := []) M_isPoint_ok cq_X12_238 st_X12_isPoint (Nat.le_trans (by decide) hdd) rfl dX12_pumped_9 rfl (Nat.le_of_ble_eq_true rfl) ?_
    refine AW.if_eq (tgt := 42) dX12_pumped_12 (by decide) (fun c2 => ?_) (fun c2 => ?_)
    · replace h := hT h c2
      refine AW.iconst dX12_pumped_42 ?_
      exact AW.iret1 rfl dX12_pumped_43 h rfl
    · replace h := hF h c2
      refine AW.iload_n 3 dX12_pumped_15 rfl ?_
      refine AW.callSi (As := [iv x3]) (st := []) M_isTime_ok cq_X12_438 st_X12_isTime (Nat.le_trans (by decide) hdd) rfl dX12_pumped_16 rfl (Nat.le_of_ble_eq_true rfl) ?_
      refine AW.if_eq (tgt := 42) dX12_pumped_19 (by decide) (fun c3 => ?_) (fun c3 => ?_)
      · replace h := hT h c3
        refine AW.iconst dX12_pumped_42 ?_
        exact AW.iret1 rfl dX12_pumped_43 h rfl
      · replace h := hF h c3
        refine AW.iload 4 dX12_pumped_22 rfl ?_
        refine AW.iconst dX12_pumped_24 ?_
        refine AW.iload_n 3 dX12_pumped_25 rfl ?_
        refine AW.callSi (As := [iv x4, iv 0, iv x3]) (st := []) M_isIn_ok cq_X12_3 st_X12_isIn (Nat.le_trans (by decide) hdd) rfl dX12_pumped_26 rfl (Nat.le_of_ble_eq_true rfl) ?_
        refine AW.if_eq (tgt := 42) dX12_pumped_29 (by decide) (fun c4 => ?_) (fun c4 => ?_)
        · replace h := hT h c4
          refine AW.iconst dX12_pumped_42 ?_
          exact AW.iret1 rfl dX12_pumped_43 h rfl
        · replace h := hF h c4
          refine AW.iload 5 dX12_pumped_32 rfl ?_
          refine AW.iconst dX12_pumped_34 ?_
          refine AW.iconst dX12_pumped_35 ?_
          refine AW.callSi (As := [iv x5, iv 0, iv 2]) (st := []) M_isIn_ok cq_X12_3 st_X12_isIn (Nat.le_trans (by decide) hdd) rfl dX12_pumped_36 rfl (Nat.le_of_ble_eq_true rfl) ?_
          refine AW.if_ne (tgt := 44) dX12_pumped_39 (by decide) (fun c5 => ?_) (fun c5 => ?_)
          · replace h := hF h c5
            refine AW.iconst dX12_pumped_44 ?_
            refine AW.istore (lv1 := [(6, iv (-1)), (0, rv z 117), (1, iv x1), (2, iv x2), (3, iv x3), (4, iv x4), (5, iv x5)]) dX12_pumped_45 (by decide) rfl ?_
            refine AW.iconst dX12_pumped_47 ?_
            refine AW.istore (lv1 := [(7, iv (-1)), (6, iv (-1)), (0, rv z 117), (1, iv x1), (2, iv x2), (3, iv x3), (4, iv x4), (5, iv x5)]) dX12_pumped_48 (by decide) rfl ?_
            refine AW.iconst dX12_pumped_50 ?_
            refine AW.istore (lv1 := [(8, iv 0), (7, iv (-1)), (6, iv (-1)), (0, rv z 117), (1, iv x1), (2, iv x2), (3, iv x3), (4, iv x4), (5, iv x5)]) dX12_pumped_51 (by decide) rfl ?_
            refine AW.sub (lv1 := [(0, rv z 117), (1, iv x1), (2, iv x2), (3, iv x3), (4, iv x4), (5, iv x5), (6, iv (-1)), (7, iv (-1)), (8, iv 0)]) [3, 4, 5, 6, 7, 8, 2, 1, 0] rfl ?_
            exact M_pumped_b_ok hdd _ _ _ _ _ h
          · replace h := hT h c5
            refine AW.iconst dX12_pumped_42 ?_
            exact AW.iret1 rfl dX12_pumped_43 h rfl
set_option synthInstance.maxHeartbeats 2000000 in
theorem M_log_b_ok {z : AZ} {d : Nat} (hdd : 2 ≤ d) {x1 : Int} {x2 : Int} {x3 : Int} {g : AG} : ∀ (r : Int × AG), M_log_b x1 x2 x3 g = some r → AW z (RX12, cX12_log, 4, (some .int)) d (QD (some .int) r) 66 [(0, rv z 117), (1, iv x1), (2, iv x2), (3, iv x3)] [] g := by
  refine M_log_b.partial_correctness x1 x2 x3 g (fun r => AW z (RX12, cX12_log, 4, (some .int)) d (QD (some .int) r) 66 [(0, rv z 117), (1, iv x1), (2, iv x2), (3, iv x3)] [] g) ?_
  intro fb9 ih r h
  refine AW.aloadr_n 0 dX12_log_66 rfl ?_
  refine AW.getR af_X12_136_117 sr_117_57 dX12_log_67 ?_
  refine AW.bipush dX12_log_70 (by decide) (by decide) ?_
  refine AW.iload_n 1 dX12_log_72 rfl ?_
  refine AW.imul dX12_log_73 ?_
  refine AW.aloadr_n 0 dX12_log_74 rfl ?_
  refine AW.getR af_X12_133_117 sr_117_56 dX12_log_75 ?_
  refine AW.iload_n 1 dX12_log_78 rfl ?_
  obtain ⟨k1, h⟩ := hK h
  refine AW.iald kc_155 sk_155 k1 dX12_log_79 ?_
  refine AW.iadd dX12_log_80 ?_
  refine AW.iload_n 2 dX12_log_81 rfl ?_
  obtain ⟨k2, h⟩ := hK h
  obtain ⟨g3, e4, h⟩ := hBe h
  refine AW.iast kc_156 sk_156 k2 dX12_log_82 e4 ?_
  refine AW.aloadr_n 0 dX12_log_83 rfl ?_
  refine AW.getR af_X12_139_117 sr_117_58 dX12_log_84 ?_
  refine AW.bipush dX12_log_87 (by decide) (by decide) ?_
  refine AW.iload_n 1 dX12_log_89 rfl ?_
  refine AW.imul dX12_log_90 ?_
  refine AW.aloadr_n 0 dX12_log_91 rfl ?_
  refine AW.getR af_X12_133_117 sr_117_56 dX12_log_92 ?_
  refine AW.iload_n 1 dX12_log_95 rfl ?_
  refine AW.iald kc_155 sk_155 k1 dX12_log_96 ?_
  refine AW.iadd dX12_log_97 ?_
  refine AW.iload_n 3 dX12_log_98 rfl ?_
  obtain ⟨k5, h⟩ := hK h
  obtain ⟨g6, e7, h⟩ := hBe h
  refine AW.iast kc_157 sk_157 k5 dX12_log_99 e7 ?_
  refine AW.aloadr_n 0 dX12_log_100 rfl ?_
  refine AW.getR af_X12_133_117 sr_117_56 dX12_log_101 ?_
  refine AW.iload_n 1 dX12_log_104 rfl ?_
  refine AW.dup2r dX12_log_105 ?_
  refine AW.iald kc_155 sk_155 k1 dX12_log_106 ?_
  refine AW.iconst dX12_log_107 ?_
  refine AW.iadd dX12_log_108 ?_
  obtain ⟨g8, e9, h⟩ := hBe h
  refine AW.iast kc_155 sk_155 k1 dX12_log_109 e9 ?_
  refine AW.aloadr_n 0 dX12_log_110 rfl ?_
  refine AW.getR af_X12_133_117 sr_117_56 dX12_log_111 ?_
  refine AW.iload_n 1 dX12_log_114 rfl ?_
  refine AW.iald kc_155 sk_155 k1 dX12_log_115 ?_
  exact AW.iret1 rfl dX12_log_116 h rfl
theorem M_log_ok {z : AZ} {x1 : Int} {x2 : Int} {x3 : Int} {g : AG} {r : Int × AG} (h : M_log x1 x2 x3 g = some r) : AMf z yX12_log cX12_log 4 (some .int) 2 [rv z 117, iv x1, iv x2, iv x3] g r := by
  intro d hdd
  refine AM.of (by decide +kernel) (Nat.le_of_ble_eq_true rfl) ?_
  show AW z (RX12, cX12_log, 4, (some .int)) d (QD (some .int) r) 0 [(0, rv z 117), (1, iv x1), (2, iv x2), (3, iv x3)] [] g
  unfold M_log at h
  refine AW.aloadr_n 0 dX12_log_0 rfl ?_
  refine AW.iload_n 1 dX12_log_1 rfl ?_
  refine AW.callVi (As := [iv x1]) (st := []) M_isBoat_ok cq_X12_435 cr_117_X12_isBoat (Nat.le_trans (by decide) hdd) rfl dX12_log_2 rfl (Nat.le_of_ble_eq_true rfl) ?_
  refine AW.if_eq (tgt := 64) dX12_log_5 (by decide) (fun c1 => ?_) (fun c1 => ?_)
  · replace h := hT h c1
    refine AW.iconst dX12_log_64 ?_
    exact AW.iret1 rfl dX12_log_65 h rfl
  · replace h := hF h c1
    refine AW.iload_n 2 dX12_log_8 rfl ?_
    refine AW.callSi (As := [iv x2]) (st := []) M_isPoint_ok cq_X12_238 st_X12_isPoint (Nat.le_trans (by decide) hdd) rfl dX12_log_9 rfl (Nat.le_of_ble_eq_true rfl) ?_
    refine AW.if_eq (tgt := 64) dX12_log_12 (by decide) (fun c2 => ?_) (fun c2 => ?_)
    · replace h := hT h c2
      refine AW.iconst dX12_log_64 ?_
      exact AW.iret1 rfl dX12_log_65 h rfl
    · replace h := hF h c2
      refine AW.iload_n 3 dX12_log_15 rfl ?_
      refine AW.callSi (As := [iv x3]) (st := []) M_isTime_ok cq_X12_438 st_X12_isTime (Nat.le_trans (by decide) hdd) rfl dX12_log_16 rfl (Nat.le_of_ble_eq_true rfl) ?_
      refine AW.if_eq (tgt := 64) dX12_log_19 (by decide) (fun c3 => ?_) (fun c3 => ?_)
      · replace h := hT h c3
        refine AW.iconst dX12_log_64 ?_
        exact AW.iret1 rfl dX12_log_65 h rfl
      · replace h := hF h c3
        refine AW.aloadr_n 0 dX12_log_22 rfl ?_
        refine AW.getR af_X12_133_117 sr_117_56 dX12_log_23 ?_
        refine AW.iload_n 1 dX12_log_26 rfl ?_
        obtain ⟨k4, h⟩ := hK h
        refine AW.iald kc_155 sk_155 k4 dX12_log_27 ?_
        refine AW.bipush dX12_log_28 (by decide) (by decide) ?_
        refine AW.icmp_eq (tgt := 64) dX12_log_30 (by decide) (fun c5 => ?_) (fun c5 => ?_)
        · replace h := hT h c5
          refine AW.iconst dX12_log_64 ?_
          exact AW.iret1 rfl dX12_log_65 h rfl
        · replace h := hF h c5
          refine AW.aloadr_n 0 dX12_log_33 rfl ?_
          refine AW.getR af_X12_133_117 sr_117_56 dX12_log_34 ?_
          refine AW.iload_n 1 dX12_log_37 rfl ?_
          refine AW.iald kc_155 sk_155 k4 dX12_log_38 ?_
          refine AW.if_le (tgt := 66) dX12_log_39 (by decide) (fun c6 => ?_) (fun c6 => ?_)
          · replace h := hT h c6
            exact M_log_b_ok hdd _ h
          · replace h := hF h c6
            refine AW.iload_n 3 dX12_log_42 rfl ?_
            refine AW.aloadr_n 0 dX12_log_43 rfl ?_
            refine AW.getR af_X12_139_117 sr_117_58 dX12_log_44 ?_
            refine AW.bipush dX12_log_47 (by decide) (by decide) ?_
            refine AW.iload_n 1 dX12_log_49 rfl ?_
            refine AW.imul dX12_log_50 ?_
            refine AW.aloadr_n 0 dX12_log_51 rfl ?_
            refine AW.getR af_X12_133_117 sr_117_56 dX12_log_52 ?_
            refine AW.iload_n 1 dX12_log_55 rfl ?_
            refine AW.iald kc_155 sk_155 k4 dX12_log_56 ?_
            refine AW.iadd dX12_log_57 ?_
            refine AW.iconst dX12_log_58 ?_
            refine AW.isub dX12_log_59 ?_
            obtain ⟨k7, h⟩ := hK h
            refine AW.iald kc_157 sk_157 k7 dX12_log_60 ?_
            refine AW.icmp_gt (tgt := 66) dX12_log_61 (by decide) (fun c8 => ?_) (fun c8 => ?_)
            · replace h := hT h c8
              exact M_log_b_ok hdd _ h
            · replace h := hF h c8
              refine AW.iconst dX12_log_64 ?_
              exact AW.iret1 rfl dX12_log_65 h rfl
theorem M_isSpan_ok {z : AZ} {x0 : Int} {x1 : Int} {g : AG} : AMf z yX12_isSpan cX12_isSpan 2 (some .boolean) 2 [iv x0, iv x1] g ((M_isSpan x0 x1), g) := by
  intro d hdd
  refine AM.of (by decide +kernel) (Nat.le_of_ble_eq_true rfl) ?_
  show AW z (RX12, cX12_isSpan, 2, (some .boolean)) d (QD (some .boolean) ((M_isSpan x0 x1), g)) 0 [(0, iv x0), (1, iv x1)] [] g
  refine AW.iload_n 0 dX12_isSpan_0 rfl ?_
  refine AW.callSi (As := [iv x0]) (st := []) M_isTime_ok cq_X12_438 st_X12_isTime (Nat.le_trans (by decide) hdd) rfl dX12_isSpan_1 rfl (Nat.le_of_ble_eq_true rfl) ?_
  refine AW.join (tgt := 23) (lv1 := [(0, iv x0), (1, iv x1)]) (st1 := [iv (if nw (M_isTime x0) = 0 then 0 else (if nw (M_isIn x1 x0 20159) = 0 then 0 else 1))]) (g1 := g) ?_ (fun J4 => ?_)
  · exact AW.zret rfl (by (repeat' split) <;> first | exact Or.inl rfl | exact Or.inr rfl) dX12_isSpan_23 ⟨congrArg (fun v => some (iv v)) (show M_isSpan x0 x1  = (if nw (M_isTime x0) = 0 then 0 else (if nw (M_isIn x1 x0 20159) = 0 then 0 else 1)) from rfl).symm, rfl⟩
  refine AW.if_eq (tgt := 22) dX12_isSpan_4 (by decide) (fun c1 => ?_) (fun c1 => ?_)
  · refine AW.iconst dX12_isSpan_22 ?_
    exact AW.val (if_pos c1) J4
  · refine AW.iload_n 1 dX12_isSpan_7 rfl ?_
    refine AW.iload_n 0 dX12_isSpan_8 rfl ?_
    refine AW.sipush dX12_isSpan_9 (by decide) (by decide) ?_
    refine AW.callSi (As := [iv x1, iv x0, iv 20159]) (st := []) M_isIn_ok cq_X12_3 st_X12_isIn (Nat.le_trans (by decide) hdd) rfl dX12_isSpan_12 rfl (Nat.le_of_ble_eq_true rfl) ?_
    refine AW.if_eq (tgt := 22) dX12_isSpan_15 (by decide) (fun c2 => ?_) (fun c2 => ?_)
    · refine AW.iconst dX12_isSpan_22 ?_
      exact AW.val ((if_neg c1).trans (if_pos c2)) J4
    · refine AW.iconst dX12_isSpan_18 ?_
      refine AW.goto (tgt := 23) dX12_isSpan_19 (by decide) ?_
      exact AW.val ((if_neg c1).trans (if_neg c2)) J4
set_option synthInstance.maxHeartbeats 2000000 in
theorem M_between_b_ok {z : AZ} {d : Nat} (hdd : 8 ≤ d) {x1 : Int} {x2 : Int} {x5 : Int} {x8 : Int} {x9 : Int} {g : AG} : ∀ (r : Int × AG), M_between_b x1 x2 x5 x8 x9 g = some r → AW z (RX12, cX12_between, 11, (some .boolean)) d (QD (some .boolean) r) 136 [(0, rv z 117), (1, iv x1), (2, iv x2), (5, iv x5), (8, iv x8), (9, iv x9)] [] g := by
  refine M_between_b.partial_correctness x1 x2 x5 x8 x9 g (fun r => AW z (RX12, cX12_between, 11, (some .boolean)) d (QD (some .boolean) r) 136 [(0, rv z 117), (1, iv x1), (2, iv x2), (5, iv x5), (8, iv x8), (9, iv x9)] [] g) ?_
  intro fb9 ih r h
  refine AW.iload 5 dX12_between_136 rfl ?_
  refine AW.if_eq (tgt := 143) dX12_between_138 (by decide) (fun c1 => ?_) (fun c1 => ?_)
  · replace h := hT h c1
    refine AW.aloadr_n 0 dX12_between_143 rfl ?_
    refine AW.iload_n 1 dX12_between_144 rfl ?_
    refine AW.iload_n 2 dX12_between_145 rfl ?_
    refine AW.aloadr_n 0 dX12_between_146 rfl ?_
    refine AW.getR af_X12_136_117 sr_117_57 dX12_between_147 ?_
    refine AW.bipush dX12_between_150 (by decide) (by decide) ?_
    refine AW.iload_n 1 dX12_between_152 rfl ?_
    refine AW.imul dX12_between_153 ?_
    refine AW.iload 3 dX12_between_154 rfl ?_
    refine AW.iadd dX12_between_156 ?_
    refine AW.iconst dX12_between_157 ?_
    refine AW.iadd dX12_between_158 ?_
    obtain ⟨k2, h⟩ := hK h
    refine AW.iald kc_156 sk_156 k2 dX12_between_159 ?_
    refine AW.iload 4 dX12_between_160 rfl ?_
    obtain ⟨r3, e4, h⟩ := hC h
    refine AW.callVi (As := [iv x1, iv x2, iv (g 156 (ix (((10 * x1) + x5) + 1))), iv x8]) (st := []) (M_led_ok e4) cq_X12_441 cr_117_X12_led (Nat.le_trans (by decide) hdd) rfl dX12_between_162 rfl (Nat.le_of_ble_eq_true rfl) ?_
    refine AW.istore (lv1 := [(10, iv r3.1), (0, rv z 117), (1, iv x1), (2, iv x2), (5, iv x5), (8, iv x8), (9, iv x9)]) dX12_between_165 (by decide) rfl ?_
    refine AW.iload 0 dX12_between_167 rfl ?_
    refine AW.iconst dX12_between_169 ?_
    obtain ⟨r9, e10, h⟩ := hC h
    refine AW.join (tgt := 197) (lv1 := []) (st1 := [iv r9.1]) (g1 := r9.2) ?_ (fun J170 => ?_)
    · obtain ⟨k11, h⟩ := hK h
      exact AW.zret1 rfl k11 dX12_between_197 h rfl
    replace h := e10
    refine AW.icmp_eq (tgt := 196) dX12_between_170 (by decide) (fun c5 => ?_) (fun c5 => ?_)
    · replace h := hT h c5
      refine AW.iconst dX12_between_196 ?_
      refine AW.sub (lv1 := []) [] rfl ?_
      cases h
      exact J170
    · replace h := hF h c5
      refine AW.iload 0 dX12_between_173 rfl ?_
      refine AW.aloadr_n 1 dX12_between_175 rfl ?_
      refine AW.getR af_X12_139_117 sr_117_58 dX12_between_176 ?_
      refine AW.bipush dX12_between_179 (by decide) (by decide) ?_
      refine AW.iload_n 2 dX12_between_181 rfl ?_
      refine AW.imul dX12_between_182 ?_
      refine AW.iload 4 dX12_between_183 rfl ?_
      refine AW.iadd dX12_between_185 ?_
      refine AW.iconst dX12_between_186 ?_
      refine AW.iadd dX12_between_187 ?_
      refine AW.iald kc_157 sk_157 k2 dX12_between_188 ?_
      obtain ⟨t6, e7, h⟩ := hBe h
      refine AW.join (tgt := 197) (lv1 := [(10, iv r3.1), (0, rv z 117), (1, iv x1), (2, iv x2), (5, iv x5), (8, iv x8), (9, iv x9)]) (st1 := [iv t6]) (g1 := r3.2) ?_ (fun J189 => ?_)
      · refine AW.sub (lv1 := []) [] rfl ?_
        cases h
        exact J170
      refine AW.icmp_gt (tgt := 196) dX12_between_189 (by decide) (fun c8 => ?_) (fun c8 => ?_)
      · refine AW.iconst dX12_between_196 ?_
        exact AW.val (e7.trans (if_pos c8)) J189
      · refine AW.iconst dX12_between_192 ?_
        refine AW.goto (tgt := 197) dX12_between_193 (by decide) ?_
        exact AW.val (e7.trans (if_neg c8)) J189
  · replace h := hF h c1
    refine AW.iconst dX12_between_141 ?_
    exact AW.zret1 rfl (Or.inr rfl) dX12_between_142 h rfl
theorem M_between_ok {z : AZ} {x1 : Int} {x2 : Int} {x3 : Int} {x4 : Int} {x5 : Int} {g : AG} {r : Int × AG} (h : M_between x1 x2 x3 x4 x5 g = some r) : AMf z yX12_between cX12_between 11 (some .boolean) 8 [rv z 117, iv x1, iv x2, iv x3, iv x4, iv x5] g r := by
  intro d hdd
  refine AM.of (by decide +kernel) (Nat.le_of_ble_eq_true rfl) ?_
  show AW z (RX12, cX12_between, 11, (some .boolean)) d (QD (some .boolean) r) 0 [(0, rv z 117), (1, iv x1), (2, iv x2), (3, iv x3), (4, iv x4), (5, iv x5)] [] g
  unfold M_between at h
  refine AW.iload 5 dX12_between_0 rfl ?_
  refine AW.iconst dX12_between_2 ?_
  obtain ⟨r3, e4, h⟩ := hC h
  refine AW.join (tgt := 22) (lv1 := [(0, rv z 117), (1, iv x1), (2, iv x2), (3, iv x3), (4, iv x4), (5, iv x5)]) (st1 := [iv r3.1]) (g1 := r3.2) ?_ (fun J3 => ?_)
  · refine AW.istore (lv1 := [(6, iv r3.1), (0, rv z 117), (1, iv x1), (2, iv x2), (3, iv x3), (4, iv x4), (5, iv x5)]) dX12_between_22 (by decide) rfl ?_
    refine AW.aloadr_n 1 dX12_between_24 rfl ?_
    refine AW.iload_n 2 dX12_between_25 rfl ?_
    refine AW.iload 6 dX12_between_26 rfl ?_
    refine AW.iconst dX12_between_28 ?_
    obtain ⟨r8, e9, h⟩ := hC h
    refine AW.join (tgt := 53) (lv1 := [(0, rv z 117), (1, iv x1), (2, iv x2), (3, iv x3), (4, iv x4), (5, iv x5), (6, iv r3.1)]) (st1 := [iv r8.1, iv x1, rv z 117]) (g1 := r8.2) ?_ (fun J29 => ?_)
    · refine AW.iload_n 2 dX12_between_53 rfl ?_
      refine AW.iload 6 dX12_between_54 rfl ?_
      obtain ⟨r10, e11, h⟩ := hC h
      refine AW.callVi (As := [iv x1, iv r8.1, iv x2, iv r3.1]) (st := []) (M_led_ok e11) cq_X12_441 cr_117_X12_led (Nat.le_trans (by decide) hdd) rfl dX12_between_56 rfl (Nat.le_of_ble_eq_true rfl) ?_
      refine AW.istore (lv1 := [(7, iv r10.1), (0, rv z 117), (1, iv x1), (2, iv x2), (3, iv x3), (4, iv x4), (5, iv x5), (6, iv r3.1)]) dX12_between_59 (by decide) rfl ?_
      refine AW.iload 0 dX12_between_61 rfl ?_
      refine AW.iconst dX12_between_63 ?_
      refine AW.icmp_ne (tgt := 69) dX12_between_64 (by decide) (fun c12 => ?_) (fun c12 => ?_)
      · replace h := hF h c12
        refine AW.iload 0 dX12_between_69 rfl ?_
        refine AW.iload_n 4 dX12_between_71 rfl ?_
        obtain ⟨t13, e14, h⟩ := hBe h
        refine AW.join (tgt := 81) (lv1 := [(7, iv r10.1), (0, rv z 117), (1, iv x1), (2, iv x2), (3, iv x3), (4, iv x4), (5, iv x5), (6, iv r3.1)]) (st1 := [iv t13]) (g1 := r10.2) ?_ (fun J72 => ?_)
        · refine AW.istore (lv1 := [(8, iv t13), (7, iv r10.1), (0, rv z 117), (1, iv x1), (2, iv x2), (3, iv x3), (4, iv x4), (5, iv x5), (6, iv r3.1)]) dX12_between_81 (by decide) rfl ?_
          refine AW.iload 7 dX12_between_83 rfl ?_
          refine AW.iconst dX12_between_85 ?_
          refine AW.iadd dX12_between_86 ?_
          refine AW.aloadr_n 2 dX12_between_87 rfl ?_
          refine AW.getR af_X12_133_117 sr_117_56 dX12_between_88 ?_
          refine AW.iload_n 3 dX12_between_91 rfl ?_
          obtain ⟨k15, h⟩ := hK h
          refine AW.iald kc_155 sk_155 k15 dX12_between_92 ?_
          obtain ⟨t16, e17, h⟩ := hBe h
          refine AW.join (tgt := 101) (lv1 := [(8, iv t13), (7, iv r10.1), (0, rv z 117), (1, iv x1), (2, iv x2), (3, iv x3), (4, iv x4), (5, iv x5), (6, iv r3.1)]) (st1 := [iv t16]) (g1 := r10.2) ?_ (fun J93 => ?_)
          · refine AW.istore (lv1 := [(9, iv t16), (8, iv t13), (7, iv r10.1), (0, rv z 117), (1, iv x1), (2, iv x2), (3, iv x3), (4, iv x4), (5, iv x5), (6, iv r3.1)]) dX12_between_101 (by decide) rfl ?_
            refine AW.iload 1 dX12_between_103 rfl ?_
            refine AW.iload 7 dX12_between_105 rfl ?_
            refine AW.icmp_gt (tgt := 134) dX12_between_107 (by decide) (fun c18 => ?_) (fun c18 => ?_)
            · replace h := hT h c18
              refine AW.iconst dX12_between_134 ?_
              exact AW.zret1 rfl (Or.inl rfl) dX12_between_135 h rfl
            · replace h := hF h c18
              refine AW.iload 0 dX12_between_110 rfl ?_
              refine AW.if_ne (tgt := 136) dX12_between_112 (by decide) (fun c19 => ?_) (fun c19 => ?_)
              · replace h := hF h c19
                refine AW.sub (lv1 := [(0, rv z 117), (1, iv x1), (2, iv x2), (5, iv x5), (8, iv t13), (9, iv t16)]) [3, 4, 5, 8, 1, 0] rfl ?_
                exact M_between_b_ok hdd _ h
              · replace h := hT h c19
                refine AW.iload 1 dX12_between_115 rfl ?_
                refine AW.aloadr_n 3 dX12_between_117 rfl ?_
                refine AW.getR af_X12_139_117 sr_117_58 dX12_between_118 ?_
                refine AW.bipush dX12_between_121 (by decide) (by decide) ?_
                refine AW.iload_n 4 dX12_between_123 rfl ?_
                refine AW.imul dX12_between_124 ?_
                refine AW.iload 8 dX12_between_125 rfl ?_
                refine AW.iadd dX12_between_127 ?_
                refine AW.iconst dX12_between_128 ?_
                refine AW.iadd dX12_between_129 ?_
                obtain ⟨k20, h⟩ := hK h
                refine AW.iald kc_157 sk_157 k20 dX12_between_130 ?_
                refine AW.icmp_lt (tgt := 136) dX12_between_131 (by decide) (fun c21 => ?_) (fun c21 => ?_)
                · replace h := hT h c21
                  refine AW.sub (lv1 := [(0, rv z 117), (1, iv x1), (2, iv x2), (5, iv x5), (8, iv t13), (9, iv t16)]) [3, 4, 5, 8, 1, 0] rfl ?_
                  exact M_between_b_ok hdd _ h
                · replace h := hF h c21
                  refine AW.iconst dX12_between_134 ?_
                  exact AW.zret1 rfl (Or.inl rfl) dX12_between_135 h rfl
          refine AW.icmp_ne (tgt := 100) dX12_between_93 (by decide) (fun c22 => ?_) (fun c22 => ?_)
          · refine AW.iconst dX12_between_100 ?_
            exact AW.val (e17.trans (if_neg c22)) J93
          · refine AW.iconst dX12_between_96 ?_
            refine AW.goto (tgt := 101) dX12_between_97 (by decide) ?_
            exact AW.val (e17.trans (if_pos c22)) J93
        refine AW.icmp_le (tgt := 80) dX12_between_72 (by decide) (fun c23 => ?_) (fun c23 => ?_)
        · refine AW.iload_n 4 dX12_between_80 rfl ?_
          exact AW.val (e14.trans (if_pos c23)) J72
        · refine AW.iload 0 dX12_between_75 rfl ?_
          refine AW.goto (tgt := 81) dX12_between_77 (by decide) ?_
          exact AW.val (e14.trans (if_neg c23)) J72
      · replace h := hT h c12
        refine AW.iconst dX12_between_67 ?_
        exact AW.zret1 rfl (Or.inl rfl) dX12_between_68 h rfl
    replace h := e9
    refine AW.icmp_ne (tgt := 41) dX12_between_29 (by decide) (fun c5 => ?_) (fun c5 => ?_)
    · replace h := hF h c5
      refine AW.aloadr_n 1 dX12_between_41 rfl ?_
      refine AW.getR af_X12_136_117 sr_117_57 dX12_between_42 ?_
      refine AW.bipush dX12_between_45 (by decide) (by decide) ?_
      refine AW.iload_n 2 dX12_between_47 rfl ?_
      refine AW.imul dX12_between_48 ?_
      refine AW.iload 6 dX12_between_49 rfl ?_
      refine AW.iadd dX12_between_51 ?_
      obtain ⟨k6, h⟩ := hK h
      refine AW.iald kc_156 sk_156 k6 dX12_between_52 ?_
      refine AW.sub (lv1 := [(0, rv z 117), (1, iv x1), (2, iv x2), (3, iv x3), (4, iv x4), (5, iv x5), (6, iv r3.1)]) [1, 2, 3, 4, 5, 6, 0] rfl ?_
      cases h
      exact J29
    · replace h := hT h c5
      refine AW.aloadr_n 1 dX12_between_32 rfl ?_
      refine AW.getR af_X12_38_117 sr_117_8 dX12_between_33 ?_
      refine AW.iload_n 2 dX12_between_36 rfl ?_
      obtain ⟨k7, h⟩ := hK h
      refine AW.iald kc_126 sk_126 k7 dX12_between_37 ?_
      refine AW.goto (tgt := 53) dX12_between_38 (by decide) ?_
      refine AW.sub (lv1 := [(0, rv z 117), (1, iv x1), (2, iv x2), (3, iv x3), (4, iv x4), (5, iv x5), (6, iv r3.1)]) [1, 2, 3, 4, 5, 6, 0] rfl ?_
      cases h
      exact J29
  replace h := e4
  refine AW.icmp_ne (tgt := 10) dX12_between_3 (by decide) (fun c1 => ?_) (fun c1 => ?_)
  · replace h := hF h c1
    refine AW.aloadr_n 0 dX12_between_10 rfl ?_
    refine AW.getR af_X12_139_117 sr_117_58 dX12_between_11 ?_
    refine AW.bipush dX12_between_14 (by decide) (by decide) ?_
    refine AW.iload_n 1 dX12_between_16 rfl ?_
    refine AW.imul dX12_between_17 ?_
    refine AW.iload 5 dX12_between_18 rfl ?_
    refine AW.iadd dX12_between_20 ?_
    obtain ⟨k2, h⟩ := hK h
    refine AW.iald kc_157 sk_157 k2 dX12_between_21 ?_
    cases h
    exact J3
  · replace h := hT h c1
    refine AW.iconst dX12_between_6 ?_
    refine AW.goto (tgt := 22) dX12_between_7 (by decide) ?_
    cases h
    exact J3
set_option synthInstance.maxHeartbeats 2000000 in
theorem M_canHaveBeen_b_ok {z : AZ} {d : Nat} (hdd : 9 ≤ d) {x1 : Int} {x2 : Int} {x3 : Int} {x4 : Int} : ∀ (x5 : Int) (g : AG) (r : Int × AG), M_canHaveBeen_b x1 x2 x3 x4 x5 g = some r → AW z (RX12, cX12_canHaveBeen, 6, (some .boolean)) d (QD (some .boolean) r) 3 [(0, rv z 117), (1, iv x1), (2, iv x2), (3, iv x3), (4, iv x4), (5, iv x5)] [] g := by
  refine M_canHaveBeen_b.partial_correctness x1 x2 x3 x4 (fun x5 g r => AW z (RX12, cX12_canHaveBeen, 6, (some .boolean)) d (QD (some .boolean) r) 3 [(0, rv z 117), (1, iv x1), (2, iv x2), (3, iv x3), (4, iv x4), (5, iv x5)] [] g) ?_
  intro fb9 ih x5 g r h
  refine AW.iload 5 dX12_canHaveBeen_3 rfl ?_
  refine AW.aloadr_n 0 dX12_canHaveBeen_5 rfl ?_
  refine AW.getR af_X12_133_117 sr_117_56 dX12_canHaveBeen_6 ?_
  refine AW.iload_n 1 dX12_canHaveBeen_9 rfl ?_
  obtain ⟨k1, h⟩ := hK h
  refine AW.iald kc_155 sk_155 k1 dX12_canHaveBeen_10 ?_
  refine AW.icmp_ge (tgt := 36) dX12_canHaveBeen_11 (by decide) (fun c2 => ?_) (fun c2 => ?_)
  · replace h := hT h c2
    refine AW.iconst dX12_canHaveBeen_36 ?_
    exact AW.zret1 rfl (Or.inl rfl) dX12_canHaveBeen_37 h rfl
  · replace h := hF h c2
    refine AW.aloadr_n 0 dX12_canHaveBeen_14 rfl ?_
    refine AW.iload_n 1 dX12_canHaveBeen_15 rfl ?_
    refine AW.iload_n 2 dX12_canHaveBeen_16 rfl ?_
    refine AW.iload_n 3 dX12_canHaveBeen_17 rfl ?_
    refine AW.iload 4 dX12_canHaveBeen_18 rfl ?_
    refine AW.iload 5 dX12_canHaveBeen_20 rfl ?_
    obtain ⟨r3, e4, h⟩ := hC h
    refine AW.callVi (As := [iv x1, iv x2, iv x3, iv x4, iv x5]) (st := []) (M_between_ok e4) cq_X12_465 cr_117_X12_between (Nat.le_trans (by decide) hdd) rfl dX12_canHaveBeen_22 rfl (Nat.le_of_ble_eq_true rfl) ?_
    refine AW.if_eq (tgt := 30) dX12_canHaveBeen_25 (by decide) (fun c5 => ?_) (fun c5 => ?_)
    · replace h := hT h c5
      refine AW.iinc (lv1 := [(5, iv (x5 + 1)), (0, rv z 117), (1, iv x1), (2, iv x2), (3, iv x3), (4, iv x4)]) 5 dX12_canHaveBeen_30 rfl (by decide) rfl ?_
      refine AW.goto (tgt := 3) dX12_canHaveBeen_33 (by decide) ?_
      refine AW.sub (lv1 := [(0, rv z 117), (1, iv x1), (2, iv x2), (3, iv x3), (4, iv x4), (5, iv (x5 + 1))]) [1, 2, 3, 4, 5, 0] rfl ?_
      exact ih _ _ _ h
    · replace h := hF h c5
      refine AW.iconst dX12_canHaveBeen_28 ?_
      exact AW.zret1 rfl (Or.inr rfl) dX12_canHaveBeen_29 h rfl
theorem M_canHaveBeen_ok {z : AZ} {x1 : Int} {x2 : Int} {x3 : Int} {x4 : Int} {g : AG} {r : Int × AG} (h : M_canHaveBeen x1 x2 x3 x4 g = some r) : AMf z yX12_canHaveBeen cX12_canHaveBeen 6 (some .boolean) 9 [rv z 117, iv x1, iv x2, iv x3, iv x4] g r := by
  intro d hdd
  refine AM.of (by decide +kernel) (Nat.le_of_ble_eq_true rfl) ?_
  show AW z (RX12, cX12_canHaveBeen, 6, (some .boolean)) d (QD (some .boolean) r) 0 [(0, rv z 117), (1, iv x1), (2, iv x2), (3, iv x3), (4, iv x4)] [] g
  unfold M_canHaveBeen at h
  refine AW.iconst dX12_canHaveBeen_0 ?_
  refine AW.istore (lv1 := [(5, iv (-1)), (0, rv z 117), (1, iv x1), (2, iv x2), (3, iv x3), (4, iv x4)]) dX12_canHaveBeen_1 (by decide) rfl ?_
  refine AW.sub (lv1 := [(0, rv z 117), (1, iv x1), (2, iv x2), (3, iv x3), (4, iv x4), (5, iv (-1))]) [1, 2, 3, 4, 5, 0] rfl ?_
  exact M_canHaveBeen_b_ok hdd _ _ _ h
theorem M_could_ok {z : AZ} {x1 : Int} {x2 : Int} {x3 : Int} {x4 : Int} {g : AG} {r : Int × AG} (h : M_could x1 x2 x3 x4 g = some r) : AMf z yX12_could cX12_could 5 (some .int) 10 [rv z 117, iv x1, iv x2, iv x3, iv x4] g r := by
  intro d hdd
  refine AM.of (by decide +kernel) (Nat.le_of_ble_eq_true rfl) ?_
  show AW z (RX12, cX12_could, 5, (some .int)) d (QD (some .int) r) 0 [(0, rv z 117), (1, iv x1), (2, iv x2), (3, iv x3), (4, iv x4)] [] g
  unfold M_could at h
  refine AW.aloadr_n 0 dX12_could_0 rfl ?_
  refine AW.iload_n 1 dX12_could_1 rfl ?_
  refine AW.callVi (As := [iv x1]) (st := []) M_isBoat_ok cq_X12_435 cr_117_X12_isBoat (Nat.le_trans (by decide) hdd) rfl dX12_could_2 rfl (Nat.le_of_ble_eq_true rfl) ?_
  obtain ⟨r9, e10, h⟩ := hC h
  refine AW.join (tgt := 45) (lv1 := []) (st1 := [iv r9.1]) (g1 := r9.2) ?_ (fun J5 => ?_)
  · exact AW.iret1 rfl dX12_could_45 h rfl
  replace h := e10
  refine AW.if_eq (tgt := 44) dX12_could_5 (by decide) (fun c1 => ?_) (fun c1 => ?_)
  · replace h := hT h c1
    refine AW.iconst dX12_could_44 ?_
    refine AW.sub (lv1 := []) [] rfl ?_
    cases h
    exact J5
  · replace h := hF h c1
    refine AW.iload_n 2 dX12_could_8 rfl ?_
    refine AW.callSi (As := [iv x2]) (st := []) M_isPoint_ok cq_X12_238 st_X12_isPoint (Nat.le_trans (by decide) hdd) rfl dX12_could_9 rfl (Nat.le_of_ble_eq_true rfl) ?_
    refine AW.if_eq (tgt := 44) dX12_could_12 (by decide) (fun c2 => ?_) (fun c2 => ?_)
    · replace h := hT h c2
      refine AW.iconst dX12_could_44 ?_
      refine AW.sub (lv1 := []) [] rfl ?_
      cases h
      exact J5
    · replace h := hF h c2
      refine AW.iload_n 3 dX12_could_15 rfl ?_
      refine AW.iload 4 dX12_could_16 rfl ?_
      refine AW.callSi (As := [iv x3, iv x4]) (st := []) M_isSpan_ok cq_X12_469 st_X12_isSpan (Nat.le_trans (by decide) hdd) rfl dX12_could_18 rfl (Nat.le_of_ble_eq_true rfl) ?_
      refine AW.if_eq (tgt := 44) dX12_could_21 (by decide) (fun c3 => ?_) (fun c3 => ?_)
      · replace h := hT h c3
        refine AW.iconst dX12_could_44 ?_
        refine AW.sub (lv1 := []) [] rfl ?_
        cases h
        exact J5
      · replace h := hF h c3
        refine AW.aloadr_n 0 dX12_could_24 rfl ?_
        refine AW.iload_n 1 dX12_could_25 rfl ?_
        refine AW.iload_n 2 dX12_could_26 rfl ?_
        refine AW.iload_n 3 dX12_could_27 rfl ?_
        refine AW.iload 4 dX12_could_28 rfl ?_
        obtain ⟨r4, e5, h⟩ := hC h
        refine AW.callVi (As := [iv x1, iv x2, iv x3, iv x4]) (st := []) (M_canHaveBeen_ok e5) cq_X12_472 cr_117_X12_canHaveBeen (Nat.le_trans (by decide) hdd) rfl dX12_could_30 rfl (Nat.le_of_ble_eq_true rfl) ?_
        obtain ⟨t6, e7, h⟩ := hBe h
        refine AW.join (tgt := 45) (lv1 := [(0, rv z 117), (1, iv x1), (2, iv x2), (3, iv x3), (4, iv x4)]) (st1 := [iv t6]) (g1 := r4.2) ?_ (fun J33 => ?_)
        · refine AW.sub (lv1 := []) [] rfl ?_
          cases h
          exact J5
        refine AW.if_eq (tgt := 40) dX12_could_33 (by decide) (fun c8 => ?_) (fun c8 => ?_)
        · refine AW.iconst dX12_could_40 ?_
          refine AW.goto (tgt := 45) dX12_could_41 (by decide) ?_
          exact AW.val (e7.trans (if_pos c8)) J33
        · refine AW.iconst dX12_could_36 ?_
          refine AW.goto (tgt := 45) dX12_could_37 (by decide) ?_
          exact AW.val (e7.trans (if_neg c8)) J33
set_option synthInstance.maxHeartbeats 2000000 in
theorem M_whose_b_ok {z : AZ} {d : Nat} (hdd : 10 ≤ d) {x1 : Int} {x2 : Int} {x3 : Int} {x4 : Int} : ∀ (x5 : Int) (x6 : Int) (x7 : Int) (x8 : Int) (g : AG) (r : Int × AG), M_whose_b x1 x2 x3 x4 x5 x6 x7 x8 g = some r → AW z (RX12, cX12_whose, 9, (some .int)) d (QD (some .int) r) 39 [(0, rv z 117), (1, iv x1), (2, iv x2), (3, iv x3), (4, iv x4), (5, iv x5), (6, iv x6), (7, iv x7), (8, iv x8)] [] g := by
  refine M_whose_b.partial_correctness x1 x2 x3 x4 (fun x5 x6 x7 x8 g r => AW z (RX12, cX12_whose, 9, (some .int)) d (QD (some .int) r) 39 [(0, rv z 117), (1, iv x1), (2, iv x2), (3, iv x3), (4, iv x4), (5, iv x5), (6, iv x6), (7, iv x7), (8, iv x8)] [] g) ?_
  intro fb9 ih x5 x6 x7 x8 g r h
  refine AW.iload 8 dX12_whose_39 rfl ?_
  refine AW.aloadr_n 0 dX12_whose_41 rfl ?_
  refine AW.getI af_X12_235_117 sr_117_12 dX12_whose_42 ?_
  refine AW.icmp_ge (tgt := 85) dX12_whose_45 (by decide) (fun c1 => ?_) (fun c1 => ?_)
  · replace h := hT h c1
    refine AW.iload 4 dX12_whose_85 rfl ?_
    obtain ⟨t2, e3, h⟩ := hBe h
    refine AW.join (tgt := 107) (lv1 := [(0, rv z 117), (1, iv x1), (2, iv x2), (3, iv x3), (4, iv x4), (5, iv x5), (6, iv x6), (7, iv x7), (8, iv x8)]) (st1 := [iv t2]) (g1 := g) ?_ (fun J87 => ?_)
    · exact AW.iret1 rfl dX12_whose_107 h rfl
    refine AW.if_ne (tgt := 95) dX12_whose_87 (by decide) (fun c4 => ?_) (fun c4 => ?_)
    · refine AW.iload 7 dX12_whose_95 rfl ?_
      refine AW.iconst dX12_whose_97 ?_
      refine AW.icmp_ne (tgt := 106) dX12_whose_98 (by decide) (fun c5 => ?_) (fun c5 => ?_)
      · refine AW.iconst dX12_whose_106 ?_
        exact AW.val (e3.trans ((if_neg c4).trans (if_neg c5))) J87
      · refine AW.iload 6 dX12_whose_101 rfl ?_
        refine AW.goto (tgt := 107) dX12_whose_103 (by decide) ?_
        exact AW.val (e3.trans ((if_neg c4).trans (if_pos c5))) J87
    · refine AW.iload 5 dX12_whose_90 rfl ?_
      refine AW.goto (tgt := 107) dX12_whose_92 (by decide) ?_
      exact AW.val (e3.trans (if_pos c4)) J87
  · replace h := hF h c1
    refine AW.aloadr_n 0 dX12_whose_48 rfl ?_
    refine AW.iload 8 dX12_whose_49 rfl ?_
    refine AW.iload_n 1 dX12_whose_51 rfl ?_
    refine AW.iload_n 2 dX12_whose_52 rfl ?_
    refine AW.iload_n 3 dX12_whose_53 rfl ?_
    obtain ⟨r6, e7, h⟩ := hC h
    refine AW.callVi (As := [iv x8, iv x1, iv x2, iv x3]) (st := []) (M_canHaveBeen_ok e7) cq_X12_472 cr_117_X12_canHaveBeen (Nat.le_trans (by decide) hdd) rfl dX12_whose_54 rfl (Nat.le_of_ble_eq_true rfl) ?_
    obtain ⟨r9, e10, h⟩ := hC h
    refine AW.join (tgt := 79) (lv1 := [(0, rv z 117), (1, iv x1), (2, iv x2), (3, iv x3), (4, iv x4), (5, iv r9.1), (6, iv r9.2.1), (7, iv r9.2.2.1), (8, iv x8)]) (st1 := []) (g1 := r9.2.2.2) ?_ (fun J57 => ?_)
    · refine AW.iinc (lv1 := [(8, iv (x8 + 1)), (0, rv z 117), (1, iv x1), (2, iv x2), (3, iv x3), (4, iv x4), (5, iv r9.1), (6, iv r9.2.1), (7, iv r9.2.2.1)]) 8 dX12_whose_79 rfl (by decide) rfl ?_
      refine AW.goto (tgt := 39) dX12_whose_82 (by decide) ?_
      refine AW.sub (lv1 := [(0, rv z 117), (1, iv x1), (2, iv x2), (3, iv x3), (4, iv x4), (5, iv r9.1), (6, iv r9.2.1), (7, iv r9.2.2.1), (8, iv (x8 + 1))]) [1, 2, 3, 4, 5, 6, 7, 8, 0] rfl ?_
      exact ih _ _ _ _ _ _ h
    replace h := e10
    refine AW.if_ne (tgt := 63) dX12_whose_57 (by decide) (fun c8 => ?_) (fun c8 => ?_)
    · replace h := hF h c8
      refine AW.iload 5 dX12_whose_63 rfl ?_
      refine AW.iconst dX12_whose_65 ?_
      refine AW.iload 8 dX12_whose_66 rfl ?_
      refine AW.ishl dX12_whose_68 ?_
      refine AW.ior dX12_whose_69 ?_
      refine AW.istore (lv1 := [(5, iv (orI x5 (shlI 1 x8))), (0, rv z 117), (1, iv x1), (2, iv x2), (3, iv x3), (4, iv x4), (6, iv x6), (7, iv x7), (8, iv x8)]) dX12_whose_70 (by decide) rfl ?_
      refine AW.iload 8 dX12_whose_72 rfl ?_
      refine AW.istore (lv1 := [(6, iv x8), (5, iv (orI x5 (shlI 1 x8))), (0, rv z 117), (1, iv x1), (2, iv x2), (3, iv x3), (4, iv x4), (7, iv x7), (8, iv x8)]) dX12_whose_74 (by decide) rfl ?_
      refine AW.iinc (lv1 := [(7, iv (x7 + 1)), (6, iv x8), (5, iv (orI x5 (shlI 1 x8))), (0, rv z 117), (1, iv x1), (2, iv x2), (3, iv x3), (4, iv x4), (8, iv x8)]) 7 dX12_whose_76 rfl (by decide) rfl ?_
      refine AW.sub (lv1 := [(0, rv z 117), (1, iv x1), (2, iv x2), (3, iv x3), (4, iv x4), (5, iv (orI x5 (shlI 1 x8))), (6, iv x8), (7, iv (x7 + 1)), (8, iv x8)]) [3, 4, 5, 6, 7, 2, 1, 0, 8] rfl ?_
      cases h
      exact J57
    · replace h := hT h c8
      refine AW.goto (tgt := 79) dX12_whose_60 (by decide) ?_
      cases h
      exact J57
theorem M_whose_ok {z : AZ} {x1 : Int} {x2 : Int} {x3 : Int} {x4 : Int} {g : AG} {r : Int × AG} (h : M_whose x1 x2 x3 x4 g = some r) : AMf z yX12_whose cX12_whose 9 (some .int) 10 [rv z 117, iv x1, iv x2, iv x3, iv x4] g r := by
  intro d hdd
  refine AM.of (by decide +kernel) (Nat.le_of_ble_eq_true rfl) ?_
  show AW z (RX12, cX12_whose, 9, (some .int)) d (QD (some .int) r) 0 [(0, rv z 117), (1, iv x1), (2, iv x2), (3, iv x3), (4, iv x4)] [] g
  unfold M_whose at h
  refine AW.iload_n 1 dX12_whose_0 rfl ?_
  refine AW.callSi (As := [iv x1]) (st := []) M_isPoint_ok cq_X12_238 st_X12_isPoint (Nat.le_trans (by decide) hdd) rfl dX12_whose_1 rfl (Nat.le_of_ble_eq_true rfl) ?_
  refine AW.if_eq (tgt := 25) dX12_whose_4 (by decide) (fun c1 => ?_) (fun c1 => ?_)
  · replace h := hT h c1
    refine AW.iconst dX12_whose_25 ?_
    exact AW.iret1 rfl dX12_whose_26 h rfl
  · replace h := hF h c1
    refine AW.iload_n 2 dX12_whose_7 rfl ?_
    refine AW.iload_n 3 dX12_whose_8 rfl ?_
    refine AW.callSi (As := [iv x2, iv x3]) (st := []) M_isSpan_ok cq_X12_469 st_X12_isSpan (Nat.le_trans (by decide) hdd) rfl dX12_whose_9 rfl (Nat.le_of_ble_eq_true rfl) ?_
    refine AW.if_eq (tgt := 25) dX12_whose_12 (by decide) (fun c2 => ?_) (fun c2 => ?_)
    · replace h := hT h c2
      refine AW.iconst dX12_whose_25 ?_
      exact AW.iret1 rfl dX12_whose_26 h rfl
    · replace h := hF h c2
      refine AW.iload 4 dX12_whose_15 rfl ?_
      refine AW.iconst dX12_whose_17 ?_
      refine AW.iconst dX12_whose_18 ?_
      refine AW.callSi (As := [iv x4, iv 0, iv 1]) (st := []) M_isIn_ok cq_X12_3 st_X12_isIn (Nat.le_trans (by decide) hdd) rfl dX12_whose_19 rfl (Nat.le_of_ble_eq_true rfl) ?_
      refine AW.if_ne (tgt := 27) dX12_whose_22 (by decide) (fun c3 => ?_) (fun c3 => ?_)
      · replace h := hF h c3
        refine AW.iconst dX12_whose_27 ?_
        refine AW.istore (lv1 := [(5, iv 0), (0, rv z 117), (1, iv x1), (2, iv x2), (3, iv x3), (4, iv x4)]) dX12_whose_28 (by decide) rfl ?_
        refine AW.iconst dX12_whose_30 ?_
        refine AW.istore (lv1 := [(6, iv (-1)), (5, iv 0), (0, rv z 117), (1, iv x1), (2, iv x2), (3, iv x3), (4, iv x4)]) dX12_whose_31 (by decide) rfl ?_
        refine AW.iconst dX12_whose_33 ?_
        refine AW.istore (lv1 := [(7, iv 0), (6, iv (-1)), (5, iv 0), (0, rv z 117), (1, iv x1), (2, iv x2), (3, iv x3), (4, iv x4)]) dX12_whose_34 (by decide) rfl ?_
        refine AW.iconst dX12_whose_36 ?_
        refine AW.istore (lv1 := [(8, iv 0), (7, iv 0), (6, iv (-1)), (5, iv 0), (0, rv z 117), (1, iv x1), (2, iv x2), (3, iv x3), (4, iv x4)]) dX12_whose_37 (by decide) rfl ?_
        refine AW.sub (lv1 := [(0, rv z 117), (1, iv x1), (2, iv x2), (3, iv x3), (4, iv x4), (5, iv 0), (6, iv (-1)), (7, iv 0), (8, iv 0)]) [4, 5, 6, 7, 8, 3, 2, 1, 0] rfl ?_
        exact M_whose_b_ok hdd _ _ _ _ _ _ h
      · replace h := hT h c3
        refine AW.iconst dX12_whose_25 ?_
        exact AW.iret1 rfl dX12_whose_26 h rfl
set_option synthInstance.maxHeartbeats 2000000 in
theorem M_tonight_b_ok {z : AZ} {d : Nat} (hdd : 8 ≤ d) {x1 : Int} {x2 : Int} : ∀ (tag : Nat) (x3 : Int) (x4 : Int) (x5 : Int) (x6 : Int) (x7 : Int) (x8 : Int) (x9 : Int) (g : AG) (r : Int × AG), M_tonight_b x1 x2 tag x3 x4 x5 x6 x7 x8 x9 g = some r → (tag = 1 → AW z (RX12, cX12_tonight, 11, (some .int)) d (QD (some .int) r) 27 [(0, rv z 117), (1, iv x1), (2, iv x2), (3, iv x3), (4, iv x4), (5, iv x5)] [] g) ∧ (tag = 2 → AW z (RX12, cX12_tonight, 11, (some .int)) d (QD (some .int) r) 43 [(0, rv z 117), (1, iv x1), (2, iv x2), (3, iv x3), (4, iv x4), (5, iv x5), (6, iv x6), (7, iv x7), (8, iv x8)] [] g) ∧ (tag = 3 → AW z (RX12, cX12_tonight, 11, (some .int)) d (QD (some .int) r) 55 [(0, rv z 117), (1, iv x1), (2, iv x2), (3, iv x3), (4, iv x4), (5, iv x5), (6, iv x6), (7, iv x7), (8, iv x8), (9, iv x9)] [] g) ∧ (tag = 4 → AW z (RX12, cX12_tonight, 11, (some .int)) d (QD (some .int) r) 94 [(0, rv z 117), (1, iv x1), (2, iv x2), (3, iv x3), (4, iv x4), (5, iv x5), (6, iv x6), (7, iv x7), (8, iv x8), (9, iv x9)] [] g) := by
  refine M_tonight_b.partial_correctness x1 x2 (fun tag x3 x4 x5 x6 x7 x8 x9 g r => (tag = 1 → AW z (RX12, cX12_tonight, 11, (some .int)) d (QD (some .int) r) 27 [(0, rv z 117), (1, iv x1), (2, iv x2), (3, iv x3), (4, iv x4), (5, iv x5)] [] g) ∧ (tag = 2 → AW z (RX12, cX12_tonight, 11, (some .int)) d (QD (some .int) r) 43 [(0, rv z 117), (1, iv x1), (2, iv x2), (3, iv x3), (4, iv x4), (5, iv x5), (6, iv x6), (7, iv x7), (8, iv x8)] [] g) ∧ (tag = 3 → AW z (RX12, cX12_tonight, 11, (some .int)) d (QD (some .int) r) 55 [(0, rv z 117), (1, iv x1), (2, iv x2), (3, iv x3), (4, iv x4), (5, iv x5), (6, iv x6), (7, iv x7), (8, iv x8), (9, iv x9)] [] g) ∧ (tag = 4 → AW z (RX12, cX12_tonight, 11, (some .int)) d (QD (some .int) r) 94 [(0, rv z 117), (1, iv x1), (2, iv x2), (3, iv x3), (4, iv x4), (5, iv x5), (6, iv x6), (7, iv x7), (8, iv x8), (9, iv x9)] [] g)) ?_
  intro fb9 ih tag x3 x4 x5 x6 x7 x8 x9 g r h
  refine ⟨fun h9 => ?_, fun h9 => ?_, fun h9 => ?_, fun h9 => ?_⟩
  · subst h9
    replace h := hT h rfl
    refine AW.iload 5 dX12_tonight_27 rfl ?_
    refine AW.bipush dX12_tonight_29 (by decide) (by decide) ?_
    refine AW.icmp_ge (tgt := 233) dX12_tonight_31 (by decide) (fun c1 => ?_) (fun c1 => ?_)
    · replace h := hT h c1
      refine AW.iload_n 2 dX12_tonight_233 rfl ?_
      refine AW.bipush dX12_tonight_234 (by decide) (by decide) ?_
      obtain ⟨t2, e3, h⟩ := hBe h
      refine AW.join (tgt := 245) (lv1 := [(0, rv z 117), (1, iv x1), (2, iv x2), (3, iv x3), (4, iv x4), (5, iv x5)]) (st1 := [iv t2]) (g1 := g) ?_ (fun J236 => ?_)
      · exact AW.iret1 rfl dX12_tonight_245 h rfl
      refine AW.icmp_ne (tgt := 243) dX12_tonight_236 (by decide) (fun c4 => ?_) (fun c4 => ?_)
      · refine AW.iload 4 dX12_tonight_243 rfl ?_
        exact AW.val (e3.trans (if_neg c4)) J236
      · refine AW.iload_n 3 dX12_tonight_239 rfl ?_
        refine AW.goto (tgt := 245) dX12_tonight_240 (by decide) ?_
        exact AW.val (e3.trans (if_pos c4)) J236
    · replace h := hF h c1
      refine AW.iconst dX12_tonight_34 ?_
      refine AW.istore (lv1 := [(6, iv 0), (0, rv z 117), (1, iv x1), (2, iv x2), (3, iv x3), (4, iv x4), (5, iv x5)]) dX12_tonight_35 (by decide) rfl ?_
      refine AW.iconst dX12_tonight_37 ?_
      refine AW.istore (lv1 := [(7, iv 0), (6, iv 0), (0, rv z 117), (1, iv x1), (2, iv x2), (3, iv x3), (4, iv x4), (5, iv x5)]) dX12_tonight_38 (by decide) rfl ?_
      refine AW.iconst dX12_tonight_40 ?_
      refine AW.istore (lv1 := [(8, iv 0), (7, iv 0), (6, iv 0), (0, rv z 117), (1, iv x1), (2, iv x2), (3, iv x3), (4, iv x4), (5, iv x5)]) dX12_tonight_41 (by decide) rfl ?_
      refine AW.sub (lv1 := [(0, rv z 117), (1, iv x1), (2, iv x2), (3, iv x3), (4, iv x4), (5, iv x5), (6, iv 0), (7, iv 0), (8, iv 0)]) [3, 4, 5, 6, 7, 8, 2, 1, 0] rfl ?_
      exact (ih _ _ _ _ _ _ _ _ _ _ h).2.1 rfl
  · subst h9
    replace h := hF h (by decide)
    replace h := hT h rfl
    refine AW.iload 8 dX12_tonight_43 rfl ?_
    refine AW.aloadr_n 0 dX12_tonight_45 rfl ?_
    refine AW.getI af_X12_235_117 sr_117_12 dX12_tonight_46 ?_
    refine AW.icmp_ge (tgt := 188) dX12_tonight_49 (by decide) (fun c1 => ?_) (fun c1 => ?_)
    · replace h := hT h c1
      refine AW.iload 5 dX12_tonight_188 rfl ?_
      refine AW.iload_n 2 dX12_tonight_190 rfl ?_
      refine AW.icmp_ne (tgt := 197) dX12_tonight_191 (by decide) (fun c2 => ?_) (fun c2 => ?_)
      · replace h := hF h c2
        refine AW.iload 7 dX12_tonight_197 rfl ?_
        refine AW.iload 4 dX12_tonight_199 rfl ?_
        obtain ⟨t3, e4, h⟩ := hBe h
        refine AW.join (tgt := 210) (lv1 := [(0, rv z 117), (1, iv x1), (2, iv x2), (3, iv x3), (4, iv x4), (5, iv x5), (6, iv x6), (7, iv x7), (8, iv x8)]) (st1 := [iv t3]) (g1 := g) ?_ (fun J201 => ?_)
        · refine AW.istore_n (lv1 := [(3, iv t3), (0, rv z 117), (1, iv x1), (2, iv x2), (4, iv x4), (5, iv x5), (6, iv x6), (7, iv x7), (8, iv x8)]) dX12_tonight_210 (by decide) rfl ?_
          refine AW.iload 7 dX12_tonight_211 rfl ?_
          refine AW.iload 4 dX12_tonight_213 rfl ?_
          obtain ⟨t5, e6, h⟩ := hBe h
          refine AW.join (tgt := 225) (lv1 := [(3, iv t3), (0, rv z 117), (1, iv x1), (2, iv x2), (4, iv x4), (5, iv x5), (6, iv x6), (7, iv x7), (8, iv x8)]) (st1 := [iv t5]) (g1 := g) ?_ (fun J215 => ?_)
          · refine AW.istore (lv1 := [(4, iv t5), (3, iv t3), (0, rv z 117), (1, iv x1), (2, iv x2), (5, iv x5), (6, iv x6), (7, iv x7), (8, iv x8)]) dX12_tonight_225 (by decide) rfl ?_
            refine AW.iinc (lv1 := [(5, iv (x5 + 1)), (4, iv t5), (3, iv t3), (0, rv z 117), (1, iv x1), (2, iv x2), (6, iv x6), (7, iv x7), (8, iv x8)]) 5 dX12_tonight_227 rfl (by decide) rfl ?_
            refine AW.goto (tgt := 27) dX12_tonight_230 (by decide) ?_
            refine AW.sub (lv1 := [(0, rv z 117), (1, iv x1), (2, iv x2), (3, iv t3), (4, iv t5), (5, iv (x5 + 1))]) [3, 4, 5, 2, 1, 0] rfl ?_
            exact (ih _ _ _ _ _ _ _ _ _ _ h).1 rfl
          refine AW.icmp_le (tgt := 223) dX12_tonight_215 (by decide) (fun c7 => ?_) (fun c7 => ?_)
          · refine AW.iload 4 dX12_tonight_223 rfl ?_
            exact AW.val (e6.trans (if_pos c7)) J215
          · refine AW.iload 7 dX12_tonight_218 rfl ?_
            refine AW.goto (tgt := 225) dX12_tonight_220 (by decide) ?_
            exact AW.val (e6.trans (if_neg c7)) J215
        refine AW.icmp_le (tgt := 209) dX12_tonight_201 (by decide) (fun c8 => ?_) (fun c8 => ?_)
        · refine AW.iload_n 3 dX12_tonight_209 rfl ?_
          exact AW.val (e4.trans (if_pos c8)) J201
        · refine AW.iload 5 dX12_tonight_204 rfl ?_
          refine AW.goto (tgt := 210) dX12_tonight_206 (by decide) ?_
          exact AW.val (e4.trans (if_neg c8)) J201
      · replace h := hT h c2
        refine AW.iload 6 dX12_tonight_194 rfl ?_
        exact AW.iret1 rfl dX12_tonight_196 h rfl
    · replace h := hF h c1
      refine AW.iconst dX12_tonight_52 ?_
      refine AW.istore (lv1 := [(9, iv (-1)), (0, rv z 117), (1, iv x1), (2, iv x2), (3, iv x3), (4, iv x4), (5, iv x5), (6, iv x6), (7, iv x7), (8, iv x8)]) dX12_tonight_53 (by decide) rfl ?_
      refine AW.sub (lv1 := [(0, rv z 117), (1, iv x1), (2, iv x2), (3, iv x3), (4, iv x4), (5, iv x5), (6, iv x6), (7, iv x7), (8, iv x8), (9, iv (-1))]) [1, 2, 3, 4, 5, 6, 7, 8, 9, 0] rfl ?_
      exact (ih _ _ _ _ _ _ _ _ _ _ h).2.2.1 rfl
  · subst h9
    replace h := hF h (by decide)
    replace h := hF h (by decide)
    replace h := hT h rfl
    refine AW.iload 9 dX12_tonight_55 rfl ?_
    refine AW.iconst dX12_tonight_57 ?_
    refine AW.iadd dX12_tonight_58 ?_
    refine AW.aloadr_n 0 dX12_tonight_59 rfl ?_
    refine AW.getR af_X12_133_117 sr_117_56 dX12_tonight_60 ?_
    refine AW.iload 8 dX12_tonight_63 rfl ?_
    obtain ⟨k1, h⟩ := hK h
    refine AW.iald kc_155 sk_155 k1 dX12_tonight_65 ?_
    refine AW.icmp_ge (tgt := 94) dX12_tonight_66 (by decide) (fun c2 => ?_) (fun c2 => ?_)
    · replace h := hT h c2
      exact (ih _ _ _ _ _ _ _ _ _ _ h).2.2.2 rfl
    · replace h := hF h c2
      refine AW.aloadr_n 0 dX12_tonight_69 rfl ?_
      refine AW.getR af_X12_139_117 sr_117_58 dX12_tonight_70 ?_
      refine AW.bipush dX12_tonight_73 (by decide) (by decide) ?_
      refine AW.iload 8 dX12_tonight_75 rfl ?_
      refine AW.imul dX12_tonight_77 ?_
      refine AW.iload 9 dX12_tonight_78 rfl ?_
      refine AW.iadd dX12_tonight_80 ?_
      refine AW.iconst dX12_tonight_81 ?_
      refine AW.iadd dX12_tonight_82 ?_
      obtain ⟨k3, h⟩ := hK h
      refine AW.iald kc_157 sk_157 k3 dX12_tonight_83 ?_
      refine AW.iload_n 1 dX12_tonight_84 rfl ?_
      refine AW.icmp_gt (tgt := 94) dX12_tonight_85 (by decide) (fun c4 => ?_) (fun c4 => ?_)
      · replace h := hT h c4
        exact (ih _ _ _ _ _ _ _ _ _ _ h).2.2.2 rfl
      · replace h := hF h c4
        refine AW.iinc (lv1 := [(9, iv (x9 + 1)), (0, rv z 117), (1, iv x1), (2, iv x2), (3, iv x3), (4, iv x4), (5, iv x5), (6, iv x6), (7, iv x7), (8, iv x8)]) 9 dX12_tonight_88 rfl (by decide) rfl ?_
        refine AW.goto (tgt := 55) dX12_tonight_91 (by decide) ?_
        refine AW.sub (lv1 := [(0, rv z 117), (1, iv x1), (2, iv x2), (3, iv x3), (4, iv x4), (5, iv x5), (6, iv x6), (7, iv x7), (8, iv x8), (9, iv (x9 + 1))]) [1, 2, 3, 4, 5, 6, 7, 8, 9, 0] rfl ?_
        exact (ih _ _ _ _ _ _ _ _ _ _ h).2.2.1 rfl
  · subst h9
    replace h := hF h (by decide)
    replace h := hF h (by decide)
    replace h := hF h (by decide)
    replace h := hT h rfl
    refine AW.iload 9 dX12_tonight_94 rfl ?_
    refine AW.iconst dX12_tonight_96 ?_
    obtain ⟨r8, e9, h⟩ := hC h
    refine AW.join (tgt := 153) (lv1 := [(0, rv z 117), (1, iv x1), (2, iv x2), (3, iv x3), (4, iv x4), (5, iv x5), (6, iv x6), (7, iv x7), (8, iv x8)]) (st1 := [iv r8.1]) (g1 := r8.2) ?_ (fun J97 => ?_)
    · refine AW.istore (lv1 := [(10, iv r8.1), (0, rv z 117), (1, iv x1), (2, iv x2), (3, iv x3), (4, iv x4), (5, iv x5), (6, iv x6), (7, iv x7), (8, iv x8)]) dX12_tonight_153 (by decide) rfl ?_
      refine AW.iload 0 dX12_tonight_155 rfl ?_
      refine AW.iconst dX12_tonight_157 ?_
      obtain ⟨r12, e13, h⟩ := hC h
      refine AW.join (tgt := 182) (lv1 := [(0, rv z 117), (1, iv x1), (2, iv x2), (3, iv x3), (4, iv x4), (5, iv x5), (6, iv r12.1), (7, iv r12.2.1), (8, iv x8)]) (st1 := []) (g1 := r12.2.2) ?_ (fun J158 => ?_)
      · refine AW.iinc (lv1 := [(8, iv (x8 + 1)), (0, rv z 117), (1, iv x1), (2, iv x2), (3, iv x3), (4, iv x4), (5, iv x5), (6, iv r12.1), (7, iv r12.2.1)]) 8 dX12_tonight_182 rfl (by decide) rfl ?_
        refine AW.goto (tgt := 43) dX12_tonight_185 (by decide) ?_
        refine AW.sub (lv1 := [(0, rv z 117), (1, iv x1), (2, iv x2), (3, iv x3), (4, iv x4), (5, iv x5), (6, iv r12.1), (7, iv r12.2.1), (8, iv (x8 + 1))]) [1, 2, 3, 4, 5, 6, 7, 8, 0] rfl ?_
        exact (ih _ _ _ _ _ _ _ _ _ _ h).2.1 rfl
      replace h := e13
      refine AW.icmp_eq (tgt := 182) dX12_tonight_158 (by decide) (fun c10 => ?_) (fun c10 => ?_)
      · replace h := hT h c10
        refine AW.sub (lv1 := [(0, rv z 117), (1, iv x1), (2, iv x2), (3, iv x3), (4, iv x4), (5, iv x5), (6, iv x6), (7, iv x7), (8, iv x8)]) [1, 2, 3, 4, 5, 6, 7, 8, 9] rfl ?_
        cases h
        exact J158
      · replace h := hF h c10
        refine AW.iload 0 dX12_tonight_161 rfl ?_
        refine AW.iload_n 2 dX12_tonight_163 rfl ?_
        refine AW.icmp_le (tgt := 170) dX12_tonight_164 (by decide) (fun c11 => ?_) (fun c11 => ?_)
        · replace h := hT h c11
          refine AW.iload 7 dX12_tonight_170 rfl ?_
          refine AW.iconst dX12_tonight_172 ?_
          refine AW.iload 9 dX12_tonight_173 rfl ?_
          refine AW.ishl dX12_tonight_175 ?_
          refine AW.ior dX12_tonight_176 ?_
          refine AW.istore (lv1 := [(6, iv (orI x6 (shlI 1 x8))), (10, iv r8.1), (0, rv z 117), (1, iv x1), (2, iv x2), (3, iv x3), (4, iv x4), (5, iv x5), (7, iv x7), (8, iv x8)]) dX12_tonight_177 (by decide) rfl ?_
          refine AW.iinc (lv1 := [(7, iv (x7 + 1)), (6, iv (orI x6 (shlI 1 x8))), (10, iv r8.1), (0, rv z 117), (1, iv x1), (2, iv x2), (3, iv x3), (4, iv x4), (5, iv x5), (8, iv x8)]) 8 dX12_tonight_179 rfl (by decide) rfl ?_
          refine AW.sub (lv1 := [(0, rv z 117), (1, iv x1), (2, iv x2), (3, iv x3), (4, iv x4), (5, iv x5), (6, iv (orI x6 (shlI 1 x8))), (7, iv (x7 + 1)), (8, iv x8)]) [3, 4, 5, 6, 7, 8, 1, 0, 9] rfl ?_
          cases h
          exact J158
        · replace h := hF h c11
          refine AW.goto (tgt := 182) dX12_tonight_167 (by decide) ?_
          refine AW.sub (lv1 := [(0, rv z 117), (1, iv x1), (2, iv x2), (3, iv x3), (4, iv x4), (5, iv x5), (6, iv x6), (7, iv x7), (8, iv x8)]) [1, 2, 3, 4, 5, 6, 7, 8, 9] rfl ?_
          cases h
          exact J158
    replace h := e9
    refine AW.icmp_ne (tgt := 119) dX12_tonight_97 (by decide) (fun c1 => ?_) (fun c1 => ?_)
    · replace h := hF h c1
      refine AW.aloadr_n 0 dX12_tonight_119 rfl ?_
      refine AW.iload 8 dX12_tonight_120 rfl ?_
      refine AW.aloadr_n 0 dX12_tonight_122 rfl ?_
      refine AW.getR af_X12_136_117 sr_117_57 dX12_tonight_123 ?_
      refine AW.bipush dX12_tonight_126 (by decide) (by decide) ?_
      refine AW.iload 8 dX12_tonight_128 rfl ?_
      refine AW.imul dX12_tonight_130 ?_
      refine AW.iload 9 dX12_tonight_131 rfl ?_
      refine AW.iadd dX12_tonight_133 ?_
      obtain ⟨k2, h⟩ := hK h
      refine AW.iald kc_156 sk_156 k2 dX12_tonight_134 ?_
      refine AW.iload 5 dX12_tonight_135 rfl ?_
      refine AW.aloadr_n 0 dX12_tonight_137 rfl ?_
      refine AW.getR af_X12_139_117 sr_117_58 dX12_tonight_138 ?_
      refine AW.bipush dX12_tonight_141 (by decide) (by decide) ?_
      refine AW.iload 8 dX12_tonight_143 rfl ?_
      refine AW.imul dX12_tonight_145 ?_
      refine AW.iload 9 dX12_tonight_146 rfl ?_
      refine AW.iadd dX12_tonight_148 ?_
      refine AW.iald kc_157 sk_157 k2 dX12_tonight_149 ?_
      obtain ⟨r3, e4, h⟩ := hC h
      refine AW.callVi (As := [iv x8, iv (g 156 (ix ((10 * x8) + x9))), iv x5, iv (g 157 (ix ((10 * x8) + x9)))]) (st := []) (M_led_ok e4) cq_X12_441 cr_117_X12_led (Nat.le_trans (by decide) hdd) rfl dX12_tonight_150 rfl (Nat.le_of_ble_eq_true rfl) ?_
      refine AW.sub (lv1 := [(0, rv z 117), (1, iv x1), (2, iv x2), (3, iv x3), (4, iv x4), (5, iv x5), (6, iv x6), (7, iv x7), (8, iv x8)]) [0, 1, 2, 3, 4, 5, 6, 7, 8] rfl ?_
      cases h
      exact J97
    · replace h := hT h c1
      refine AW.aloadr_n 0 dX12_tonight_100 rfl ?_
      refine AW.iload 8 dX12_tonight_101 rfl ?_
      refine AW.aloadr_n 0 dX12_tonight_103 rfl ?_
      refine AW.getR af_X12_38_117 sr_117_8 dX12_tonight_104 ?_
      refine AW.iload 8 dX12_tonight_107 rfl ?_
      obtain ⟨k5, h⟩ := hK h
      refine AW.iald kc_126 sk_126 k5 dX12_tonight_109 ?_
      refine AW.iload 5 dX12_tonight_110 rfl ?_
      refine AW.iconst dX12_tonight_112 ?_
      obtain ⟨r6, e7, h⟩ := hC h
      refine AW.callVi (As := [iv x8, iv (g 126 (ix x8)), iv x5, iv 0]) (st := []) (M_led_ok e7) cq_X12_441 cr_117_X12_led (Nat.le_trans (by decide) hdd) rfl dX12_tonight_113 rfl (Nat.le_of_ble_eq_true rfl) ?_
      refine AW.goto (tgt := 153) dX12_tonight_116 (by decide) ?_
      refine AW.sub (lv1 := [(0, rv z 117), (1, iv x1), (2, iv x2), (3, iv x3), (4, iv x4), (5, iv x5), (6, iv x6), (7, iv x7), (8, iv x8)]) [0, 1, 2, 3, 4, 5, 6, 7, 8] rfl ?_
      cases h
      exact J97
theorem M_tonight_ok {z : AZ} {x1 : Int} {x2 : Int} {g : AG} {r : Int × AG} (h : M_tonight x1 x2 g = some r) : AMf z yX12_tonight cX12_tonight 11 (some .int) 8 [rv z 117, iv x1, iv x2] g r := by
  intro d hdd
  refine AM.of (by decide +kernel) (Nat.le_of_ble_eq_true rfl) ?_
  show AW z (RX12, cX12_tonight, 11, (some .int)) d (QD (some .int) r) 0 [(0, rv z 117), (1, iv x1), (2, iv x2)] [] g
  unfold M_tonight at h
  refine AW.iload_n 1 dX12_tonight_0 rfl ?_
  refine AW.callSi (As := [iv x1]) (st := []) M_isTime_ok cq_X12_438 st_X12_isTime (Nat.le_trans (by decide) hdd) rfl dX12_tonight_1 rfl (Nat.le_of_ble_eq_true rfl) ?_
  refine AW.if_eq (tgt := 17) dX12_tonight_4 (by decide) (fun c1 => ?_) (fun c1 => ?_)
  · replace h := hT h c1
    refine AW.iconst dX12_tonight_17 ?_
    exact AW.iret1 rfl dX12_tonight_18 h rfl
  · replace h := hF h c1
    refine AW.iload_n 2 dX12_tonight_7 rfl ?_
    refine AW.iconst dX12_tonight_8 ?_
    refine AW.bipush dX12_tonight_9 (by decide) (by decide) ?_
    refine AW.callSi (As := [iv x2, iv 0, iv 17]) (st := []) M_isIn_ok cq_X12_3 st_X12_isIn (Nat.le_trans (by decide) hdd) rfl dX12_tonight_11 rfl (Nat.le_of_ble_eq_true rfl) ?_
    refine AW.if_ne (tgt := 19) dX12_tonight_14 (by decide) (fun c2 => ?_) (fun c2 => ?_)
    · replace h := hF h c2
      refine AW.iconst dX12_tonight_19 ?_
      refine AW.istore_n (lv1 := [(3, iv 0), (0, rv z 117), (1, iv x1), (2, iv x2)]) dX12_tonight_20 (by decide) rfl ?_
      refine AW.iconst dX12_tonight_21 ?_
      refine AW.istore (lv1 := [(4, iv 0), (3, iv 0), (0, rv z 117), (1, iv x1), (2, iv x2)]) dX12_tonight_22 (by decide) rfl ?_
      refine AW.iconst dX12_tonight_24 ?_
      refine AW.istore (lv1 := [(5, iv 0), (4, iv 0), (3, iv 0), (0, rv z 117), (1, iv x1), (2, iv x2)]) dX12_tonight_25 (by decide) rfl ?_
      refine AW.sub (lv1 := [(0, rv z 117), (1, iv x1), (2, iv x2), (3, iv 0), (4, iv 0), (5, iv 0)]) [3, 4, 5, 2, 1, 0] rfl ?_
      exact (M_tonight_b_ok hdd _ _ _ _ _ _ _ _ _ _ h).1 rfl
    · replace h := hT h c2
      refine AW.iconst dX12_tonight_17 ?_
      exact AW.iret1 rfl dX12_tonight_18 h rfl
set_option synthInstance.maxHeartbeats 2000000 in
theorem M_queue_b_ok {z : AZ} {d : Nat} (hdd : 1 ≤ d) {x1 : Int} {x2 : Int} {g : AG} : ∀ (r : Int × AG), M_queue_b x1 x2 g = some r → AW z (RX12, cX12_queue, 3, (some .int)) d (QD (some .int) r) 65 [(0, rv z 117), (1, iv x1), (2, iv x2)] [] g := by
  refine M_queue_b.partial_correctness x1 x2 g (fun r => AW z (RX12, cX12_queue, 3, (some .int)) d (QD (some .int) r) 65 [(0, rv z 117), (1, iv x1), (2, iv x2)] [] g) ?_
  intro fb9 ih r h
  refine AW.aloadr_n 0 dX12_queue_65 rfl ?_
  refine AW.getR af_X12_142_117 sr_117_60 dX12_queue_66 ?_
  refine AW.aloadr_n 0 dX12_queue_69 rfl ?_
  refine AW.getI af_X12_475_117 sr_117_59 dX12_queue_70 ?_
  refine AW.iload_n 1 dX12_queue_73 rfl ?_
  obtain ⟨k1, h⟩ := hK h
  obtain ⟨g2, e3, h⟩ := hBe h
  refine AW.iast kc_158 sk_158 k1 dX12_queue_74 e3 ?_
  refine AW.aloadr_n 0 dX12_queue_75 rfl ?_
  refine AW.getR af_X12_145_117 sr_117_61 dX12_queue_76 ?_
  refine AW.aloadr_n 0 dX12_queue_79 rfl ?_
  refine AW.getI af_X12_475_117 sr_117_59 dX12_queue_80 ?_
  refine AW.iload_n 2 dX12_queue_83 rfl ?_
  obtain ⟨k4, h⟩ := hK h
  obtain ⟨g5, e6, h⟩ := hBe h
  refine AW.iast kc_159 sk_159 k4 dX12_queue_84 e6 ?_
  refine AW.aloadr_n 0 dX12_queue_85 rfl ?_
  refine AW.duprr dX12_queue_86 ?_
  refine AW.getI af_X12_475_117 sr_117_59 dX12_queue_87 ?_
  refine AW.iconst dX12_queue_90 ?_
  refine AW.iadd dX12_queue_91 ?_
  obtain ⟨g7, e8, h⟩ := hBe h
  refine AW.putI ap_X12_475_117 sr_117_59 dX12_queue_92 e8 ?_
  refine AW.aloadr_n 0 dX12_queue_95 rfl ?_
  refine AW.getI af_X12_475_117 sr_117_59 dX12_queue_96 ?_
  exact AW.iret1 rfl dX12_queue_99 h rfl
theorem M_queue_ok {z : AZ} {x1 : Int} {x2 : Int} {g : AG} {r : Int × AG} (h : M_queue x1 x2 g = some r) : AMf z yX12_queue cX12_queue 3 (some .int) 1 [rv z 117, iv x1, iv x2] g r := by
  intro d hdd
  refine AM.of (by decide +kernel) (Nat.le_of_ble_eq_true rfl) ?_
  show AW z (RX12, cX12_queue, 3, (some .int)) d (QD (some .int) r) 0 [(0, rv z 117), (1, iv x1), (2, iv x2)] [] g
  unfold M_queue at h
  refine AW.iload_n 2 dX12_queue_0 rfl ?_
  refine AW.iconst dX12_queue_1 ?_
  refine AW.icmp_ne (tgt := 12) dX12_queue_2 (by decide) (fun c1 => ?_) (fun c1 => ?_)
  · replace h := hF h c1
    refine AW.iload_n 1 dX12_queue_12 rfl ?_
    refine AW.iconst dX12_queue_13 ?_
    refine AW.sipush dX12_queue_14 (by decide) (by decide) ?_
    refine AW.callSi (As := [iv x1, iv 0, iv 9999]) (st := []) M_isIn_ok cq_X12_3 st_X12_isIn (Nat.le_trans (by decide) hdd) rfl dX12_queue_17 rfl (Nat.le_of_ble_eq_true rfl) ?_
    refine AW.if_eq (tgt := 63) dX12_queue_20 (by decide) (fun c2 => ?_) (fun c2 => ?_)
    · replace h := hT h c2
      refine AW.iconst dX12_queue_63 ?_
      exact AW.iret1 rfl dX12_queue_64 h rfl
    · replace h := hF h c2
      refine AW.iload_n 2 dX12_queue_23 rfl ?_
      refine AW.iconst dX12_queue_24 ?_
      refine AW.iconst dX12_queue_25 ?_
      refine AW.callSi (As := [iv x2, iv 0, iv 1]) (st := []) M_isIn_ok cq_X12_3 st_X12_isIn (Nat.le_trans (by decide) hdd) rfl dX12_queue_26 rfl (Nat.le_of_ble_eq_true rfl) ?_
      refine AW.if_eq (tgt := 63) dX12_queue_29 (by decide) (fun c3 => ?_) (fun c3 => ?_)
      · replace h := hT h c3
        refine AW.iconst dX12_queue_63 ?_
        exact AW.iret1 rfl dX12_queue_64 h rfl
      · replace h := hF h c3
        refine AW.aloadr_n 0 dX12_queue_32 rfl ?_
        refine AW.getI af_X12_475_117 sr_117_59 dX12_queue_33 ?_
        refine AW.bipush dX12_queue_36 (by decide) (by decide) ?_
        refine AW.icmp_eq (tgt := 63) dX12_queue_38 (by decide) (fun c4 => ?_) (fun c4 => ?_)
        · replace h := hT h c4
          refine AW.iconst dX12_queue_63 ?_
          exact AW.iret1 rfl dX12_queue_64 h rfl
        · replace h := hF h c4
          refine AW.aloadr_n 0 dX12_queue_41 rfl ?_
          refine AW.getI af_X12_475_117 sr_117_59 dX12_queue_42 ?_
          refine AW.if_le (tgt := 65) dX12_queue_45 (by decide) (fun c5 => ?_) (fun c5 => ?_)
          · replace h := hT h c5
            exact M_queue_b_ok hdd _ h
          · replace h := hF h c5
            refine AW.iload_n 1 dX12_queue_48 rfl ?_
            refine AW.aloadr_n 0 dX12_queue_49 rfl ?_
            refine AW.getR af_X12_142_117 sr_117_60 dX12_queue_50 ?_
            refine AW.aloadr_n 0 dX12_queue_53 rfl ?_
            refine AW.getI af_X12_475_117 sr_117_59 dX12_queue_54 ?_
            refine AW.iconst dX12_queue_57 ?_
            refine AW.isub dX12_queue_58 ?_
            obtain ⟨k6, h⟩ := hK h
            refine AW.iald kc_158 sk_158 k6 dX12_queue_59 ?_
            refine AW.icmp_ge (tgt := 65) dX12_queue_60 (by decide) (fun c7 => ?_) (fun c7 => ?_)
            · replace h := hT h c7
              exact M_queue_b_ok hdd _ h
            · replace h := hF h c7
              refine AW.iconst dX12_queue_63 ?_
              exact AW.iret1 rfl dX12_queue_64 h rfl
  · replace h := hT h c1
    refine AW.aloadr_n 0 dX12_queue_5 rfl ?_
    refine AW.iconst dX12_queue_6 ?_
    obtain ⟨g8, e9, h⟩ := hBe h
    refine AW.putI ap_X12_475_117 sr_117_59 dX12_queue_7 e9 ?_
    refine AW.iconst dX12_queue_10 ?_
    exact AW.iret1 rfl dX12_queue_11 h rfl
set_option synthInstance.maxHeartbeats 2000000 in
theorem M_waits_b_ok {z : AZ} {d : Nat} (hdd : 0 ≤ d) : ∀ (x1 : Int) (x2 : Int) (x3 : Int) (g : AG) (r : Int × AG), M_waits_b x1 x2 x3 g = some r → AW z (RX12, cX12_waits, 6, (some .int)) d (QD (some .int) r) 6 [(0, rv z 117), (1, iv x1), (2, iv x2), (3, iv x3)] [] g := by
  refine M_waits_b.partial_correctness (fun x1 x2 x3 g r => AW z (RX12, cX12_waits, 6, (some .int)) d (QD (some .int) r) 6 [(0, rv z 117), (1, iv x1), (2, iv x2), (3, iv x3)] [] g) ?_
  intro fb9 ih x1 x2 x3 g r h
  refine AW.iload_n 3 dX12_waits_6 rfl ?_
  refine AW.aloadr_n 0 dX12_waits_7 rfl ?_
  refine AW.getI af_X12_475_117 sr_117_59 dX12_waits_8 ?_
  refine AW.icmp_ge (tgt := 104) dX12_waits_11 (by decide) (fun c1 => ?_) (fun c1 => ?_)
  · replace h := hT h c1
    refine AW.iload_n 2 dX12_waits_104 rfl ?_
    exact AW.iret1 rfl dX12_waits_105 h rfl
  · replace h := hF h c1
    refine AW.aloadr_n 0 dX12_waits_14 rfl ?_
    refine AW.getR af_X12_148_117 sr_117_62 dX12_waits_15 ?_
    refine AW.iload_n 3 dX12_waits_18 rfl ?_
    obtain ⟨k2, h⟩ := hK h
    refine AW.iald kc_160 sk_160 k2 dX12_waits_19 ?_
    refine AW.istore (lv1 := [(4, iv (g 160 (ix x3))), (0, rv z 117), (1, iv x1), (2, iv x2), (3, iv x3)]) dX12_waits_20 (by decide) rfl ?_
    refine AW.aloadr_n 1 dX12_waits_22 rfl ?_
    refine AW.getR af_X12_142_117 sr_117_60 dX12_waits_23 ?_
    refine AW.iload 0 dX12_waits_26 rfl ?_
    obtain ⟨k3, h⟩ := hK h
    refine AW.iald kc_158 sk_158 k3 dX12_waits_28 ?_
    refine AW.iload_n 2 dX12_waits_29 rfl ?_
    obtain ⟨r5, e6, h⟩ := hC h
    refine AW.join (tgt := 44) (lv1 := [(0, rv z 117), (2, iv x2), (3, iv x3), (4, iv (g 160 (ix x3)))]) (st1 := [iv r5.1]) (g1 := r5.2) ?_ (fun J30 => ?_)
    · refine AW.istore (lv1 := [(5, iv r5.1), (0, rv z 117), (2, iv x2), (3, iv x3), (4, iv (g 160 (ix x3)))]) dX12_waits_44 (by decide) rfl ?_
      refine AW.iload_n 2 dX12_waits_46 rfl ?_
      refine AW.iload 0 dX12_waits_47 rfl ?_
      refine AW.aloadr_n 1 dX12_waits_49 rfl ?_
      refine AW.getR af_X12_142_117 sr_117_60 dX12_waits_50 ?_
      refine AW.iload 4 dX12_waits_53 rfl ?_
      refine AW.iald kc_158 sk_158 k3 dX12_waits_55 ?_
      refine AW.isub dX12_waits_56 ?_
      refine AW.iadd dX12_waits_57 ?_
      refine AW.istore_n (lv1 := [(2, iv (x2 + (r5.1 - (r5.2 158 (ix (g 160 (ix x3))))))), (5, iv r5.1), (0, rv z 117), (3, iv x3), (4, iv (g 160 (ix x3)))]) dX12_waits_58 (by decide) rfl ?_
      refine AW.iload 1 dX12_waits_59 rfl ?_
      refine AW.bipush dX12_waits_61 (by decide) (by decide) ?_
      refine AW.iadd dX12_waits_63 ?_
      refine AW.iload_n 3 dX12_waits_64 rfl ?_
      obtain ⟨r13, e14, h⟩ := hC h
      refine AW.join (tgt := 96) (lv1 := [(0, rv z 117), (2, iv (x2 + (r5.1 - (r5.2 158 (ix (g 160 (ix x3))))))), (3, iv x3)]) (st1 := [iv r13.1, iv (r5.1 + 15)]) (g1 := r13.2) ?_ (fun J65 => ?_)
      · refine AW.iadd dX12_waits_96 ?_
        refine AW.istore_n (lv1 := [(1, iv ((r5.1 + 15) + r13.1)), (0, rv z 117), (2, iv (x2 + (r5.1 - (r5.2 158 (ix (g 160 (ix x3))))))), (3, iv x3)]) dX12_waits_97 (by decide) rfl ?_
        refine AW.iinc (lv1 := [(3, iv (x3 + 1)), (1, iv ((r5.1 + 15) + r13.1)), (0, rv z 117), (2, iv (x2 + (r5.1 - (r5.2 158 (ix (g 160 (ix x3)))))))]) 3 dX12_waits_98 rfl (by decide) rfl ?_
        refine AW.goto (tgt := 6) dX12_waits_101 (by decide) ?_
        refine AW.sub (lv1 := [(0, rv z 117), (1, iv ((r5.1 + 15) + r13.1)), (2, iv (x2 + (r5.1 - (r5.2 158 (ix (g 160 (ix x3))))))), (3, iv (x3 + 1))]) [2, 1, 3, 0] rfl ?_
        exact ih _ _ _ _ _ h
      replace h := e14
      refine AW.if_le (tgt := 95) dX12_waits_65 (by decide) (fun c7 => ?_) (fun c7 => ?_)
      · replace h := hT h c7
        refine AW.iconst dX12_waits_95 ?_
        refine AW.sub (lv1 := [(0, rv z 117), (2, iv (x2 + (r5.1 - (r5.2 158 (ix (g 160 (ix x3))))))), (3, iv x3)]) [2, 0, 3] rfl ?_
        cases h
        exact J65
      · replace h := hF h c7
        refine AW.aloadr_n 2 dX12_waits_68 rfl ?_
        refine AW.getR af_X12_145_117 sr_117_61 dX12_waits_69 ?_
        refine AW.aloadr_n 2 dX12_waits_72 rfl ?_
        refine AW.getR af_X12_148_117 sr_117_62 dX12_waits_73 ?_
        refine AW.iload_n 3 dX12_waits_76 rfl ?_
        refine AW.iconst dX12_waits_77 ?_
        refine AW.isub dX12_waits_78 ?_
        obtain ⟨k8, h⟩ := hK h
        refine AW.iald kc_160 sk_160 k8 dX12_waits_79 ?_
        obtain ⟨k9, h⟩ := hK h
        refine AW.iald kc_159 sk_159 k9 dX12_waits_80 ?_
        refine AW.aloadr_n 2 dX12_waits_81 rfl ?_
        refine AW.getR af_X12_145_117 sr_117_61 dX12_waits_82 ?_
        refine AW.iload 4 dX12_waits_85 rfl ?_
        refine AW.iald kc_159 sk_159 k3 dX12_waits_87 ?_
        obtain ⟨t10, e11, h⟩ := hBe h
        refine AW.join (tgt := 96) (lv1 := [(2, iv (x2 + (r5.1 - (r5.2 158 (ix (g 160 (ix x3))))))), (5, iv r5.1), (0, rv z 117), (3, iv x3), (4, iv (g 160 (ix x3)))]) (st1 := [iv t10, iv (r5.1 + 15)]) (g1 := r5.2) ?_ (fun J88 => ?_)
        · refine AW.sub (lv1 := [(0, rv z 117), (2, iv (x2 + (r5.1 - (r5.2 158 (ix (g 160 (ix x3))))))), (3, iv x3)]) [2, 0, 3] rfl ?_
          cases h
          exact J65
        refine AW.icmp_ne (tgt := 95) dX12_waits_88 (by decide) (fun c12 => ?_) (fun c12 => ?_)
        · refine AW.iconst dX12_waits_95 ?_
          exact AW.val (e11.trans (if_neg c12)) J88
        · refine AW.iconst dX12_waits_91 ?_
          refine AW.goto (tgt := 96) dX12_waits_92 (by decide) ?_
          exact AW.val (e11.trans (if_pos c12)) J88
    replace h := e6
    refine AW.icmp_le (tgt := 43) dX12_waits_30 (by decide) (fun c4 => ?_) (fun c4 => ?_)
    · replace h := hT h c4
      refine AW.iload_n 2 dX12_waits_43 rfl ?_
      refine AW.sub (lv1 := [(0, rv z 117), (2, iv x2), (3, iv x3), (4, iv (g 160 (ix x3)))]) [1, 3, 4, 0] rfl ?_
      cases h
      exact J30
    · replace h := hF h c4
      refine AW.aloadr_n 1 dX12_waits_33 rfl ?_
      refine AW.getR af_X12_142_117 sr_117_60 dX12_waits_34 ?_
      refine AW.iload 0 dX12_waits_37 rfl ?_
      refine AW.iald kc_158 sk_158 k3 dX12_waits_39 ?_
      refine AW.goto (tgt := 44) dX12_waits_40 (by decide) ?_
      refine AW.sub (lv1 := [(0, rv z 117), (2, iv x2), (3, iv x3), (4, iv (g 160 (ix x3)))]) [1, 3, 4, 0] rfl ?_
      cases h
      exact J30
theorem M_waits_ok {z : AZ} {g : AG} {r : Int × AG} (h : M_waits g = some r) : AMf z yX12_waits cX12_waits 6 (some .int) 0 [rv z 117] g r := by
  intro d hdd
  refine AM.of (by decide +kernel) (Nat.le_of_ble_eq_true rfl) ?_
  show AW z (RX12, cX12_waits, 6, (some .int)) d (QD (some .int) r) 0 [(0, rv z 117)] [] g
  unfold M_waits at h
  refine AW.iconst dX12_waits_0 ?_
  refine AW.istore_n (lv1 := [(1, iv 0), (0, rv z 117)]) dX12_waits_1 (by decide) rfl ?_
  refine AW.iconst dX12_waits_2 ?_
  refine AW.istore_n (lv1 := [(2, iv 0), (1, iv 0), (0, rv z 117)]) dX12_waits_3 (by decide) rfl ?_
  refine AW.iconst dX12_waits_4 ?_
  refine AW.istore_n (lv1 := [(3, iv 0), (2, iv 0), (1, iv 0), (0, rv z 117)]) dX12_waits_5 (by decide) rfl ?_
  refine AW.sub (lv1 := [(0, rv z 117), (1, iv 0), (2, iv 0), (3, iv 0)]) [3, 2, 1, 0] rfl ?_
  exact M_waits_b_ok hdd _ _ _ _ _ h
set_option synthInstance.maxHeartbeats 2000000 in
theorem M_orders_b_ok {z : AZ} {rec : Int → Int → AG → Option (Int × AG)} {Dr : Nat} (hC9 : 1 ≤ Dr) (hrec : ∀ (x1 : Int) (x2 : Int) (g : AG) (r : Int × AG), rec x1 x2 g = some r → AMf z yX12_orders cX12_orders 5 none Dr [rv z 117, iv x1, iv x2] g r) {d : Nat} (hdd : Dr + 1 ≤ d) {x1 : Int} {x2 : Int} : ∀ (tag : Nat) (x3 : Int) (x4 : Int) (g : AG) (r : Int × AG), M_orders_b rec x1 x2 tag x3 x4 g = some r → (tag = 1 → AW z (RX12, cX12_orders, 5, none) d (QD none r) 30 [(0, rv z 117), (3, iv x3)] [] g) ∧ (tag = 2 → AW z (RX12, cX12_orders, 5, none) d (QD none r) 38 [(0, rv z 117), (4, iv x4)] [] g) ∧ (tag = 3 → AW z (RX12, cX12_orders, 5, none) d (QD none r) 70 [(0, rv z 117), (1, iv x1), (2, iv x2), (3, iv x3)] [] g) := by
  refine M_orders_b.partial_correctness rec x1 x2 (fun tag x3 x4 g r => (tag = 1 → AW z (RX12, cX12_orders, 5, none) d (QD none r) 30 [(0, rv z 117), (3, iv x3)] [] g) ∧ (tag = 2 → AW z (RX12, cX12_orders, 5, none) d (QD none r) 38 [(0, rv z 117), (4, iv x4)] [] g) ∧ (tag = 3 → AW z (RX12, cX12_orders, 5, none) d (QD none r) 70 [(0, rv z 117), (1, iv x1), (2, iv x2), (3, iv x3)] [] g)) ?_
  intro fb9 ih tag x3 x4 g r h
  refine ⟨fun h9 => ?_, fun h9 => ?_, fun h9 => ?_⟩
  · subst h9
    replace h := hT h rfl
    refine AW.aloadr_n 0 dX12_orders_30 rfl ?_
    refine AW.iload_n 1 dX12_orders_31 rfl ?_
    obtain ⟨g1, e2, h⟩ := hBe h
    refine AW.putI ap_X12_481_117 sr_117_64 dX12_orders_32 e2 ?_
    refine AW.iconst dX12_orders_35 ?_
    refine AW.istore (lv1 := [(4, iv 0), (0, rv z 117), (3, iv x3)]) dX12_orders_36 (by decide) rfl ?_
    refine AW.sub (lv1 := [(0, rv z 117), (4, iv 0)]) [1, 0] rfl ?_
    exact (ih _ _ _ _ _ h).2.1 rfl
  · subst h9
    replace h := hF h (by decide)
    replace h := hT h rfl
    refine AW.iload 1 dX12_orders_38 rfl ?_
    refine AW.aloadr_n 0 dX12_orders_40 rfl ?_
    refine AW.getI af_X12_475_117 sr_117_59 dX12_orders_41 ?_
    refine AW.icmp_ge (tgt := 67) dX12_orders_44 (by decide) (fun c1 => ?_) (fun c1 => ?_)
    · replace h := hT h c1
      exact AW.vret1 rfl dX12_orders_67 h rfl
    · replace h := hF h c1
      refine AW.aloadr_n 0 dX12_orders_47 rfl ?_
      refine AW.getR af_X12_151_117 sr_117_63 dX12_orders_48 ?_
      refine AW.iload 1 dX12_orders_51 rfl ?_
      refine AW.aloadr_n 0 dX12_orders_53 rfl ?_
      refine AW.getR af_X12_148_117 sr_117_62 dX12_orders_54 ?_
      refine AW.iload 1 dX12_orders_57 rfl ?_
      obtain ⟨k2, h⟩ := hK h
      refine AW.iald kc_160 sk_160 k2 dX12_orders_59 ?_
      obtain ⟨g3, e4, h⟩ := hBe h
      refine AW.iast kc_161 sk_161 k2 dX12_orders_60 e4 ?_
      refine AW.iinc (lv1 := [(4, iv (x4 + 1)), (0, rv z 117)]) 1 dX12_orders_61 rfl (by decide) rfl ?_
      refine AW.goto (tgt := 38) dX12_orders_64 (by decide) ?_
      refine AW.sub (lv1 := [(0, rv z 117), (4, iv (x4 + 1))]) [1, 0] rfl ?_
      exact (ih _ _ _ _ _ h).2.1 rfl
  · subst h9
    replace h := hF h (by decide)
    replace h := hF h (by decide)
    replace h := hT h rfl
    refine AW.iload_n 3 dX12_orders_70 rfl ?_
    refine AW.aloadr_n 0 dX12_orders_71 rfl ?_
    refine AW.getI af_X12_475_117 sr_117_59 dX12_orders_72 ?_
    refine AW.icmp_ge (tgt := 115) dX12_orders_75 (by decide) (fun c1 => ?_) (fun c1 => ?_)
    · replace h := hT h c1
      exact AW.vret1 rfl dX12_orders_115 h rfl
    · replace h := hF h c1
      refine AW.iload_n 2 dX12_orders_78 rfl ?_
      refine AW.iload_n 3 dX12_orders_79 rfl ?_
      refine AW.ishr dX12_orders_80 ?_
      refine AW.iconst dX12_orders_81 ?_
      refine AW.iand dX12_orders_82 ?_
      refine AW.iconst dX12_orders_83 ?_
      obtain ⟨r8, e9, h⟩ := hC h
      refine AW.join (tgt := 109) (lv1 := [(0, rv z 117), (1, iv x1), (2, iv x2), (3, iv x3)]) (st1 := []) (g1 := r8) ?_ (fun J84 => ?_)
      · refine AW.iinc (lv1 := [(3, iv (x3 + 1)), (0, rv z 117), (1, iv x1), (2, iv x2)]) 3 dX12_orders_109 rfl (by decide) rfl ?_
        refine AW.goto (tgt := 70) dX12_orders_112 (by decide) ?_
        refine AW.sub (lv1 := [(0, rv z 117), (1, iv x1), (2, iv x2), (3, iv (x3 + 1))]) [1, 2, 3, 0] rfl ?_
        exact (ih _ _ _ _ _ h).2.2 rfl
      replace h := e9
      refine AW.icmp_ne (tgt := 90) dX12_orders_84 (by decide) (fun c2 => ?_) (fun c2 => ?_)
      · replace h := hF h c2
        refine AW.aloadr_n 0 dX12_orders_90 rfl ?_
        refine AW.getR af_X12_148_117 sr_117_62 dX12_orders_91 ?_
        refine AW.iload_n 1 dX12_orders_94 rfl ?_
        refine AW.iload_n 3 dX12_orders_95 rfl ?_
        obtain ⟨k3, h⟩ := hK h
        obtain ⟨g4, e5, h⟩ := hBe h
        refine AW.iast kc_160 sk_160 k3 dX12_orders_96 e5 ?_
        refine AW.aloadr_n 0 dX12_orders_97 rfl ?_
        refine AW.iload_n 1 dX12_orders_98 rfl ?_
        refine AW.iconst dX12_orders_99 ?_
        refine AW.iadd dX12_orders_100 ?_
        refine AW.iload_n 2 dX12_orders_101 rfl ?_
        refine AW.iconst dX12_orders_102 ?_
        refine AW.iload_n 3 dX12_orders_103 rfl ?_
        refine AW.ishl dX12_orders_104 ?_
        refine AW.ior dX12_orders_105 ?_
        obtain ⟨r6, e7, h⟩ := hC h
        refine AW.callVv (As := [iv (x1 + 1), iv (orI x2 (shlI 1 x3))]) (st := []) (hrec _ _ _ _ e7) cq_X12_484 cr_117_X12_orders (by omega) rfl dX12_orders_106 rfl (Nat.le_of_ble_eq_true rfl) ?_
        cases h
        exact J84
      · replace h := hT h c2
        refine AW.goto (tgt := 109) dX12_orders_87 (by decide) ?_
        cases h
        exact J84
theorem M_orders_s_ok {z : AZ} {rec : Int → Int → AG → Option (Int × AG)} {Dr : Nat} (hC9 : 1 ≤ Dr) (hrec : ∀ (x1 : Int) (x2 : Int) (g : AG) (r : Int × AG), rec x1 x2 g = some r → AMf z yX12_orders cX12_orders 5 none Dr [rv z 117, iv x1, iv x2] g r) {x1 : Int} {x2 : Int} {g : AG} {r : Int × AG} (h : M_orders_s rec x1 x2 g = some r) : AMf z yX12_orders cX12_orders 5 none (Dr + 1) [rv z 117, iv x1, iv x2] g r := by
  intro d hdd
  refine AM.of (by decide +kernel) (Nat.le_of_ble_eq_true rfl) ?_
  show AW z (RX12, cX12_orders, 5, none) d (QD none r) 0 [(0, rv z 117), (1, iv x1), (2, iv x2)] [] g
  unfold M_orders_s at h
  refine AW.iload_n 1 dX12_orders_0 rfl ?_
  refine AW.aloadr_n 0 dX12_orders_1 rfl ?_
  refine AW.getI af_X12_475_117 sr_117_59 dX12_orders_2 ?_
  refine AW.icmp_ne (tgt := 68) dX12_orders_5 (by decide) (fun c1 => ?_) (fun c1 => ?_)
  · replace h := hF h c1
    refine AW.iconst dX12_orders_68 ?_
    refine AW.istore_n (lv1 := [(3, iv 0), (0, rv z 117), (1, iv x1), (2, iv x2)]) dX12_orders_69 (by decide) rfl ?_
    refine AW.sub (lv1 := [(0, rv z 117), (1, iv x1), (2, iv x2), (3, iv 0)]) [1, 2, 3, 0] rfl ?_
    exact (M_orders_b_ok hC9 hrec hdd _ _ _ _ _ h).2.2 rfl
  · replace h := hT h c1
    refine AW.aloadr_n 0 dX12_orders_8 rfl ?_
    obtain ⟨r2, e3, h⟩ := hC h
    refine AW.callVi (As := []) (st := []) (M_waits_ok e3) cq_X12_478 cr_117_X12_waits (by omega) rfl dX12_orders_9 rfl (Nat.le_of_ble_eq_true rfl) ?_
    refine AW.istore_n (lv1 := [(3, iv r2.1), (0, rv z 117), (1, iv x1), (2, iv x2)]) dX12_orders_12 (by decide) rfl ?_
    refine AW.aloadr_n 1 dX12_orders_13 rfl ?_
    refine AW.getI af_X12_481_117 sr_117_64 dX12_orders_14 ?_
    refine AW.iconst dX12_orders_17 ?_
    refine AW.icmp_eq (tgt := 30) dX12_orders_18 (by decide) (fun c4 => ?_) (fun c4 => ?_)
    · replace h := hT h c4
      refine AW.sub (lv1 := [(0, rv z 117), (3, iv r2.1)]) [1, 0] rfl ?_
      exact (M_orders_b_ok hC9 hrec hdd _ _ _ _ _ h).1 rfl
    · replace h := hF h c4
      refine AW.iload_n 0 dX12_orders_21 rfl ?_
      refine AW.aloadr_n 1 dX12_orders_22 rfl ?_
      refine AW.getI af_X12_481_117 sr_117_64 dX12_orders_23 ?_
      refine AW.icmp_lt (tgt := 30) dX12_orders_26 (by decide) (fun c5 => ?_) (fun c5 => ?_)
      · replace h := hT h c5
        refine AW.sub (lv1 := [(0, rv z 117), (3, iv r2.1)]) [1, 0] rfl ?_
        exact (M_orders_b_ok hC9 hrec hdd _ _ _ _ _ h).1 rfl
      · replace h := hF h c5
        exact AW.vret1 rfl dX12_orders_29 h rfl
theorem M_orders_ok {z : AZ} {n : Nat} {x1 : Int} {x2 : Int} {g : AG} {r : Int × AG} (h : M_orders n x1 x2 g = some r) : AMf z yX12_orders cX12_orders 5 none (1 + n * 1) [rv z 117, iv x1, iv x2] g r := by
  induction n generalizing x1 x2 g r with
  | zero => cases h
  | succ n ih =>
    have q := M_orders_s_ok (z := z) (Dr := 1 + n * 1) (Nat.le_add_right _ _) (fun x1 x2 g r h9 => ih h9) h
    rw [show 1 + (n + 1) * 1 = 1 + n * 1 + 1 by rw [Nat.add_mul]; omega]
    exact q
set_option synthInstance.maxHeartbeats 2000000 in
theorem M_asTheyCome_b_ok {z : AZ} {d : Nat} (hdd : 0 ≤ d) : ∀ (x1 : Int) (g : AG) (r : Int × AG), M_asTheyCome_b x1 g = some r → AW z (RX12, cX12_asTheyCome, 2, none) d (QD none r) 2 [(0, rv z 117), (1, iv x1)] [] g := by
  refine M_asTheyCome_b.partial_correctness (fun x1 g r => AW z (RX12, cX12_asTheyCome, 2, none) d (QD none r) 2 [(0, rv z 117), (1, iv x1)] [] g) ?_
  intro fb9 ih x1 g r h
  refine AW.iload_n 1 dX12_asTheyCome_2 rfl ?_
  refine AW.aloadr_n 0 dX12_asTheyCome_3 rfl ?_
  refine AW.getI af_X12_475_117 sr_117_59 dX12_asTheyCome_4 ?_
  refine AW.icmp_ge (tgt := 23) dX12_asTheyCome_7 (by decide) (fun c1 => ?_) (fun c1 => ?_)
  · replace h := hT h c1
    exact AW.vret1 rfl dX12_asTheyCome_23 h rfl
  · replace h := hF h c1
    refine AW.aloadr_n 0 dX12_asTheyCome_10 rfl ?_
    refine AW.getR af_X12_148_117 sr_117_62 dX12_asTheyCome_11 ?_
    refine AW.iload_n 1 dX12_asTheyCome_14 rfl ?_
    refine AW.iload_n 1 dX12_asTheyCome_15 rfl ?_
    obtain ⟨k2, h⟩ := hK h
    obtain ⟨g3, e4, h⟩ := hBe h
    refine AW.iast kc_160 sk_160 k2 dX12_asTheyCome_16 e4 ?_
    refine AW.iinc (lv1 := [(1, iv (x1 + 1)), (0, rv z 117)]) 1 dX12_asTheyCome_17 rfl (by decide) rfl ?_
    refine AW.goto (tgt := 2) dX12_asTheyCome_20 (by decide) ?_
    refine AW.sub (lv1 := [(0, rv z 117), (1, iv (x1 + 1))]) [1, 0] rfl ?_
    exact ih _ _ _ h
theorem M_asTheyCome_ok {z : AZ} {g : AG} {r : Int × AG} (h : M_asTheyCome g = some r) : AMf z yX12_asTheyCome cX12_asTheyCome 2 none 0 [rv z 117] g r := by
  intro d hdd
  refine AM.of (by decide +kernel) (Nat.le_of_ble_eq_true rfl) ?_
  show AW z (RX12, cX12_asTheyCome, 2, none) d (QD none r) 0 [(0, rv z 117)] [] g
  unfold M_asTheyCome at h
  refine AW.iconst dX12_asTheyCome_0 ?_
  refine AW.istore_n (lv1 := [(1, iv 0), (0, rv z 117)]) dX12_asTheyCome_1 (by decide) rfl ?_
  refine AW.sub (lv1 := [(0, rv z 117), (1, iv 0)]) [1, 0] rfl ?_
  exact M_asTheyCome_b_ok hdd _ _ _ h
set_option synthInstance.maxHeartbeats 2000000 in
theorem M_lockfuls_b_ok {z : AZ} {d : Nat} (hdd : 0 ≤ d) {g : AG} : ∀ (x1 : Int) (x2 : Int) (r : Int × AG), M_lockfuls_b g x1 x2 = some r → AW z (RX12, cX12_lockfuls, 3, (some .int)) d (QD (some .int) r) 7 [(0, rv z 117), (1, iv x1), (2, iv x2)] [] g := by
  refine M_lockfuls_b.partial_correctness g (fun x1 x2 r => AW z (RX12, cX12_lockfuls, 3, (some .int)) d (QD (some .int) r) 7 [(0, rv z 117), (1, iv x1), (2, iv x2)] [] g) ?_
  intro fb9 ih x1 x2 r h
  refine AW.iload_n 2 dX12_lockfuls_7 rfl ?_
  refine AW.aloadr_n 0 dX12_lockfuls_8 rfl ?_
  refine AW.getI af_X12_475_117 sr_117_59 dX12_lockfuls_9 ?_
  refine AW.icmp_ge (tgt := 56) dX12_lockfuls_12 (by decide) (fun c1 => ?_) (fun c1 => ?_)
  · replace h := hT h c1
    refine AW.iload_n 1 dX12_lockfuls_56 rfl ?_
    exact AW.iret1 rfl dX12_lockfuls_57 h rfl
  · replace h := hF h c1
    refine AW.iload_n 1 dX12_lockfuls_15 rfl ?_
    refine AW.aloadr_n 0 dX12_lockfuls_16 rfl ?_
    refine AW.getR af_X12_145_117 sr_117_61 dX12_lockfuls_17 ?_
    refine AW.aloadr_n 0 dX12_lockfuls_20 rfl ?_
    refine AW.getR af_X12_148_117 sr_117_62 dX12_lockfuls_21 ?_
    refine AW.iload_n 2 dX12_lockfuls_24 rfl ?_
    obtain ⟨k2, h⟩ := hK h
    refine AW.iald kc_160 sk_160 k2 dX12_lockfuls_25 ?_
    obtain ⟨k3, h⟩ := hK h
    refine AW.iald kc_159 sk_159 k3 dX12_lockfuls_26 ?_
    refine AW.aloadr_n 0 dX12_lockfuls_27 rfl ?_
    refine AW.getR af_X12_145_117 sr_117_61 dX12_lockfuls_28 ?_
    refine AW.aloadr_n 0 dX12_lockfuls_31 rfl ?_
    refine AW.getR af_X12_148_117 sr_117_62 dX12_lockfuls_32 ?_
    refine AW.iload_n 2 dX12_lockfuls_35 rfl ?_
    refine AW.iconst dX12_lockfuls_36 ?_
    refine AW.isub dX12_lockfuls_37 ?_
    obtain ⟨k4, h⟩ := hK h
    refine AW.iald kc_160 sk_160 k4 dX12_lockfuls_38 ?_
    obtain ⟨k5, h⟩ := hK h
    refine AW.iald kc_159 sk_159 k5 dX12_lockfuls_39 ?_
    obtain ⟨t6, e7, h⟩ := hBe h
    refine AW.join (tgt := 48) (lv1 := [(0, rv z 117), (1, iv x1), (2, iv x2)]) (st1 := [iv t6, iv x1]) (g1 := g) ?_ (fun J40 => ?_)
    · refine AW.isub dX12_lockfuls_48 ?_
      refine AW.istore_n (lv1 := [(1, iv (x1 - t6)), (0, rv z 117), (2, iv x2)]) dX12_lockfuls_49 (by decide) rfl ?_
      refine AW.iinc (lv1 := [(2, iv (x2 + 1)), (1, iv (x1 - t6)), (0, rv z 117)]) 2 dX12_lockfuls_50 rfl (by decide) rfl ?_
      refine AW.goto (tgt := 7) dX12_lockfuls_53 (by decide) ?_
      refine AW.sub (lv1 := [(0, rv z 117), (1, iv (x1 - t6)), (2, iv (x2 + 1))]) [2, 1, 0] rfl ?_
      exact ih _ _ _ h
    refine AW.icmp_eq (tgt := 47) dX12_lockfuls_40 (by decide) (fun c8 => ?_) (fun c8 => ?_)
    · refine AW.iconst dX12_lockfuls_47 ?_
      exact AW.val (e7.trans (if_pos c8)) J40
    · refine AW.iconst dX12_lockfuls_43 ?_
      refine AW.goto (tgt := 48) dX12_lockfuls_44 (by decide) ?_
      exact AW.val (e7.trans (if_neg c8)) J40
theorem M_lockfuls_ok {z : AZ} {g : AG} {r : Int × AG} (h : M_lockfuls g = some r) : AMf z yX12_lockfuls cX12_lockfuls 3 (some .int) 0 [rv z 117] g r := by
  intro d hdd
  refine AM.of (by decide +kernel) (Nat.le_of_ble_eq_true rfl) ?_
  show AW z (RX12, cX12_lockfuls, 3, (some .int)) d (QD (some .int) r) 0 [(0, rv z 117)] [] g
  unfold M_lockfuls at h
  refine AW.aloadr_n 0 dX12_lockfuls_0 rfl ?_
  refine AW.getI af_X12_475_117 sr_117_59 dX12_lockfuls_1 ?_
  refine AW.istore_n (lv1 := [(1, iv (g 117 59)), (0, rv z 117)]) dX12_lockfuls_4 (by decide) rfl ?_
  refine AW.iconst dX12_lockfuls_5 ?_
  refine AW.istore_n (lv1 := [(2, iv 1), (1, iv (g 117 59)), (0, rv z 117)]) dX12_lockfuls_6 (by decide) rfl ?_
  refine AW.sub (lv1 := [(0, rv z 117), (1, iv (g 117 59)), (2, iv 1)]) [2, 1, 0] rfl ?_
  exact M_lockfuls_b_ok hdd _ _ _ h
set_option synthInstance.maxHeartbeats 2000000 in
theorem M_lock_b_ok {z : AZ} {d : Nat} (hdd : 11 ≤ d) {x1 : Int} : ∀ (tag : Nat) (x2 : Int) (g : AG) (r : Int × AG), M_lock_b x1 tag x2 g = some r → (tag = 1 → AW z (RX12, cX12_lock, 3, (some .int)) d (QD (some .int) r) 27 [(0, rv z 117), (1, iv x1)] [] g) ∧ (tag = 2 → AW z (RX12, cX12_lock, 3, (some .int)) d (QD (some .int) r) 68 [(0, rv z 117), (1, iv x1)] [] g) ∧ (tag = 3 → AW z (RX12, cX12_lock, 3, (some .int)) d (QD (some .int) r) 70 [(0, rv z 117), (1, iv x1), (2, iv x2)] [] g) ∧ (tag = 4 → AW z (RX12, cX12_lock, 3, (some .int)) d (QD (some .int) r) 96 [(0, rv z 117), (1, iv x1)] [] g) := by
  refine M_lock_b.partial_correctness x1 (fun tag x2 g r => (tag = 1 → AW z (RX12, cX12_lock, 3, (some .int)) d (QD (some .int) r) 27 [(0, rv z 117), (1, iv x1)] [] g) ∧ (tag = 2 → AW z (RX12, cX12_lock, 3, (some .int)) d (QD (some .int) r) 68 [(0, rv z 117), (1, iv x1)] [] g) ∧ (tag = 3 → AW z (RX12, cX12_lock, 3, (some .int)) d (QD (some .int) r) 70 [(0, rv z 117), (1, iv x1), (2, iv x2)] [] g) ∧ (tag = 4 → AW z (RX12, cX12_lock, 3, (some .int)) d (QD (some .int) r) 96 [(0, rv z 117), (1, iv x1)] [] g)) ?_
  intro fb9 ih tag x2 g r h
  refine ⟨fun h9 => ?_, fun h9 => ?_, fun h9 => ?_, fun h9 => ?_⟩
  · subst h9
    replace h := hT h rfl
    refine AW.aloadr_n 0 dX12_lock_27 rfl ?_
    refine AW.iconst dX12_lock_28 ?_
    obtain ⟨g1, e2, h⟩ := hBe h
    refine AW.putI ap_X12_481_117 sr_117_64 dX12_lock_29 e2 ?_
    refine AW.aloadr_n 0 dX12_lock_32 rfl ?_
    refine AW.iconst dX12_lock_33 ?_
    refine AW.iconst dX12_lock_34 ?_
    obtain ⟨r3, e4, h⟩ := hC h
    refine AW.callVv (As := [iv 0, iv 0]) (st := []) ((M_orders_ok (n := 9)) e4) cq_X12_484 cr_117_X12_orders (Nat.le_trans (by decide) hdd) rfl dX12_lock_35 rfl (Nat.le_of_ble_eq_true rfl) ?_
    refine AW.iload_n 1 dX12_lock_38 rfl ?_
    refine AW.bipush dX12_lock_39 (by decide) (by decide) ?_
    refine AW.icmp_lt (tgt := 54) dX12_lock_41 (by decide) (fun c5 => ?_) (fun c5 => ?_)
    · replace h := hT h c5
      refine AW.aloadr_n 0 dX12_lock_54 rfl ?_
      obtain ⟨r6, e7, h⟩ := hC h
      refine AW.callVv (As := []) (st := []) (M_asTheyCome_ok e7) cq_X12_487 cr_117_X12_asTheyCome (Nat.le_trans (by decide) hdd) rfl dX12_lock_55 rfl (Nat.le_of_ble_eq_true rfl) ?_
      refine AW.iload_n 1 dX12_lock_58 rfl ?_
      refine AW.iconst dX12_lock_59 ?_
      refine AW.icmp_eq (tgt := 68) dX12_lock_60 (by decide) (fun c8 => ?_) (fun c8 => ?_)
      · replace h := hT h c8
        exact (ih _ _ _ _ h).2.1 rfl
      · replace h := hF h c8
        refine AW.iload_n 1 dX12_lock_63 rfl ?_
        refine AW.iconst dX12_lock_64 ?_
        refine AW.icmp_ne (tgt := 96) dX12_lock_65 (by decide) (fun c9 => ?_) (fun c9 => ?_)
        · replace h := hF h c9
          exact (ih _ _ _ _ h).2.2.2 rfl
        · replace h := hT h c9
          exact (ih _ _ _ _ h).2.1 rfl
    · replace h := hF h c5
      refine AW.aloadr_n 0 dX12_lock_44 rfl ?_
      refine AW.getR af_X12_151_117 sr_117_63 dX12_lock_45 ?_
      refine AW.iload_n 1 dX12_lock_48 rfl ?_
      refine AW.bipush dX12_lock_49 (by decide) (by decide) ?_
      refine AW.isub dX12_lock_51 ?_
      obtain ⟨k10, h⟩ := hK h
      refine AW.iald kc_161 sk_161 k10 dX12_lock_52 ?_
      exact AW.iret1 rfl dX12_lock_53 h rfl
  · subst h9
    replace h := hF h (by decide)
    replace h := hT h rfl
    refine AW.iconst dX12_lock_68 ?_
    refine AW.istore_n (lv1 := [(2, iv 0), (0, rv z 117), (1, iv x1)]) dX12_lock_69 (by decide) rfl ?_
    refine AW.sub (lv1 := [(0, rv z 117), (1, iv x1), (2, iv 0)]) [1, 2, 0] rfl ?_
    exact (ih _ _ _ _ h).2.2.1 rfl
  · subst h9
    replace h := hF h (by decide)
    replace h := hF h (by decide)
    replace h := hT h rfl
    refine AW.iload_n 2 dX12_lock_70 rfl ?_
    refine AW.aloadr_n 0 dX12_lock_71 rfl ?_
    refine AW.getI af_X12_475_117 sr_117_59 dX12_lock_72 ?_
    refine AW.icmp_ge (tgt := 96) dX12_lock_75 (by decide) (fun c1 => ?_) (fun c1 => ?_)
    · replace h := hT h c1
      refine AW.sub (lv1 := [(0, rv z 117), (1, iv x1)]) [0, 1] rfl ?_
      exact (ih _ _ _ _ h).2.2.2 rfl
    · replace h := hF h c1
      refine AW.aloadr_n 0 dX12_lock_78 rfl ?_
      refine AW.getR af_X12_148_117 sr_117_62 dX12_lock_79 ?_
      refine AW.iload_n 2 dX12_lock_82 rfl ?_
      refine AW.aloadr_n 0 dX12_lock_83 rfl ?_
      refine AW.getR af_X12_151_117 sr_117_63 dX12_lock_84 ?_
      refine AW.iload_n 2 dX12_lock_87 rfl ?_
      obtain ⟨k2, h⟩ := hK h
      refine AW.iald kc_161 sk_161 k2 dX12_lock_88 ?_
      obtain ⟨g3, e4, h⟩ := hBe h
      refine AW.iast kc_160 sk_160 k2 dX12_lock_89 e4 ?_
      refine AW.iinc (lv1 := [(2, iv (x2 + 1)), (0, rv z 117), (1, iv x1)]) 2 dX12_lock_90 rfl (by decide) rfl ?_
      refine AW.goto (tgt := 70) dX12_lock_93 (by decide) ?_
      refine AW.sub (lv1 := [(0, rv z 117), (1, iv x1), (2, iv (x2 + 1))]) [1, 2, 0] rfl ?_
      exact (ih _ _ _ _ h).2.2.1 rfl
  · subst h9
    replace h := hF h (by decide)
    replace h := hF h (by decide)
    replace h := hF h (by decide)
    replace h := hT h rfl
    refine AW.iload_n 1 dX12_lock_96 rfl ?_
    refine AW.iconst dX12_lock_97 ?_
    obtain ⟨r6, e7, h⟩ := hC h
    refine AW.join (tgt := 112) (lv1 := []) (st1 := [iv r6.1]) (g1 := r6.2) ?_ (fun J98 => ?_)
    · exact AW.iret1 rfl dX12_lock_112 h rfl
    replace h := e7
    refine AW.icmp_ge (tgt := 108) dX12_lock_98 (by decide) (fun c1 => ?_) (fun c1 => ?_)
    · replace h := hT h c1
      refine AW.aloadr_n 0 dX12_lock_108 rfl ?_
      obtain ⟨r2, e3, h⟩ := hC h
      refine AW.callVi (As := []) (st := []) (M_lockfuls_ok e3) cq_X12_490 cr_117_X12_lockfuls (Nat.le_trans (by decide) hdd) rfl dX12_lock_109 rfl (Nat.le_of_ble_eq_true rfl) ?_
      refine AW.sub (lv1 := []) [] rfl ?_
      cases h
      exact J98
    · replace h := hF h c1
      refine AW.aloadr_n 0 dX12_lock_101 rfl ?_
      obtain ⟨r4, e5, h⟩ := hC h
      refine AW.callVi (As := []) (st := []) (M_waits_ok e5) cq_X12_478 cr_117_X12_waits (Nat.le_trans (by decide) hdd) rfl dX12_lock_102 rfl (Nat.le_of_ble_eq_true rfl) ?_
      refine AW.goto (tgt := 112) dX12_lock_105 (by decide) ?_
      refine AW.sub (lv1 := []) [] rfl ?_
      cases h
      exact J98
theorem M_lock_ok {z : AZ} {x1 : Int} {g : AG} {r : Int × AG} (h : M_lock x1 g = some r) : AMf z yX12_lock cX12_lock 3 (some .int) 11 [rv z 117, iv x1] g r := by
  intro d hdd
  refine AM.of (by decide +kernel) (Nat.le_of_ble_eq_true rfl) ?_
  show AW z (RX12, cX12_lock, 3, (some .int)) d (QD (some .int) r) 0 [(0, rv z 117), (1, iv x1)] [] g
  unfold M_lock at h
  refine AW.iload_n 1 dX12_lock_0 rfl ?_
  refine AW.iconst dX12_lock_1 ?_
  refine AW.iconst dX12_lock_2 ?_
  refine AW.callSi (As := [iv x1, iv 0, iv 3]) (st := []) M_isIn_ok cq_X12_3 st_X12_isIn (Nat.le_trans (by decide) hdd) rfl dX12_lock_3 rfl (Nat.le_of_ble_eq_true rfl) ?_
  refine AW.if_ne (tgt := 27) dX12_lock_6 (by decide) (fun c1 => ?_) (fun c1 => ?_)
  · replace h := hF h c1
    exact (M_lock_b_ok hdd _ _ _ _ h).1 rfl
  · replace h := hT h c1
    refine AW.iload_n 1 dX12_lock_9 rfl ?_
    refine AW.bipush dX12_lock_10 (by decide) (by decide) ?_
    refine AW.bipush dX12_lock_12 (by decide) (by decide) ?_
    refine AW.aloadr_n 0 dX12_lock_14 rfl ?_
    refine AW.getI af_X12_475_117 sr_117_59 dX12_lock_15 ?_
    refine AW.iadd dX12_lock_18 ?_
    refine AW.callSi (As := [iv x1, iv 10, iv (9 + (g 117 59))]) (st := []) M_isIn_ok cq_X12_3 st_X12_isIn (Nat.le_trans (by decide) hdd) rfl dX12_lock_19 rfl (Nat.le_of_ble_eq_true rfl) ?_
    refine AW.if_ne (tgt := 27) dX12_lock_22 (by decide) (fun c2 => ?_) (fun c2 => ?_)
    · replace h := hF h c2
      exact (M_lock_b_ok hdd _ _ _ _ h).1 rfl
    · replace h := hT h c2
      refine AW.iconst dX12_lock_25 ?_
      exact AW.iret1 rfl dX12_lock_26 h rfl
theorem M_booking_ok {z : AZ} {x1 : Int} {x2 : Int} {x3 : Int} {x4 : Int} {g : AG} {r : Int × AG} (h : M_booking x1 x2 x3 x4 g = some r) : AMf z yX12_booking cX12_booking 5 (some .int) 2 [rv z 117, iv x1, iv x2, iv x3, iv x4] g r := by
  intro d hdd
  refine AM.of (by decide +kernel) (Nat.le_of_ble_eq_true rfl) ?_
  show AW z (RX12, cX12_booking, 5, (some .int)) d (QD (some .int) r) 0 [(0, rv z 117), (1, iv x1), (2, iv x2), (3, iv x3), (4, iv x4)] [] g
  unfold M_booking at h
  refine AW.iload_n 1 dX12_booking_0 rfl ?_
  refine AW.callSi (As := [iv x1]) (st := []) M_isPoint_ok cq_X12_238 st_X12_isPoint (Nat.le_trans (by decide) hdd) rfl dX12_booking_1 rfl (Nat.le_of_ble_eq_true rfl) ?_
  refine AW.if_eq (tgt := 44) dX12_booking_4 (by decide) (fun c1 => ?_) (fun c1 => ?_)
  · replace h := hT h c1
    refine AW.iconst dX12_booking_44 ?_
    exact AW.iret1 rfl dX12_booking_45 h rfl
  · replace h := hF h c1
    refine AW.iload_n 2 dX12_booking_7 rfl ?_
    refine AW.callSi (As := [iv x2]) (st := []) M_isPoint_ok cq_X12_238 st_X12_isPoint (Nat.le_trans (by decide) hdd) rfl dX12_booking_8 rfl (Nat.le_of_ble_eq_true rfl) ?_
    refine AW.if_eq (tgt := 44) dX12_booking_11 (by decide) (fun c2 => ?_) (fun c2 => ?_)
    · replace h := hT h c2
      refine AW.iconst dX12_booking_44 ?_
      exact AW.iret1 rfl dX12_booking_45 h rfl
    · replace h := hF h c2
      refine AW.iload_n 3 dX12_booking_14 rfl ?_
      refine AW.iconst dX12_booking_15 ?_
      refine AW.bipush dX12_booking_16 (by decide) (by decide) ?_
      refine AW.callSi (As := [iv x3, iv 0, iv 9]) (st := []) M_isIn_ok cq_X12_3 st_X12_isIn (Nat.le_trans (by decide) hdd) rfl dX12_booking_18 rfl (Nat.le_of_ble_eq_true rfl) ?_
      refine AW.if_eq (tgt := 44) dX12_booking_21 (by decide) (fun c3 => ?_) (fun c3 => ?_)
      · replace h := hT h c3
        refine AW.iconst dX12_booking_44 ?_
        exact AW.iret1 rfl dX12_booking_45 h rfl
      · replace h := hF h c3
        refine AW.iload 4 dX12_booking_24 rfl ?_
        refine AW.iconst dX12_booking_26 ?_
        refine AW.bipush dX12_booking_27 (by decide) (by decide) ?_
        refine AW.callSi (As := [iv x4, iv 2, iv 12]) (st := []) M_isIn_ok cq_X12_3 st_X12_isIn (Nat.le_trans (by decide) hdd) rfl dX12_booking_29 rfl (Nat.le_of_ble_eq_true rfl) ?_
        refine AW.if_eq (tgt := 44) dX12_booking_32 (by decide) (fun c4 => ?_) (fun c4 => ?_)
        · replace h := hT h c4
          refine AW.iconst dX12_booking_44 ?_
          exact AW.iret1 rfl dX12_booking_45 h rfl
        · replace h := hF h c4
          refine AW.aloadr_n 0 dX12_booking_35 rfl ?_
          refine AW.getI af_X12_493_117 sr_117_65 dX12_booking_36 ?_
          refine AW.bipush dX12_booking_39 (by decide) (by decide) ?_
          refine AW.icmp_ne (tgt := 46) dX12_booking_41 (by decide) (fun c5 => ?_) (fun c5 => ?_)
          · replace h := hF h c5
            refine AW.aloadr_n 0 dX12_booking_46 rfl ?_
            refine AW.getR af_X12_154_117 sr_117_68 dX12_booking_47 ?_
            refine AW.aloadr_n 0 dX12_booking_50 rfl ?_
            refine AW.getI af_X12_493_117 sr_117_65 dX12_booking_51 ?_
            refine AW.iload_n 1 dX12_booking_54 rfl ?_
            obtain ⟨k6, h⟩ := hK h
            obtain ⟨g7, e8, h⟩ := hBe h
            refine AW.iast kc_162 sk_162 k6 dX12_booking_55 e8 ?_
            refine AW.aloadr_n 0 dX12_booking_56 rfl ?_
            refine AW.getR af_X12_157_117 sr_117_69 dX12_booking_57 ?_
            refine AW.aloadr_n 0 dX12_booking_60 rfl ?_
            refine AW.getI af_X12_493_117 sr_117_65 dX12_booking_61 ?_
            refine AW.iload_n 2 dX12_booking_64 rfl ?_
            obtain ⟨k9, h⟩ := hK h
            obtain ⟨g10, e11, h⟩ := hBe h
            refine AW.iast kc_163 sk_163 k9 dX12_booking_65 e11 ?_
            refine AW.aloadr_n 0 dX12_booking_66 rfl ?_
            refine AW.getR af_X12_160_117 sr_117_70 dX12_booking_67 ?_
            refine AW.aloadr_n 0 dX12_booking_70 rfl ?_
            refine AW.getI af_X12_493_117 sr_117_65 dX12_booking_71 ?_
            refine AW.iload_n 3 dX12_booking_74 rfl ?_
            obtain ⟨k12, h⟩ := hK h
            obtain ⟨g13, e14, h⟩ := hBe h
            refine AW.iast kc_164 sk_164 k12 dX12_booking_75 e14 ?_
            refine AW.aloadr_n 0 dX12_booking_76 rfl ?_
            refine AW.getR af_X12_163_117 sr_117_71 dX12_booking_77 ?_
            refine AW.aloadr_n 0 dX12_booking_80 rfl ?_
            refine AW.getI af_X12_493_117 sr_117_65 dX12_booking_81 ?_
            refine AW.iload 4 dX12_booking_84 rfl ?_
            obtain ⟨k15, h⟩ := hK h
            obtain ⟨g16, e17, h⟩ := hBe h
            refine AW.iast kc_165 sk_165 k15 dX12_booking_86 e17 ?_
            refine AW.aloadr_n 0 dX12_booking_87 rfl ?_
            refine AW.duprr dX12_booking_88 ?_
            refine AW.getI af_X12_493_117 sr_117_65 dX12_booking_89 ?_
            refine AW.iconst dX12_booking_92 ?_
            refine AW.iadd dX12_booking_93 ?_
            obtain ⟨g18, e19, h⟩ := hBe h
            refine AW.putI ap_X12_493_117 sr_117_65 dX12_booking_94 e19 ?_
            refine AW.aloadr_n 0 dX12_booking_97 rfl ?_
            refine AW.getI af_X12_493_117 sr_117_65 dX12_booking_98 ?_
            refine AW.iconst dX12_booking_101 ?_
            refine AW.isub dX12_booking_102 ?_
            exact AW.iret1 rfl dX12_booking_103 h rfl
          · replace h := hT h c5
            refine AW.iconst dX12_booking_44 ?_
            exact AW.iret1 rfl dX12_booking_45 h rfl
set_option synthInstance.maxHeartbeats 2000000 in
theorem M_asks_b_ok {z : AZ} {d : Nat} (hdd : 0 ≤ d) {x1 : Int} : ∀ (x2 : Int) (g : AG) (r : Int × AG), M_asks_b x1 x2 g = some r → AW z (RX12, cX12_asks, 3, none) d (QD none r) 2 [(0, rv z 117), (1, iv x1), (2, iv x2)] [] g := by
  refine M_asks_b.partial_correctness x1 (fun x2 g r => AW z (RX12, cX12_asks, 3, none) d (QD none r) 2 [(0, rv z 117), (1, iv x1), (2, iv x2)] [] g) ?_
  intro fb9 ih x2 g r h
  refine AW.iload_n 2 dX12_asks_2 rfl ?_
  refine AW.iload_n 1 dX12_asks_3 rfl ?_
  refine AW.icmp_ge (tgt := 37) dX12_asks_4 (by decide) (fun c1 => ?_) (fun c1 => ?_)
  · replace h := hT h c1
    exact AW.vret1 rfl dX12_asks_37 h rfl
  · replace h := hF h c1
    refine AW.aloadr_n 0 dX12_asks_7 rfl ?_
    refine AW.getR af_X12_181_117 sr_117_77 dX12_asks_8 ?_
    refine AW.iload_n 2 dX12_asks_11 rfl ?_
    refine AW.aloadr_n 0 dX12_asks_12 rfl ?_
    refine AW.getR af_X12_32_117 sr_117_6 dX12_asks_13 ?_
    refine AW.iload_n 2 dX12_asks_16 rfl ?_
    obtain ⟨k2, h⟩ := hK h
    refine AW.iald kc_124 sk_124 k2 dX12_asks_17 ?_
    obtain ⟨k3, h⟩ := hK h
    obtain ⟨g4, e5, h⟩ := hBe h
    refine AW.iast kc_171 sk_171 k3 dX12_asks_18 e5 ?_
    refine AW.aloadr_n 0 dX12_asks_19 rfl ?_
    refine AW.getR af_X12_184_117 sr_117_78 dX12_asks_20 ?_
    refine AW.iload_n 2 dX12_asks_23 rfl ?_
    refine AW.aloadr_n 0 dX12_asks_24 rfl ?_
    refine AW.getR af_X12_38_117 sr_117_8 dX12_asks_25 ?_
    refine AW.iload_n 2 dX12_asks_28 rfl ?_
    refine AW.iald kc_126 sk_126 k2 dX12_asks_29 ?_
    obtain ⟨g6, e7, h⟩ := hBe h
    refine AW.iast kc_172 sk_172 k3 dX12_asks_30 e7 ?_
    refine AW.iinc (lv1 := [(2, iv (x2 + 1)), (0, rv z 117), (1, iv x1)]) 2 dX12_asks_31 rfl (by decide) rfl ?_
    refine AW.goto (tgt := 2) dX12_asks_34 (by decide) ?_
    refine AW.sub (lv1 := [(0, rv z 117), (1, iv x1), (2, iv (x2 + 1))]) [1, 2, 0] rfl ?_
    exact ih _ _ _ h
theorem M_asks_ok {z : AZ} {x1 : Int} {g : AG} {r : Int × AG} (h : M_asks x1 g = some r) : AMf z yX12_asks cX12_asks 3 none 0 [rv z 117, iv x1] g r := by
  intro d hdd
  refine AM.of (by decide +kernel) (Nat.le_of_ble_eq_true rfl) ?_
  show AW z (RX12, cX12_asks, 3, none) d (QD none r) 0 [(0, rv z 117), (1, iv x1)] [] g
  unfold M_asks at h
  refine AW.iconst dX12_asks_0 ?_
  refine AW.istore_n (lv1 := [(2, iv 0), (0, rv z 117), (1, iv x1)]) dX12_asks_1 (by decide) rfl ?_
  refine AW.sub (lv1 := [(0, rv z 117), (1, iv x1), (2, iv 0)]) [1, 2, 0] rfl ?_
  exact M_asks_b_ok hdd _ _ _ h
set_option synthInstance.maxHeartbeats 2000000 in
theorem M_sorts_b_ok {z : AZ} {d : Nat} (hdd : 0 ≤ d) : ∀ (tag : Nat) (x1 : Int) (x2 : Int) (g : AG) (r : Int × AG), M_sorts_b tag x1 x2 g = some r → (tag = 1 → AW z (RX12, cX12_sorts, 3, none) d (QD none r) 2 [(0, rv z 117), (1, iv x1)] [] g) ∧ (tag = 2 → AW z (RX12, cX12_sorts, 3, none) d (QD none r) 12 [(0, rv z 117), (1, iv x1), (2, iv x2)] [] g) ∧ (tag = 3 → AW z (RX12, cX12_sorts, 3, none) d (QD none r) 58 [(0, rv z 117), (1, iv x1), (2, iv x2)] [] g) := by
  refine M_sorts_b.partial_correctness (fun tag x1 x2 g r => (tag = 1 → AW z (RX12, cX12_sorts, 3, none) d (QD none r) 2 [(0, rv z 117), (1, iv x1)] [] g) ∧ (tag = 2 → AW z (RX12, cX12_sorts, 3, none) d (QD none r) 12 [(0, rv z 117), (1, iv x1), (2, iv x2)] [] g) ∧ (tag = 3 → AW z (RX12, cX12_sorts, 3, none) d (QD none r) 58 [(0, rv z 117), (1, iv x1), (2, iv x2)] [] g)) ?_
  intro fb9 ih tag x1 x2 g r h
  refine ⟨fun h9 => ?_, fun h9 => ?_, fun h9 => ?_⟩
  · subst h9
    replace h := hT h rfl
    refine AW.iload_n 1 dX12_sorts_2 rfl ?_
    refine AW.aloadr_n 0 dX12_sorts_3 rfl ?_
    refine AW.getI af_X12_493_117 sr_117_65 dX12_sorts_4 ?_
    refine AW.icmp_ge (tgt := 71) dX12_sorts_7 (by decide) (fun c1 => ?_) (fun c1 => ?_)
    · replace h := hT h c1
      exact AW.vret1 rfl dX12_sorts_71 h rfl
    · replace h := hF h c1
      refine AW.iload_n 1 dX12_sorts_10 rfl ?_
      refine AW.istore_n (lv1 := [(2, iv x1), (0, rv z 117), (1, iv x1)]) dX12_sorts_11 (by decide) rfl ?_
      refine AW.sub (lv1 := [(0, rv z 117), (1, iv x1), (2, iv x1)]) [1, 2, 0] rfl ?_
      exact (ih _ _ _ _ _ h).2.1 rfl
  · subst h9
    replace h := hF h (by decide)
    replace h := hT h rfl
    refine AW.iload_n 2 dX12_sorts_12 rfl ?_
    refine AW.if_le (tgt := 58) dX12_sorts_13 (by decide) (fun c1 => ?_) (fun c1 => ?_)
    · replace h := hT h c1
      exact (ih _ _ _ _ _ h).2.2 rfl
    · replace h := hF h c1
      refine AW.aloadr_n 0 dX12_sorts_16 rfl ?_
      refine AW.getR af_X12_160_117 sr_117_70 dX12_sorts_17 ?_
      refine AW.aloadr_n 0 dX12_sorts_20 rfl ?_
      refine AW.getR af_X12_166_117 sr_117_72 dX12_sorts_21 ?_
      refine AW.iload_n 2 dX12_sorts_24 rfl ?_
      refine AW.iconst dX12_sorts_25 ?_
      refine AW.isub dX12_sorts_26 ?_
      obtain ⟨k2, h⟩ := hK h
      refine AW.iald kc_166 sk_166 k2 dX12_sorts_27 ?_
      obtain ⟨k3, h⟩ := hK h
      refine AW.iald kc_164 sk_164 k3 dX12_sorts_28 ?_
      refine AW.aloadr_n 0 dX12_sorts_29 rfl ?_
      refine AW.getR af_X12_160_117 sr_117_70 dX12_sorts_30 ?_
      refine AW.iload_n 1 dX12_sorts_33 rfl ?_
      obtain ⟨k4, h⟩ := hK h
      refine AW.iald kc_164 sk_164 k4 dX12_sorts_34 ?_
      refine AW.icmp_le (tgt := 58) dX12_sorts_35 (by decide) (fun c5 => ?_) (fun c5 => ?_)
      · replace h := hT h c5
        exact (ih _ _ _ _ _ h).2.2 rfl
      · replace h := hF h c5
        refine AW.aloadr_n 0 dX12_sorts_38 rfl ?_
        refine AW.getR af_X12_166_117 sr_117_72 dX12_sorts_39 ?_
        refine AW.iload_n 2 dX12_sorts_42 rfl ?_
        refine AW.aloadr_n 0 dX12_sorts_43 rfl ?_
        refine AW.getR af_X12_166_117 sr_117_72 dX12_sorts_44 ?_
        refine AW.iload_n 2 dX12_sorts_47 rfl ?_
        refine AW.iconst dX12_sorts_48 ?_
        refine AW.isub dX12_sorts_49 ?_
        refine AW.iald kc_166 sk_166 k2 dX12_sorts_50 ?_
        obtain ⟨k6, h⟩ := hK h
        obtain ⟨g7, e8, h⟩ := hBe h
        refine AW.iast kc_166 sk_166 k6 dX12_sorts_51 e8 ?_
        refine AW.iinc (lv1 := [(2, iv (x2 + (-1))), (0, rv z 117), (1, iv x1)]) 2 dX12_sorts_52 rfl (by decide) rfl ?_
        refine AW.goto (tgt := 12) dX12_sorts_55 (by decide) ?_
        refine AW.sub (lv1 := [(0, rv z 117), (1, iv x1), (2, iv (x2 + (-1)))]) [1, 2, 0] rfl ?_
        exact (ih _ _ _ _ _ h).2.1 rfl
  · subst h9
    replace h := hF h (by decide)
    replace h := hF h (by decide)
    replace h := hT h rfl
    refine AW.aloadr_n 0 dX12_sorts_58 rfl ?_
    refine AW.getR af_X12_166_117 sr_117_72 dX12_sorts_59 ?_
    refine AW.iload_n 2 dX12_sorts_62 rfl ?_
    refine AW.iload_n 1 dX12_sorts_63 rfl ?_
    obtain ⟨k1, h⟩ := hK h
    obtain ⟨g2, e3, h⟩ := hBe h
    refine AW.iast kc_166 sk_166 k1 dX12_sorts_64 e3 ?_
    refine AW.iinc (lv1 := [(1, iv (x1 + 1)), (0, rv z 117), (2, iv x2)]) 1 dX12_sorts_65 rfl (by decide) rfl ?_
    refine AW.goto (tgt := 2) dX12_sorts_68 (by decide) ?_
    refine AW.sub (lv1 := [(0, rv z 117), (1, iv (x1 + 1))]) [1, 0] rfl ?_
    exact (ih _ _ _ _ _ h).1 rfl
theorem M_sorts_ok {z : AZ} {g : AG} {r : Int × AG} (h : M_sorts g = some r) : AMf z yX12_sorts cX12_sorts 3 none 0 [rv z 117] g r := by
  intro d hdd
  refine AM.of (by decide +kernel) (Nat.le_of_ble_eq_true rfl) ?_
  show AW z (RX12, cX12_sorts, 3, none) d (QD none r) 0 [(0, rv z 117)] [] g
  unfold M_sorts at h
  refine AW.iconst dX12_sorts_0 ?_
  refine AW.istore_n (lv1 := [(1, iv 0), (0, rv z 117)]) dX12_sorts_1 (by decide) rfl ?_
  refine AW.sub (lv1 := [(0, rv z 117), (1, iv 0)]) [1, 0] rfl ?_
  exact (M_sorts_b_ok hdd _ _ _ _ _ h).1 rfl
set_option synthInstance.maxHeartbeats 2000000 in
theorem M_gives_b_ok {z : AZ} {rec : Int → Int → Int → AG → Option (Int × AG)} {Dr : Nat} (hC9 : 0 ≤ Dr) (hrec : ∀ (x1 : Int) (x2 : Int) (x3 : Int) (g : AG) (r : Int × AG), rec x1 x2 x3 g = some r → AMf z yX12_gives cX12_gives 8 none Dr [rv z 117, iv x1, iv x2, iv x3] g r) {d : Nat} (hdd : Dr + 1 ≤ d) {x1 : Int} {x2 : Int} {x3 : Int} : ∀ (tag : Nat) (x4 : Int) (x5 : Int) (g : AG) (r : Int × AG), M_gives_b rec x1 x2 x3 tag x4 x5 g = some r → (tag = 1 → AW z (RX12, cX12_gives, 8, none) d (QD none r) 14 [(0, rv z 117), (2, iv x2), (3, iv x3), (4, iv x4), (5, iv x5)] [] g) ∧ (tag = 2 → AW z (RX12, cX12_gives, 8, none) d (QD none r) 79 [(0, rv z 117), (3, iv x3), (4, iv x4)] [] g) ∧ (tag = 3 → AW z (RX12, cX12_gives, 8, none) d (QD none r) 93 [(0, rv z 117), (5, iv x5)] [] g) ∧ (tag = 4 → AW z (RX12, cX12_gives, 8, none) d (QD none r) 134 [(0, rv z 117), (1, iv x1), (2, iv x2), (3, iv x3), (4, iv x4), (5, iv x5)] [] g) := by
  refine M_gives_b.partial_correctness rec x1 x2 x3 (fun tag x4 x5 g r => (tag = 1 → AW z (RX12, cX12_gives, 8, none) d (QD none r) 14 [(0, rv z 117), (2, iv x2), (3, iv x3), (4, iv x4), (5, iv x5)] [] g) ∧ (tag = 2 → AW z (RX12, cX12_gives, 8, none) d (QD none r) 79 [(0, rv z 117), (3, iv x3), (4, iv x4)] [] g) ∧ (tag = 3 → AW z (RX12, cX12_gives, 8, none) d (QD none r) 93 [(0, rv z 117), (5, iv x5)] [] g) ∧ (tag = 4 → AW z (RX12, cX12_gives, 8, none) d (QD none r) 134 [(0, rv z 117), (1, iv x1), (2, iv x2), (3, iv x3), (4, iv x4), (5, iv x5)] [] g)) ?_
  intro fb9 ih tag x4 x5 g r h
  refine ⟨fun h9 => ?_, fun h9 => ?_, fun h9 => ?_, fun h9 => ?_⟩
  · subst h9
    replace h := hT h rfl
    refine AW.iload 4 dX12_gives_14 rfl ?_
    refine AW.iload_n 1 dX12_gives_16 rfl ?_
    refine AW.icmp_ge (tgt := 53) dX12_gives_17 (by decide) (fun c1 => ?_) (fun c1 => ?_)
    · replace h := hT h c1
      refine AW.iload_n 2 dX12_gives_53 rfl ?_
      refine AW.aloadr_n 0 dX12_gives_54 rfl ?_
      refine AW.getI af_X12_496_117 sr_117_66 dX12_gives_55 ?_
      refine AW.icmp_lt (tgt := 78) dX12_gives_58 (by decide) (fun c2 => ?_) (fun c2 => ?_)
      · replace h := hT h c2
        exact AW.vret1 rfl dX12_gives_78 h rfl
      · replace h := hF h c2
        refine AW.iload_n 2 dX12_gives_61 rfl ?_
        refine AW.aloadr_n 0 dX12_gives_62 rfl ?_
        refine AW.getI af_X12_496_117 sr_117_66 dX12_gives_63 ?_
        refine AW.icmp_ne (tgt := 79) dX12_gives_66 (by decide) (fun c3 => ?_) (fun c3 => ?_)
        · replace h := hF h c3
          refine AW.sub (lv1 := [(0, rv z 117), (3, iv x3), (4, iv x4)]) [0, 2, 3] rfl ?_
          exact (ih _ _ _ _ _ h).2.1 rfl
        · replace h := hT h c3
          refine AW.iload 3 dX12_gives_69 rfl ?_
          refine AW.aloadr_n 0 dX12_gives_71 rfl ?_
          refine AW.getI af_X12_499_117 sr_117_67 dX12_gives_72 ?_
          refine AW.icmp_gt (tgt := 79) dX12_gives_75 (by decide) (fun c4 => ?_) (fun c4 => ?_)
          · replace h := hT h c4
            refine AW.sub (lv1 := [(0, rv z 117), (3, iv x3), (4, iv x4)]) [0, 2, 3] rfl ?_
            exact (ih _ _ _ _ _ h).2.1 rfl
          · replace h := hF h c4
            exact AW.vret1 rfl dX12_gives_78 h rfl
    · replace h := hF h c1
      refine AW.iload 3 dX12_gives_20 rfl ?_
      refine AW.aloadr_n 0 dX12_gives_22 rfl ?_
      refine AW.getR af_X12_175_117 sr_117_75 dX12_gives_23 ?_
      refine AW.iload 4 dX12_gives_26 rfl ?_
      obtain ⟨k5, h⟩ := hK h
      refine AW.iald kc_169 sk_169 k5 dX12_gives_28 ?_
      refine AW.aloadr_n 0 dX12_gives_29 rfl ?_
      refine AW.getR af_X12_184_117 sr_117_78 dX12_gives_30 ?_
      refine AW.iload 4 dX12_gives_33 rfl ?_
      refine AW.iald kc_172 sk_172 k5 dX12_gives_35 ?_
      obtain ⟨t6, e7, h⟩ := hBe h
      refine AW.join (tgt := 44) (lv1 := [(0, rv z 117), (2, iv x2), (3, iv x3), (4, iv x4), (5, iv x5)]) (st1 := [iv t6, iv x4]) (g1 := g) ?_ (fun J36 => ?_)
      · refine AW.iadd dX12_gives_44 ?_
        refine AW.istore (lv1 := [(4, iv (x4 + t6)), (0, rv z 117), (2, iv x2), (3, iv x3), (5, iv x5)]) dX12_gives_45 (by decide) rfl ?_
        refine AW.iinc (lv1 := [(5, iv (x5 + 1)), (4, iv (x4 + t6)), (0, rv z 117), (2, iv x2), (3, iv x3)]) 4 dX12_gives_47 rfl (by decide) rfl ?_
        refine AW.goto (tgt := 14) dX12_gives_50 (by decide) ?_
        refine AW.sub (lv1 := [(0, rv z 117), (2, iv x2), (3, iv x3), (4, iv (x4 + t6)), (5, iv (x5 + 1))]) [2, 3, 4, 1, 0] rfl ?_
        exact (ih _ _ _ _ _ h).1 rfl
      refine AW.icmp_ne (tgt := 43) dX12_gives_36 (by decide) (fun c8 => ?_) (fun c8 => ?_)
      · refine AW.iconst dX12_gives_43 ?_
        exact AW.val (e7.trans (if_neg c8)) J36
      · refine AW.iconst dX12_gives_39 ?_
        refine AW.goto (tgt := 44) dX12_gives_40 (by decide) ?_
        exact AW.val (e7.trans (if_pos c8)) J36
  · subst h9
    replace h := hF h (by decide)
    replace h := hT h rfl
    refine AW.aloadr_n 0 dX12_gives_79 rfl ?_
    refine AW.iload_n 1 dX12_gives_80 rfl ?_
    obtain ⟨g1, e2, h⟩ := hBe h
    refine AW.putI ap_X12_496_117 sr_117_66 dX12_gives_81 e2 ?_
    refine AW.aloadr_n 0 dX12_gives_84 rfl ?_
    refine AW.iload 2 dX12_gives_85 rfl ?_
    obtain ⟨g3, e4, h⟩ := hBe h
    refine AW.putI ap_X12_499_117 sr_117_67 dX12_gives_87 e4 ?_
    refine AW.iconst dX12_gives_90 ?_
    refine AW.istore (lv1 := [(5, iv 0), (0, rv z 117), (3, iv x3), (4, iv x4)]) dX12_gives_91 (by decide) rfl ?_
    refine AW.sub (lv1 := [(0, rv z 117), (5, iv 0)]) [1, 0] rfl ?_
    exact (ih _ _ _ _ _ h).2.2.1 rfl
  · subst h9
    replace h := hF h (by decide)
    replace h := hF h (by decide)
    replace h := hT h rfl
    refine AW.iload 1 dX12_gives_93 rfl ?_
    refine AW.aloadr_n 0 dX12_gives_95 rfl ?_
    refine AW.getI af_X12_493_117 sr_117_65 dX12_gives_96 ?_
    refine AW.icmp_ge (tgt := 122) dX12_gives_99 (by decide) (fun c1 => ?_) (fun c1 => ?_)
    · replace h := hT h c1
      exact AW.vret1 rfl dX12_gives_122 h rfl
    · replace h := hF h c1
      refine AW.aloadr_n 0 dX12_gives_102 rfl ?_
      refine AW.getR af_X12_172_117 sr_117_74 dX12_gives_103 ?_
      refine AW.iload 1 dX12_gives_106 rfl ?_
      refine AW.aloadr_n 0 dX12_gives_108 rfl ?_
      refine AW.getR af_X12_169_117 sr_117_73 dX12_gives_109 ?_
      refine AW.iload 1 dX12_gives_112 rfl ?_
      obtain ⟨k2, h⟩ := hK h
      refine AW.iald kc_167 sk_167 k2 dX12_gives_114 ?_
      obtain ⟨g3, e4, h⟩ := hBe h
      refine AW.iast kc_168 sk_168 k2 dX12_gives_115 e4 ?_
      refine AW.iinc (lv1 := [(5, iv (x5 + 1)), (0, rv z 117)]) 1 dX12_gives_116 rfl (by decide) rfl ?_
      refine AW.goto (tgt := 93) dX12_gives_119 (by decide) ?_
      refine AW.sub (lv1 := [(0, rv z 117), (5, iv (x5 + 1))]) [1, 0] rfl ?_
      exact (ih _ _ _ _ _ h).2.2.1 rfl
  · subst h9
    replace h := hF h (by decide)
    replace h := hF h (by decide)
    replace h := hF h (by decide)
    replace h := hT h rfl
    refine AW.iload 5 dX12_gives_134 rfl ?_
    refine AW.iload_n 2 dX12_gives_136 rfl ?_
    refine AW.icmp_ge (tgt := 284) dX12_gives_137 (by decide) (fun c1 => ?_) (fun c1 => ?_)
    · replace h := hT h c1
      refine AW.aloadr_n 0 dX12_gives_284 rfl ?_
      refine AW.getR af_X12_169_117 sr_117_73 dX12_gives_285 ?_
      refine AW.iload 4 dX12_gives_288 rfl ?_
      refine AW.iconst dX12_gives_290 ?_
      obtain ⟨k2, h⟩ := hK h
      obtain ⟨g3, e4, h⟩ := hBe h
      refine AW.iast kc_167 sk_167 k2 dX12_gives_291 e4 ?_
      refine AW.aloadr_n 0 dX12_gives_292 rfl ?_
      refine AW.iload_n 1 dX12_gives_293 rfl ?_
      refine AW.iconst dX12_gives_294 ?_
      refine AW.iadd dX12_gives_295 ?_
      refine AW.iload_n 2 dX12_gives_296 rfl ?_
      refine AW.iload_n 3 dX12_gives_297 rfl ?_
      obtain ⟨r5, e6, h⟩ := hC h
      refine AW.callVv (As := [iv (x1 + 1), iv x2, iv x3]) (st := []) (hrec _ _ _ _ _ e6) cq_X12_502 cr_117_X12_gives (by omega) rfl dX12_gives_298 rfl (Nat.le_of_ble_eq_true rfl) ?_
      exact AW.vret1 rfl dX12_gives_301 h rfl
    · replace h := hF h c1
      refine AW.aloadr_n 0 dX12_gives_140 rfl ?_
      refine AW.getR af_X12_181_117 sr_117_77 dX12_gives_141 ?_
      refine AW.iload 5 dX12_gives_144 rfl ?_
      obtain ⟨k7, h⟩ := hK h
      refine AW.iald kc_171 sk_171 k7 dX12_gives_146 ?_
      refine AW.aloadr_n 0 dX12_gives_147 rfl ?_
      refine AW.getR af_X12_163_117 sr_117_71 dX12_gives_148 ?_
      refine AW.iload 4 dX12_gives_151 rfl ?_
      obtain ⟨k8, h⟩ := hK h
      refine AW.iald kc_165 sk_165 k8 dX12_gives_153 ?_
      obtain ⟨r24, e25, h⟩ := hC h
      refine AW.join (tgt := 278) (lv1 := [(0, rv z 117), (1, iv x1), (2, iv x2), (3, iv x3), (4, iv x4), (5, iv x5)]) (st1 := []) (g1 := r24) ?_ (fun J154 => ?_)
      · refine AW.iinc (lv1 := [(5, iv (x5 + 1)), (0, rv z 117), (1, iv x1), (2, iv x2), (3, iv x3), (4, iv x4)]) 5 dX12_gives_278 rfl (by decide) rfl ?_
        refine AW.goto (tgt := 134) dX12_gives_281 (by decide) ?_
        refine AW.sub (lv1 := [(0, rv z 117), (1, iv x1), (2, iv x2), (3, iv x3), (4, iv x4), (5, iv (x5 + 1))]) [1, 2, 3, 4, 5, 0] rfl ?_
        exact (ih _ _ _ _ _ h).2.2.2 rfl
      replace h := e25
      refine AW.icmp_lt (tgt := 278) dX12_gives_154 (by decide) (fun c9 => ?_) (fun c9 => ?_)
      · replace h := hT h c9
        cases h
        exact J154
      · replace h := hF h c9
        refine AW.aloadr_n 0 dX12_gives_157 rfl ?_
        refine AW.getR af_X12_175_117 sr_117_75 dX12_gives_158 ?_
        refine AW.iload 5 dX12_gives_161 rfl ?_
        refine AW.iald kc_169 sk_169 k7 dX12_gives_163 ?_
        refine AW.aloadr_n 0 dX12_gives_164 rfl ?_
        refine AW.getR af_X12_154_117 sr_117_68 dX12_gives_165 ?_
        refine AW.iload 4 dX12_gives_168 rfl ?_
        refine AW.iald kc_162 sk_162 k8 dX12_gives_170 ?_
        refine AW.icmp_ne (tgt := 278) dX12_gives_171 (by decide) (fun c10 => ?_) (fun c10 => ?_)
        · replace h := hF h c10
          cases h
          exact J154
        · replace h := hT h c10
          refine AW.aloadr_n 0 dX12_gives_174 rfl ?_
          refine AW.getR af_X12_178_117 sr_117_76 dX12_gives_175 ?_
          refine AW.iload 5 dX12_gives_178 rfl ?_
          refine AW.iald kc_170 sk_170 k7 dX12_gives_180 ?_
          refine AW.aloadr_n 0 dX12_gives_181 rfl ?_
          refine AW.getR af_X12_160_117 sr_117_70 dX12_gives_182 ?_
          refine AW.iload 4 dX12_gives_185 rfl ?_
          refine AW.iald kc_164 sk_164 k8 dX12_gives_187 ?_
          refine AW.icmp_ne (tgt := 194) dX12_gives_188 (by decide) (fun c11 => ?_) (fun c11 => ?_)
          · replace h := hF h c11
            refine AW.aloadr_n 0 dX12_gives_194 rfl ?_
            refine AW.getR af_X12_175_117 sr_117_75 dX12_gives_195 ?_
            refine AW.iload 5 dX12_gives_198 rfl ?_
            refine AW.iald kc_169 sk_169 k7 dX12_gives_200 ?_
            refine AW.istore (lv1 := [(6, iv (g 169 (ix x5))), (0, rv z 117), (1, iv x1), (2, iv x2), (3, iv x3), (4, iv x4), (5, iv x5)]) dX12_gives_201 (by decide) rfl ?_
            refine AW.aloadr_n 1 dX12_gives_203 rfl ?_
            refine AW.getR af_X12_178_117 sr_117_76 dX12_gives_204 ?_
            refine AW.iload 6 dX12_gives_207 rfl ?_
            refine AW.iald kc_170 sk_170 k7 dX12_gives_209 ?_
            refine AW.istore (lv1 := [(7, iv (g 170 (ix x5))), (6, iv (g 169 (ix x5))), (0, rv z 117), (1, iv x1), (2, iv x2), (3, iv x3), (4, iv x4), (5, iv x5)]) dX12_gives_210 (by decide) rfl ?_
            refine AW.aloadr_n 2 dX12_gives_212 rfl ?_
            refine AW.getR af_X12_175_117 sr_117_75 dX12_gives_213 ?_
            refine AW.iload 7 dX12_gives_216 rfl ?_
            refine AW.aloadr_n 2 dX12_gives_218 rfl ?_
            refine AW.getR af_X12_157_117 sr_117_69 dX12_gives_219 ?_
            refine AW.iload 6 dX12_gives_222 rfl ?_
            refine AW.iald kc_163 sk_163 k8 dX12_gives_224 ?_
            obtain ⟨g12, e13, h⟩ := hBe h
            refine AW.iast kc_169 sk_169 k7 dX12_gives_225 e13 ?_
            refine AW.aloadr_n 2 dX12_gives_226 rfl ?_
            refine AW.getR af_X12_178_117 sr_117_76 dX12_gives_227 ?_
            refine AW.iload 7 dX12_gives_230 rfl ?_
            refine AW.aloadr_n 2 dX12_gives_232 rfl ?_
            refine AW.getR af_X12_160_117 sr_117_70 dX12_gives_233 ?_
            refine AW.iload 6 dX12_gives_236 rfl ?_
            refine AW.iald kc_164 sk_164 k8 dX12_gives_238 ?_
            obtain ⟨g14, e15, h⟩ := hBe h
            refine AW.iast kc_170 sk_170 k7 dX12_gives_239 e15 ?_
            refine AW.aloadr_n 2 dX12_gives_240 rfl ?_
            refine AW.getR af_X12_169_117 sr_117_73 dX12_gives_241 ?_
            refine AW.iload 6 dX12_gives_244 rfl ?_
            refine AW.iload 7 dX12_gives_246 rfl ?_
            obtain ⟨g16, e17, h⟩ := hBe h
            refine AW.iast kc_167 sk_167 k8 dX12_gives_248 e17 ?_
            refine AW.aloadr_n 2 dX12_gives_249 rfl ?_
            refine AW.iload_n 3 dX12_gives_250 rfl ?_
            refine AW.iconst dX12_gives_251 ?_
            refine AW.iadd dX12_gives_252 ?_
            refine AW.iload_n 4 dX12_gives_253 rfl ?_
            refine AW.iload_n 5 dX12_gives_254 rfl ?_
            refine AW.iconst dX12_gives_255 ?_
            refine AW.iadd dX12_gives_256 ?_
            obtain ⟨r18, e19, h⟩ := hC h
            refine AW.callVv (As := [iv (x1 + 1), iv x2, iv (x3 + 1)]) (st := []) (hrec _ _ _ _ _ e19) cq_X12_502 cr_117_X12_gives (by omega) rfl dX12_gives_257 rfl (Nat.le_of_ble_eq_true rfl) ?_
            refine AW.aloadr_n 2 dX12_gives_260 rfl ?_
            refine AW.getR af_X12_175_117 sr_117_75 dX12_gives_261 ?_
            refine AW.iload 7 dX12_gives_264 rfl ?_
            refine AW.iload 1 dX12_gives_266 rfl ?_
            obtain ⟨g20, e21, h⟩ := hBe h
            refine AW.iast kc_169 sk_169 k7 dX12_gives_268 e21 ?_
            refine AW.aloadr_n 2 dX12_gives_269 rfl ?_
            refine AW.getR af_X12_178_117 sr_117_76 dX12_gives_270 ?_
            refine AW.iload 7 dX12_gives_273 rfl ?_
            refine AW.iload 0 dX12_gives_275 rfl ?_
            obtain ⟨g22, e23, h⟩ := hBe h
            refine AW.iast kc_170 sk_170 k7 dX12_gives_277 e23 ?_
            refine AW.sub (lv1 := [(0, rv z 117), (1, iv x1), (2, iv x2), (3, iv x3), (4, iv x4), (5, iv x5)]) [2, 3, 4, 5, 6, 7] rfl ?_
            cases h
            exact J154
          · replace h := hT h c11
            refine AW.goto (tgt := 278) dX12_gives_191 (by decide) ?_
            cases h
            exact J154
theorem M_gives_s_ok {z : AZ} {rec : Int → Int → Int → AG → Option (Int × AG)} {Dr : Nat} (hC9 : 0 ≤ Dr) (hrec : ∀ (x1 : Int) (x2 : Int) (x3 : Int) (g : AG) (r : Int × AG), rec x1 x2 x3 g = some r → AMf z yX12_gives cX12_gives 8 none Dr [rv z 117, iv x1, iv x2, iv x3] g r) {x1 : Int} {x2 : Int} {x3 : Int} {g : AG} {r : Int × AG} (h : M_gives_s rec x1 x2 x3 g = some r) : AMf z yX12_gives cX12_gives 8 none (Dr + 1) [rv z 117, iv x1, iv x2, iv x3] g r := by
  intro d hdd
  refine AM.of (by decide +kernel) (Nat.le_of_ble_eq_true rfl) ?_
  show AW z (RX12, cX12_gives, 8, none) d (QD none r) 0 [(0, rv z 117), (1, iv x1), (2, iv x2), (3, iv x3)] [] g
  unfold M_gives_s at h
  refine AW.iload_n 1 dX12_gives_0 rfl ?_
  refine AW.aloadr_n 0 dX12_gives_1 rfl ?_
  refine AW.getI af_X12_493_117 sr_117_65 dX12_gives_2 ?_
  refine AW.icmp_ne (tgt := 123) dX12_gives_5 (by decide) (fun c1 => ?_) (fun c1 => ?_)
  · replace h := hF h c1
    refine AW.aloadr_n 0 dX12_gives_123 rfl ?_
    refine AW.getR af_X12_166_117 sr_117_72 dX12_gives_124 ?_
    refine AW.iload_n 1 dX12_gives_127 rfl ?_
    obtain ⟨k2, h⟩ := hK h
    refine AW.iald kc_166 sk_166 k2 dX12_gives_128 ?_
    refine AW.istore (lv1 := [(4, iv (g 166 (ix x1))), (0, rv z 117), (1, iv x1), (2, iv x2), (3, iv x3)]) dX12_gives_129 (by decide) rfl ?_
    refine AW.iconst dX12_gives_131 ?_
    refine AW.istore (lv1 := [(5, iv 0), (4, iv (g 166 (ix x1))), (0, rv z 117), (1, iv x1), (2, iv x2), (3, iv x3)]) dX12_gives_132 (by decide) rfl ?_
    refine AW.sub (lv1 := [(0, rv z 117), (1, iv x1), (2, iv x2), (3, iv x3), (4, iv (g 166 (ix x1))), (5, iv 0)]) [2, 3, 4, 5, 1, 0] rfl ?_
    exact (M_gives_b_ok hC9 hrec hdd _ _ _ _ _ h).2.2.2 rfl
  · replace h := hT h c1
    refine AW.iconst dX12_gives_8 ?_
    refine AW.istore (lv1 := [(4, iv 0), (0, rv z 117), (1, iv x1), (2, iv x2), (3, iv x3)]) dX12_gives_9 (by decide) rfl ?_
    refine AW.iconst dX12_gives_11 ?_
    refine AW.istore (lv1 := [(5, iv 0), (4, iv 0), (0, rv z 117), (1, iv x1), (2, iv x2), (3, iv x3)]) dX12_gives_12 (by decide) rfl ?_
    refine AW.sub (lv1 := [(0, rv z 117), (2, iv x2), (3, iv x3), (4, iv 0), (5, iv 0)]) [2, 4, 5, 1, 0] rfl ?_
    exact (M_gives_b_ok hC9 hrec hdd _ _ _ _ _ h).1 rfl
theorem M_gives_ok {z : AZ} {n : Nat} {x1 : Int} {x2 : Int} {x3 : Int} {g : AG} {r : Int × AG} (h : M_gives n x1 x2 x3 g = some r) : AMf z yX12_gives cX12_gives 8 none (0 + n * 1) [rv z 117, iv x1, iv x2, iv x3] g r := by
  induction n generalizing x1 x2 x3 g r with
  | zero => cases h
  | succ n ih =>
    have q := M_gives_s_ok (z := z) (Dr := 0 + n * 1) (Nat.le_add_right _ _) (fun x1 x2 x3 g r h9 => ih h9) h
    rw [show 0 + (n + 1) * 1 = 0 + n * 1 + 1 by rw [Nat.add_mul]; omega]
    exact q
set_option synthInstance.maxHeartbeats 2000000 in
theorem M_givesBest_b_ok {z : AZ} {d : Nat} (hdd : 11 ≤ d) {x1 : Int} : ∀ (x2 : Int) (g : AG) (r : Int × AG), M_givesBest_b x1 x2 g = some r → AW z (RX12, cX12_givesBest, 3, none) d (QD none r) 6 [(0, rv z 117), (1, iv x1), (2, iv x2)] [] g := by
  refine M_givesBest_b.partial_correctness x1 (fun x2 g r => AW z (RX12, cX12_givesBest, 3, none) d (QD none r) 6 [(0, rv z 117), (1, iv x1), (2, iv x2)] [] g) ?_
  intro fb9 ih x2 g r h
  refine AW.iload_n 2 dX12_givesBest_6 rfl ?_
  refine AW.iload_n 1 dX12_givesBest_7 rfl ?_
  refine AW.icmp_ge (tgt := 36) dX12_givesBest_8 (by decide) (fun c1 => ?_) (fun c1 => ?_)
  · replace h := hT h c1
    refine AW.aloadr_n 0 dX12_givesBest_36 rfl ?_
    refine AW.iconst dX12_givesBest_37 ?_
    obtain ⟨g2, e3, h⟩ := hBe h
    refine AW.putI ap_X12_496_117 sr_117_66 dX12_givesBest_38 e3 ?_
    refine AW.aloadr_n 0 dX12_givesBest_41 rfl ?_
    refine AW.iconst dX12_givesBest_42 ?_
    obtain ⟨g4, e5, h⟩ := hBe h
    refine AW.putI ap_X12_499_117 sr_117_67 dX12_givesBest_43 e5 ?_
    refine AW.aloadr_n 0 dX12_givesBest_46 rfl ?_
    refine AW.iconst dX12_givesBest_47 ?_
    refine AW.iload_n 1 dX12_givesBest_48 rfl ?_
    refine AW.iconst dX12_givesBest_49 ?_
    obtain ⟨r6, e7, h⟩ := hC h
    refine AW.callVv (As := [iv 0, iv x1, iv 0]) (st := []) ((M_gives_ok (n := 10)) e7) cq_X12_502 cr_117_X12_gives (Nat.le_trans (by decide) hdd) rfl dX12_givesBest_50 rfl (Nat.le_of_ble_eq_true rfl) ?_
    exact AW.vret1 rfl dX12_givesBest_53 h rfl
  · replace h := hF h c1
    refine AW.aloadr_n 0 dX12_givesBest_11 rfl ?_
    refine AW.getR af_X12_175_117 sr_117_75 dX12_givesBest_12 ?_
    refine AW.iload_n 2 dX12_givesBest_15 rfl ?_
    refine AW.aloadr_n 0 dX12_givesBest_16 rfl ?_
    refine AW.getR af_X12_184_117 sr_117_78 dX12_givesBest_17 ?_
    refine AW.iload_n 2 dX12_givesBest_20 rfl ?_
    obtain ⟨k8, h⟩ := hK h
    refine AW.iald kc_172 sk_172 k8 dX12_givesBest_21 ?_
    obtain ⟨g9, e10, h⟩ := hBe h
    refine AW.iast kc_169 sk_169 k8 dX12_givesBest_22 e10 ?_
    refine AW.aloadr_n 0 dX12_givesBest_23 rfl ?_
    refine AW.getR af_X12_178_117 sr_117_76 dX12_givesBest_24 ?_
    refine AW.iload_n 2 dX12_givesBest_27 rfl ?_
    refine AW.iconst dX12_givesBest_28 ?_
    obtain ⟨g11, e12, h⟩ := hBe h
    refine AW.iast kc_170 sk_170 k8 dX12_givesBest_29 e12 ?_
    refine AW.iinc (lv1 := [(2, iv (x2 + 1)), (0, rv z 117), (1, iv x1)]) 2 dX12_givesBest_30 rfl (by decide) rfl ?_
    refine AW.goto (tgt := 6) dX12_givesBest_33 (by decide) ?_
    refine AW.sub (lv1 := [(0, rv z 117), (1, iv x1), (2, iv (x2 + 1))]) [1, 2, 0] rfl ?_
    exact ih _ _ _ h
theorem M_givesBest_ok {z : AZ} {x1 : Int} {g : AG} {r : Int × AG} (h : M_givesBest x1 g = some r) : AMf z yX12_givesBest cX12_givesBest 3 none 11 [rv z 117, iv x1] g r := by
  intro d hdd
  refine AM.of (by decide +kernel) (Nat.le_of_ble_eq_true rfl) ?_
  show AW z (RX12, cX12_givesBest, 3, none) d (QD none r) 0 [(0, rv z 117), (1, iv x1)] [] g
  unfold M_givesBest at h
  refine AW.aloadr_n 0 dX12_givesBest_0 rfl ?_
  obtain ⟨r1, e2, h⟩ := hC h
  refine AW.callVv (As := []) (st := []) (M_sorts_ok e2) cq_X12_512 cr_117_X12_sorts (Nat.le_trans (by decide) hdd) rfl dX12_givesBest_1 rfl (Nat.le_of_ble_eq_true rfl) ?_
  refine AW.iconst dX12_givesBest_4 ?_
  refine AW.istore_n (lv1 := [(2, iv 0), (0, rv z 117), (1, iv x1)]) dX12_givesBest_5 (by decide) rfl ?_
  refine AW.sub (lv1 := [(0, rv z 117), (1, iv x1), (2, iv 0)]) [1, 2, 0] rfl ?_
  exact M_givesBest_b_ok hdd _ _ _ h
set_option synthInstance.maxHeartbeats 2000000 in
theorem M_given_b_ok {z : AZ} {d : Nat} (hdd : 12 ≤ d) {x1 : Int} {x2 : Int} {g : AG} : ∀ (r : Int × AG), M_given_b x1 x2 g = some r → AW z (RX12, cX12_given, 3, (some .int)) d (QD (some .int) r) 44 [(0, rv z 117), (1, iv x1), (2, iv x2)] [] g := by
  refine M_given_b.partial_correctness x1 x2 g (fun r => AW z (RX12, cX12_given, 3, (some .int)) d (QD (some .int) r) 44 [(0, rv z 117), (1, iv x1), (2, iv x2)] [] g) ?_
  intro fb9 ih r h
  refine AW.aloadr_n 0 dX12_given_44 rfl ?_
  refine AW.iload_n 1 dX12_given_45 rfl ?_
  obtain ⟨r1, e2, h⟩ := hC h
  refine AW.callVv (As := [iv x1]) (st := []) (M_asks_ok e2) cq_X12_505 cr_117_X12_asks (Nat.le_trans (by decide) hdd) rfl dX12_given_46 rfl (Nat.le_of_ble_eq_true rfl) ?_
  refine AW.aloadr_n 0 dX12_given_49 rfl ?_
  refine AW.iload_n 1 dX12_given_50 rfl ?_
  obtain ⟨r3, e4, h⟩ := hC h
  refine AW.callVv (As := [iv x1]) (st := []) (M_givesBest_ok e4) cq_X12_509 cr_117_X12_givesBest (Nat.le_trans (by decide) hdd) rfl dX12_given_51 rfl (Nat.le_of_ble_eq_true rfl) ?_
  refine AW.iload_n 2 dX12_given_54 rfl ?_
  obtain ⟨r8, e9, h⟩ := hC h
  refine AW.join (tgt := 86) (lv1 := []) (st1 := [iv r8.1]) (g1 := r8.2) ?_ (fun J55 => ?_)
  · exact AW.iret1 rfl dX12_given_86 h rfl
  replace h := e9
  refine AW.if_ne (tgt := 65) dX12_given_55 (by decide) (fun c5 => ?_) (fun c5 => ?_)
  · replace h := hF h c5
    refine AW.iload_n 2 dX12_given_65 rfl ?_
    refine AW.iconst dX12_given_66 ?_
    refine AW.icmp_ne (tgt := 77) dX12_given_67 (by decide) (fun c6 => ?_) (fun c6 => ?_)
    · replace h := hF h c6
      refine AW.aloadr_n 0 dX12_given_77 rfl ?_
      refine AW.getR af_X12_172_117 sr_117_74 dX12_given_78 ?_
      refine AW.iload_n 2 dX12_given_81 rfl ?_
      refine AW.bipush dX12_given_82 (by decide) (by decide) ?_
      refine AW.isub dX12_given_84 ?_
      obtain ⟨k7, h⟩ := hK h
      refine AW.iald kc_168 sk_168 k7 dX12_given_85 ?_
      refine AW.sub (lv1 := []) [] rfl ?_
      cases h
      exact J55
    · replace h := hT h c6
      refine AW.aloadr_n 0 dX12_given_70 rfl ?_
      refine AW.getI af_X12_499_117 sr_117_67 dX12_given_71 ?_
      refine AW.goto (tgt := 86) dX12_given_74 (by decide) ?_
      refine AW.sub (lv1 := []) [] rfl ?_
      cases h
      exact J55
  · replace h := hT h c5
    refine AW.aloadr_n 0 dX12_given_58 rfl ?_
    refine AW.getI af_X12_496_117 sr_117_66 dX12_given_59 ?_
    refine AW.goto (tgt := 86) dX12_given_62 (by decide) ?_
    refine AW.sub (lv1 := []) [] rfl ?_
    cases h
    exact J55
theorem M_given_ok {z : AZ} {x1 : Int} {x2 : Int} {g : AG} {r : Int × AG} (h : M_given x1 x2 g = some r) : AMf z yX12_given cX12_given 3 (some .int) 12 [rv z 117, iv x1, iv x2] g r := by
  intro d hdd
  refine AM.of (by decide +kernel) (Nat.le_of_ble_eq_true rfl) ?_
  show AW z (RX12, cX12_given, 3, (some .int)) d (QD (some .int) r) 0 [(0, rv z 117), (1, iv x1), (2, iv x2)] [] g
  unfold M_given at h
  refine AW.iload_n 1 dX12_given_0 rfl ?_
  refine AW.iconst dX12_given_1 ?_
  refine AW.iconst dX12_given_2 ?_
  refine AW.callSi (As := [iv x1, iv 1, iv 4]) (st := []) M_isIn_ok cq_X12_3 st_X12_isIn (Nat.le_trans (by decide) hdd) rfl dX12_given_3 rfl (Nat.le_of_ble_eq_true rfl) ?_
  refine AW.if_eq (tgt := 42) dX12_given_6 (by decide) (fun c1 => ?_) (fun c1 => ?_)
  · replace h := hT h c1
    refine AW.iconst dX12_given_42 ?_
    exact AW.iret1 rfl dX12_given_43 h rfl
  · replace h := hF h c1
    refine AW.iload_n 1 dX12_given_9 rfl ?_
    refine AW.aloadr_n 0 dX12_given_10 rfl ?_
    refine AW.getI af_X12_235_117 sr_117_12 dX12_given_11 ?_
    refine AW.icmp_gt (tgt := 42) dX12_given_14 (by decide) (fun c2 => ?_) (fun c2 => ?_)
    · replace h := hT h c2
      refine AW.iconst dX12_given_42 ?_
      exact AW.iret1 rfl dX12_given_43 h rfl
    · replace h := hF h c2
      refine AW.iload_n 2 dX12_given_17 rfl ?_
      refine AW.iconst dX12_given_18 ?_
      refine AW.iconst dX12_given_19 ?_
      refine AW.callSi (As := [iv x2, iv 0, iv 1]) (st := []) M_isIn_ok cq_X12_3 st_X12_isIn (Nat.le_trans (by decide) hdd) rfl dX12_given_20 rfl (Nat.le_of_ble_eq_true rfl) ?_
      refine AW.if_ne (tgt := 44) dX12_given_23 (by decide) (fun c3 => ?_) (fun c3 => ?_)
      · replace h := hF h c3
        exact M_given_b_ok hdd _ h
      · replace h := hT h c3
        refine AW.iload_n 2 dX12_given_26 rfl ?_
        refine AW.bipush dX12_given_27 (by decide) (by decide) ?_
        refine AW.bipush dX12_given_29 (by decide) (by decide) ?_
        refine AW.aloadr_n 0 dX12_given_31 rfl ?_
        refine AW.getI af_X12_493_117 sr_117_65 dX12_given_32 ?_
        refine AW.iadd dX12_given_35 ?_
        refine AW.callSi (As := [iv x2, iv 10, iv (9 + (g 117 65))]) (st := []) M_isIn_ok cq_X12_3 st_X12_isIn (Nat.le_trans (by decide) hdd) rfl dX12_given_36 rfl (Nat.le_of_ble_eq_true rfl) ?_
        refine AW.if_ne (tgt := 44) dX12_given_39 (by decide) (fun c4 => ?_) (fun c4 => ?_)
        · replace h := hF h c4
          exact M_given_b_ok hdd _ h
        · replace h := hT h c4
          refine AW.iconst dX12_given_42 ?_
          exact AW.iret1 rfl dX12_given_43 h rfl
theorem M_more_ok {z : AZ} {x1 : Int} {x2 : Int} {x3 : Int} {g : AG} {r : Int × AG} (h : M_more x1 x2 x3 g = some r) : AMf z yX12_more cX12_more 5 (some .int) 12 [rv z 117, iv x1, iv x2, iv x3] g r := by
  intro d hdd
  refine AM.of (by decide +kernel) (Nat.le_of_ble_eq_true rfl) ?_
  show AW z (RX12, cX12_more, 5, (some .int)) d (QD (some .int) r) 0 [(0, rv z 117), (1, iv x1), (2, iv x2), (3, iv x3)] [] g
  unfold M_more at h
  refine AW.iload_n 1 dX12_more_0 rfl ?_
  refine AW.iconst dX12_more_1 ?_
  refine AW.iconst dX12_more_2 ?_
  refine AW.callSi (As := [iv x1, iv 1, iv 3]) (st := []) M_isIn_ok cq_X12_3 st_X12_isIn (Nat.le_trans (by decide) hdd) rfl dX12_more_3 rfl (Nat.le_of_ble_eq_true rfl) ?_
  refine AW.if_eq (tgt := 34) dX12_more_6 (by decide) (fun c1 => ?_) (fun c1 => ?_)
  · replace h := hT h c1
    refine AW.iconst dX12_more_34 ?_
    exact AW.iret1 rfl dX12_more_35 h rfl
  · replace h := hF h c1
    refine AW.iload_n 1 dX12_more_9 rfl ?_
    refine AW.aloadr_n 0 dX12_more_10 rfl ?_
    refine AW.getI af_X12_235_117 sr_117_12 dX12_more_11 ?_
    refine AW.icmp_gt (tgt := 34) dX12_more_14 (by decide) (fun c2 => ?_) (fun c2 => ?_)
    · replace h := hT h c2
      refine AW.iconst dX12_more_34 ?_
      exact AW.iret1 rfl dX12_more_35 h rfl
    · replace h := hF h c2
      refine AW.iload_n 2 dX12_more_17 rfl ?_
      refine AW.iconst dX12_more_18 ?_
      refine AW.bipush dX12_more_19 (by decide) (by decide) ?_
      refine AW.callSi (As := [iv x2, iv 2, iv 12]) (st := []) M_isIn_ok cq_X12_3 st_X12_isIn (Nat.le_trans (by decide) hdd) rfl dX12_more_21 rfl (Nat.le_of_ble_eq_true rfl) ?_
      refine AW.if_eq (tgt := 34) dX12_more_24 (by decide) (fun c3 => ?_) (fun c3 => ?_)
      · replace h := hT h c3
        refine AW.iconst dX12_more_34 ?_
        exact AW.iret1 rfl dX12_more_35 h rfl
      · replace h := hF h c3
        refine AW.iload_n 3 dX12_more_27 rfl ?_
        refine AW.callSi (As := [iv x3]) (st := []) M_isPoint_ok cq_X12_238 st_X12_isPoint (Nat.le_trans (by decide) hdd) rfl dX12_more_28 rfl (Nat.le_of_ble_eq_true rfl) ?_
        refine AW.if_ne (tgt := 36) dX12_more_31 (by decide) (fun c4 => ?_) (fun c4 => ?_)
        · replace h := hF h c4
          refine AW.aloadr_n 0 dX12_more_36 rfl ?_
          refine AW.iload_n 1 dX12_more_37 rfl ?_
          obtain ⟨r5, e6, h⟩ := hC h
          refine AW.callVv (As := [iv x1]) (st := []) (M_asks_ok e6) cq_X12_505 cr_117_X12_asks (Nat.le_trans (by decide) hdd) rfl dX12_more_38 rfl (Nat.le_of_ble_eq_true rfl) ?_
          refine AW.aloadr_n 0 dX12_more_41 rfl ?_
          refine AW.iload_n 1 dX12_more_42 rfl ?_
          obtain ⟨r7, e8, h⟩ := hC h
          refine AW.callVv (As := [iv x1]) (st := []) (M_givesBest_ok e8) cq_X12_509 cr_117_X12_givesBest (Nat.le_trans (by decide) hdd) rfl dX12_more_43 rfl (Nat.le_of_ble_eq_true rfl) ?_
          refine AW.aloadr_n 0 dX12_more_46 rfl ?_
          refine AW.getI af_X12_496_117 sr_117_66 dX12_more_47 ?_
          refine AW.istore (lv1 := [(4, iv (r7.2 117 66)), (0, rv z 117), (1, iv x1), (2, iv x2), (3, iv x3)]) dX12_more_50 (by decide) rfl ?_
          refine AW.aloadr_n 1 dX12_more_52 rfl ?_
          refine AW.getR af_X12_181_117 sr_117_77 dX12_more_53 ?_
          refine AW.iload_n 2 dX12_more_56 rfl ?_
          refine AW.iload_n 3 dX12_more_57 rfl ?_
          obtain ⟨k9, h⟩ := hK h
          obtain ⟨g10, e11, h⟩ := hBe h
          refine AW.iast kc_171 sk_171 k9 dX12_more_58 e11 ?_
          refine AW.aloadr_n 1 dX12_more_59 rfl ?_
          refine AW.getR af_X12_184_117 sr_117_78 dX12_more_60 ?_
          refine AW.iload_n 2 dX12_more_63 rfl ?_
          refine AW.iload_n 4 dX12_more_64 rfl ?_
          obtain ⟨g12, e13, h⟩ := hBe h
          refine AW.iast kc_172 sk_172 k9 dX12_more_65 e13 ?_
          refine AW.aloadr_n 1 dX12_more_66 rfl ?_
          refine AW.iload_n 2 dX12_more_67 rfl ?_
          refine AW.iconst dX12_more_68 ?_
          refine AW.iadd dX12_more_69 ?_
          obtain ⟨r14, e15, h⟩ := hC h
          refine AW.callVv (As := [iv (x1 + 1)]) (st := []) (M_givesBest_ok e15) cq_X12_509 cr_117_X12_givesBest (Nat.le_trans (by decide) hdd) rfl dX12_more_70 rfl (Nat.le_of_ble_eq_true rfl) ?_
          refine AW.aloadr_n 1 dX12_more_73 rfl ?_
          refine AW.getI af_X12_496_117 sr_117_66 dX12_more_74 ?_
          refine AW.iload 0 dX12_more_77 rfl ?_
          refine AW.isub dX12_more_79 ?_
          exact AW.iret1 rfl dX12_more_80 h rfl
        · replace h := hT h c4
          refine AW.iconst dX12_more_34 ?_
          exact AW.iret1 rfl dX12_more_35 h rfl
set_option synthInstance.maxHeartbeats 2000000 in
theorem M_gas_b_ok {z : AZ} {d : Nat} (hdd : 2 ≤ d) {x1 : Int} {x2 : Int} {x3 : Int} : ∀ (tag : Nat) (x4 : Int) (x5 : Int) (g : AG) (r : Int × AG), M_gas_b x1 x2 x3 tag x4 x5 g = some r → (tag = 1 → AW z (RX12, cX12_gas, 6, (some .boolean)) d (QD (some .boolean) r) 37 [(0, rv z 117), (1, iv x1), (2, iv x2), (3, iv x3), (4, iv x4), (5, iv x5)] [] g) ∧ (tag = 2 → AW z (RX12, cX12_gas, 6, (some .boolean)) d (QD (some .boolean) r) 91 [(0, rv z 117), (1, iv x1), (2, iv x2), (3, iv x3)] [] g) := by
  refine M_gas_b.partial_correctness x1 x2 x3 (fun tag x4 x5 g r => (tag = 1 → AW z (RX12, cX12_gas, 6, (some .boolean)) d (QD (some .boolean) r) 37 [(0, rv z 117), (1, iv x1), (2, iv x2), (3, iv x3), (4, iv x4), (5, iv x5)] [] g) ∧ (tag = 2 → AW z (RX12, cX12_gas, 6, (some .boolean)) d (QD (some .boolean) r) 91 [(0, rv z 117), (1, iv x1), (2, iv x2), (3, iv x3)] [] g)) ?_
  intro fb9 ih tag x4 x5 g r h
  refine ⟨fun h9 => ?_, fun h9 => ?_⟩
  · subst h9
    replace h := hT h rfl
    refine AW.iload 5 dX12_gas_37 rfl ?_
    refine AW.aloadr_n 0 dX12_gas_39 rfl ?_
    refine AW.getI af_X12_235_117 sr_117_12 dX12_gas_40 ?_
    refine AW.icmp_ge (tgt := 78) dX12_gas_43 (by decide) (fun c1 => ?_) (fun c1 => ?_)
    · replace h := hT h c1
      refine AW.iload_n 3 dX12_gas_78 rfl ?_
      refine AW.if_eq (tgt := 91) dX12_gas_79 (by decide) (fun c2 => ?_) (fun c2 => ?_)
      · replace h := hT h c2
        refine AW.sub (lv1 := [(0, rv z 117), (1, iv x1), (2, iv x2), (3, iv x3)]) [0, 1, 2, 3] rfl ?_
        exact (ih _ _ _ _ _ h).2 rfl
      · replace h := hF h c2
        refine AW.iload 4 dX12_gas_82 rfl ?_
        refine AW.bipush dX12_gas_84 (by decide) (by decide) ?_
        refine AW.icmp_ne (tgt := 91) dX12_gas_86 (by decide) (fun c3 => ?_) (fun c3 => ?_)
        · replace h := hF h c3
          refine AW.sub (lv1 := [(0, rv z 117), (1, iv x1), (2, iv x2), (3, iv x3)]) [0, 1, 2, 3] rfl ?_
          exact (ih _ _ _ _ _ h).2 rfl
        · replace h := hT h c3
          refine AW.iconst dX12_gas_89 ?_
          exact AW.zret1 rfl (Or.inl rfl) dX12_gas_90 h rfl
    · replace h := hF h c1
      refine AW.iload 4 dX12_gas_46 rfl ?_
      refine AW.iload 5 dX12_gas_48 rfl ?_
      refine AW.iload_n 1 dX12_gas_50 rfl ?_
      obtain ⟨r9, e10, h⟩ := hC h
      refine AW.join (tgt := 69) (lv1 := [(0, rv z 117), (1, iv x1), (2, iv x2), (3, iv x3), (5, iv x5)]) (st1 := [iv r9.1, iv x4]) (g1 := r9.2) ?_ (fun J51 => ?_)
      · refine AW.iadd dX12_gas_69 ?_
        refine AW.istore (lv1 := [(4, iv (x4 + r9.1)), (0, rv z 117), (1, iv x1), (2, iv x2), (3, iv x3), (5, iv x5)]) dX12_gas_70 (by decide) rfl ?_
        refine AW.iinc (lv1 := [(5, iv (x5 + 1)), (4, iv (x4 + r9.1)), (0, rv z 117), (1, iv x1), (2, iv x2), (3, iv x3)]) 5 dX12_gas_72 rfl (by decide) rfl ?_
        refine AW.goto (tgt := 37) dX12_gas_75 (by decide) ?_
        refine AW.sub (lv1 := [(0, rv z 117), (1, iv x1), (2, iv x2), (3, iv x3), (4, iv (x4 + r9.1)), (5, iv (x5 + 1))]) [2, 3, 4, 5, 1, 0] rfl ?_
        exact (ih _ _ _ _ _ h).1 rfl
      replace h := e10
      refine AW.icmp_eq (tgt := 68) dX12_gas_51 (by decide) (fun c4 => ?_) (fun c4 => ?_)
      · replace h := hT h c4
        refine AW.iconst dX12_gas_68 ?_
        refine AW.sub (lv1 := [(0, rv z 117), (1, iv x1), (2, iv x2), (3, iv x3), (5, iv x5)]) [0, 1, 2, 3, 5] rfl ?_
        cases h
        exact J51
      · replace h := hF h c4
        refine AW.aloadr_n 0 dX12_gas_54 rfl ?_
        refine AW.getR af_X12_190_117 sr_117_80 dX12_gas_55 ?_
        refine AW.iload 5 dX12_gas_58 rfl ?_
        obtain ⟨k5, h⟩ := hK h
        refine AW.iald kc_174 sk_174 k5 dX12_gas_60 ?_
        obtain ⟨t6, e7, h⟩ := hBe h
        refine AW.join (tgt := 69) (lv1 := [(0, rv z 117), (1, iv x1), (2, iv x2), (3, iv x3), (4, iv x4), (5, iv x5)]) (st1 := [iv t6, iv x4]) (g1 := g) ?_ (fun J61 => ?_)
        · refine AW.sub (lv1 := [(0, rv z 117), (1, iv x1), (2, iv x2), (3, iv x3), (5, iv x5)]) [0, 1, 2, 3, 5] rfl ?_
          cases h
          exact J51
        refine AW.if_le (tgt := 68) dX12_gas_61 (by decide) (fun c8 => ?_) (fun c8 => ?_)
        · refine AW.iconst dX12_gas_68 ?_
          exact AW.val (e7.trans (if_pos c8)) J61
        · refine AW.iconst dX12_gas_64 ?_
          refine AW.goto (tgt := 69) dX12_gas_65 (by decide) ?_
          exact AW.val (e7.trans (if_neg c8)) J61
  · subst h9
    replace h := hF h (by decide)
    replace h := hT h rfl
    refine AW.aloadr_n 0 dX12_gas_91 rfl ?_
    refine AW.getR af_X12_187_117 sr_117_79 dX12_gas_92 ?_
    refine AW.iload_n 1 dX12_gas_95 rfl ?_
    refine AW.iload_n 2 dX12_gas_96 rfl ?_
    obtain ⟨k1, h⟩ := hK h
    obtain ⟨g2, e3, h⟩ := hBe h
    refine AW.iast kc_173 sk_173 k1 dX12_gas_97 e3 ?_
    refine AW.aloadr_n 0 dX12_gas_98 rfl ?_
    refine AW.getR af_X12_190_117 sr_117_80 dX12_gas_99 ?_
    refine AW.iload_n 1 dX12_gas_102 rfl ?_
    refine AW.iload_n 3 dX12_gas_103 rfl ?_
    obtain ⟨g4, e5, h⟩ := hBe h
    refine AW.iast kc_174 sk_174 k1 dX12_gas_104 e5 ?_
    refine AW.iconst dX12_gas_105 ?_
    exact AW.zret1 rfl (Or.inr rfl) dX12_gas_106 h rfl
theorem M_gas_ok {z : AZ} {x1 : Int} {x2 : Int} {x3 : Int} {g : AG} {r : Int × AG} (h : M_gas x1 x2 x3 g = some r) : AMf z yX12_gas cX12_gas 6 (some .boolean) 2 [rv z 117, iv x1, iv x2, iv x3] g r := by
  intro d hdd
  refine AM.of (by decide +kernel) (Nat.le_of_ble_eq_true rfl) ?_
  show AW z (RX12, cX12_gas, 6, (some .boolean)) d (QD (some .boolean) r) 0 [(0, rv z 117), (1, iv x1), (2, iv x2), (3, iv x3)] [] g
  unfold M_gas at h
  refine AW.aloadr_n 0 dX12_gas_0 rfl ?_
  refine AW.iload_n 1 dX12_gas_1 rfl ?_
  refine AW.callVi (As := [iv x1]) (st := []) M_isBoat_ok cq_X12_435 cr_117_X12_isBoat (Nat.le_trans (by decide) hdd) rfl dX12_gas_2 rfl (Nat.le_of_ble_eq_true rfl) ?_
  refine AW.if_eq (tgt := 29) dX12_gas_5 (by decide) (fun c1 => ?_) (fun c1 => ?_)
  · replace h := hT h c1
    refine AW.iconst dX12_gas_29 ?_
    exact AW.zret1 rfl (Or.inl rfl) dX12_gas_30 h rfl
  · replace h := hF h c1
    refine AW.iload_n 2 dX12_gas_8 rfl ?_
    refine AW.iconst dX12_gas_9 ?_
    refine AW.sipush dX12_gas_10 (by decide) (by decide) ?_
    refine AW.callSi (As := [iv x2, iv 0, iv 999]) (st := []) M_isIn_ok cq_X12_3 st_X12_isIn (Nat.le_trans (by decide) hdd) rfl dX12_gas_13 rfl (Nat.le_of_ble_eq_true rfl) ?_
    refine AW.if_eq (tgt := 29) dX12_gas_16 (by decide) (fun c2 => ?_) (fun c2 => ?_)
    · replace h := hT h c2
      refine AW.iconst dX12_gas_29 ?_
      exact AW.zret1 rfl (Or.inl rfl) dX12_gas_30 h rfl
    · replace h := hF h c2
      refine AW.iload_n 3 dX12_gas_19 rfl ?_
      refine AW.iconst dX12_gas_20 ?_
      refine AW.bipush dX12_gas_21 (by decide) (by decide) ?_
      refine AW.callSi (As := [iv x3, iv 0, iv 60]) (st := []) M_isIn_ok cq_X12_3 st_X12_isIn (Nat.le_trans (by decide) hdd) rfl dX12_gas_23 rfl (Nat.le_of_ble_eq_true rfl) ?_
      refine AW.if_ne (tgt := 31) dX12_gas_26 (by decide) (fun c3 => ?_) (fun c3 => ?_)
      · replace h := hF h c3
        refine AW.iconst dX12_gas_31 ?_
        refine AW.istore (lv1 := [(4, iv 0), (0, rv z 117), (1, iv x1), (2, iv x2), (3, iv x3)]) dX12_gas_32 (by decide) rfl ?_
        refine AW.iconst dX12_gas_34 ?_
        refine AW.istore (lv1 := [(5, iv 0), (4, iv 0), (0, rv z 117), (1, iv x1), (2, iv x2), (3, iv x3)]) dX12_gas_35 (by decide) rfl ?_
        refine AW.sub (lv1 := [(0, rv z 117), (1, iv x1), (2, iv x2), (3, iv x3), (4, iv 0), (5, iv 0)]) [2, 3, 4, 5, 1, 0] rfl ?_
        exact (M_gas_b_ok hdd _ _ _ _ _ h).1 rfl
      · replace h := hT h c3
        refine AW.iconst dX12_gas_29 ?_
        exact AW.zret1 rfl (Or.inl rfl) dX12_gas_30 h rfl
set_option synthInstance.maxHeartbeats 2000000 in
theorem M_docksOn_b_ok {z : AZ} {rec : Int → Int → Int → Int → Int → AG → Option (Int × AG)} {Dr : Nat} (hC9 : 0 ≤ Dr) (hrec : ∀ (x1 : Int) (x2 : Int) (x3 : Int) (x4 : Int) (x5 : Int) (g : AG) (r : Int × AG), rec x1 x2 x3 x4 x5 g = some r → AMf z yX12_docksOn cX12_docksOn 9 none Dr [rv z 117, iv x1, iv x2, iv x3, iv x4, iv x5] g r) {d : Nat} (hdd : Dr + 1 ≤ d) {x1 : Int} {x2 : Int} {x3 : Int} {x4 : Int} {x5 : Int} : ∀ (tag : Nat) (x6 : Int) (g : AG) (r : Int × AG), M_docksOn_b rec x1 x2 x3 x4 x5 tag x6 g = some r → (tag = 1 → AW z (RX12, cX12_docksOn, 9, none) d (QD none r) 44 [(0, rv z 117), (4, iv x4), (5, iv x5)] [] g) ∧ (tag = 2 → AW z (RX12, cX12_docksOn, 9, none) d (QD none r) 59 [(0, rv z 117), (6, iv x6)] [] g) ∧ (tag = 3 → AW z (RX12, cX12_docksOn, 9, none) d (QD none r) 92 [(0, rv z 117), (1, iv x1), (2, iv x2), (3, iv x3), (4, iv x4), (5, iv x5), (6, iv x6)] [] g) := by
  refine M_docksOn_b.partial_correctness rec x1 x2 x3 x4 x5 (fun tag x6 g r => (tag = 1 → AW z (RX12, cX12_docksOn, 9, none) d (QD none r) 44 [(0, rv z 117), (4, iv x4), (5, iv x5)] [] g) ∧ (tag = 2 → AW z (RX12, cX12_docksOn, 9, none) d (QD none r) 59 [(0, rv z 117), (6, iv x6)] [] g) ∧ (tag = 3 → AW z (RX12, cX12_docksOn, 9, none) d (QD none r) 92 [(0, rv z 117), (1, iv x1), (2, iv x2), (3, iv x3), (4, iv x4), (5, iv x5), (6, iv x6)] [] g)) ?_
  intro fb9 ih tag x6 g r h
  refine ⟨fun h9 => ?_, fun h9 => ?_, fun h9 => ?_⟩
  · subst h9
    replace h := hT h rfl
    refine AW.aloadr_n 0 dX12_docksOn_44 rfl ?_
    refine AW.iload 1 dX12_docksOn_45 rfl ?_
    obtain ⟨g1, e2, h⟩ := hBe h
    refine AW.putI ap_X12_518_117 sr_117_85 dX12_docksOn_47 e2 ?_
    refine AW.aloadr_n 0 dX12_docksOn_50 rfl ?_
    refine AW.iload 2 dX12_docksOn_51 rfl ?_
    obtain ⟨g3, e4, h⟩ := hBe h
    refine AW.putI ap_X12_521_117 sr_117_86 dX12_docksOn_53 e4 ?_
    refine AW.iconst dX12_docksOn_56 ?_
    refine AW.istore (lv1 := [(6, iv 0), (0, rv z 117), (4, iv x4), (5, iv x5)]) dX12_docksOn_57 (by decide) rfl ?_
    refine AW.sub (lv1 := [(0, rv z 117), (6, iv 0)]) [1, 0] rfl ?_
    exact (ih _ _ _ _ h).2.1 rfl
  · subst h9
    replace h := hF h (by decide)
    replace h := hT h rfl
    refine AW.iload 1 dX12_docksOn_59 rfl ?_
    refine AW.aloadr_n 0 dX12_docksOn_61 rfl ?_
    refine AW.getI af_X12_515_117 sr_117_84 dX12_docksOn_62 ?_
    refine AW.icmp_ge (tgt := 88) dX12_docksOn_65 (by decide) (fun c1 => ?_) (fun c1 => ?_)
    · replace h := hT h c1
      exact AW.vret1 rfl dX12_docksOn_88 h rfl
    · replace h := hF h c1
      refine AW.aloadr_n 0 dX12_docksOn_68 rfl ?_
      refine AW.getR af_X12_199_117 sr_117_83 dX12_docksOn_69 ?_
      refine AW.iload 1 dX12_docksOn_72 rfl ?_
      refine AW.aloadr_n 0 dX12_docksOn_74 rfl ?_
      refine AW.getR af_X12_196_117 sr_117_82 dX12_docksOn_75 ?_
      refine AW.iload 1 dX12_docksOn_78 rfl ?_
      obtain ⟨k2, h⟩ := hK h
      refine AW.iald kc_176 sk_176 k2 dX12_docksOn_80 ?_
      obtain ⟨g3, e4, h⟩ := hBe h
      refine AW.iast kc_177 sk_177 k2 dX12_docksOn_81 e4 ?_
      refine AW.iinc (lv1 := [(6, iv (x6 + 1)), (0, rv z 117)]) 1 dX12_docksOn_82 rfl (by decide) rfl ?_
      refine AW.goto (tgt := 59) dX12_docksOn_85 (by decide) ?_
      refine AW.sub (lv1 := [(0, rv z 117), (6, iv (x6 + 1))]) [1, 0] rfl ?_
      exact (ih _ _ _ _ h).2.1 rfl
  · subst h9
    replace h := hF h (by decide)
    replace h := hF h (by decide)
    replace h := hT h rfl
    refine AW.iload 6 dX12_docksOn_92 rfl ?_
    refine AW.aloadr_n 0 dX12_docksOn_94 rfl ?_
    refine AW.getI af_X12_515_117 sr_117_84 dX12_docksOn_95 ?_
    refine AW.icmp_ge (tgt := 188) dX12_docksOn_98 (by decide) (fun c1 => ?_) (fun c1 => ?_)
    · replace h := hT h c1
      exact AW.vret1 rfl dX12_docksOn_188 h rfl
    · replace h := hF h c1
      refine AW.iload_n 2 dX12_docksOn_101 rfl ?_
      refine AW.iload 6 dX12_docksOn_102 rfl ?_
      refine AW.ishr dX12_docksOn_104 ?_
      refine AW.iconst dX12_docksOn_105 ?_
      refine AW.iand dX12_docksOn_106 ?_
      refine AW.iconst dX12_docksOn_107 ?_
      obtain ⟨r13, e14, h⟩ := hC h
      refine AW.join (tgt := 182) (lv1 := [(0, rv z 117), (1, iv x1), (2, iv x2), (3, iv x3), (4, iv x4), (5, iv x5), (6, iv x6)]) (st1 := []) (g1 := r13) ?_ (fun J108 => ?_)
      · refine AW.iinc (lv1 := [(6, iv (x6 + 1)), (0, rv z 117), (1, iv x1), (2, iv x2), (3, iv x3), (4, iv x4), (5, iv x5)]) 6 dX12_docksOn_182 rfl (by decide) rfl ?_
        refine AW.goto (tgt := 92) dX12_docksOn_185 (by decide) ?_
        refine AW.sub (lv1 := [(0, rv z 117), (1, iv x1), (2, iv x2), (3, iv x3), (4, iv x4), (5, iv x5), (6, iv (x6 + 1))]) [1, 2, 3, 4, 5, 6, 0] rfl ?_
        exact (ih _ _ _ _ h).2.2 rfl
      replace h := e14
      refine AW.icmp_ne (tgt := 114) dX12_docksOn_108 (by decide) (fun c2 => ?_) (fun c2 => ?_)
      · replace h := hF h c2
        refine AW.aloadr_n 0 dX12_docksOn_114 rfl ?_
        refine AW.getR af_X12_193_117 sr_117_81 dX12_docksOn_115 ?_
        refine AW.iload 6 dX12_docksOn_118 rfl ?_
        obtain ⟨k3, h⟩ := hK h
        refine AW.iald kc_175 sk_175 k3 dX12_docksOn_120 ?_
        refine AW.istore (lv1 := [(7, iv (g 175 (ix x6))), (0, rv z 117), (1, iv x1), (2, iv x2), (3, iv x3), (4, iv x4), (5, iv x5), (6, iv x6)]) dX12_docksOn_121 (by decide) rfl ?_
        refine AW.iload_n 4 dX12_docksOn_123 rfl ?_
        refine AW.aloadr_n 1 dX12_docksOn_124 rfl ?_
        refine AW.getR af_X12_190_117 sr_117_80 dX12_docksOn_125 ?_
        refine AW.iload 0 dX12_docksOn_128 rfl ?_
        obtain ⟨k4, h⟩ := hK h
        refine AW.iald kc_174 sk_174 k4 dX12_docksOn_130 ?_
        refine AW.iadd dX12_docksOn_131 ?_
        refine AW.istore (lv1 := [(8, iv (x3 + (g 174 (ix (g 175 (ix x6)))))), (7, iv (g 175 (ix x6))), (0, rv z 117), (1, iv x1), (2, iv x2), (3, iv x3), (4, iv x4), (5, iv x5), (6, iv x6)]) dX12_docksOn_132 (by decide) rfl ?_
        refine AW.aloadr_n 2 dX12_docksOn_134 rfl ?_
        refine AW.getR af_X12_196_117 sr_117_82 dX12_docksOn_135 ?_
        refine AW.iload_n 3 dX12_docksOn_138 rfl ?_
        refine AW.iload 1 dX12_docksOn_139 rfl ?_
        obtain ⟨k5, h⟩ := hK h
        obtain ⟨g6, e7, h⟩ := hBe h
        refine AW.iast kc_176 sk_176 k5 dX12_docksOn_141 e7 ?_
        refine AW.aloadr_n 2 dX12_docksOn_142 rfl ?_
        refine AW.iload_n 3 dX12_docksOn_143 rfl ?_
        refine AW.iconst dX12_docksOn_144 ?_
        refine AW.iadd dX12_docksOn_145 ?_
        refine AW.iload_n 4 dX12_docksOn_146 rfl ?_
        refine AW.iconst dX12_docksOn_147 ?_
        refine AW.iload 8 dX12_docksOn_148 rfl ?_
        refine AW.ishl dX12_docksOn_150 ?_
        refine AW.ior dX12_docksOn_151 ?_
        refine AW.iload 0 dX12_docksOn_152 rfl ?_
        refine AW.iload 6 dX12_docksOn_154 rfl ?_
        refine AW.iload 0 dX12_docksOn_156 rfl ?_
        refine AW.aloadr_n 2 dX12_docksOn_158 rfl ?_
        refine AW.getR af_X12_187_117 sr_117_79 dX12_docksOn_159 ?_
        refine AW.iload 1 dX12_docksOn_162 rfl ?_
        refine AW.iald kc_173 sk_173 k4 dX12_docksOn_164 ?_
        obtain ⟨t8, e9, h⟩ := hBe h
        refine AW.join (tgt := 173) (lv1 := [(8, iv (x3 + (g 174 (ix (g 175 (ix x6)))))), (7, iv (g 175 (ix x6))), (0, rv z 117), (1, iv x1), (2, iv x2), (3, iv x3), (4, iv x4), (5, iv x5), (6, iv x6)]) (st1 := [iv t8, iv x4, iv (x3 + (g 174 (ix (g 175 (ix x6))))), iv (orI x2 (shlI 1 x6)), iv (x1 + 1), rv z 117]) (g1 := g6) ?_ (fun J165 => ?_)
        · refine AW.iadd dX12_docksOn_173 ?_
          refine AW.iload 7 dX12_docksOn_174 rfl ?_
          refine AW.iload 0 dX12_docksOn_176 rfl ?_
          refine AW.iadd dX12_docksOn_178 ?_
          obtain ⟨r10, e11, h⟩ := hC h
          refine AW.callVv (As := [iv (x1 + 1), iv (orI x2 (shlI 1 x6)), iv (x3 + (g 174 (ix (g 175 (ix x6))))), iv (x4 + t8), iv (x5 + (x3 + (g 174 (ix (g 175 (ix x6))))))]) (st := []) (hrec _ _ _ _ _ _ _ e11) cq_X12_524 cr_117_X12_docksOn (by omega) rfl dX12_docksOn_179 rfl (Nat.le_of_ble_eq_true rfl) ?_
          refine AW.sub (lv1 := [(0, rv z 117), (1, iv x1), (2, iv x2), (3, iv x3), (4, iv x4), (5, iv x5), (6, iv x6)]) [2, 3, 4, 5, 6, 7, 8] rfl ?_
          cases h
          exact J108
        refine AW.icmp_le (tgt := 172) dX12_docksOn_165 (by decide) (fun c12 => ?_) (fun c12 => ?_)
        · refine AW.iconst dX12_docksOn_172 ?_
          exact AW.val (e9.trans (if_pos c12)) J165
        · refine AW.iconst dX12_docksOn_168 ?_
          refine AW.goto (tgt := 173) dX12_docksOn_169 (by decide) ?_
          exact AW.val (e9.trans (if_neg c12)) J165
      · replace h := hT h c2
        refine AW.goto (tgt := 182) dX12_docksOn_111 (by decide) ?_
        cases h
        exact J108
theorem M_docksOn_s_ok {z : AZ} {rec : Int → Int → Int → Int → Int → AG → Option (Int × AG)} {Dr : Nat} (hC9 : 0 ≤ Dr) (hrec : ∀ (x1 : Int) (x2 : Int) (x3 : Int) (x4 : Int) (x5 : Int) (g : AG) (r : Int × AG), rec x1 x2 x3 x4 x5 g = some r → AMf z yX12_docksOn cX12_docksOn 9 none Dr [rv z 117, iv x1, iv x2, iv x3, iv x4, iv x5] g r) {x1 : Int} {x2 : Int} {x3 : Int} {x4 : Int} {x5 : Int} {g : AG} {r : Int × AG} (h : M_docksOn_s rec x1 x2 x3 x4 x5 g = some r) : AMf z yX12_docksOn cX12_docksOn 9 none (Dr + 1) [rv z 117, iv x1, iv x2, iv x3, iv x4, iv x5] g r := by
  intro d hdd
  refine AM.of (by decide +kernel) (Nat.le_of_ble_eq_true rfl) ?_
  show AW z (RX12, cX12_docksOn, 9, none) d (QD none r) 0 [(0, rv z 117), (1, iv x1), (2, iv x2), (3, iv x3), (4, iv x4), (5, iv x5)] [] g
  unfold M_docksOn_s at h
  refine AW.iload_n 1 dX12_docksOn_0 rfl ?_
  refine AW.aloadr_n 0 dX12_docksOn_1 rfl ?_
  refine AW.getI af_X12_515_117 sr_117_84 dX12_docksOn_2 ?_
  refine AW.icmp_ne (tgt := 89) dX12_docksOn_5 (by decide) (fun c1 => ?_) (fun c1 => ?_)
  · replace h := hF h c1
    refine AW.iconst dX12_docksOn_89 ?_
    refine AW.istore (lv1 := [(6, iv 0), (0, rv z 117), (1, iv x1), (2, iv x2), (3, iv x3), (4, iv x4), (5, iv x5)]) dX12_docksOn_90 (by decide) rfl ?_
    refine AW.sub (lv1 := [(0, rv z 117), (1, iv x1), (2, iv x2), (3, iv x3), (4, iv x4), (5, iv x5), (6, iv 0)]) [1, 2, 3, 4, 5, 6, 0] rfl ?_
    exact (M_docksOn_b_ok hC9 hrec hdd _ _ _ _ h).2.2 rfl
  · replace h := hT h c1
    refine AW.aloadr_n 0 dX12_docksOn_8 rfl ?_
    refine AW.getI af_X12_518_117 sr_117_85 dX12_docksOn_9 ?_
    refine AW.iconst dX12_docksOn_12 ?_
    refine AW.icmp_eq (tgt := 44) dX12_docksOn_13 (by decide) (fun c2 => ?_) (fun c2 => ?_)
    · replace h := hT h c2
      refine AW.sub (lv1 := [(0, rv z 117), (4, iv x4), (5, iv x5)]) [0, 4, 5] rfl ?_
      exact (M_docksOn_b_ok hC9 hrec hdd _ _ _ _ h).1 rfl
    · replace h := hF h c2
      refine AW.iload 4 dX12_docksOn_16 rfl ?_
      refine AW.aloadr_n 0 dX12_docksOn_18 rfl ?_
      refine AW.getI af_X12_518_117 sr_117_85 dX12_docksOn_19 ?_
      refine AW.icmp_gt (tgt := 43) dX12_docksOn_22 (by decide) (fun c3 => ?_) (fun c3 => ?_)
      · replace h := hT h c3
        exact AW.vret1 rfl dX12_docksOn_43 h rfl
      · replace h := hF h c3
        refine AW.iload 4 dX12_docksOn_25 rfl ?_
        refine AW.aloadr_n 0 dX12_docksOn_27 rfl ?_
        refine AW.getI af_X12_518_117 sr_117_85 dX12_docksOn_28 ?_
        refine AW.icmp_ne (tgt := 44) dX12_docksOn_31 (by decide) (fun c4 => ?_) (fun c4 => ?_)
        · replace h := hF h c4
          refine AW.sub (lv1 := [(0, rv z 117), (4, iv x4), (5, iv x5)]) [0, 4, 5] rfl ?_
          exact (M_docksOn_b_ok hC9 hrec hdd _ _ _ _ h).1 rfl
        · replace h := hT h c4
          refine AW.iload 5 dX12_docksOn_34 rfl ?_
          refine AW.aloadr_n 0 dX12_docksOn_36 rfl ?_
          refine AW.getI af_X12_521_117 sr_117_86 dX12_docksOn_37 ?_
          refine AW.icmp_lt (tgt := 44) dX12_docksOn_40 (by decide) (fun c5 => ?_) (fun c5 => ?_)
          · replace h := hT h c5
            refine AW.sub (lv1 := [(0, rv z 117), (4, iv x4), (5, iv x5)]) [0, 4, 5] rfl ?_
            exact (M_docksOn_b_ok hC9 hrec hdd _ _ _ _ h).1 rfl
          · replace h := hF h c5
            exact AW.vret1 rfl dX12_docksOn_43 h rfl
theorem M_docksOn_ok {z : AZ} {n : Nat} {x1 : Int} {x2 : Int} {x3 : Int} {x4 : Int} {x5 : Int} {g : AG} {r : Int × AG} (h : M_docksOn n x1 x2 x3 x4 x5 g = some r) : AMf z yX12_docksOn cX12_docksOn 9 none (0 + n * 1) [rv z 117, iv x1, iv x2, iv x3, iv x4, iv x5] g r := by
  induction n generalizing x1 x2 x3 x4 x5 g r with
  | zero => cases h
  | succ n ih =>
    have q := M_docksOn_s_ok (z := z) (Dr := 0 + n * 1) (Nat.le_add_right _ _) (fun x1 x2 x3 x4 x5 g r h9 => ih h9) h
    rw [show 0 + (n + 1) * 1 = 0 + n * 1 + 1 by rw [Nat.add_mul]; omega]
    exact q
set_option synthInstance.maxHeartbeats 2000000 in
theorem M_dock_b_ok {z : AZ} {d : Nat} (hdd : 10 ≤ d) {x1 : Int} : ∀ (x2 : Int) (g : AG) (r : Int × AG), M_dock_b x1 x2 g = some r → AW z (RX12, cX12_dock, 3, (some .int)) d (QD (some .int) r) 7 [(0, rv z 117), (1, iv x1), (2, iv x2)] [] g := by
  refine M_dock_b.partial_correctness x1 (fun x2 g r => AW z (RX12, cX12_dock, 3, (some .int)) d (QD (some .int) r) 7 [(0, rv z 117), (1, iv x1), (2, iv x2)] [] g) ?_
  intro fb9 ih x2 g r h
  refine AW.iload_n 2 dX12_dock_7 rfl ?_
  refine AW.aloadr_n 0 dX12_dock_8 rfl ?_
  refine AW.getI af_X12_235_117 sr_117_12 dX12_dock_9 ?_
  refine AW.icmp_ge (tgt := 53) dX12_dock_12 (by decide) (fun c1 => ?_) (fun c1 => ?_)
  · replace h := hT h c1
    refine AW.aloadr_n 0 dX12_dock_53 rfl ?_
    refine AW.iconst dX12_dock_54 ?_
    obtain ⟨g2, e3, h⟩ := hBe h
    refine AW.putI ap_X12_518_117 sr_117_85 dX12_dock_55 e3 ?_
    refine AW.aloadr_n 0 dX12_dock_58 rfl ?_
    refine AW.iconst dX12_dock_59 ?_
    refine AW.iconst dX12_dock_60 ?_
    refine AW.iconst dX12_dock_61 ?_
    refine AW.iconst dX12_dock_62 ?_
    refine AW.iconst dX12_dock_63 ?_
    obtain ⟨r4, e5, h⟩ := hC h
    refine AW.callVv (As := [iv 0, iv 0, iv 0, iv 0, iv 0]) (st := []) ((M_docksOn_ok (n := 9)) e5) cq_X12_524 cr_117_X12_docksOn (Nat.le_trans (by decide) hdd) rfl dX12_dock_64 rfl (Nat.le_of_ble_eq_true rfl) ?_
    refine AW.iload_n 1 dX12_dock_67 rfl ?_
    refine AW.bipush dX12_dock_68 (by decide) (by decide) ?_
    refine AW.bipush dX12_dock_70 (by decide) (by decide) ?_
    refine AW.aloadr_n 0 dX12_dock_72 rfl ?_
    refine AW.getI af_X12_515_117 sr_117_84 dX12_dock_73 ?_
    refine AW.iadd dX12_dock_76 ?_
    refine AW.callSi (As := [iv x1, iv 10, iv (9 + (r4.2 117 84))]) (st := []) M_isIn_ok cq_X12_3 st_X12_isIn (Nat.le_trans (by decide) hdd) rfl dX12_dock_77 rfl (Nat.le_of_ble_eq_true rfl) ?_
    refine AW.if_eq (tgt := 93) dX12_dock_80 (by decide) (fun c6 => ?_) (fun c6 => ?_)
    · replace h := hT h c6
      refine AW.iload_n 1 dX12_dock_93 rfl ?_
      obtain ⟨t7, e8, h⟩ := hBe h
      refine AW.join (tgt := 129) (lv1 := [(0, rv z 117), (1, iv x1), (2, iv x2)]) (st1 := [iv t7]) (g1 := r4.2) ?_ (fun J94 => ?_)
      · exact AW.iret1 rfl dX12_dock_129 h rfl
      refine AW.if_ne (tgt := 104) dX12_dock_94 (by decide) (fun c9 => ?_) (fun c9 => ?_)
      · refine AW.iload_n 1 dX12_dock_104 rfl ?_
        refine AW.iconst dX12_dock_105 ?_
        refine AW.icmp_ne (tgt := 116) dX12_dock_106 (by decide) (fun c10 => ?_) (fun c10 => ?_)
        · refine AW.iload_n 1 dX12_dock_116 rfl ?_
          refine AW.iconst dX12_dock_117 ?_
          refine AW.icmp_ne (tgt := 128) dX12_dock_118 (by decide) (fun c11 => ?_) (fun c11 => ?_)
          · refine AW.iconst dX12_dock_128 ?_
            exact AW.val (e8.trans ((if_neg c9).trans ((if_neg c10).trans (if_neg c11)))) J94
          · refine AW.aloadr_n 0 dX12_dock_121 rfl ?_
            refine AW.getI af_X12_515_117 sr_117_84 dX12_dock_122 ?_
            refine AW.goto (tgt := 129) dX12_dock_125 (by decide) ?_
            exact AW.val (e8.trans ((if_neg c9).trans ((if_neg c10).trans (if_pos c11)))) J94
        · refine AW.aloadr_n 0 dX12_dock_109 rfl ?_
          refine AW.getI af_X12_521_117 sr_117_86 dX12_dock_110 ?_
          refine AW.goto (tgt := 129) dX12_dock_113 (by decide) ?_
          exact AW.val (e8.trans ((if_neg c9).trans (if_pos c10))) J94
      · refine AW.aloadr_n 0 dX12_dock_97 rfl ?_
        refine AW.getI af_X12_518_117 sr_117_85 dX12_dock_98 ?_
        refine AW.goto (tgt := 129) dX12_dock_101 (by decide) ?_
        exact AW.val (e8.trans (if_pos c9)) J94
    · replace h := hF h c6
      refine AW.aloadr_n 0 dX12_dock_83 rfl ?_
      refine AW.getR af_X12_199_117 sr_117_83 dX12_dock_84 ?_
      refine AW.iload_n 1 dX12_dock_87 rfl ?_
      refine AW.bipush dX12_dock_88 (by decide) (by decide) ?_
      refine AW.isub dX12_dock_90 ?_
      obtain ⟨k12, h⟩ := hK h
      refine AW.iald kc_177 sk_177 k12 dX12_dock_91 ?_
      exact AW.iret1 rfl dX12_dock_92 h rfl
  · replace h := hF h c1
    refine AW.aloadr_n 0 dX12_dock_15 rfl ?_
    refine AW.getR af_X12_190_117 sr_117_80 dX12_dock_16 ?_
    refine AW.iload_n 2 dX12_dock_19 rfl ?_
    obtain ⟨k13, h⟩ := hK h
    refine AW.iald kc_174 sk_174 k13 dX12_dock_20 ?_
    obtain ⟨r20, e21, h⟩ := hC h
    refine AW.join (tgt := 47) (lv1 := [(0, rv z 117), (1, iv x1), (2, iv x2)]) (st1 := []) (g1 := r20) ?_ (fun J21 => ?_)
    · refine AW.iinc (lv1 := [(2, iv (x2 + 1)), (0, rv z 117), (1, iv x1)]) 2 dX12_dock_47 rfl (by decide) rfl ?_
      refine AW.goto (tgt := 7) dX12_dock_50 (by decide) ?_
      refine AW.sub (lv1 := [(0, rv z 117), (1, iv x1), (2, iv (x2 + 1))]) [1, 2, 0] rfl ?_
      exact ih _ _ _ h
    replace h := e21
    refine AW.if_ne (tgt := 27) dX12_dock_21 (by decide) (fun c14 => ?_) (fun c14 => ?_)
    · replace h := hF h c14
      refine AW.aloadr_n 0 dX12_dock_27 rfl ?_
      refine AW.getR af_X12_193_117 sr_117_81 dX12_dock_28 ?_
      refine AW.aloadr_n 0 dX12_dock_31 rfl ?_
      refine AW.getI af_X12_515_117 sr_117_84 dX12_dock_32 ?_
      refine AW.iload_n 2 dX12_dock_35 rfl ?_
      obtain ⟨k15, h⟩ := hK h
      obtain ⟨g16, e17, h⟩ := hBe h
      refine AW.iast kc_175 sk_175 k15 dX12_dock_36 e17 ?_
      refine AW.aloadr_n 0 dX12_dock_37 rfl ?_
      refine AW.duprr dX12_dock_38 ?_
      refine AW.getI af_X12_515_117 sr_117_84 dX12_dock_39 ?_
      refine AW.iconst dX12_dock_42 ?_
      refine AW.iadd dX12_dock_43 ?_
      obtain ⟨g18, e19, h⟩ := hBe h
      refine AW.putI ap_X12_515_117 sr_117_84 dX12_dock_44 e19 ?_
      cases h
      exact J21
    · replace h := hT h c14
      refine AW.goto (tgt := 47) dX12_dock_24 (by decide) ?_
      cases h
      exact J21
theorem M_dock_ok {z : AZ} {x1 : Int} {g : AG} {r : Int × AG} (h : M_dock x1 g = some r) : AMf z yX12_dock cX12_dock 3 (some .int) 10 [rv z 117, iv x1] g r := by
  intro d hdd
  refine AM.of (by decide +kernel) (Nat.le_of_ble_eq_true rfl) ?_
  show AW z (RX12, cX12_dock, 3, (some .int)) d (QD (some .int) r) 0 [(0, rv z 117), (1, iv x1)] [] g
  unfold M_dock at h
  refine AW.aloadr_n 0 dX12_dock_0 rfl ?_
  refine AW.iconst dX12_dock_1 ?_
  obtain ⟨g1, e2, h⟩ := hBe h
  refine AW.putI ap_X12_515_117 sr_117_84 dX12_dock_2 e2 ?_
  refine AW.iconst dX12_dock_5 ?_
  refine AW.istore_n (lv1 := [(2, iv 0), (0, rv z 117), (1, iv x1)]) dX12_dock_6 (by decide) rfl ?_
  refine AW.sub (lv1 := [(0, rv z 117), (1, iv x1), (2, iv 0)]) [1, 2, 0] rfl ?_
  exact M_dock_b_ok hdd _ _ _ h
theorem M_job_ok {z : AZ} {x1 : Int} {g : AG} {r : Int × AG} (h : M_job x1 g = some r) : AMf z yX12_job cX12_job 2 (some .int) 1 [rv z 117, iv x1] g r := by
  intro d hdd
  refine AM.of (by decide +kernel) (Nat.le_of_ble_eq_true rfl) ?_
  show AW z (RX12, cX12_job, 2, (some .int)) d (QD (some .int) r) 0 [(0, rv z 117), (1, iv x1)] [] g
  unfold M_job at h
  refine AW.iload_n 1 dX12_job_0 rfl ?_
  refine AW.if_ne (tgt := 11) dX12_job_1 (by decide) (fun c1 => ?_) (fun c1 => ?_)
  · replace h := hF h c1
    refine AW.iload_n 1 dX12_job_11 rfl ?_
    refine AW.iconst dX12_job_12 ?_
    refine AW.sipush dX12_job_13 (by decide) (by decide) ?_
    refine AW.callSi (As := [iv x1, iv 1, iv 300]) (st := []) M_isIn_ok cq_X12_3 st_X12_isIn (Nat.le_trans (by decide) hdd) rfl dX12_job_16 rfl (Nat.le_of_ble_eq_true rfl) ?_
    refine AW.if_eq (tgt := 31) dX12_job_19 (by decide) (fun c2 => ?_) (fun c2 => ?_)
    · replace h := hT h c2
      refine AW.iconst dX12_job_31 ?_
      exact AW.iret1 rfl dX12_job_32 h rfl
    · replace h := hF h c2
      refine AW.aloadr_n 0 dX12_job_22 rfl ?_
      refine AW.getI af_X12_528_117 sr_117_87 dX12_job_23 ?_
      refine AW.bipush dX12_job_26 (by decide) (by decide) ?_
      refine AW.icmp_ne (tgt := 33) dX12_job_28 (by decide) (fun c3 => ?_) (fun c3 => ?_)
      · replace h := hF h c3
        refine AW.aloadr_n 0 dX12_job_33 rfl ?_
        refine AW.getR af_X12_202_117 sr_117_88 dX12_job_34 ?_
        refine AW.aloadr_n 0 dX12_job_37 rfl ?_
        refine AW.getI af_X12_528_117 sr_117_87 dX12_job_38 ?_
        refine AW.iload_n 1 dX12_job_41 rfl ?_
        obtain ⟨k4, h⟩ := hK h
        obtain ⟨g5, e6, h⟩ := hBe h
        refine AW.iast kc_178 sk_178 k4 dX12_job_42 e6 ?_
        refine AW.aloadr_n 0 dX12_job_43 rfl ?_
        refine AW.duprr dX12_job_44 ?_
        refine AW.getI af_X12_528_117 sr_117_87 dX12_job_45 ?_
        refine AW.iconst dX12_job_48 ?_
        refine AW.iadd dX12_job_49 ?_
        obtain ⟨g7, e8, h⟩ := hBe h
        refine AW.putI ap_X12_528_117 sr_117_87 dX12_job_50 e8 ?_
        refine AW.aloadr_n 0 dX12_job_53 rfl ?_
        refine AW.getI af_X12_528_117 sr_117_87 dX12_job_54 ?_
        exact AW.iret1 rfl dX12_job_57 h rfl
      · replace h := hT h c3
        refine AW.iconst dX12_job_31 ?_
        exact AW.iret1 rfl dX12_job_32 h rfl
  · replace h := hT h c1
    refine AW.aloadr_n 0 dX12_job_4 rfl ?_
    refine AW.iconst dX12_job_5 ?_
    obtain ⟨g9, e10, h⟩ := hBe h
    refine AW.putI ap_X12_528_117 sr_117_87 dX12_job_6 e10 ?_
    refine AW.iconst dX12_job_9 ?_
    exact AW.iret1 rfl dX12_job_10 h rfl
set_option synthInstance.maxHeartbeats 2000000 in
theorem M_lastEnd_b_ok {z : AZ} {d : Nat} (hdd : 0 ≤ d) {x1 : Int} : ∀ (x2 : Int) (x3 : Int) (g : AG) (r : Int × AG), M_lastEnd_b x1 x2 x3 g = some r → AW z (RX12, cX12_lastEnd, 4, (some .int)) d (QD (some .int) r) 6 [(0, rv z 117), (1, iv x1), (2, iv x2), (3, iv x3)] [] g := by
  refine M_lastEnd_b.partial_correctness x1 (fun x2 x3 g r => AW z (RX12, cX12_lastEnd, 4, (some .int)) d (QD (some .int) r) 6 [(0, rv z 117), (1, iv x1), (2, iv x2), (3, iv x3)] [] g) ?_
  intro fb9 ih x2 x3 g r h
  refine AW.iload_n 3 dX12_lastEnd_6 rfl ?_
  refine AW.iload_n 1 dX12_lastEnd_7 rfl ?_
  refine AW.icmp_ge (tgt := 38) dX12_lastEnd_8 (by decide) (fun c1 => ?_) (fun c1 => ?_)
  · replace h := hT h c1
    refine AW.iload_n 2 dX12_lastEnd_38 rfl ?_
    exact AW.iret1 rfl dX12_lastEnd_39 h rfl
  · replace h := hF h c1
    refine AW.aloadr_n 0 dX12_lastEnd_11 rfl ?_
    refine AW.getR af_X12_205_117 sr_117_89 dX12_lastEnd_12 ?_
    refine AW.iload_n 3 dX12_lastEnd_15 rfl ?_
    obtain ⟨k2, h⟩ := hK h
    refine AW.iald kc_179 sk_179 k2 dX12_lastEnd_16 ?_
    refine AW.iload_n 2 dX12_lastEnd_17 rfl ?_
    obtain ⟨r4, e5, h⟩ := hC h
    refine AW.join (tgt := 31) (lv1 := [(0, rv z 117), (1, iv x1), (3, iv x3)]) (st1 := [iv r4.1]) (g1 := r4.2) ?_ (fun J18 => ?_)
    · refine AW.istore_n (lv1 := [(2, iv r4.1), (0, rv z 117), (1, iv x1), (3, iv x3)]) dX12_lastEnd_31 (by decide) rfl ?_
      refine AW.iinc (lv1 := [(3, iv (x3 + 1)), (2, iv r4.1), (0, rv z 117), (1, iv x1)]) 3 dX12_lastEnd_32 rfl (by decide) rfl ?_
      refine AW.goto (tgt := 6) dX12_lastEnd_35 (by decide) ?_
      refine AW.sub (lv1 := [(0, rv z 117), (1, iv x1), (2, iv r4.1), (3, iv (x3 + 1))]) [2, 3, 1, 0] rfl ?_
      exact ih _ _ _ _ h
    replace h := e5
    refine AW.icmp_le (tgt := 30) dX12_lastEnd_18 (by decide) (fun c3 => ?_) (fun c3 => ?_)
    · replace h := hT h c3
      refine AW.iload_n 2 dX12_lastEnd_30 rfl ?_
      refine AW.sub (lv1 := [(0, rv z 117), (1, iv x1), (3, iv x3)]) [0, 1, 3] rfl ?_
      cases h
      exact J18
    · replace h := hF h c3
      refine AW.aloadr_n 0 dX12_lastEnd_21 rfl ?_
      refine AW.getR af_X12_205_117 sr_117_89 dX12_lastEnd_22 ?_
      refine AW.iload_n 3 dX12_lastEnd_25 rfl ?_
      refine AW.iald kc_179 sk_179 k2 dX12_lastEnd_26 ?_
      refine AW.goto (tgt := 31) dX12_lastEnd_27 (by decide) ?_
      refine AW.sub (lv1 := [(0, rv z 117), (1, iv x1), (3, iv x3)]) [0, 1, 3] rfl ?_
      cases h
      exact J18
theorem M_lastEnd_ok {z : AZ} {x1 : Int} {g : AG} {r : Int × AG} (h : M_lastEnd x1 g = some r) : AMf z yX12_lastEnd cX12_lastEnd 4 (some .int) 0 [rv z 117, iv x1] g r := by
  intro d hdd
  refine AM.of (by decide +kernel) (Nat.le_of_ble_eq_true rfl) ?_
  show AW z (RX12, cX12_lastEnd, 4, (some .int)) d (QD (some .int) r) 0 [(0, rv z 117), (1, iv x1)] [] g
  unfold M_lastEnd at h
  refine AW.sipush dX12_lastEnd_0 (by decide) (by decide) ?_
  refine AW.istore_n (lv1 := [(2, iv 600), (0, rv z 117), (1, iv x1)]) dX12_lastEnd_3 (by decide) rfl ?_
  refine AW.iconst dX12_lastEnd_4 ?_
  refine AW.istore_n (lv1 := [(3, iv 0), (2, iv 600), (0, rv z 117), (1, iv x1)]) dX12_lastEnd_5 (by decide) rfl ?_
  refine AW.sub (lv1 := [(0, rv z 117), (1, iv x1), (2, iv 600), (3, iv 0)]) [2, 3, 1, 0] rfl ?_
  exact M_lastEnd_b_ok hdd _ _ _ _ h
set_option synthInstance.maxHeartbeats 2000000 in
theorem M_worked_b_ok {z : AZ} {d : Nat} (hdd : 1 ≤ d) {x1 : Int} : ∀ (tag : Nat) (x2 : Int) (x3 : Int) (x4 : Int) (g : AG) (r : Int × AG), M_worked_b x1 tag x2 x3 x4 g = some r → (tag = 1 → AW z (RX12, cX12_worked, 5, (some .int)) d (QD (some .int) r) 7 [(0, rv z 117), (1, iv x1), (2, iv x2)] [] g) ∧ (tag = 2 → AW z (RX12, cX12_worked, 5, (some .int)) d (QD (some .int) r) 29 [(0, rv z 117), (1, iv x1), (2, iv x2)] [] g) ∧ (tag = 3 → AW z (RX12, cX12_worked, 5, (some .int)) d (QD (some .int) r) 42 [(0, rv z 117), (1, iv x1), (2, iv x2), (3, iv x3), (4, iv x4)] [] g) := by
  refine M_worked_b.partial_correctness x1 (fun tag x2 x3 x4 g r => (tag = 1 → AW z (RX12, cX12_worked, 5, (some .int)) d (QD (some .int) r) 7 [(0, rv z 117), (1, iv x1), (2, iv x2)] [] g) ∧ (tag = 2 → AW z (RX12, cX12_worked, 5, (some .int)) d (QD (some .int) r) 29 [(0, rv z 117), (1, iv x1), (2, iv x2)] [] g) ∧ (tag = 3 → AW z (RX12, cX12_worked, 5, (some .int)) d (QD (some .int) r) 42 [(0, rv z 117), (1, iv x1), (2, iv x2), (3, iv x3), (4, iv x4)] [] g)) ?_
  intro fb9 ih tag x2 x3 x4 g r h
  refine ⟨fun h9 => ?_, fun h9 => ?_, fun h9 => ?_⟩
  · subst h9
    replace h := hT h rfl
    refine AW.iload_n 2 dX12_worked_7 rfl ?_
    refine AW.iload_n 1 dX12_worked_8 rfl ?_
    refine AW.icmp_ge (tgt := 27) dX12_worked_9 (by decide) (fun c1 => ?_) (fun c1 => ?_)
    · replace h := hT h c1
      refine AW.iconst dX12_worked_27 ?_
      refine AW.istore_n (lv1 := [(2, iv 0), (0, rv z 117), (1, iv x1)]) dX12_worked_28 (by decide) rfl ?_
      refine AW.sub (lv1 := [(0, rv z 117), (1, iv x1), (2, iv 0)]) [1, 2, 0] rfl ?_
      exact (ih _ _ _ _ _ _ h).2.1 rfl
    · replace h := hF h c1
      refine AW.aloadr_n 0 dX12_worked_12 rfl ?_
      refine AW.getR af_X12_205_117 sr_117_89 dX12_worked_13 ?_
      refine AW.iload_n 2 dX12_worked_16 rfl ?_
      refine AW.sipush dX12_worked_17 (by decide) (by decide) ?_
      obtain ⟨k2, h⟩ := hK h
      obtain ⟨g3, e4, h⟩ := hBe h
      refine AW.iast kc_179 sk_179 k2 dX12_worked_20 e4 ?_
      refine AW.iinc (lv1 := [(2, iv (x2 + 1)), (0, rv z 117), (1, iv x1)]) 2 dX12_worked_21 rfl (by decide) rfl ?_
      refine AW.goto (tgt := 7) dX12_worked_24 (by decide) ?_
      refine AW.sub (lv1 := [(0, rv z 117), (1, iv x1), (2, iv (x2 + 1))]) [1, 2, 0] rfl ?_
      exact (ih _ _ _ _ _ _ h).1 rfl
  · subst h9
    replace h := hF h (by decide)
    replace h := hT h rfl
    refine AW.iload_n 2 dX12_worked_29 rfl ?_
    refine AW.aloadr_n 0 dX12_worked_30 rfl ?_
    refine AW.getI af_X12_528_117 sr_117_87 dX12_worked_31 ?_
    refine AW.icmp_ge (tgt := 124) dX12_worked_34 (by decide) (fun c1 => ?_) (fun c1 => ?_)
    · replace h := hT h c1
      refine AW.aloadr_n 0 dX12_worked_124 rfl ?_
      refine AW.iload_n 1 dX12_worked_125 rfl ?_
      obtain ⟨r2, e3, h⟩ := hC h
      refine AW.callVi (As := [iv x1]) (st := []) (M_lastEnd_ok e3) cq_X12_534 cr_117_X12_lastEnd (Nat.le_trans (by decide) hdd) rfl dX12_worked_126 rfl (Nat.le_of_ble_eq_true rfl) ?_
      exact AW.iret1 rfl dX12_worked_129 h rfl
    · replace h := hF h c1
      refine AW.iconst dX12_worked_37 ?_
      refine AW.istore_n (lv1 := [(3, iv 0), (0, rv z 117), (1, iv x1), (2, iv x2)]) dX12_worked_38 (by decide) rfl ?_
      refine AW.iconst dX12_worked_39 ?_
      refine AW.istore (lv1 := [(4, iv 1), (3, iv 0), (0, rv z 117), (1, iv x1), (2, iv x2)]) dX12_worked_40 (by decide) rfl ?_
      refine AW.sub (lv1 := [(0, rv z 117), (1, iv x1), (2, iv x2), (3, iv 0), (4, iv 1)]) [2, 3, 4, 1, 0] rfl ?_
      exact (ih _ _ _ _ _ _ h).2.2 rfl
  · subst h9
    replace h := hF h (by decide)
    replace h := hF h (by decide)
    replace h := hT h rfl
    refine AW.iload 4 dX12_worked_42 rfl ?_
    refine AW.iload_n 1 dX12_worked_44 rfl ?_
    refine AW.icmp_ge (tgt := 77) dX12_worked_45 (by decide) (fun c1 => ?_) (fun c1 => ?_)
    · replace h := hT h c1
      refine AW.aloadr_n 0 dX12_worked_77 rfl ?_
      refine AW.getR af_X12_205_117 sr_117_89 dX12_worked_78 ?_
      refine AW.iload_n 3 dX12_worked_81 rfl ?_
      refine AW.dup2r dX12_worked_82 ?_
      obtain ⟨k2, h⟩ := hK h
      refine AW.iald kc_179 sk_179 k2 dX12_worked_83 ?_
      refine AW.aloadr_n 0 dX12_worked_84 rfl ?_
      refine AW.getR af_X12_202_117 sr_117_88 dX12_worked_85 ?_
      refine AW.iload_n 2 dX12_worked_88 rfl ?_
      obtain ⟨k3, h⟩ := hK h
      refine AW.iald kc_178 sk_178 k3 dX12_worked_89 ?_
      refine AW.iadd dX12_worked_90 ?_
      obtain ⟨g4, e5, h⟩ := hBe h
      refine AW.iast kc_179 sk_179 k2 dX12_worked_91 e5 ?_
      refine AW.aloadr_n 0 dX12_worked_92 rfl ?_
      refine AW.duprr dX12_worked_93 ?_
      refine AW.getI af_X12_531_117 sr_117_90 dX12_worked_94 ?_
      refine AW.aloadr_n 0 dX12_worked_97 rfl ?_
      refine AW.getR af_X12_205_117 sr_117_89 dX12_worked_98 ?_
      refine AW.iload_n 3 dX12_worked_101 rfl ?_
      refine AW.iald kc_179 sk_179 k2 dX12_worked_102 ?_
      refine AW.sipush dX12_worked_103 (by decide) (by decide) ?_
      obtain ⟨t6, e7, h⟩ := hBe h
      refine AW.join (tgt := 114) (lv1 := [(0, rv z 117), (1, iv x1), (2, iv x2), (3, iv x3), (4, iv x4)]) (st1 := [iv t6, iv (g4 117 90), rv z 117]) (g1 := g4) ?_ (fun J106 => ?_)
      · refine AW.iadd dX12_worked_114 ?_
        obtain ⟨g8, e9, h⟩ := hBe h
        refine AW.putI ap_X12_531_117 sr_117_90 dX12_worked_115 e9 ?_
        refine AW.iinc (lv1 := [(2, iv (x2 + 1)), (0, rv z 117), (1, iv x1), (3, iv x3), (4, iv x4)]) 2 dX12_worked_118 rfl (by decide) rfl ?_
        refine AW.goto (tgt := 29) dX12_worked_121 (by decide) ?_
        refine AW.sub (lv1 := [(0, rv z 117), (1, iv x1), (2, iv (x2 + 1))]) [1, 2, 0] rfl ?_
        exact (ih _ _ _ _ _ _ h).2.1 rfl
      refine AW.icmp_le (tgt := 113) dX12_worked_106 (by decide) (fun c10 => ?_) (fun c10 => ?_)
      · refine AW.iconst dX12_worked_113 ?_
        exact AW.val (e7.trans (if_pos c10)) J106
      · refine AW.iconst dX12_worked_109 ?_
        refine AW.goto (tgt := 114) dX12_worked_110 (by decide) ?_
        exact AW.val (e7.trans (if_neg c10)) J106
    · replace h := hF h c1
      refine AW.aloadr_n 0 dX12_worked_48 rfl ?_
      refine AW.getR af_X12_205_117 sr_117_89 dX12_worked_49 ?_
      refine AW.iload 4 dX12_worked_52 rfl ?_
      obtain ⟨k11, h⟩ := hK h
      refine AW.iald kc_179 sk_179 k11 dX12_worked_54 ?_
      refine AW.aloadr_n 0 dX12_worked_55 rfl ?_
      refine AW.getR af_X12_205_117 sr_117_89 dX12_worked_56 ?_
      refine AW.iload_n 3 dX12_worked_59 rfl ?_
      obtain ⟨k12, h⟩ := hK h
      refine AW.iald kc_179 sk_179 k12 dX12_worked_60 ?_
      obtain ⟨t13, e14, h⟩ := hBe h
      refine AW.join (tgt := 70) (lv1 := [(0, rv z 117), (1, iv x1), (2, iv x2), (3, iv x3), (4, iv x4)]) (st1 := [iv t13]) (g1 := g) ?_ (fun J61 => ?_)
      · refine AW.istore_n (lv1 := [(3, iv t13), (0, rv z 117), (1, iv x1), (2, iv x2), (4, iv x4)]) dX12_worked_70 (by decide) rfl ?_
        refine AW.iinc (lv1 := [(4, iv (x4 + 1)), (3, iv t13), (0, rv z 117), (1, iv x1), (2, iv x2)]) 4 dX12_worked_71 rfl (by decide) rfl ?_
        refine AW.goto (tgt := 42) dX12_worked_74 (by decide) ?_
        refine AW.sub (lv1 := [(0, rv z 117), (1, iv x1), (2, iv x2), (3, iv t13), (4, iv (x4 + 1))]) [2, 3, 4, 1, 0] rfl ?_
        exact (ih _ _ _ _ _ _ h).2.2 rfl
      refine AW.icmp_ge (tgt := 69) dX12_worked_61 (by decide) (fun c15 => ?_) (fun c15 => ?_)
      · refine AW.iload_n 3 dX12_worked_69 rfl ?_
        exact AW.val (e14.trans (if_pos c15)) J61
      · refine AW.iload 4 dX12_worked_64 rfl ?_
        refine AW.goto (tgt := 70) dX12_worked_66 (by decide) ?_
        exact AW.val (e14.trans (if_neg c15)) J61
theorem M_worked_ok {z : AZ} {x1 : Int} {g : AG} {r : Int × AG} (h : M_worked x1 g = some r) : AMf z yX12_worked cX12_worked 5 (some .int) 1 [rv z 117, iv x1] g r := by
  intro d hdd
  refine AM.of (by decide +kernel) (Nat.le_of_ble_eq_true rfl) ?_
  show AW z (RX12, cX12_worked, 5, (some .int)) d (QD (some .int) r) 0 [(0, rv z 117), (1, iv x1)] [] g
  unfold M_worked at h
  refine AW.aloadr_n 0 dX12_worked_0 rfl ?_
  refine AW.iconst dX12_worked_1 ?_
  obtain ⟨g1, e2, h⟩ := hBe h
  refine AW.putI ap_X12_531_117 sr_117_90 dX12_worked_2 e2 ?_
  refine AW.iconst dX12_worked_5 ?_
  refine AW.istore_n (lv1 := [(2, iv 0), (0, rv z 117), (1, iv x1)]) dX12_worked_6 (by decide) rfl ?_
  refine AW.sub (lv1 := [(0, rv z 117), (1, iv x1), (2, iv 0)]) [1, 2, 0] rfl ?_
  exact (M_worked_b_ok hdd _ _ _ _ _ _ h).1 rfl
set_option synthInstance.maxHeartbeats 2000000 in
theorem M_handOf_b_ok {z : AZ} {d : Nat} (hdd : 0 ≤ d) {x2 : Int} {x3 : Int} {g : AG} : ∀ (x4 : Int) (x5 : Int) (r : Int × AG), M_handOf_b x2 x3 g x4 x5 = some r → AW z (RX12, cX12_handOf, 6, (some .int)) d (QD (some .int) r) 11 [(2, iv x2), (3, iv x3), (4, iv x4), (5, iv x5)] [] g := by
  refine M_handOf_b.partial_correctness x2 x3 g (fun x4 x5 r => AW z (RX12, cX12_handOf, 6, (some .int)) d (QD (some .int) r) 11 [(2, iv x2), (3, iv x3), (4, iv x4), (5, iv x5)] [] g) ?_
  intro fb9 ih x4 x5 r h
  refine AW.iload 3 dX12_handOf_11 rfl ?_
  refine AW.iload_n 0 dX12_handOf_13 rfl ?_
  refine AW.icmp_le (tgt := 29) dX12_handOf_14 (by decide) (fun c1 => ?_) (fun c1 => ?_)
  · replace h := hT h c1
    refine AW.iload 2 dX12_handOf_29 rfl ?_
    refine AW.iload_n 1 dX12_handOf_31 rfl ?_
    obtain ⟨k2, h⟩ := hK h
    refine AW.irem dX12_handOf_32 k2 ?_
    exact AW.iret1 rfl dX12_handOf_33 h rfl
  · replace h := hF h c1
    refine AW.iload 2 dX12_handOf_17 rfl ?_
    refine AW.iload_n 1 dX12_handOf_19 rfl ?_
    obtain ⟨k3, h⟩ := hK h
    refine AW.idiv dX12_handOf_20 k3 ?_
    refine AW.istore (lv1 := [(4, iv ((nw x4).tdiv (nw x3))), (2, iv x2), (3, iv x3), (5, iv x5)]) dX12_handOf_21 (by decide) rfl ?_
    refine AW.iinc (lv1 := [(5, iv (x5 + (-1))), (4, iv ((nw x4).tdiv (nw x3))), (2, iv x2), (3, iv x3)]) 3 dX12_handOf_23 rfl (by decide) rfl ?_
    refine AW.goto (tgt := 11) dX12_handOf_26 (by decide) ?_
    refine AW.sub (lv1 := [(2, iv x2), (3, iv x3), (4, iv ((nw x4).tdiv (nw x3))), (5, iv (x5 + (-1)))]) [2, 3, 1, 0] rfl ?_
    exact ih _ _ _ h
theorem M_handOf_ok {z : AZ} {x1 : Int} {x2 : Int} {x3 : Int} {g : AG} {r : Int × AG} (h : M_handOf x1 x2 x3 g = some r) : AMf z yX12_handOf cX12_handOf 6 (some .int) 0 [rv z 117, iv x1, iv x2, iv x3] g r := by
  intro d hdd
  refine AM.of (by decide +kernel) (Nat.le_of_ble_eq_true rfl) ?_
  show AW z (RX12, cX12_handOf, 6, (some .int)) d (QD (some .int) r) 0 [(0, rv z 117), (1, iv x1), (2, iv x2), (3, iv x3)] [] g
  unfold M_handOf at h
  refine AW.iload_n 1 dX12_handOf_0 rfl ?_
  refine AW.istore (lv1 := [(4, iv x1), (0, rv z 117), (1, iv x1), (2, iv x2), (3, iv x3)]) dX12_handOf_1 (by decide) rfl ?_
  refine AW.aloadr_n 1 dX12_handOf_3 rfl ?_
  refine AW.getI af_X12_528_117 sr_117_87 dX12_handOf_4 ?_
  refine AW.iconst dX12_handOf_7 ?_
  refine AW.isub dX12_handOf_8 ?_
  refine AW.istore (lv1 := [(5, iv ((g 117 87) - 1)), (4, iv x1), (0, rv z 117), (1, iv x1), (2, iv x2), (3, iv x3)]) dX12_handOf_9 (by decide) rfl ?_
  refine AW.sub (lv1 := [(2, iv x2), (3, iv x3), (4, iv x1), (5, iv ((g 117 87) - 1))]) [4, 5, 1, 0] rfl ?_
  exact M_handOf_b_ok hdd _ _ _ h
set_option synthInstance.maxHeartbeats 2000000 in
theorem M_turned_b_ok {z : AZ} {d : Nat} (hdd : 2 ≤ d) {x1 : Int} {x2 : Int} : ∀ (tag : Nat) (x3 : Int) (x4 : Int) (x5 : Int) (x6 : Int) (x7 : Int) (x8 : Int) (g : AG) (r : Int × AG), M_turned_b x1 x2 tag x3 x4 x5 x6 x7 x8 g = some r → (tag = 1 → AW z (RX12, cX12_turned, 9, (some .int)) d (QD (some .int) r) 36 [(0, rv z 117), (1, iv x1), (2, iv x2)] [] g) ∧ (tag = 2 → AW z (RX12, cX12_turned, 9, (some .int)) d (QD (some .int) r) 51 [(0, rv z 117), (2, iv x2), (3, iv x3)] [] g) ∧ (tag = 3 → AW z (RX12, cX12_turned, 9, (some .int)) d (QD (some .int) r) 70 [(0, rv z 117), (1, iv x1), (2, iv x2), (4, iv x4), (5, iv x5)] [] g) ∧ (tag = 4 → AW z (RX12, cX12_turned, 9, (some .int)) d (QD (some .int) r) 100 [(0, rv z 117), (1, iv x1), (2, iv x2), (4, iv x4), (5, iv x5), (6, iv x6), (7, iv x7)] [] g) ∧ (tag = 5 → AW z (RX12, cX12_turned, 9, (some .int)) d (QD (some .int) r) 110 [(0, rv z 117), (1, iv x1), (2, iv x2), (4, iv x4), (5, iv x5), (6, iv x6), (7, iv x7), (8, iv x8)] [] g) ∧ (tag = 6 → AW z (RX12, cX12_turned, 9, (some .int)) d (QD (some .int) r) 135 [(0, rv z 117), (1, iv x1), (2, iv x2), (4, iv x4), (5, iv x5), (6, iv x6), (7, iv x7), (8, iv x8)] [] g) := by
  refine M_turned_b.partial_correctness x1 x2 (fun tag x3 x4 x5 x6 x7 x8 g r => (tag = 1 → AW z (RX12, cX12_turned, 9, (some .int)) d (QD (some .int) r) 36 [(0, rv z 117), (1, iv x1), (2, iv x2)] [] g) ∧ (tag = 2 → AW z (RX12, cX12_turned, 9, (some .int)) d (QD (some .int) r) 51 [(0, rv z 117), (2, iv x2), (3, iv x3)] [] g) ∧ (tag = 3 → AW z (RX12, cX12_turned, 9, (some .int)) d (QD (some .int) r) 70 [(0, rv z 117), (1, iv x1), (2, iv x2), (4, iv x4), (5, iv x5)] [] g) ∧ (tag = 4 → AW z (RX12, cX12_turned, 9, (some .int)) d (QD (some .int) r) 100 [(0, rv z 117), (1, iv x1), (2, iv x2), (4, iv x4), (5, iv x5), (6, iv x6), (7, iv x7)] [] g) ∧ (tag = 5 → AW z (RX12, cX12_turned, 9, (some .int)) d (QD (some .int) r) 110 [(0, rv z 117), (1, iv x1), (2, iv x2), (4, iv x4), (5, iv x5), (6, iv x6), (7, iv x7), (8, iv x8)] [] g) ∧ (tag = 6 → AW z (RX12, cX12_turned, 9, (some .int)) d (QD (some .int) r) 135 [(0, rv z 117), (1, iv x1), (2, iv x2), (4, iv x4), (5, iv x5), (6, iv x6), (7, iv x7), (8, iv x8)] [] g)) ?_
  intro fb9 ih tag x3 x4 x5 x6 x7 x8 g r h
  refine ⟨fun h9 => ?_, fun h9 => ?_, fun h9 => ?_, fun h9 => ?_, fun h9 => ?_, fun h9 => ?_⟩
  · subst h9
    replace h := hT h rfl
    refine AW.aloadr_n 0 dX12_turned_36 rfl ?_
    refine AW.iload_n 1 dX12_turned_37 rfl ?_
    obtain ⟨r1, e2, h⟩ := hC h
    refine AW.callVi (As := [iv x1]) (st := []) (M_worked_ok e2) cq_X12_537 cr_117_X12_worked (Nat.le_trans (by decide) hdd) rfl dX12_turned_38 rfl (Nat.le_of_ble_eq_true rfl) ?_
    refine AW.istore_n (lv1 := [(3, iv r1.1), (0, rv z 117), (1, iv x1), (2, iv x2)]) dX12_turned_41 (by decide) rfl ?_
    refine AW.iload_n 3 dX12_turned_42 rfl ?_
    refine AW.if_eq (tgt := 51) dX12_turned_43 (by decide) (fun c3 => ?_) (fun c3 => ?_)
    · replace h := hT h c3
      refine AW.sub (lv1 := [(0, rv z 117), (2, iv x2), (3, iv r1.1)]) [1, 3, 0] rfl ?_
      exact (ih _ _ _ _ _ _ _ _ _ h).2.1 rfl
    · replace h := hF h c3
      refine AW.iload_n 3 dX12_turned_46 rfl ?_
      refine AW.iconst dX12_turned_47 ?_
      refine AW.icmp_ne (tgt := 64) dX12_turned_48 (by decide) (fun c4 => ?_) (fun c4 => ?_)
      · replace h := hF h c4
        refine AW.iconst dX12_turned_64 ?_
        refine AW.istore (lv1 := [(4, iv 1), (3, iv r1.1), (0, rv z 117), (1, iv x1), (2, iv x2)]) dX12_turned_65 (by decide) rfl ?_
        refine AW.iconst dX12_turned_67 ?_
        refine AW.istore (lv1 := [(5, iv 0), (4, iv 1), (3, iv r1.1), (0, rv z 117), (1, iv x1), (2, iv x2)]) dX12_turned_68 (by decide) rfl ?_
        refine AW.sub (lv1 := [(0, rv z 117), (1, iv x1), (2, iv x2), (4, iv 1), (5, iv 0)]) [3, 4, 5, 1, 0] rfl ?_
        exact (ih _ _ _ _ _ _ _ _ _ h).2.2.1 rfl
      · replace h := hT h c4
        refine AW.sub (lv1 := [(0, rv z 117), (2, iv x2), (3, iv r1.1)]) [1, 3, 0] rfl ?_
        exact (ih _ _ _ _ _ _ _ _ _ h).2.1 rfl
  · subst h9
    replace h := hF h (by decide)
    replace h := hT h rfl
    refine AW.iload_n 1 dX12_turned_51 rfl ?_
    obtain ⟨t1, e2, h⟩ := hBe h
    refine AW.join (tgt := 63) (lv1 := [(0, rv z 117), (2, iv x2), (3, iv x3)]) (st1 := [iv t1]) (g1 := g) ?_ (fun J52 => ?_)
    · exact AW.iret1 rfl dX12_turned_63 h rfl
    refine AW.if_ne (tgt := 59) dX12_turned_52 (by decide) (fun c3 => ?_) (fun c3 => ?_)
    · refine AW.aloadr_n 0 dX12_turned_59 rfl ?_
      refine AW.getI af_X12_531_117 sr_117_90 dX12_turned_60 ?_
      exact AW.val (e2.trans (if_neg c3)) J52
    · refine AW.iload_n 2 dX12_turned_55 rfl ?_
      refine AW.goto (tgt := 63) dX12_turned_56 (by decide) ?_
      exact AW.val (e2.trans (if_pos c3)) J52
  · subst h9
    replace h := hF h (by decide)
    replace h := hF h (by decide)
    replace h := hT h rfl
    refine AW.iload 4 dX12_turned_70 rfl ?_
    refine AW.aloadr_n 0 dX12_turned_72 rfl ?_
    refine AW.getI af_X12_528_117 sr_117_87 dX12_turned_73 ?_
    refine AW.icmp_ge (tgt := 91) dX12_turned_76 (by decide) (fun c1 => ?_) (fun c1 => ?_)
    · replace h := hT h c1
      refine AW.iconst dX12_turned_91 ?_
      refine AW.istore (lv1 := [(5, iv (-1)), (0, rv z 117), (1, iv x1), (2, iv x2), (4, iv x4)]) dX12_turned_92 (by decide) rfl ?_
      refine AW.iconst dX12_turned_94 ?_
      refine AW.istore (lv1 := [(6, iv 0), (5, iv (-1)), (0, rv z 117), (1, iv x1), (2, iv x2), (4, iv x4)]) dX12_turned_95 (by decide) rfl ?_
      refine AW.iconst dX12_turned_97 ?_
      refine AW.istore (lv1 := [(7, iv 0), (6, iv 0), (5, iv (-1)), (0, rv z 117), (1, iv x1), (2, iv x2), (4, iv x4)]) dX12_turned_98 (by decide) rfl ?_
      refine AW.sub (lv1 := [(0, rv z 117), (1, iv x1), (2, iv x2), (4, iv x4), (5, iv (-1)), (6, iv 0), (7, iv 0)]) [3, 4, 5, 6, 2, 1, 0] rfl ?_
      exact (ih _ _ _ _ _ _ _ _ _ h).2.2.2.1 rfl
    · replace h := hF h c1
      refine AW.iload 3 dX12_turned_79 rfl ?_
      refine AW.iload_n 1 dX12_turned_81 rfl ?_
      refine AW.imul dX12_turned_82 ?_
      refine AW.istore (lv1 := [(4, iv (x4 * x1)), (0, rv z 117), (1, iv x1), (2, iv x2), (5, iv x5)]) dX12_turned_83 (by decide) rfl ?_
      refine AW.iinc (lv1 := [(5, iv (x5 + 1)), (4, iv (x4 * x1)), (0, rv z 117), (1, iv x1), (2, iv x2)]) 4 dX12_turned_85 rfl (by decide) rfl ?_
      refine AW.goto (tgt := 70) dX12_turned_88 (by decide) ?_
      refine AW.sub (lv1 := [(0, rv z 117), (1, iv x1), (2, iv x2), (4, iv (x4 * x1)), (5, iv (x5 + 1))]) [2, 3, 4, 1, 0] rfl ?_
      exact (ih _ _ _ _ _ _ _ _ _ h).2.2.1 rfl
  · subst h9
    replace h := hF h (by decide)
    replace h := hF h (by decide)
    replace h := hF h (by decide)
    replace h := hT h rfl
    refine AW.iload 6 dX12_turned_100 rfl ?_
    refine AW.iload 3 dX12_turned_102 rfl ?_
    refine AW.icmp_ge (tgt := 211) dX12_turned_104 (by decide) (fun c1 => ?_) (fun c1 => ?_)
    · replace h := hT h c1
      refine AW.iload_n 2 dX12_turned_211 rfl ?_
      refine AW.iconst dX12_turned_212 ?_
      obtain ⟨r5, e6, h⟩ := hC h
      refine AW.join (tgt := 232) (lv1 := []) (st1 := [iv r5.1]) (g1 := r5.2) ?_ (fun J213 => ?_)
      · exact AW.iret1 rfl dX12_turned_232 h rfl
      replace h := e6
      refine AW.icmp_ne (tgt := 221) dX12_turned_213 (by decide) (fun c2 => ?_) (fun c2 => ?_)
      · replace h := hF h c2
        refine AW.aloadr_n 0 dX12_turned_221 rfl ?_
        refine AW.iload 5 dX12_turned_222 rfl ?_
        refine AW.iload_n 2 dX12_turned_224 rfl ?_
        refine AW.bipush dX12_turned_225 (by decide) (by decide) ?_
        refine AW.isub dX12_turned_227 ?_
        refine AW.iload_n 1 dX12_turned_228 rfl ?_
        obtain ⟨r3, e4, h⟩ := hC h
        refine AW.callVi (As := [iv x6, iv (x2 - 10), iv x1]) (st := []) (M_handOf_ok e4) cq_X12_540 cr_117_X12_handOf (Nat.le_trans (by decide) hdd) rfl dX12_turned_229 rfl (Nat.le_of_ble_eq_true rfl) ?_
        refine AW.sub (lv1 := []) [] rfl ?_
        cases h
        exact J213
      · replace h := hT h c2
        refine AW.iload 4 dX12_turned_216 rfl ?_
        refine AW.goto (tgt := 232) dX12_turned_218 (by decide) ?_
        refine AW.sub (lv1 := []) [] rfl ?_
        cases h
        exact J213
    · replace h := hF h c1
      refine AW.iconst dX12_turned_107 ?_
      refine AW.istore (lv1 := [(8, iv 0), (0, rv z 117), (1, iv x1), (2, iv x2), (4, iv x4), (5, iv x5), (6, iv x6), (7, iv x7)]) dX12_turned_108 (by decide) rfl ?_
      refine AW.sub (lv1 := [(0, rv z 117), (1, iv x1), (2, iv x2), (4, iv x4), (5, iv x5), (6, iv x6), (7, iv x7), (8, iv 0)]) [1, 2, 3, 4, 5, 6, 7, 0] rfl ?_
      exact (ih _ _ _ _ _ _ _ _ _ h).2.2.2.2.1 rfl
  · subst h9
    replace h := hF h (by decide)
    replace h := hF h (by decide)
    replace h := hF h (by decide)
    replace h := hF h (by decide)
    replace h := hT h rfl
    refine AW.iload 7 dX12_turned_110 rfl ?_
    refine AW.iload_n 1 dX12_turned_112 rfl ?_
    refine AW.icmp_ge (tgt := 132) dX12_turned_113 (by decide) (fun c1 => ?_) (fun c1 => ?_)
    · replace h := hT h c1
      refine AW.iconst dX12_turned_132 ?_
      refine AW.istore (lv1 := [(8, iv 0), (0, rv z 117), (1, iv x1), (2, iv x2), (4, iv x4), (5, iv x5), (6, iv x6), (7, iv x7)]) dX12_turned_133 (by decide) rfl ?_
      refine AW.sub (lv1 := [(0, rv z 117), (1, iv x1), (2, iv x2), (4, iv x4), (5, iv x5), (6, iv x6), (7, iv x7), (8, iv 0)]) [1, 2, 3, 4, 5, 6, 7, 0] rfl ?_
      exact (ih _ _ _ _ _ _ _ _ _ h).2.2.2.2.2 rfl
    · replace h := hF h c1
      refine AW.aloadr_n 0 dX12_turned_116 rfl ?_
      refine AW.getR af_X12_205_117 sr_117_89 dX12_turned_117 ?_
      refine AW.iload 7 dX12_turned_120 rfl ?_
      refine AW.sipush dX12_turned_122 (by decide) (by decide) ?_
      obtain ⟨k2, h⟩ := hK h
      obtain ⟨g3, e4, h⟩ := hBe h
      refine AW.iast kc_179 sk_179 k2 dX12_turned_125 e4 ?_
      refine AW.iinc (lv1 := [(8, iv (x8 + 1)), (0, rv z 117), (1, iv x1), (2, iv x2), (4, iv x4), (5, iv x5), (6, iv x6), (7, iv x7)]) 7 dX12_turned_126 rfl (by decide) rfl ?_
      refine AW.goto (tgt := 110) dX12_turned_129 (by decide) ?_
      refine AW.sub (lv1 := [(0, rv z 117), (1, iv x1), (2, iv x2), (4, iv x4), (5, iv x5), (6, iv x6), (7, iv x7), (8, iv (x8 + 1))]) [1, 2, 3, 4, 5, 6, 7, 0] rfl ?_
      exact (ih _ _ _ _ _ _ _ _ _ h).2.2.2.2.1 rfl
  · subst h9
    replace h := hF h (by decide)
    replace h := hF h (by decide)
    replace h := hF h (by decide)
    replace h := hF h (by decide)
    replace h := hF h (by decide)
    replace h := hT h rfl
    refine AW.iload 7 dX12_turned_135 rfl ?_
    refine AW.aloadr_n 0 dX12_turned_137 rfl ?_
    refine AW.getI af_X12_528_117 sr_117_87 dX12_turned_138 ?_
    refine AW.icmp_ge (tgt := 174) dX12_turned_141 (by decide) (fun c1 => ?_) (fun c1 => ?_)
    · replace h := hT h c1
      refine AW.aloadr_n 0 dX12_turned_174 rfl ?_
      refine AW.iload_n 1 dX12_turned_175 rfl ?_
      obtain ⟨r2, e3, h⟩ := hC h
      refine AW.callVi (As := [iv x1]) (st := []) (M_lastEnd_ok e3) cq_X12_534 cr_117_X12_lastEnd (Nat.le_trans (by decide) hdd) rfl dX12_turned_176 rfl (Nat.le_of_ble_eq_true rfl) ?_
      refine AW.istore (lv1 := [(8, iv r2.1), (0, rv z 117), (1, iv x1), (2, iv x2), (4, iv x4), (5, iv x5), (6, iv x6), (7, iv x7)]) dX12_turned_179 (by decide) rfl ?_
      refine AW.iload 5 dX12_turned_181 rfl ?_
      refine AW.iconst dX12_turned_183 ?_
      obtain ⟨r6, e7, h⟩ := hC h
      refine AW.join (tgt := 205) (lv1 := [(0, rv z 117), (1, iv x1), (2, iv x2), (4, iv x4), (5, iv r6.1), (6, iv r6.2.1), (7, iv x7)]) (st1 := []) (g1 := r6.2.2) ?_ (fun J184 => ?_)
      · refine AW.iinc (lv1 := [(7, iv (x7 + 1)), (0, rv z 117), (1, iv x1), (2, iv x2), (4, iv x4), (5, iv r6.1), (6, iv r6.2.1)]) 6 dX12_turned_205 rfl (by decide) rfl ?_
        refine AW.goto (tgt := 100) dX12_turned_208 (by decide) ?_
        refine AW.sub (lv1 := [(0, rv z 117), (1, iv x1), (2, iv x2), (4, iv x4), (5, iv r6.1), (6, iv r6.2.1), (7, iv (x7 + 1))]) [1, 2, 3, 4, 5, 6, 0] rfl ?_
        exact (ih _ _ _ _ _ _ _ _ _ h).2.2.2.1 rfl
      replace h := e7
      refine AW.icmp_eq (tgt := 197) dX12_turned_184 (by decide) (fun c4 => ?_) (fun c4 => ?_)
      · replace h := hT h c4
        refine AW.iload 0 dX12_turned_197 rfl ?_
        refine AW.istore (lv1 := [(5, iv r2.1), (8, iv r2.1), (0, rv z 117), (1, iv x1), (2, iv x2), (4, iv x4), (6, iv x6), (7, iv x7)]) dX12_turned_199 (by decide) rfl ?_
        refine AW.iload 7 dX12_turned_201 rfl ?_
        refine AW.istore (lv1 := [(6, iv x7), (5, iv r2.1), (8, iv r2.1), (0, rv z 117), (1, iv x1), (2, iv x2), (4, iv x4), (7, iv x7)]) dX12_turned_203 (by decide) rfl ?_
        refine AW.sub (lv1 := [(0, rv z 117), (1, iv x1), (2, iv x2), (4, iv x4), (5, iv r2.1), (6, iv x7), (7, iv x7)]) [3, 4, 5, 6, 1, 0, 7] rfl ?_
        cases h
        exact J184
      · replace h := hF h c4
        refine AW.iload 0 dX12_turned_187 rfl ?_
        refine AW.iload 5 dX12_turned_189 rfl ?_
        refine AW.icmp_lt (tgt := 197) dX12_turned_191 (by decide) (fun c5 => ?_) (fun c5 => ?_)
        · replace h := hT h c5
          refine AW.iload 0 dX12_turned_197 rfl ?_
          refine AW.istore (lv1 := [(5, iv r2.1), (8, iv r2.1), (0, rv z 117), (1, iv x1), (2, iv x2), (4, iv x4), (6, iv x6), (7, iv x7)]) dX12_turned_199 (by decide) rfl ?_
          refine AW.iload 7 dX12_turned_201 rfl ?_
          refine AW.istore (lv1 := [(6, iv x7), (5, iv r2.1), (8, iv r2.1), (0, rv z 117), (1, iv x1), (2, iv x2), (4, iv x4), (7, iv x7)]) dX12_turned_203 (by decide) rfl ?_
          refine AW.sub (lv1 := [(0, rv z 117), (1, iv x1), (2, iv x2), (4, iv x4), (5, iv r2.1), (6, iv x7), (7, iv x7)]) [3, 4, 5, 6, 1, 0, 7] rfl ?_
          cases h
          exact J184
        · replace h := hF h c5
          refine AW.goto (tgt := 205) dX12_turned_194 (by decide) ?_
          refine AW.sub (lv1 := [(0, rv z 117), (1, iv x1), (2, iv x2), (4, iv x4), (5, iv x5), (6, iv x6), (7, iv x7)]) [1, 2, 3, 4, 5, 6, 7] rfl ?_
          cases h
          exact J184
    · replace h := hF h c1
      refine AW.aloadr_n 0 dX12_turned_144 rfl ?_
      refine AW.getR af_X12_205_117 sr_117_89 dX12_turned_145 ?_
      refine AW.aloadr_n 0 dX12_turned_148 rfl ?_
      refine AW.iload 6 dX12_turned_149 rfl ?_
      refine AW.iload 7 dX12_turned_151 rfl ?_
      refine AW.iload_n 1 dX12_turned_153 rfl ?_
      obtain ⟨r8, e9, h⟩ := hC h
      refine AW.callVi (As := [iv x7, iv x8, iv x1]) (st := [rv z 179]) (M_handOf_ok e9) cq_X12_540 cr_117_X12_handOf (Nat.le_trans (by decide) hdd) rfl dX12_turned_154 rfl (Nat.le_of_ble_eq_true rfl) ?_
      refine AW.dup2r dX12_turned_157 ?_
      obtain ⟨k10, h⟩ := hK h
      refine AW.iald kc_179 sk_179 k10 dX12_turned_158 ?_
      refine AW.aloadr_n 0 dX12_turned_159 rfl ?_
      refine AW.getR af_X12_202_117 sr_117_88 dX12_turned_160 ?_
      refine AW.iload 7 dX12_turned_163 rfl ?_
      obtain ⟨k11, h⟩ := hK h
      refine AW.iald kc_178 sk_178 k11 dX12_turned_165 ?_
      refine AW.iadd dX12_turned_166 ?_
      obtain ⟨g12, e13, h⟩ := hBe h
      refine AW.iast kc_179 sk_179 k10 dX12_turned_167 e13 ?_
      refine AW.iinc (lv1 := [(8, iv (x8 + 1)), (0, rv z 117), (1, iv x1), (2, iv x2), (4, iv x4), (5, iv x5), (6, iv x6), (7, iv x7)]) 7 dX12_turned_168 rfl (by decide) rfl ?_
      refine AW.goto (tgt := 135) dX12_turned_171 (by decide) ?_
      refine AW.sub (lv1 := [(0, rv z 117), (1, iv x1), (2, iv x2), (4, iv x4), (5, iv x5), (6, iv x6), (7, iv x7), (8, iv (x8 + 1))]) [1, 2, 3, 4, 5, 6, 7, 0] rfl ?_
      exact (ih _ _ _ _ _ _ _ _ _ h).2.2.2.2.2 rfl
theorem M_turned_ok {z : AZ} {x1 : Int} {x2 : Int} {g : AG} {r : Int × AG} (h : M_turned x1 x2 g = some r) : AMf z yX12_turned cX12_turned 9 (some .int) 2 [rv z 117, iv x1, iv x2] g r := by
  intro d hdd
  refine AM.of (by decide +kernel) (Nat.le_of_ble_eq_true rfl) ?_
  show AW z (RX12, cX12_turned, 9, (some .int)) d (QD (some .int) r) 0 [(0, rv z 117), (1, iv x1), (2, iv x2)] [] g
  unfold M_turned at h
  refine AW.iload_n 1 dX12_turned_0 rfl ?_
  refine AW.iconst dX12_turned_1 ?_
  refine AW.iconst dX12_turned_2 ?_
  refine AW.callSi (As := [iv x1, iv 1, iv 3]) (st := []) M_isIn_ok cq_X12_3 st_X12_isIn (Nat.le_trans (by decide) hdd) rfl dX12_turned_3 rfl (Nat.le_of_ble_eq_true rfl) ?_
  refine AW.if_eq (tgt := 34) dX12_turned_6 (by decide) (fun c1 => ?_) (fun c1 => ?_)
  · replace h := hT h c1
    refine AW.iconst dX12_turned_34 ?_
    exact AW.iret1 rfl dX12_turned_35 h rfl
  · replace h := hF h c1
    refine AW.iload_n 2 dX12_turned_9 rfl ?_
    refine AW.iconst dX12_turned_10 ?_
    refine AW.iconst dX12_turned_11 ?_
    refine AW.callSi (As := [iv x2, iv 0, iv 2]) (st := []) M_isIn_ok cq_X12_3 st_X12_isIn (Nat.le_trans (by decide) hdd) rfl dX12_turned_12 rfl (Nat.le_of_ble_eq_true rfl) ?_
    refine AW.if_ne (tgt := 36) dX12_turned_15 (by decide) (fun c2 => ?_) (fun c2 => ?_)
    · replace h := hF h c2
      exact (M_turned_b_ok hdd _ _ _ _ _ _ _ _ _ h).1 rfl
    · replace h := hT h c2
      refine AW.iload_n 2 dX12_turned_18 rfl ?_
      refine AW.bipush dX12_turned_19 (by decide) (by decide) ?_
      refine AW.bipush dX12_turned_21 (by decide) (by decide) ?_
      refine AW.aloadr_n 0 dX12_turned_23 rfl ?_
      refine AW.getI af_X12_528_117 sr_117_87 dX12_turned_24 ?_
      refine AW.iadd dX12_turned_27 ?_
      refine AW.callSi (As := [iv x2, iv 10, iv (9 + (g 117 87))]) (st := []) M_isIn_ok cq_X12_3 st_X12_isIn (Nat.le_trans (by decide) hdd) rfl dX12_turned_28 rfl (Nat.le_of_ble_eq_true rfl) ?_
      refine AW.if_ne (tgt := 36) dX12_turned_31 (by decide) (fun c3 => ?_) (fun c3 => ?_)
      · replace h := hF h c3
        exact (M_turned_b_ok hdd _ _ _ _ _ _ _ _ _ h).1 rfl
      · replace h := hT h c3
        refine AW.iconst dX12_turned_34 ?_
        exact AW.iret1 rfl dX12_turned_35 h rfl
theorem M_weight_ok {z : AZ} {x1 : Int} {x2 : Int} {g : AG} {r : Int × AG} (h : M_weight x1 x2 g = some r) : AMf z yX12_weight cX12_weight 3 (some .boolean) 2 [rv z 117, iv x1, iv x2] g r := by
  intro d hdd
  refine AM.of (by decide +kernel) (Nat.le_of_ble_eq_true rfl) ?_
  show AW z (RX12, cX12_weight, 3, (some .boolean)) d (QD (some .boolean) r) 0 [(0, rv z 117), (1, iv x1), (2, iv x2)] [] g
  unfold M_weight at h
  refine AW.iload_n 1 dX12_weight_0 rfl ?_
  refine AW.callSi (As := [iv x1]) (st := []) M_isPoint_ok cq_X12_238 st_X12_isPoint (Nat.le_trans (by decide) hdd) rfl dX12_weight_1 rfl (Nat.le_of_ble_eq_true rfl) ?_
  refine AW.if_eq (tgt := 17) dX12_weight_4 (by decide) (fun c1 => ?_) (fun c1 => ?_)
  · replace h := hT h c1
    refine AW.iconst dX12_weight_17 ?_
    exact AW.zret1 rfl (Or.inl rfl) dX12_weight_18 h rfl
  · replace h := hF h c1
    refine AW.iload_n 2 dX12_weight_7 rfl ?_
    refine AW.iconst dX12_weight_8 ?_
    refine AW.bipush dX12_weight_9 (by decide) (by decide) ?_
    refine AW.callSi (As := [iv x2, iv 0, iv 99]) (st := []) M_isIn_ok cq_X12_3 st_X12_isIn (Nat.le_trans (by decide) hdd) rfl dX12_weight_11 rfl (Nat.le_of_ble_eq_true rfl) ?_
    refine AW.if_ne (tgt := 19) dX12_weight_14 (by decide) (fun c2 => ?_) (fun c2 => ?_)
    · replace h := hF h c2
      refine AW.aloadr_n 0 dX12_weight_19 rfl ?_
      refine AW.getR af_X12_208_117 sr_117_91 dX12_weight_20 ?_
      refine AW.iload_n 1 dX12_weight_23 rfl ?_
      refine AW.iload_n 2 dX12_weight_24 rfl ?_
      obtain ⟨k3, h⟩ := hK h
      obtain ⟨g4, e5, h⟩ := hBe h
      refine AW.iast kc_180 sk_180 k3 dX12_weight_25 e5 ?_
      refine AW.iconst dX12_weight_26 ?_
      exact AW.zret1 rfl (Or.inr rfl) dX12_weight_27 h rfl
    · replace h := hT h c2
      refine AW.iconst dX12_weight_17 ?_
      exact AW.zret1 rfl (Or.inl rfl) dX12_weight_18 h rfl
set_option synthInstance.maxHeartbeats 2000000 in
theorem M_drive_b_ok {z : AZ} {d : Nat} (hdd : 0 ≤ d) {x1 : Int} {x2 : Int} {g : AG} : ∀ (x3 : Int) (x4 : Int) (r : Int × AG), M_drive_b x1 x2 g x3 x4 = some r → AW z (RX12, cX12_drive, 5, (some .int)) d (QD (some .int) r) 14 [(0, rv z 117), (1, iv x1), (2, iv x2), (3, iv x3), (4, iv x4)] [] g := by
  refine M_drive_b.partial_correctness x1 x2 g (fun x3 x4 r => AW z (RX12, cX12_drive, 5, (some .int)) d (QD (some .int) r) 14 [(0, rv z 117), (1, iv x1), (2, iv x2), (3, iv x3), (4, iv x4)] [] g) ?_
  intro fb9 ih x3 x4 r h
  refine AW.iload 4 dX12_drive_14 rfl ?_
  refine AW.iload_n 1 dX12_drive_16 rfl ?_
  refine AW.iload_n 2 dX12_drive_17 rfl ?_
  obtain ⟨t1, e2, h⟩ := hBe h
  refine AW.join (tgt := 26) (lv1 := [(0, rv z 117), (1, iv x1), (2, iv x2), (3, iv x3), (4, iv x4)]) (st1 := [iv t1, iv x4]) (g1 := g) ?_ (fun J18 => ?_)
  · refine AW.icmp_ge (tgt := 45) dX12_drive_26 (by decide) (fun c3 => ?_) (fun c3 => ?_)
    · replace h := hT h c3
      refine AW.iload_n 3 dX12_drive_45 rfl ?_
      exact AW.iret1 rfl dX12_drive_46 h rfl
    · replace h := hF h c3
      refine AW.iload_n 3 dX12_drive_29 rfl ?_
      refine AW.aloadr_n 0 dX12_drive_30 rfl ?_
      refine AW.getR af_X12_20_117 sr_117_2 dX12_drive_31 ?_
      refine AW.iload 4 dX12_drive_34 rfl ?_
      obtain ⟨k4, h⟩ := hK h
      refine AW.iald kc_120 sk_120 k4 dX12_drive_36 ?_
      refine AW.iadd dX12_drive_37 ?_
      refine AW.istore_n (lv1 := [(3, iv (x3 + (g 120 (ix x4)))), (0, rv z 117), (1, iv x1), (2, iv x2), (4, iv x4)]) dX12_drive_38 (by decide) rfl ?_
      refine AW.iinc (lv1 := [(4, iv (x4 + 1)), (3, iv (x3 + (g 120 (ix x4)))), (0, rv z 117), (1, iv x1), (2, iv x2)]) 4 dX12_drive_39 rfl (by decide) rfl ?_
      refine AW.goto (tgt := 14) dX12_drive_42 (by decide) ?_
      refine AW.sub (lv1 := [(0, rv z 117), (1, iv x1), (2, iv x2), (3, iv (x3 + (g 120 (ix x4)))), (4, iv (x4 + 1))]) [2, 3, 4, 1, 0] rfl ?_
      exact ih _ _ _ h
  refine AW.icmp_ge (tgt := 25) dX12_drive_18 (by decide) (fun c5 => ?_) (fun c5 => ?_)
  · refine AW.iload_n 1 dX12_drive_25 rfl ?_
    exact AW.val (e2.trans (if_pos c5)) J18
  · refine AW.iload_n 2 dX12_drive_21 rfl ?_
    refine AW.goto (tgt := 26) dX12_drive_22 (by decide) ?_
    exact AW.val (e2.trans (if_neg c5)) J18
theorem M_drive_ok {z : AZ} {x1 : Int} {x2 : Int} {g : AG} {r : Int × AG} (h : M_drive x1 x2 g = some r) : AMf z yX12_drive cX12_drive 5 (some .int) 0 [rv z 117, iv x1, iv x2] g r := by
  intro d hdd
  refine AM.of (by decide +kernel) (Nat.le_of_ble_eq_true rfl) ?_
  show AW z (RX12, cX12_drive, 5, (some .int)) d (QD (some .int) r) 0 [(0, rv z 117), (1, iv x1), (2, iv x2)] [] g
  unfold M_drive at h
  refine AW.iconst dX12_drive_0 ?_
  refine AW.istore_n (lv1 := [(3, iv 0), (0, rv z 117), (1, iv x1), (2, iv x2)]) dX12_drive_1 (by decide) rfl ?_
  refine AW.iload_n 2 dX12_drive_2 rfl ?_
  refine AW.iload_n 3 dX12_drive_3 rfl ?_
  obtain ⟨t1, e2, h⟩ := hBe h
  refine AW.join (tgt := 12) (lv1 := [(3, iv 0), (0, rv z 117), (1, iv x1), (2, iv x2)]) (st1 := [iv t1]) (g1 := g) ?_ (fun J4 => ?_)
  · refine AW.istore (lv1 := [(4, iv t1), (3, iv 0), (0, rv z 117), (1, iv x1), (2, iv x2)]) dX12_drive_12 (by decide) rfl ?_
    refine AW.sub (lv1 := [(0, rv z 117), (1, iv x1), (2, iv x2), (3, iv 0), (4, iv t1)]) [2, 3, 4, 1, 0] rfl ?_
    exact M_drive_b_ok hdd _ _ _ h
  refine AW.icmp_ge (tgt := 11) dX12_drive_4 (by decide) (fun c3 => ?_) (fun c3 => ?_)
  · refine AW.iload_n 3 dX12_drive_11 rfl ?_
    exact AW.val (e2.trans (if_pos c3)) J4
  · refine AW.iload_n 2 dX12_drive_7 rfl ?_
    refine AW.goto (tgt := 12) dX12_drive_8 (by decide) ?_
    exact AW.val (e2.trans (if_neg c3)) J4
set_option synthInstance.maxHeartbeats 2000000 in
theorem M_worstOf_b_ok {z : AZ} {d : Nat} (hdd : 1 ≤ d) {x1 : Int} : ∀ (x2 : Int) (x3 : Int) (g : AG) (r : Int × AG), M_worstOf_b x1 x2 x3 g = some r → AW z (RX12, cX12_worstOf, 4, (some .int)) d (QD (some .int) r) 4 [(0, rv z 117), (1, iv x1), (2, iv x2), (3, iv x3)] [] g := by
  refine M_worstOf_b.partial_correctness x1 (fun x2 x3 g r => AW z (RX12, cX12_worstOf, 4, (some .int)) d (QD (some .int) r) 4 [(0, rv z 117), (1, iv x1), (2, iv x2), (3, iv x3)] [] g) ?_
  intro fb9 ih x2 x3 g r h
  refine AW.iload_n 3 dX12_worstOf_4 rfl ?_
  refine AW.bipush dX12_worstOf_5 (by decide) (by decide) ?_
  refine AW.icmp_ge (tgt := 46) dX12_worstOf_7 (by decide) (fun c1 => ?_) (fun c1 => ?_)
  · replace h := hT h c1
    refine AW.iload_n 2 dX12_worstOf_46 rfl ?_
    exact AW.iret1 rfl dX12_worstOf_47 h rfl
  · replace h := hF h c1
    refine AW.aloadr_n 0 dX12_worstOf_10 rfl ?_
    refine AW.getR af_X12_208_117 sr_117_91 dX12_worstOf_11 ?_
    refine AW.iload_n 3 dX12_worstOf_14 rfl ?_
    obtain ⟨k2, h⟩ := hK h
    refine AW.iald kc_180 sk_180 k2 dX12_worstOf_15 ?_
    obtain ⟨r9, e10, h⟩ := hC h
    refine AW.join (tgt := 39) (lv1 := [(0, rv z 117), (1, iv x1), (3, iv x3)]) (st1 := [iv r9.1]) (g1 := r9.2) ?_ (fun J16 => ?_)
    · refine AW.istore_n (lv1 := [(2, iv r9.1), (0, rv z 117), (1, iv x1), (3, iv x3)]) dX12_worstOf_39 (by decide) rfl ?_
      refine AW.iinc (lv1 := [(3, iv (x3 + 1)), (2, iv r9.1), (0, rv z 117), (1, iv x1)]) 3 dX12_worstOf_40 rfl (by decide) rfl ?_
      refine AW.goto (tgt := 4) dX12_worstOf_43 (by decide) ?_
      refine AW.sub (lv1 := [(0, rv z 117), (1, iv x1), (2, iv r9.1), (3, iv (x3 + 1))]) [2, 3, 1, 0] rfl ?_
      exact ih _ _ _ _ h
    replace h := e10
    refine AW.if_le (tgt := 38) dX12_worstOf_16 (by decide) (fun c3 => ?_) (fun c3 => ?_)
    · replace h := hT h c3
      refine AW.iload_n 2 dX12_worstOf_38 rfl ?_
      refine AW.sub (lv1 := [(0, rv z 117), (1, iv x1), (3, iv x3)]) [0, 1, 3] rfl ?_
      cases h
      exact J16
    · replace h := hF h c3
      refine AW.aloadr_n 0 dX12_worstOf_19 rfl ?_
      refine AW.iload_n 1 dX12_worstOf_20 rfl ?_
      refine AW.iload_n 3 dX12_worstOf_21 rfl ?_
      obtain ⟨r4, e5, h⟩ := hC h
      refine AW.callVi (As := [iv x1, iv x3]) (st := []) (M_drive_ok e5) cq_X12_543 cr_117_X12_drive (Nat.le_trans (by decide) hdd) rfl dX12_worstOf_22 rfl (Nat.le_of_ble_eq_true rfl) ?_
      refine AW.iload_n 2 dX12_worstOf_25 rfl ?_
      refine AW.icmp_le (tgt := 38) dX12_worstOf_26 (by decide) (fun c6 => ?_) (fun c6 => ?_)
      · replace h := hT h c6
        refine AW.iload_n 2 dX12_worstOf_38 rfl ?_
        refine AW.sub (lv1 := [(0, rv z 117), (1, iv x1), (3, iv x3)]) [0, 1, 3] rfl ?_
        cases h
        exact J16
      · replace h := hF h c6
        refine AW.aloadr_n 0 dX12_worstOf_29 rfl ?_
        refine AW.iload_n 1 dX12_worstOf_30 rfl ?_
        refine AW.iload_n 3 dX12_worstOf_31 rfl ?_
        obtain ⟨r7, e8, h⟩ := hC h
        refine AW.callVi (As := [iv x1, iv x3]) (st := []) (M_drive_ok e8) cq_X12_543 cr_117_X12_drive (Nat.le_trans (by decide) hdd) rfl dX12_worstOf_32 rfl (Nat.le_of_ble_eq_true rfl) ?_
        refine AW.goto (tgt := 39) dX12_worstOf_35 (by decide) ?_
        refine AW.sub (lv1 := [(0, rv z 117), (1, iv x1), (3, iv x3)]) [0, 1, 3] rfl ?_
        cases h
        exact J16
theorem M_worstOf_ok {z : AZ} {x1 : Int} {g : AG} {r : Int × AG} (h : M_worstOf x1 g = some r) : AMf z yX12_worstOf cX12_worstOf 4 (some .int) 1 [rv z 117, iv x1] g r := by
  intro d hdd
  refine AM.of (by decide +kernel) (Nat.le_of_ble_eq_true rfl) ?_
  show AW z (RX12, cX12_worstOf, 4, (some .int)) d (QD (some .int) r) 0 [(0, rv z 117), (1, iv x1)] [] g
  unfold M_worstOf at h
  refine AW.iconst dX12_worstOf_0 ?_
  refine AW.istore_n (lv1 := [(2, iv 0), (0, rv z 117), (1, iv x1)]) dX12_worstOf_1 (by decide) rfl ?_
  refine AW.iconst dX12_worstOf_2 ?_
  refine AW.istore_n (lv1 := [(3, iv 0), (2, iv 0), (0, rv z 117), (1, iv x1)]) dX12_worstOf_3 (by decide) rfl ?_
  refine AW.sub (lv1 := [(0, rv z 117), (1, iv x1), (2, iv 0), (3, iv 0)]) [2, 3, 1, 0] rfl ?_
  exact M_worstOf_b_ok hdd _ _ _ _ h
set_option synthInstance.maxHeartbeats 2000000 in
theorem M_sumOf_b_ok {z : AZ} {d : Nat} (hdd : 1 ≤ d) {x1 : Int} : ∀ (x2 : Int) (x3 : Int) (g : AG) (r : Int × AG), M_sumOf_b x1 x2 x3 g = some r → AW z (RX12, cX12_sumOf, 4, (some .int)) d (QD (some .int) r) 4 [(0, rv z 117), (1, iv x1), (2, iv x2), (3, iv x3)] [] g := by
  refine M_sumOf_b.partial_correctness x1 (fun x2 x3 g r => AW z (RX12, cX12_sumOf, 4, (some .int)) d (QD (some .int) r) 4 [(0, rv z 117), (1, iv x1), (2, iv x2), (3, iv x3)] [] g) ?_
  intro fb9 ih x2 x3 g r h
  refine AW.iload_n 3 dX12_sumOf_4 rfl ?_
  refine AW.bipush dX12_sumOf_5 (by decide) (by decide) ?_
  refine AW.icmp_ge (tgt := 32) dX12_sumOf_7 (by decide) (fun c1 => ?_) (fun c1 => ?_)
  · replace h := hT h c1
    refine AW.iload_n 2 dX12_sumOf_32 rfl ?_
    exact AW.iret1 rfl dX12_sumOf_33 h rfl
  · replace h := hF h c1
    refine AW.iload_n 2 dX12_sumOf_10 rfl ?_
    refine AW.aloadr_n 0 dX12_sumOf_11 rfl ?_
    refine AW.getR af_X12_208_117 sr_117_91 dX12_sumOf_12 ?_
    refine AW.iload_n 3 dX12_sumOf_15 rfl ?_
    obtain ⟨k2, h⟩ := hK h
    refine AW.iald kc_180 sk_180 k2 dX12_sumOf_16 ?_
    refine AW.aloadr_n 0 dX12_sumOf_17 rfl ?_
    refine AW.iload_n 1 dX12_sumOf_18 rfl ?_
    refine AW.iload_n 3 dX12_sumOf_19 rfl ?_
    obtain ⟨r3, e4, h⟩ := hC h
    refine AW.callVi (As := [iv x1, iv x3]) (st := [iv (g 180 (ix x3)), iv x2]) (M_drive_ok e4) cq_X12_543 cr_117_X12_drive (Nat.le_trans (by decide) hdd) rfl dX12_sumOf_20 rfl (Nat.le_of_ble_eq_true rfl) ?_
    refine AW.imul dX12_sumOf_23 ?_
    refine AW.iadd dX12_sumOf_24 ?_
    refine AW.istore_n (lv1 := [(2, iv (x2 + ((g 180 (ix x3)) * r3.1))), (0, rv z 117), (1, iv x1), (3, iv x3)]) dX12_sumOf_25 (by decide) rfl ?_
    refine AW.iinc (lv1 := [(3, iv (x3 + 1)), (2, iv (x2 + ((g 180 (ix x3)) * r3.1))), (0, rv z 117), (1, iv x1)]) 3 dX12_sumOf_26 rfl (by decide) rfl ?_
    refine AW.goto (tgt := 4) dX12_sumOf_29 (by decide) ?_
    refine AW.sub (lv1 := [(0, rv z 117), (1, iv x1), (2, iv (x2 + ((g 180 (ix x3)) * r3.1))), (3, iv (x3 + 1))]) [2, 3, 1, 0] rfl ?_
    exact ih _ _ _ _ h
theorem M_sumOf_ok {z : AZ} {x1 : Int} {g : AG} {r : Int × AG} (h : M_sumOf x1 g = some r) : AMf z yX12_sumOf cX12_sumOf 4 (some .int) 1 [rv z 117, iv x1] g r := by
  intro d hdd
  refine AM.of (by decide +kernel) (Nat.le_of_ble_eq_true rfl) ?_
  show AW z (RX12, cX12_sumOf, 4, (some .int)) d (QD (some .int) r) 0 [(0, rv z 117), (1, iv x1)] [] g
  unfold M_sumOf at h
  refine AW.iconst dX12_sumOf_0 ?_
  refine AW.istore_n (lv1 := [(2, iv 0), (0, rv z 117), (1, iv x1)]) dX12_sumOf_1 (by decide) rfl ?_
  refine AW.iconst dX12_sumOf_2 ?_
  refine AW.istore_n (lv1 := [(3, iv 0), (2, iv 0), (0, rv z 117), (1, iv x1)]) dX12_sumOf_3 (by decide) rfl ?_
  refine AW.sub (lv1 := [(0, rv z 117), (1, iv x1), (2, iv 0), (3, iv 0)]) [2, 3, 1, 0] rfl ?_
  exact M_sumOf_b_ok hdd _ _ _ _ h
set_option synthInstance.maxHeartbeats 2000000 in
theorem M_van_b_ok {z : AZ} {d : Nat} (hdd : 2 ≤ d) {x1 : Int} : ∀ (x2 : Int) (x3 : Int) (g : AG) (r : Int × AG), M_van_b x1 x2 x3 g = some r → AW z (RX12, cX12_van, 4, (some .int)) d (QD (some .int) r) 58 [(0, rv z 117), (1, iv x1), (2, iv x2), (3, iv x3)] [] g := by
  refine M_van_b.partial_correctness x1 (fun x2 x3 g r => AW z (RX12, cX12_van, 4, (some .int)) d (QD (some .int) r) 58 [(0, rv z 117), (1, iv x1), (2, iv x2), (3, iv x3)] [] g) ?_
  intro fb9 ih x2 x3 g r h
  refine AW.iload_n 3 dX12_van_58 rfl ?_
  refine AW.bipush dX12_van_59 (by decide) (by decide) ?_
  refine AW.icmp_ge (tgt := 89) dX12_van_61 (by decide) (fun c1 => ?_) (fun c1 => ?_)
  · replace h := hT h c1
    refine AW.iload_n 1 dX12_van_89 rfl ?_
    obtain ⟨r8, e9, h⟩ := hC h
    refine AW.join (tgt := 115) (lv1 := []) (st1 := [iv r8.1]) (g1 := r8.2) ?_ (fun J90 => ?_)
    · exact AW.iret1 rfl dX12_van_115 h rfl
    replace h := e9
    refine AW.if_ne (tgt := 97) dX12_van_90 (by decide) (fun c2 => ?_) (fun c2 => ?_)
    · replace h := hF h c2
      refine AW.iload_n 1 dX12_van_97 rfl ?_
      refine AW.iconst dX12_van_98 ?_
      refine AW.icmp_ne (tgt := 110) dX12_van_99 (by decide) (fun c3 => ?_) (fun c3 => ?_)
      · replace h := hF h c3
        refine AW.aloadr_n 0 dX12_van_110 rfl ?_
        refine AW.iload_n 2 dX12_van_111 rfl ?_
        obtain ⟨r4, e5, h⟩ := hC h
        refine AW.callVi (As := [iv x2]) (st := []) (M_worstOf_ok e5) cq_X12_549 cr_117_X12_worstOf (Nat.le_trans (by decide) hdd) rfl dX12_van_112 rfl (Nat.le_of_ble_eq_true rfl) ?_
        refine AW.sub (lv1 := []) [] rfl ?_
        cases h
        exact J90
      · replace h := hT h c3
        refine AW.aloadr_n 0 dX12_van_102 rfl ?_
        refine AW.iload_n 2 dX12_van_103 rfl ?_
        obtain ⟨r6, e7, h⟩ := hC h
        refine AW.callVi (As := [iv x2]) (st := []) (M_sumOf_ok e7) cq_X12_546 cr_117_X12_sumOf (Nat.le_trans (by decide) hdd) rfl dX12_van_104 rfl (Nat.le_of_ble_eq_true rfl) ?_
        refine AW.goto (tgt := 115) dX12_van_107 (by decide) ?_
        refine AW.sub (lv1 := []) [] rfl ?_
        cases h
        exact J90
    · replace h := hT h c2
      refine AW.iload_n 2 dX12_van_93 rfl ?_
      refine AW.goto (tgt := 115) dX12_van_94 (by decide) ?_
      refine AW.sub (lv1 := []) [] rfl ?_
      cases h
      exact J90
  · replace h := hF h c1
    refine AW.aloadr_n 0 dX12_van_64 rfl ?_
    refine AW.iload_n 3 dX12_van_65 rfl ?_
    obtain ⟨r10, e11, h⟩ := hC h
    refine AW.callVi (As := [iv x3]) (st := []) (M_sumOf_ok e11) cq_X12_546 cr_117_X12_sumOf (Nat.le_trans (by decide) hdd) rfl dX12_van_66 rfl (Nat.le_of_ble_eq_true rfl) ?_
    refine AW.aloadr_n 0 dX12_van_69 rfl ?_
    refine AW.iload_n 2 dX12_van_70 rfl ?_
    obtain ⟨r12, e13, h⟩ := hC h
    refine AW.callVi (As := [iv x2]) (st := [iv r10.1]) (M_sumOf_ok e13) cq_X12_546 cr_117_X12_sumOf (Nat.le_trans (by decide) hdd) rfl dX12_van_71 rfl (Nat.le_of_ble_eq_true rfl) ?_
    obtain ⟨t14, e15, h⟩ := hBe h
    refine AW.join (tgt := 82) (lv1 := [(0, rv z 117), (1, iv x1), (2, iv x2), (3, iv x3)]) (st1 := [iv t14]) (g1 := r12.2) ?_ (fun J74 => ?_)
    · refine AW.istore_n (lv1 := [(2, iv t14), (0, rv z 117), (1, iv x1), (3, iv x3)]) dX12_van_82 (by decide) rfl ?_
      refine AW.iinc (lv1 := [(3, iv (x3 + 1)), (2, iv t14), (0, rv z 117), (1, iv x1)]) 3 dX12_van_83 rfl (by decide) rfl ?_
      refine AW.goto (tgt := 58) dX12_van_86 (by decide) ?_
      refine AW.sub (lv1 := [(0, rv z 117), (1, iv x1), (2, iv t14), (3, iv (x3 + 1))]) [2, 3, 1, 0] rfl ?_
      exact ih _ _ _ _ h
    refine AW.icmp_ge (tgt := 81) dX12_van_74 (by decide) (fun c16 => ?_) (fun c16 => ?_)
    · refine AW.iload_n 2 dX12_van_81 rfl ?_
      exact AW.val (e15.trans (if_pos c16)) J74
    · refine AW.iload_n 3 dX12_van_77 rfl ?_
      refine AW.goto (tgt := 82) dX12_van_78 (by decide) ?_
      exact AW.val (e15.trans (if_neg c16)) J74
theorem M_van_ok {z : AZ} {x1 : Int} {g : AG} {r : Int × AG} (h : M_van x1 g = some r) : AMf z yX12_van cX12_van 4 (some .int) 2 [rv z 117, iv x1] g r := by
  intro d hdd
  refine AM.of (by decide +kernel) (Nat.le_of_ble_eq_true rfl) ?_
  show AW z (RX12, cX12_van, 4, (some .int)) d (QD (some .int) r) 0 [(0, rv z 117), (1, iv x1)] [] g
  unfold M_van at h
  refine AW.iload_n 1 dX12_van_0 rfl ?_
  refine AW.bipush dX12_van_1 (by decide) (by decide) ?_
  refine AW.bipush dX12_van_3 (by decide) (by decide) ?_
  refine AW.callSi (As := [iv x1, iv 100, iv 115]) (st := []) M_isIn_ok cq_X12_3 st_X12_isIn (Nat.le_trans (by decide) hdd) rfl dX12_van_5 rfl (Nat.le_of_ble_eq_true rfl) ?_
  refine AW.if_eq (tgt := 20) dX12_van_8 (by decide) (fun c1 => ?_) (fun c1 => ?_)
  · replace h := hT h c1
    refine AW.iload_n 1 dX12_van_20 rfl ?_
    refine AW.sipush dX12_van_21 (by decide) (by decide) ?_
    refine AW.sipush dX12_van_24 (by decide) (by decide) ?_
    refine AW.callSi (As := [iv x1, iv 200, iv 215]) (st := []) M_isIn_ok cq_X12_3 st_X12_isIn (Nat.le_trans (by decide) hdd) rfl dX12_van_27 rfl (Nat.le_of_ble_eq_true rfl) ?_
    refine AW.if_eq (tgt := 43) dX12_van_30 (by decide) (fun c2 => ?_) (fun c2 => ?_)
    · replace h := hT h c2
      refine AW.iload_n 1 dX12_van_43 rfl ?_
      refine AW.iconst dX12_van_44 ?_
      refine AW.iconst dX12_van_45 ?_
      refine AW.callSi (As := [iv x1, iv 0, iv 2]) (st := []) M_isIn_ok cq_X12_3 st_X12_isIn (Nat.le_trans (by decide) hdd) rfl dX12_van_46 rfl (Nat.le_of_ble_eq_true rfl) ?_
      refine AW.if_ne (tgt := 54) dX12_van_49 (by decide) (fun c3 => ?_) (fun c3 => ?_)
      · replace h := hF h c3
        refine AW.iconst dX12_van_54 ?_
        refine AW.istore_n (lv1 := [(2, iv 0), (0, rv z 117), (1, iv x1)]) dX12_van_55 (by decide) rfl ?_
        refine AW.iconst dX12_van_56 ?_
        refine AW.istore_n (lv1 := [(3, iv 1), (2, iv 0), (0, rv z 117), (1, iv x1)]) dX12_van_57 (by decide) rfl ?_
        refine AW.sub (lv1 := [(0, rv z 117), (1, iv x1), (2, iv 0), (3, iv 1)]) [2, 3, 1, 0] rfl ?_
        exact M_van_b_ok hdd _ _ _ _ h
      · replace h := hT h c3
        refine AW.iconst dX12_van_52 ?_
        exact AW.iret1 rfl dX12_van_53 h rfl
    · replace h := hF h c2
      refine AW.aloadr_n 0 dX12_van_33 rfl ?_
      refine AW.iload_n 1 dX12_van_34 rfl ?_
      refine AW.sipush dX12_van_35 (by decide) (by decide) ?_
      refine AW.isub dX12_van_38 ?_
      obtain ⟨r4, e5, h⟩ := hC h
      refine AW.callVi (As := [iv (x1 - 200)]) (st := []) (M_worstOf_ok e5) cq_X12_549 cr_117_X12_worstOf (Nat.le_trans (by decide) hdd) rfl dX12_van_39 rfl (Nat.le_of_ble_eq_true rfl) ?_
      exact AW.iret1 rfl dX12_van_42 h rfl
  · replace h := hF h c1
    refine AW.aloadr_n 0 dX12_van_11 rfl ?_
    refine AW.iload_n 1 dX12_van_12 rfl ?_
    refine AW.bipush dX12_van_13 (by decide) (by decide) ?_
    refine AW.isub dX12_van_15 ?_
    obtain ⟨r6, e7, h⟩ := hC h
    refine AW.callVi (As := [iv (x1 - 100)]) (st := []) (M_sumOf_ok e7) cq_X12_546 cr_117_X12_sumOf (Nat.le_trans (by decide) hdd) rfl dX12_van_16 rfl (Nat.le_of_ble_eq_true rfl) ?_
    exact AW.iret1 rfl dX12_van_19 h rfl
theorem M_nearer_ok {z : AZ} {x1 : Int} {x2 : Int} {x3 : Int} {g : AG} {r : Int × AG} (h : M_nearer x1 x2 x3 g = some r) : AMf z yX12_nearer cX12_nearer 4 (some .int) 1 [rv z 117, iv x1, iv x2, iv x3] g r := by
  intro d hdd
  refine AM.of (by decide +kernel) (Nat.le_of_ble_eq_true rfl) ?_
  show AW z (RX12, cX12_nearer, 4, (some .int)) d (QD (some .int) r) 0 [(0, rv z 117), (1, iv x1), (2, iv x2), (3, iv x3)] [] g
  unfold M_nearer at h
  refine AW.aloadr_n 0 dX12_nearer_0 rfl ?_
  refine AW.iload_n 1 dX12_nearer_1 rfl ?_
  refine AW.iload_n 3 dX12_nearer_2 rfl ?_
  obtain ⟨r1, e2, h⟩ := hC h
  refine AW.callVi (As := [iv x1, iv x3]) (st := []) (M_drive_ok e2) cq_X12_543 cr_117_X12_drive (Nat.le_trans (by decide) hdd) rfl dX12_nearer_3 rfl (Nat.le_of_ble_eq_true rfl) ?_
  refine AW.aloadr_n 0 dX12_nearer_6 rfl ?_
  refine AW.iload_n 2 dX12_nearer_7 rfl ?_
  refine AW.iload_n 3 dX12_nearer_8 rfl ?_
  obtain ⟨r3, e4, h⟩ := hC h
  refine AW.callVi (As := [iv x2, iv x3]) (st := [iv r1.1]) (M_drive_ok e4) cq_X12_543 cr_117_X12_drive (Nat.le_trans (by decide) hdd) rfl dX12_nearer_9 rfl (Nat.le_of_ble_eq_true rfl) ?_
  obtain ⟨r10, e11, h⟩ := hC h
  refine AW.join (tgt := 30) (lv1 := []) (st1 := [iv r10.1]) (g1 := r10.2) ?_ (fun J12 => ?_)
  · exact AW.iret1 rfl dX12_nearer_30 h rfl
  replace h := e11
  refine AW.icmp_ge (tgt := 24) dX12_nearer_12 (by decide) (fun c5 => ?_) (fun c5 => ?_)
  · replace h := hT h c5
    refine AW.aloadr_n 0 dX12_nearer_24 rfl ?_
    refine AW.iload_n 2 dX12_nearer_25 rfl ?_
    refine AW.iload_n 3 dX12_nearer_26 rfl ?_
    obtain ⟨r6, e7, h⟩ := hC h
    refine AW.callVi (As := [iv x2, iv x3]) (st := []) (M_drive_ok e7) cq_X12_543 cr_117_X12_drive (Nat.le_trans (by decide) hdd) rfl dX12_nearer_27 rfl (Nat.le_of_ble_eq_true rfl) ?_
    refine AW.sub (lv1 := []) [] rfl ?_
    cases h
    exact J12
  · replace h := hF h c5
    refine AW.aloadr_n 0 dX12_nearer_15 rfl ?_
    refine AW.iload_n 1 dX12_nearer_16 rfl ?_
    refine AW.iload_n 3 dX12_nearer_17 rfl ?_
    obtain ⟨r8, e9, h⟩ := hC h
    refine AW.callVi (As := [iv x1, iv x3]) (st := []) (M_drive_ok e9) cq_X12_543 cr_117_X12_drive (Nat.le_trans (by decide) hdd) rfl dX12_nearer_18 rfl (Nat.le_of_ble_eq_true rfl) ?_
    refine AW.goto (tgt := 30) dX12_nearer_21 (by decide) ?_
    refine AW.sub (lv1 := []) [] rfl ?_
    cases h
    exact J12
set_option synthInstance.maxHeartbeats 2000000 in
theorem M_vans_b_ok {z : AZ} {d : Nat} (hdd : 2 ≤ d) {x1 : Int} : ∀ (tag : Nat) (x2 : Int) (x3 : Int) (x4 : Int) (x5 : Int) (x6 : Int) (x7 : Int) (g : AG) (r : Int × AG), M_vans_b x1 tag x2 x3 x4 x5 x6 x7 g = some r → (tag = 1 → AW z (RX12, cX12_vans, 8, (some .int)) d (QD (some .int) r) 18 [(0, rv z 117), (1, iv x1), (2, iv x2), (3, iv x3), (4, iv x4)] [] g) ∧ (tag = 2 → AW z (RX12, cX12_vans, 8, (some .int)) d (QD (some .int) r) 29 [(0, rv z 117), (1, iv x1), (2, iv x2), (3, iv x3), (4, iv x4), (5, iv x5)] [] g) ∧ (tag = 3 → AW z (RX12, cX12_vans, 8, (some .int)) d (QD (some .int) r) 42 [(0, rv z 117), (1, iv x1), (2, iv x2), (3, iv x3), (4, iv x4), (5, iv x5), (6, iv x6), (7, iv x7)] [] g) := by
  refine M_vans_b.partial_correctness x1 (fun tag x2 x3 x4 x5 x6 x7 g r => (tag = 1 → AW z (RX12, cX12_vans, 8, (some .int)) d (QD (some .int) r) 18 [(0, rv z 117), (1, iv x1), (2, iv x2), (3, iv x3), (4, iv x4)] [] g) ∧ (tag = 2 → AW z (RX12, cX12_vans, 8, (some .int)) d (QD (some .int) r) 29 [(0, rv z 117), (1, iv x1), (2, iv x2), (3, iv x3), (4, iv x4), (5, iv x5)] [] g) ∧ (tag = 3 → AW z (RX12, cX12_vans, 8, (some .int)) d (QD (some .int) r) 42 [(0, rv z 117), (1, iv x1), (2, iv x2), (3, iv x3), (4, iv x4), (5, iv x5), (6, iv x6), (7, iv x7)] [] g)) ?_
  intro fb9 ih tag x2 x3 x4 x5 x6 x7 g r h
  refine ⟨fun h9 => ?_, fun h9 => ?_, fun h9 => ?_⟩
  · subst h9
    replace h := hT h rfl
    refine AW.iload 4 dX12_vans_18 rfl ?_
    refine AW.bipush dX12_vans_20 (by decide) (by decide) ?_
    refine AW.icmp_ge (tgt := 116) dX12_vans_22 (by decide) (fun c1 => ?_) (fun c1 => ?_)
    · replace h := hT h c1
      refine AW.iload_n 1 dX12_vans_116 rfl ?_
      obtain ⟨t2, e3, h⟩ := hBe h
      refine AW.join (tgt := 125) (lv1 := [(0, rv z 117), (1, iv x1), (2, iv x2), (3, iv x3), (4, iv x4)]) (st1 := [iv t2]) (g1 := g) ?_ (fun J117 => ?_)
      · exact AW.iret1 rfl dX12_vans_125 h rfl
      refine AW.if_ne (tgt := 124) dX12_vans_117 (by decide) (fun c4 => ?_) (fun c4 => ?_)
      · refine AW.iload_n 3 dX12_vans_124 rfl ?_
        exact AW.val (e3.trans (if_neg c4)) J117
      · refine AW.iload_n 2 dX12_vans_120 rfl ?_
        refine AW.goto (tgt := 125) dX12_vans_121 (by decide) ?_
        exact AW.val (e3.trans (if_pos c4)) J117
    · replace h := hF h c1
      refine AW.iload 4 dX12_vans_25 rfl ?_
      refine AW.istore (lv1 := [(5, iv x4), (0, rv z 117), (1, iv x1), (2, iv x2), (3, iv x3), (4, iv x4)]) dX12_vans_27 (by decide) rfl ?_
      refine AW.sub (lv1 := [(0, rv z 117), (1, iv x1), (2, iv x2), (3, iv x3), (4, iv x4), (5, iv x4)]) [1, 2, 3, 4, 5, 0] rfl ?_
      exact (ih _ _ _ _ _ _ _ _ _ h).2.1 rfl
  · subst h9
    replace h := hF h (by decide)
    replace h := hT h rfl
    refine AW.iload 5 dX12_vans_29 rfl ?_
    refine AW.bipush dX12_vans_31 (by decide) (by decide) ?_
    refine AW.icmp_ge (tgt := 110) dX12_vans_33 (by decide) (fun c1 => ?_) (fun c1 => ?_)
    · replace h := hT h c1
      refine AW.iinc (lv1 := [(4, iv (x4 + 1)), (0, rv z 117), (1, iv x1), (2, iv x2), (3, iv x3), (5, iv x5)]) 4 dX12_vans_110 rfl (by decide) rfl ?_
      refine AW.goto (tgt := 18) dX12_vans_113 (by decide) ?_
      refine AW.sub (lv1 := [(0, rv z 117), (1, iv x1), (2, iv x2), (3, iv x3), (4, iv (x4 + 1))]) [1, 2, 3, 4, 0] rfl ?_
      exact (ih _ _ _ _ _ _ _ _ _ h).1 rfl
    · replace h := hF h c1
      refine AW.iconst dX12_vans_36 ?_
      refine AW.istore (lv1 := [(6, iv 0), (0, rv z 117), (1, iv x1), (2, iv x2), (3, iv x3), (4, iv x4), (5, iv x5)]) dX12_vans_37 (by decide) rfl ?_
      refine AW.iconst dX12_vans_39 ?_
      refine AW.istore (lv1 := [(7, iv 0), (6, iv 0), (0, rv z 117), (1, iv x1), (2, iv x2), (3, iv x3), (4, iv x4), (5, iv x5)]) dX12_vans_40 (by decide) rfl ?_
      refine AW.sub (lv1 := [(0, rv z 117), (1, iv x1), (2, iv x2), (3, iv x3), (4, iv x4), (5, iv x5), (6, iv 0), (7, iv 0)]) [2, 3, 4, 5, 6, 7, 1, 0] rfl ?_
      exact (ih _ _ _ _ _ _ _ _ _ h).2.2 rfl
  · subst h9
    replace h := hF h (by decide)
    replace h := hF h (by decide)
    replace h := hT h rfl
    refine AW.iload 7 dX12_vans_42 rfl ?_
    refine AW.bipush dX12_vans_44 (by decide) (by decide) ?_
    refine AW.icmp_ge (tgt := 78) dX12_vans_46 (by decide) (fun c1 => ?_) (fun c1 => ?_)
    · replace h := hT h c1
      refine AW.iload_n 2 dX12_vans_78 rfl ?_
      refine AW.iconst dX12_vans_79 ?_
      obtain ⟨r4, e5, h⟩ := hC h
      refine AW.join (tgt := 104) (lv1 := [(0, rv z 117), (1, iv x1), (2, iv r4.1), (3, iv r4.2.1), (4, iv x4), (5, iv x5)]) (st1 := []) (g1 := r4.2.2) ?_ (fun J80 => ?_)
      · refine AW.iinc (lv1 := [(5, iv (x5 + 1)), (0, rv z 117), (1, iv x1), (2, iv r4.1), (3, iv r4.2.1), (4, iv x4)]) 5 dX12_vans_104 rfl (by decide) rfl ?_
        refine AW.goto (tgt := 29) dX12_vans_107 (by decide) ?_
        refine AW.sub (lv1 := [(0, rv z 117), (1, iv x1), (2, iv r4.1), (3, iv r4.2.1), (4, iv x4), (5, iv (x5 + 1))]) [1, 2, 3, 4, 5, 0] rfl ?_
        exact (ih _ _ _ _ _ _ _ _ _ h).2.1 rfl
      replace h := e5
      refine AW.icmp_eq (tgt := 92) dX12_vans_80 (by decide) (fun c2 => ?_) (fun c2 => ?_)
      · replace h := hT h c2
        refine AW.bipush dX12_vans_92 (by decide) (by decide) ?_
        refine AW.iload 4 dX12_vans_94 rfl ?_
        refine AW.imul dX12_vans_96 ?_
        refine AW.iload 5 dX12_vans_97 rfl ?_
        refine AW.iadd dX12_vans_99 ?_
        refine AW.istore_n (lv1 := [(2, iv ((16 * x4) + x5)), (0, rv z 117), (1, iv x1), (3, iv x3), (4, iv x4), (5, iv x5), (6, iv x6), (7, iv x7)]) dX12_vans_100 (by decide) rfl ?_
        refine AW.iload 6 dX12_vans_101 rfl ?_
        refine AW.istore_n (lv1 := [(3, iv x6), (2, iv ((16 * x4) + x5)), (0, rv z 117), (1, iv x1), (4, iv x4), (5, iv x5), (6, iv x6), (7, iv x7)]) dX12_vans_103 (by decide) rfl ?_
        refine AW.sub (lv1 := [(0, rv z 117), (1, iv x1), (2, iv ((16 * x4) + x5)), (3, iv x6), (4, iv x4), (5, iv x5)]) [2, 3, 1, 0, 4, 5] rfl ?_
        cases h
        exact J80
      · replace h := hF h c2
        refine AW.iload 6 dX12_vans_83 rfl ?_
        refine AW.iload_n 3 dX12_vans_85 rfl ?_
        refine AW.icmp_lt (tgt := 92) dX12_vans_86 (by decide) (fun c3 => ?_) (fun c3 => ?_)
        · replace h := hT h c3
          refine AW.bipush dX12_vans_92 (by decide) (by decide) ?_
          refine AW.iload 4 dX12_vans_94 rfl ?_
          refine AW.imul dX12_vans_96 ?_
          refine AW.iload 5 dX12_vans_97 rfl ?_
          refine AW.iadd dX12_vans_99 ?_
          refine AW.istore_n (lv1 := [(2, iv ((16 * x4) + x5)), (0, rv z 117), (1, iv x1), (3, iv x3), (4, iv x4), (5, iv x5), (6, iv x6), (7, iv x7)]) dX12_vans_100 (by decide) rfl ?_
          refine AW.iload 6 dX12_vans_101 rfl ?_
          refine AW.istore_n (lv1 := [(3, iv x6), (2, iv ((16 * x4) + x5)), (0, rv z 117), (1, iv x1), (4, iv x4), (5, iv x5), (6, iv x6), (7, iv x7)]) dX12_vans_103 (by decide) rfl ?_
          refine AW.sub (lv1 := [(0, rv z 117), (1, iv x1), (2, iv ((16 * x4) + x5)), (3, iv x6), (4, iv x4), (5, iv x5)]) [2, 3, 1, 0, 4, 5] rfl ?_
          cases h
          exact J80
        · replace h := hF h c3
          refine AW.goto (tgt := 104) dX12_vans_89 (by decide) ?_
          refine AW.sub (lv1 := [(0, rv z 117), (1, iv x1), (2, iv x2), (3, iv x3), (4, iv x4), (5, iv x5)]) [0, 1, 2, 3, 4, 5] rfl ?_
          cases h
          exact J80
    · replace h := hF h c1
      refine AW.iload 6 dX12_vans_49 rfl ?_
      refine AW.aloadr_n 0 dX12_vans_51 rfl ?_
      refine AW.getR af_X12_208_117 sr_117_91 dX12_vans_52 ?_
      refine AW.iload 7 dX12_vans_55 rfl ?_
      obtain ⟨k6, h⟩ := hK h
      refine AW.iald kc_180 sk_180 k6 dX12_vans_57 ?_
      refine AW.aloadr_n 0 dX12_vans_58 rfl ?_
      refine AW.iload 4 dX12_vans_59 rfl ?_
      refine AW.iload 5 dX12_vans_61 rfl ?_
      refine AW.iload 7 dX12_vans_63 rfl ?_
      obtain ⟨r7, e8, h⟩ := hC h
      refine AW.callVi (As := [iv x4, iv x5, iv x7]) (st := [iv (g 180 (ix x7)), iv x6]) (M_nearer_ok e8) cq_X12_552 cr_117_X12_nearer (Nat.le_trans (by decide) hdd) rfl dX12_vans_65 rfl (Nat.le_of_ble_eq_true rfl) ?_
      refine AW.imul dX12_vans_68 ?_
      refine AW.iadd dX12_vans_69 ?_
      refine AW.istore (lv1 := [(6, iv (x6 + ((g 180 (ix x7)) * r7.1))), (0, rv z 117), (1, iv x1), (2, iv x2), (3, iv x3), (4, iv x4), (5, iv x5), (7, iv x7)]) dX12_vans_70 (by decide) rfl ?_
      refine AW.iinc (lv1 := [(7, iv (x7 + 1)), (6, iv (x6 + ((g 180 (ix x7)) * r7.1))), (0, rv z 117), (1, iv x1), (2, iv x2), (3, iv x3), (4, iv x4), (5, iv x5)]) 7 dX12_vans_72 rfl (by decide) rfl ?_
      refine AW.goto (tgt := 42) dX12_vans_75 (by decide) ?_
      refine AW.sub (lv1 := [(0, rv z 117), (1, iv x1), (2, iv x2), (3, iv x3), (4, iv x4), (5, iv x5), (6, iv (x6 + ((g 180 (ix x7)) * r7.1))), (7, iv (x7 + 1))]) [2, 3, 4, 5, 6, 7, 1, 0] rfl ?_
      exact (ih _ _ _ _ _ _ _ _ _ h).2.2 rfl
theorem M_vans_ok {z : AZ} {x1 : Int} {g : AG} {r : Int × AG} (h : M_vans x1 g = some r) : AMf z yX12_vans cX12_vans 8 (some .int) 2 [rv z 117, iv x1] g r := by
  intro d hdd
  refine AM.of (by decide +kernel) (Nat.le_of_ble_eq_true rfl) ?_
  show AW z (RX12, cX12_vans, 8, (some .int)) d (QD (some .int) r) 0 [(0, rv z 117), (1, iv x1)] [] g
  unfold M_vans at h
  refine AW.iload_n 1 dX12_vans_0 rfl ?_
  refine AW.iconst dX12_vans_1 ?_
  refine AW.iconst dX12_vans_2 ?_
  refine AW.callSi (As := [iv x1, iv 0, iv 1]) (st := []) M_isIn_ok cq_X12_3 st_X12_isIn (Nat.le_trans (by decide) hdd) rfl dX12_vans_3 rfl (Nat.le_of_ble_eq_true rfl) ?_
  refine AW.if_ne (tgt := 11) dX12_vans_6 (by decide) (fun c1 => ?_) (fun c1 => ?_)
  · replace h := hF h c1
    refine AW.iconst dX12_vans_11 ?_
    refine AW.istore_n (lv1 := [(2, iv (-1)), (0, rv z 117), (1, iv x1)]) dX12_vans_12 (by decide) rfl ?_
    refine AW.iconst dX12_vans_13 ?_
    refine AW.istore_n (lv1 := [(3, iv 0), (2, iv (-1)), (0, rv z 117), (1, iv x1)]) dX12_vans_14 (by decide) rfl ?_
    refine AW.iconst dX12_vans_15 ?_
    refine AW.istore (lv1 := [(4, iv 0), (3, iv 0), (2, iv (-1)), (0, rv z 117), (1, iv x1)]) dX12_vans_16 (by decide) rfl ?_
    refine AW.sub (lv1 := [(0, rv z 117), (1, iv x1), (2, iv (-1)), (3, iv 0), (4, iv 0)]) [3, 4, 2, 1, 0] rfl ?_
    exact (M_vans_b_ok hdd _ _ _ _ _ _ _ _ _ h).1 rfl
  · replace h := hT h c1
    refine AW.iconst dX12_vans_9 ?_
    exact AW.iret1 rfl dX12_vans_10 h rfl
set_option synthInstance.maxHeartbeats 2000000 in
theorem M_call_b_ok {z : AZ} {d : Nat} (hdd : 2 ≤ d) {x1 : Int} {x2 : Int} {x3 : Int} {g : AG} : ∀ (r : Int × AG), M_call_b x1 x2 x3 g = some r → AW z (RX12, cX12_call, 4, (some .int)) d (QD (some .int) r) 73 [(0, rv z 117), (1, iv x1), (2, iv x2), (3, iv x3)] [] g := by
  refine M_call_b.partial_correctness x1 x2 x3 g (fun r => AW z (RX12, cX12_call, 4, (some .int)) d (QD (some .int) r) 73 [(0, rv z 117), (1, iv x1), (2, iv x2), (3, iv x3)] [] g) ?_
  intro fb9 ih r h
  refine AW.aloadr_n 0 dX12_call_73 rfl ?_
  refine AW.getR af_X12_211_117 sr_117_93 dX12_call_74 ?_
  refine AW.aloadr_n 0 dX12_call_77 rfl ?_
  refine AW.getI af_X12_555_117 sr_117_92 dX12_call_78 ?_
  refine AW.iload_n 1 dX12_call_81 rfl ?_
  obtain ⟨k1, h⟩ := hK h
  obtain ⟨g2, e3, h⟩ := hBe h
  refine AW.iast kc_181 sk_181 k1 dX12_call_82 e3 ?_
  refine AW.aloadr_n 0 dX12_call_83 rfl ?_
  refine AW.getR af_X12_214_117 sr_117_94 dX12_call_84 ?_
  refine AW.aloadr_n 0 dX12_call_87 rfl ?_
  refine AW.getI af_X12_555_117 sr_117_92 dX12_call_88 ?_
  refine AW.iload_n 2 dX12_call_91 rfl ?_
  obtain ⟨k4, h⟩ := hK h
  obtain ⟨g5, e6, h⟩ := hBe h
  refine AW.iast kc_182 sk_182 k4 dX12_call_92 e6 ?_
  refine AW.aloadr_n 0 dX12_call_93 rfl ?_
  refine AW.getR af_X12_217_117 sr_117_95 dX12_call_94 ?_
  refine AW.aloadr_n 0 dX12_call_97 rfl ?_
  refine AW.getI af_X12_555_117 sr_117_92 dX12_call_98 ?_
  refine AW.iload_n 3 dX12_call_101 rfl ?_
  obtain ⟨k7, h⟩ := hK h
  obtain ⟨g8, e9, h⟩ := hBe h
  refine AW.iast kc_183 sk_183 k7 dX12_call_102 e9 ?_
  refine AW.aloadr_n 0 dX12_call_103 rfl ?_
  refine AW.duprr dX12_call_104 ?_
  refine AW.getI af_X12_555_117 sr_117_92 dX12_call_105 ?_
  refine AW.iconst dX12_call_108 ?_
  refine AW.iadd dX12_call_109 ?_
  obtain ⟨g10, e11, h⟩ := hBe h
  refine AW.putI ap_X12_555_117 sr_117_92 dX12_call_110 e11 ?_
  refine AW.aloadr_n 0 dX12_call_113 rfl ?_
  refine AW.getI af_X12_555_117 sr_117_92 dX12_call_114 ?_
  exact AW.iret1 rfl dX12_call_117 h rfl
theorem M_call_ok {z : AZ} {x1 : Int} {x2 : Int} {x3 : Int} {g : AG} {r : Int × AG} (h : M_call x1 x2 x3 g = some r) : AMf z yX12_call cX12_call 4 (some .int) 2 [rv z 117, iv x1, iv x2, iv x3] g r := by
  intro d hdd
  refine AM.of (by decide +kernel) (Nat.le_of_ble_eq_true rfl) ?_
  show AW z (RX12, cX12_call, 4, (some .int)) d (QD (some .int) r) 0 [(0, rv z 117), (1, iv x1), (2, iv x2), (3, iv x3)] [] g
  unfold M_call at h
  refine AW.iload_n 3 dX12_call_0 rfl ?_
  refine AW.if_ne (tgt := 11) dX12_call_1 (by decide) (fun c1 => ?_) (fun c1 => ?_)
  · replace h := hF h c1
    refine AW.iload_n 1 dX12_call_11 rfl ?_
    refine AW.iconst dX12_call_12 ?_
    refine AW.sipush dX12_call_13 (by decide) (by decide) ?_
    refine AW.callSi (As := [iv x1, iv 0, iv 9999]) (st := []) M_isIn_ok cq_X12_3 st_X12_isIn (Nat.le_trans (by decide) hdd) rfl dX12_call_16 rfl (Nat.le_of_ble_eq_true rfl) ?_
    refine AW.if_eq (tgt := 71) dX12_call_19 (by decide) (fun c2 => ?_) (fun c2 => ?_)
    · replace h := hT h c2
      refine AW.iconst dX12_call_71 ?_
      exact AW.iret1 rfl dX12_call_72 h rfl
    · replace h := hF h c2
      refine AW.iload_n 2 dX12_call_22 rfl ?_
      refine AW.callSi (As := [iv x2]) (st := []) M_isPoint_ok cq_X12_238 st_X12_isPoint (Nat.le_trans (by decide) hdd) rfl dX12_call_23 rfl (Nat.le_of_ble_eq_true rfl) ?_
      refine AW.if_eq (tgt := 71) dX12_call_26 (by decide) (fun c3 => ?_) (fun c3 => ?_)
      · replace h := hT h c3
        refine AW.iconst dX12_call_71 ?_
        exact AW.iret1 rfl dX12_call_72 h rfl
      · replace h := hF h c3
        refine AW.iload_n 3 dX12_call_29 rfl ?_
        refine AW.iconst dX12_call_30 ?_
        refine AW.sipush dX12_call_31 (by decide) (by decide) ?_
        refine AW.callSi (As := [iv x3, iv 1, iv 300]) (st := []) M_isIn_ok cq_X12_3 st_X12_isIn (Nat.le_trans (by decide) hdd) rfl dX12_call_34 rfl (Nat.le_of_ble_eq_true rfl) ?_
        refine AW.if_eq (tgt := 71) dX12_call_37 (by decide) (fun c4 => ?_) (fun c4 => ?_)
        · replace h := hT h c4
          refine AW.iconst dX12_call_71 ?_
          exact AW.iret1 rfl dX12_call_72 h rfl
        · replace h := hF h c4
          refine AW.aloadr_n 0 dX12_call_40 rfl ?_
          refine AW.getI af_X12_555_117 sr_117_92 dX12_call_41 ?_
          refine AW.bipush dX12_call_44 (by decide) (by decide) ?_
          refine AW.icmp_eq (tgt := 71) dX12_call_46 (by decide) (fun c5 => ?_) (fun c5 => ?_)
          · replace h := hT h c5
            refine AW.iconst dX12_call_71 ?_
            exact AW.iret1 rfl dX12_call_72 h rfl
          · replace h := hF h c5
            refine AW.aloadr_n 0 dX12_call_49 rfl ?_
            refine AW.getI af_X12_555_117 sr_117_92 dX12_call_50 ?_
            refine AW.if_le (tgt := 73) dX12_call_53 (by decide) (fun c6 => ?_) (fun c6 => ?_)
            · replace h := hT h c6
              exact M_call_b_ok hdd _ h
            · replace h := hF h c6
              refine AW.iload_n 1 dX12_call_56 rfl ?_
              refine AW.aloadr_n 0 dX12_call_57 rfl ?_
              refine AW.getR af_X12_211_117 sr_117_93 dX12_call_58 ?_
              refine AW.aloadr_n 0 dX12_call_61 rfl ?_
              refine AW.getI af_X12_555_117 sr_117_92 dX12_call_62 ?_
              refine AW.iconst dX12_call_65 ?_
              refine AW.isub dX12_call_66 ?_
              obtain ⟨k7, h⟩ := hK h
              refine AW.iald kc_181 sk_181 k7 dX12_call_67 ?_
              refine AW.icmp_ge (tgt := 73) dX12_call_68 (by decide) (fun c8 => ?_) (fun c8 => ?_)
              · replace h := hT h c8
                exact M_call_b_ok hdd _ h
              · replace h := hF h c8
                refine AW.iconst dX12_call_71 ?_
                exact AW.iret1 rfl dX12_call_72 h rfl
  · replace h := hT h c1
    refine AW.aloadr_n 0 dX12_call_4 rfl ?_
    refine AW.iconst dX12_call_5 ?_
    obtain ⟨g9, e10, h⟩ := hBe h
    refine AW.putI ap_X12_555_117 sr_117_92 dX12_call_6 e10 ?_
    refine AW.iconst dX12_call_9 ?_
    exact AW.iret1 rfl dX12_call_10 h rfl
theorem M_arrives_ok {z : AZ} {x1 : Int} {x2 : Int} {g : AG} {r : Int × AG} (h : M_arrives x1 x2 g = some r) : AMf z yX12_arrives cX12_arrives 4 (some .int) 1 [rv z 117, iv x1, iv x2] g r := by
  intro d hdd
  refine AM.of (by decide +kernel) (Nat.le_of_ble_eq_true rfl) ?_
  show AW z (RX12, cX12_arrives, 4, (some .int)) d (QD (some .int) r) 0 [(0, rv z 117), (1, iv x1), (2, iv x2)] [] g
  unfold M_arrives at h
  refine AW.aloadr_n 0 dX12_arrives_0 rfl ?_
  refine AW.getR af_X12_223_117 sr_117_97 dX12_arrives_1 ?_
  refine AW.iload_n 1 dX12_arrives_4 rfl ?_
  obtain ⟨k1, h⟩ := hK h
  refine AW.iald kc_185 sk_185 k1 dX12_arrives_5 ?_
  refine AW.aloadr_n 0 dX12_arrives_6 rfl ?_
  refine AW.getR af_X12_211_117 sr_117_93 dX12_arrives_7 ?_
  refine AW.iload_n 2 dX12_arrives_10 rfl ?_
  obtain ⟨k2, h⟩ := hK h
  refine AW.iald kc_181 sk_181 k2 dX12_arrives_11 ?_
  obtain ⟨r4, e5, h⟩ := hC h
  refine AW.join (tgt := 30) (lv1 := [(0, rv z 117), (1, iv x1), (2, iv x2)]) (st1 := [iv r4.1]) (g1 := r4.2) ?_ (fun J12 => ?_)
  · refine AW.istore_n (lv1 := [(3, iv r4.1), (0, rv z 117), (1, iv x1), (2, iv x2)]) dX12_arrives_30 (by decide) rfl ?_
    refine AW.iload_n 0 dX12_arrives_31 rfl ?_
    refine AW.aloadr_n 1 dX12_arrives_32 rfl ?_
    refine AW.aloadr_n 1 dX12_arrives_33 rfl ?_
    refine AW.getR af_X12_220_117 sr_117_96 dX12_arrives_34 ?_
    refine AW.iload_n 2 dX12_arrives_37 rfl ?_
    refine AW.iald kc_184 sk_184 k1 dX12_arrives_38 ?_
    refine AW.aloadr_n 1 dX12_arrives_39 rfl ?_
    refine AW.getR af_X12_214_117 sr_117_94 dX12_arrives_40 ?_
    refine AW.iload_n 3 dX12_arrives_43 rfl ?_
    refine AW.iald kc_182 sk_182 k2 dX12_arrives_44 ?_
    obtain ⟨r6, e7, h⟩ := hC h
    refine AW.callVi (As := [iv (r4.2 184 (ix x1)), iv (r4.2 182 (ix x2))]) (st := [iv r4.1]) (M_drive_ok e7) cq_X12_543 cr_117_X12_drive (Nat.le_trans (by decide) hdd) rfl dX12_arrives_45 rfl (Nat.le_of_ble_eq_true rfl) ?_
    refine AW.iadd dX12_arrives_48 ?_
    exact AW.iret1 rfl dX12_arrives_49 h rfl
  replace h := e5
  refine AW.icmp_le (tgt := 24) dX12_arrives_12 (by decide) (fun c3 => ?_) (fun c3 => ?_)
  · replace h := hT h c3
    refine AW.aloadr_n 0 dX12_arrives_24 rfl ?_
    refine AW.getR af_X12_211_117 sr_117_93 dX12_arrives_25 ?_
    refine AW.iload_n 2 dX12_arrives_28 rfl ?_
    refine AW.iald kc_181 sk_181 k2 dX12_arrives_29 ?_
    cases h
    exact J12
  · replace h := hF h c3
    refine AW.aloadr_n 0 dX12_arrives_15 rfl ?_
    refine AW.getR af_X12_223_117 sr_117_97 dX12_arrives_16 ?_
    refine AW.iload_n 1 dX12_arrives_19 rfl ?_
    refine AW.iald kc_185 sk_185 k1 dX12_arrives_20 ?_
    refine AW.goto (tgt := 30) dX12_arrives_21 (by decide) ?_
    cases h
    exact J12
set_option synthInstance.maxHeartbeats 2000000 in
theorem M_taken_b_ok {z : AZ} {d : Nat} (hdd : 2 ≤ d) {x1 : Int} {x2 : Int} {x3 : Int} : ∀ (tag : Nat) (x4 : Int) (x5 : Int) (x6 : Int) (x7 : Int) (g : AG) (r : Int × AG), M_taken_b x1 x2 x3 tag x4 x5 x6 x7 g = some r → (tag = 1 → AW z (RX12, cX12_taken, 10, (some .int)) d (QD (some .int) r) 41 [(0, rv z 117), (1, iv x1), (2, iv x2), (3, iv x3)] [] g) ∧ (tag = 2 → AW z (RX12, cX12_taken, 10, (some .int)) d (QD (some .int) r) 81 [(0, rv z 117), (3, iv x3), (4, iv x4), (5, iv x5), (6, iv x6), (7, iv x7)] [] g) := by
  refine M_taken_b.partial_correctness x1 x2 x3 (fun tag x4 x5 x6 x7 g r => (tag = 1 → AW z (RX12, cX12_taken, 10, (some .int)) d (QD (some .int) r) 41 [(0, rv z 117), (1, iv x1), (2, iv x2), (3, iv x3)] [] g) ∧ (tag = 2 → AW z (RX12, cX12_taken, 10, (some .int)) d (QD (some .int) r) 81 [(0, rv z 117), (3, iv x3), (4, iv x4), (5, iv x5), (6, iv x6), (7, iv x7)] [] g)) ?_
  intro fb9 ih tag x4 x5 x6 x7 g r h
  refine ⟨fun h9 => ?_, fun h9 => ?_⟩
  · subst h9
    replace h := hT h rfl
    refine AW.aloadr_n 0 dX12_taken_41 rfl ?_
    refine AW.getR af_X12_220_117 sr_117_96 dX12_taken_42 ?_
    refine AW.iconst dX12_taken_45 ?_
    refine AW.iload_n 1 dX12_taken_46 rfl ?_
    obtain ⟨g1, e2, h⟩ := hBe h
    refine AW.iast kc_184 sk_184 (by decide) dX12_taken_47 e2 ?_
    refine AW.aloadr_n 0 dX12_taken_48 rfl ?_
    refine AW.getR af_X12_220_117 sr_117_96 dX12_taken_49 ?_
    refine AW.iconst dX12_taken_52 ?_
    refine AW.iload_n 2 dX12_taken_53 rfl ?_
    obtain ⟨g3, e4, h⟩ := hBe h
    refine AW.iast kc_184 sk_184 (by decide) dX12_taken_54 e4 ?_
    refine AW.aloadr_n 0 dX12_taken_55 rfl ?_
    refine AW.getR af_X12_223_117 sr_117_97 dX12_taken_56 ?_
    refine AW.iconst dX12_taken_59 ?_
    refine AW.iconst dX12_taken_60 ?_
    obtain ⟨g5, e6, h⟩ := hBe h
    refine AW.iast kc_185 sk_185 (by decide) dX12_taken_61 e6 ?_
    refine AW.aloadr_n 0 dX12_taken_62 rfl ?_
    refine AW.getR af_X12_223_117 sr_117_97 dX12_taken_63 ?_
    refine AW.iconst dX12_taken_66 ?_
    refine AW.iconst dX12_taken_67 ?_
    obtain ⟨g7, e8, h⟩ := hBe h
    refine AW.iast kc_185 sk_185 (by decide) dX12_taken_68 e8 ?_
    refine AW.iconst dX12_taken_69 ?_
    refine AW.istore (lv1 := [(4, iv 0), (0, rv z 117), (1, iv x1), (2, iv x2), (3, iv x3)]) dX12_taken_70 (by decide) rfl ?_
    refine AW.iconst dX12_taken_72 ?_
    refine AW.istore (lv1 := [(5, iv 0), (4, iv 0), (0, rv z 117), (1, iv x1), (2, iv x2), (3, iv x3)]) dX12_taken_73 (by decide) rfl ?_
    refine AW.iconst dX12_taken_75 ?_
    refine AW.istore (lv1 := [(6, iv 0), (5, iv 0), (4, iv 0), (0, rv z 117), (1, iv x1), (2, iv x2), (3, iv x3)]) dX12_taken_76 (by decide) rfl ?_
    refine AW.iconst dX12_taken_78 ?_
    refine AW.istore (lv1 := [(7, iv 0), (6, iv 0), (5, iv 0), (4, iv 0), (0, rv z 117), (1, iv x1), (2, iv x2), (3, iv x3)]) dX12_taken_79 (by decide) rfl ?_
    refine AW.sub (lv1 := [(0, rv z 117), (3, iv x3), (4, iv 0), (5, iv 0), (6, iv 0), (7, iv 0)]) [4, 7, 3, 2, 1, 0] rfl ?_
    exact (ih _ _ _ _ _ _ _ h).2 rfl
  · subst h9
    replace h := hF h (by decide)
    replace h := hT h rfl
    refine AW.iload 5 dX12_taken_81 rfl ?_
    refine AW.aloadr_n 0 dX12_taken_83 rfl ?_
    refine AW.getI af_X12_555_117 sr_117_92 dX12_taken_84 ?_
    refine AW.icmp_ge (tgt := 246) dX12_taken_87 (by decide) (fun c1 => ?_) (fun c1 => ?_)
    · replace h := hT h c1
      refine AW.iload_n 1 dX12_taken_246 rfl ?_
      obtain ⟨t2, e3, h⟩ := hBe h
      refine AW.join (tgt := 267) (lv1 := [(0, rv z 117), (3, iv x3), (4, iv x4), (5, iv x5), (6, iv x6), (7, iv x7)]) (st1 := [iv t2]) (g1 := g) ?_ (fun J247 => ?_)
      · exact AW.iret1 rfl dX12_taken_267 h rfl
      refine AW.if_ne (tgt := 255) dX12_taken_247 (by decide) (fun c4 => ?_) (fun c4 => ?_)
      · refine AW.iload_n 1 dX12_taken_255 rfl ?_
        refine AW.iconst dX12_taken_256 ?_
        refine AW.icmp_ne (tgt := 265) dX12_taken_257 (by decide) (fun c5 => ?_) (fun c5 => ?_)
        · refine AW.iload 4 dX12_taken_265 rfl ?_
          exact AW.val (e3.trans ((if_neg c4).trans (if_neg c5))) J247
        · refine AW.iload 3 dX12_taken_260 rfl ?_
          refine AW.goto (tgt := 267) dX12_taken_262 (by decide) ?_
          exact AW.val (e3.trans ((if_neg c4).trans (if_pos c5))) J247
      · refine AW.iload 2 dX12_taken_250 rfl ?_
        refine AW.goto (tgt := 267) dX12_taken_252 (by decide) ?_
        exact AW.val (e3.trans (if_pos c4)) J247
    · replace h := hF h c1
      refine AW.aloadr_n 0 dX12_taken_90 rfl ?_
      refine AW.iconst dX12_taken_91 ?_
      refine AW.iload 5 dX12_taken_92 rfl ?_
      obtain ⟨r6, e7, h⟩ := hC h
      refine AW.callVi (As := [iv 1, iv x7]) (st := []) (M_arrives_ok e7) cq_X12_558 cr_117_X12_arrives (Nat.le_trans (by decide) hdd) rfl dX12_taken_94 rfl (Nat.le_of_ble_eq_true rfl) ?_
      refine AW.aloadr_n 0 dX12_taken_97 rfl ?_
      refine AW.iconst dX12_taken_98 ?_
      refine AW.iload 5 dX12_taken_99 rfl ?_
      obtain ⟨r8, e9, h⟩ := hC h
      refine AW.callVi (As := [iv 0, iv x7]) (st := [iv r6.1]) (M_arrives_ok e9) cq_X12_558 cr_117_X12_arrives (Nat.le_trans (by decide) hdd) rfl dX12_taken_101 rfl (Nat.le_of_ble_eq_true rfl) ?_
      obtain ⟨t10, e11, h⟩ := hBe h
      refine AW.join (tgt := 112) (lv1 := [(0, rv z 117), (3, iv x3), (4, iv x4), (5, iv x5), (6, iv x6), (7, iv x7)]) (st1 := [iv t10]) (g1 := r8.2) ?_ (fun J104 => ?_)
      · refine AW.istore (lv1 := [(8, iv t10), (0, rv z 117), (3, iv x3), (4, iv x4), (5, iv x5), (6, iv x6), (7, iv x7)]) dX12_taken_112 (by decide) rfl ?_
        refine AW.iload_n 2 dX12_taken_114 rfl ?_
        refine AW.bipush dX12_taken_115 (by decide) (by decide) ?_
        refine AW.iload 6 dX12_taken_117 rfl ?_
        refine AW.iadd dX12_taken_119 ?_
        refine AW.icmp_ne (tgt := 126) dX12_taken_120 (by decide) (fun c12 => ?_) (fun c12 => ?_)
        · replace h := hF h c12
          refine AW.aloadr_n 1 dX12_taken_126 rfl ?_
          refine AW.iload 0 dX12_taken_127 rfl ?_
          refine AW.iload 6 dX12_taken_129 rfl ?_
          obtain ⟨r13, e14, h⟩ := hC h
          refine AW.callVi (As := [iv t10, iv x7]) (st := []) (M_arrives_ok e14) cq_X12_558 cr_117_X12_arrives (Nat.le_trans (by decide) hdd) rfl dX12_taken_131 rfl (Nat.le_of_ble_eq_true rfl) ?_
          refine AW.istore (lv1 := [(9, iv r13.1), (8, iv t10), (0, rv z 117), (3, iv x3), (4, iv x4), (5, iv x5), (6, iv x6), (7, iv x7)]) dX12_taken_134 (by decide) rfl ?_
          refine AW.iload 4 dX12_taken_136 rfl ?_
          refine AW.iload 0 dX12_taken_138 rfl ?_
          refine AW.aloadr_n 2 dX12_taken_140 rfl ?_
          refine AW.getR af_X12_211_117 sr_117_93 dX12_taken_141 ?_
          refine AW.iload 7 dX12_taken_144 rfl ?_
          obtain ⟨k15, h⟩ := hK h
          refine AW.iald kc_181 sk_181 k15 dX12_taken_146 ?_
          refine AW.isub dX12_taken_147 ?_
          refine AW.iadd dX12_taken_148 ?_
          refine AW.istore (lv1 := [(4, iv (x4 + (r13.1 - (r13.2 181 (ix x7))))), (9, iv r13.1), (8, iv t10), (0, rv z 117), (3, iv x3), (5, iv x5), (6, iv x6), (7, iv x7)]) dX12_taken_149 (by decide) rfl ?_
          refine AW.iload 1 dX12_taken_151 rfl ?_
          refine AW.aloadr_n 3 dX12_taken_153 rfl ?_
          refine AW.getR af_X12_211_117 sr_117_93 dX12_taken_154 ?_
          refine AW.iload 7 dX12_taken_157 rfl ?_
          refine AW.iald kc_181 sk_181 k15 dX12_taken_159 ?_
          refine AW.isub dX12_taken_160 ?_
          refine AW.iload 5 dX12_taken_161 rfl ?_
          obtain ⟨r17, e18, h⟩ := hC h
          refine AW.join (tgt := 181) (lv1 := [(0, rv z 117), (3, iv x3), (4, iv (x4 + (r13.1 - (r13.2 181 (ix x7))))), (6, iv x6), (7, iv x7), (8, iv t10), (9, iv r13.1)]) (st1 := [iv r17.1]) (g1 := r17.2) ?_ (fun J163 => ?_)
          · refine AW.istore (lv1 := [(5, iv r17.1), (0, rv z 117), (3, iv x3), (4, iv (x4 + (r13.1 - (r13.2 181 (ix x7))))), (6, iv x6), (7, iv x7), (8, iv t10), (9, iv r13.1)]) dX12_taken_181 (by decide) rfl ?_
            refine AW.aloadr_n 1 dX12_taken_183 rfl ?_
            refine AW.getR af_X12_223_117 sr_117_97 dX12_taken_184 ?_
            refine AW.iload 6 dX12_taken_187 rfl ?_
            refine AW.iload 7 dX12_taken_189 rfl ?_
            refine AW.aloadr_n 1 dX12_taken_191 rfl ?_
            refine AW.getR af_X12_217_117 sr_117_95 dX12_taken_192 ?_
            refine AW.iload 5 dX12_taken_195 rfl ?_
            refine AW.iald kc_183 sk_183 k15 dX12_taken_197 ?_
            refine AW.iadd dX12_taken_198 ?_
            obtain ⟨k19, h⟩ := hK h
            obtain ⟨g20, e21, h⟩ := hBe h
            refine AW.iast kc_185 sk_185 k19 dX12_taken_199 e21 ?_
            refine AW.aloadr_n 1 dX12_taken_200 rfl ?_
            refine AW.getR af_X12_220_117 sr_117_96 dX12_taken_201 ?_
            refine AW.iload 6 dX12_taken_204 rfl ?_
            refine AW.aloadr_n 1 dX12_taken_206 rfl ?_
            refine AW.getR af_X12_214_117 sr_117_94 dX12_taken_207 ?_
            refine AW.iload 5 dX12_taken_210 rfl ?_
            refine AW.iald kc_182 sk_182 k15 dX12_taken_212 ?_
            obtain ⟨g22, e23, h⟩ := hBe h
            refine AW.iast kc_184 sk_184 k19 dX12_taken_213 e23 ?_
            refine AW.aloadr_n 1 dX12_taken_214 rfl ?_
            refine AW.getR af_X12_223_117 sr_117_97 dX12_taken_215 ?_
            refine AW.iload 6 dX12_taken_218 rfl ?_
            refine AW.iald kc_185 sk_185 k19 dX12_taken_220 ?_
            refine AW.iload 4 dX12_taken_221 rfl ?_
            obtain ⟨r25, e26, h⟩ := hC h
            refine AW.join (tgt := 238) (lv1 := [(0, rv z 117), (3, iv x3), (4, iv (x4 + (r13.1 - (r13.2 181 (ix x7))))), (5, iv r17.1), (7, iv x7)]) (st1 := [iv r25.1]) (g1 := r25.2) ?_ (fun J223 => ?_)
            · refine AW.istore (lv1 := [(6, iv r25.1), (0, rv z 117), (3, iv x3), (4, iv (x4 + (r13.1 - (r13.2 181 (ix x7))))), (5, iv r17.1), (7, iv x7)]) dX12_taken_238 (by decide) rfl ?_
              refine AW.iinc (lv1 := [(7, iv (x7 + 1)), (6, iv r25.1), (0, rv z 117), (3, iv x3), (4, iv (x4 + (r13.1 - (r13.2 181 (ix x7))))), (5, iv r17.1)]) 5 dX12_taken_240 rfl (by decide) rfl ?_
              refine AW.goto (tgt := 81) dX12_taken_243 (by decide) ?_
              refine AW.sub (lv1 := [(0, rv z 117), (3, iv x3), (4, iv (x4 + (r13.1 - (r13.2 181 (ix x7))))), (5, iv r17.1), (6, iv r25.1), (7, iv (x7 + 1))]) [2, 3, 4, 5, 1, 0] rfl ?_
              exact (ih _ _ _ _ _ _ _ h).2 rfl
            replace h := e26
            refine AW.icmp_le (tgt := 236) dX12_taken_223 (by decide) (fun c24 => ?_) (fun c24 => ?_)
            · replace h := hT h c24
              refine AW.iload 4 dX12_taken_236 rfl ?_
              refine AW.sub (lv1 := [(0, rv z 117), (3, iv x3), (4, iv (x4 + (r13.1 - (r13.2 181 (ix x7))))), (5, iv r17.1), (7, iv x7)]) [1, 2, 3, 0, 5] rfl ?_
              cases h
              exact J223
            · replace h := hF h c24
              refine AW.aloadr_n 1 dX12_taken_226 rfl ?_
              refine AW.getR af_X12_223_117 sr_117_97 dX12_taken_227 ?_
              refine AW.iload 6 dX12_taken_230 rfl ?_
              refine AW.iald kc_185 sk_185 k19 dX12_taken_232 ?_
              refine AW.goto (tgt := 238) dX12_taken_233 (by decide) ?_
              refine AW.sub (lv1 := [(0, rv z 117), (3, iv x3), (4, iv (x4 + (r13.1 - (r13.2 181 (ix x7))))), (5, iv r17.1), (7, iv x7)]) [1, 2, 3, 0, 5] rfl ?_
              cases h
              exact J223
          replace h := e18
          refine AW.icmp_le (tgt := 179) dX12_taken_163 (by decide) (fun c16 => ?_) (fun c16 => ?_)
          · replace h := hT h c16
            refine AW.iload 5 dX12_taken_179 rfl ?_
            refine AW.sub (lv1 := [(0, rv z 117), (3, iv x3), (4, iv (x4 + (r13.1 - (r13.2 181 (ix x7))))), (6, iv x6), (7, iv x7), (8, iv t10), (9, iv r13.1)]) [3, 4, 0, 6, 7, 2, 1] rfl ?_
            cases h
            exact J163
          · replace h := hF h c16
            refine AW.iload 1 dX12_taken_166 rfl ?_
            refine AW.aloadr_n 3 dX12_taken_168 rfl ?_
            refine AW.getR af_X12_211_117 sr_117_93 dX12_taken_169 ?_
            refine AW.iload 7 dX12_taken_172 rfl ?_
            refine AW.iald kc_181 sk_181 k15 dX12_taken_174 ?_
            refine AW.isub dX12_taken_175 ?_
            refine AW.goto (tgt := 181) dX12_taken_176 (by decide) ?_
            refine AW.sub (lv1 := [(0, rv z 117), (3, iv x3), (4, iv (x4 + (r13.1 - (r13.2 181 (ix x7))))), (6, iv x6), (7, iv x7), (8, iv t10), (9, iv r13.1)]) [3, 4, 0, 6, 7, 2, 1] rfl ?_
            cases h
            exact J163
        · replace h := hT h c12
          refine AW.iload 0 dX12_taken_123 rfl ?_
          exact AW.iret1 rfl dX12_taken_125 h rfl
      refine AW.icmp_ge (tgt := 111) dX12_taken_104 (by decide) (fun c27 => ?_) (fun c27 => ?_)
      · refine AW.iconst dX12_taken_111 ?_
        exact AW.val (e11.trans (if_pos c27)) J104
      · refine AW.iconst dX12_taken_107 ?_
        refine AW.goto (tgt := 112) dX12_taken_108 (by decide) ?_
        exact AW.val (e11.trans (if_neg c27)) J104
theorem M_taken_ok {z : AZ} {x1 : Int} {x2 : Int} {x3 : Int} {g : AG} {r : Int × AG} (h : M_taken x1 x2 x3 g = some r) : AMf z yX12_taken cX12_taken 10 (some .int) 2 [rv z 117, iv x1, iv x2, iv x3] g r := by
  intro d hdd
  refine AM.of (by decide +kernel) (Nat.le_of_ble_eq_true rfl) ?_
  show AW z (RX12, cX12_taken, 10, (some .int)) d (QD (some .int) r) 0 [(0, rv z 117), (1, iv x1), (2, iv x2), (3, iv x3)] [] g
  unfold M_taken at h
  refine AW.iload_n 1 dX12_taken_0 rfl ?_
  refine AW.callSi (As := [iv x1]) (st := []) M_isPoint_ok cq_X12_238 st_X12_isPoint (Nat.le_trans (by decide) hdd) rfl dX12_taken_1 rfl (Nat.le_of_ble_eq_true rfl) ?_
  refine AW.if_eq (tgt := 39) dX12_taken_4 (by decide) (fun c1 => ?_) (fun c1 => ?_)
  · replace h := hT h c1
    refine AW.iconst dX12_taken_39 ?_
    exact AW.iret1 rfl dX12_taken_40 h rfl
  · replace h := hF h c1
    refine AW.iload_n 2 dX12_taken_7 rfl ?_
    refine AW.callSi (As := [iv x2]) (st := []) M_isPoint_ok cq_X12_238 st_X12_isPoint (Nat.le_trans (by decide) hdd) rfl dX12_taken_8 rfl (Nat.le_of_ble_eq_true rfl) ?_
    refine AW.if_eq (tgt := 39) dX12_taken_11 (by decide) (fun c2 => ?_) (fun c2 => ?_)
    · replace h := hT h c2
      refine AW.iconst dX12_taken_39 ?_
      exact AW.iret1 rfl dX12_taken_40 h rfl
    · replace h := hF h c2
      refine AW.iload_n 3 dX12_taken_14 rfl ?_
      refine AW.iconst dX12_taken_15 ?_
      refine AW.iconst dX12_taken_16 ?_
      refine AW.callSi (As := [iv x3, iv 0, iv 2]) (st := []) M_isIn_ok cq_X12_3 st_X12_isIn (Nat.le_trans (by decide) hdd) rfl dX12_taken_17 rfl (Nat.le_of_ble_eq_true rfl) ?_
      refine AW.if_ne (tgt := 41) dX12_taken_20 (by decide) (fun c3 => ?_) (fun c3 => ?_)
      · replace h := hF h c3
        exact (M_taken_b_ok hdd _ _ _ _ _ _ _ h).1 rfl
      · replace h := hT h c3
        refine AW.iload_n 3 dX12_taken_23 rfl ?_
        refine AW.bipush dX12_taken_24 (by decide) (by decide) ?_
        refine AW.bipush dX12_taken_26 (by decide) (by decide) ?_
        refine AW.aloadr_n 0 dX12_taken_28 rfl ?_
        refine AW.getI af_X12_555_117 sr_117_92 dX12_taken_29 ?_
        refine AW.iadd dX12_taken_32 ?_
        refine AW.callSi (As := [iv x3, iv 10, iv (9 + (g 117 92))]) (st := []) M_isIn_ok cq_X12_3 st_X12_isIn (Nat.le_trans (by decide) hdd) rfl dX12_taken_33 rfl (Nat.le_of_ble_eq_true rfl) ?_
        refine AW.if_ne (tgt := 41) dX12_taken_36 (by decide) (fun c4 => ?_) (fun c4 => ?_)
        · replace h := hF h c4
          exact (M_taken_b_ok hdd _ _ _ _ _ _ _ h).1 rfl
        · replace h := hT h c4
          refine AW.iconst dX12_taken_39 ?_
          exact AW.iret1 rfl dX12_taken_40 h rfl
theorem M_canAsk_ok {z : AZ} {x0 : Int} {x1 : Int} {x2 : Int} {x3 : Int} {g : AG} : AMf z yX12_canAsk cX12_canAsk 4 (some .boolean) 1 [iv x0, iv x1, iv x2, iv x3] g ((M_canAsk x0 x1 x2 x3), g) := by
  intro d hdd
  refine AM.of (by decide +kernel) (Nat.le_of_ble_eq_true rfl) ?_
  show AW z (RX12, cX12_canAsk, 4, (some .boolean)) d (QD (some .boolean) ((M_canAsk x0 x1 x2 x3), g)) 0 [(0, iv x0), (1, iv x1), (2, iv x2), (3, iv x3)] [] g
  refine AW.iload_n 0 dX12_canAsk_0 rfl ?_
  refine AW.iconst dX12_canAsk_1 ?_
  refine AW.bipush dX12_canAsk_2 (by decide) (by decide) ?_
  refine AW.callSi (As := [iv x0, iv 0, iv 99]) (st := []) M_isIn_ok cq_X12_3 st_X12_isIn (Nat.le_trans (by decide) hdd) rfl dX12_canAsk_4 rfl (Nat.le_of_ble_eq_true rfl) ?_
  refine AW.join (tgt := 46) (lv1 := [(0, iv x0), (1, iv x1), (2, iv x2), (3, iv x3)]) (st1 := [iv (if nw (M_isIn x0 0 99) = 0 then 0 else (if nw (M_isIn x1 0 100) = 0 then 0 else (if nw (M_isIn x2 0 99) = 0 then 0 else (if nw (M_isIn x3 0 999) = 0 then 0 else 1))))]) (g1 := g) ?_ (fun J7 => ?_)
  · exact AW.zret rfl (by (repeat' split) <;> first | exact Or.inl rfl | exact Or.inr rfl) dX12_canAsk_46 ⟨congrArg (fun v => some (iv v)) (show M_canAsk x0 x1 x2 x3  = (if nw (M_isIn x0 0 99) = 0 then 0 else (if nw (M_isIn x1 0 100) = 0 then 0 else (if nw (M_isIn x2 0 99) = 0 then 0 else (if nw (M_isIn x3 0 999) = 0 then 0 else 1)))) from rfl).symm, rfl⟩
  refine AW.if_eq (tgt := 45) dX12_canAsk_7 (by decide) (fun c1 => ?_) (fun c1 => ?_)
  · refine AW.iconst dX12_canAsk_45 ?_
    exact AW.val (if_pos c1) J7
  · refine AW.iload_n 1 dX12_canAsk_10 rfl ?_
    refine AW.iconst dX12_canAsk_11 ?_
    refine AW.bipush dX12_canAsk_12 (by decide) (by decide) ?_
    refine AW.callSi (As := [iv x1, iv 0, iv 100]) (st := []) M_isIn_ok cq_X12_3 st_X12_isIn (Nat.le_trans (by decide) hdd) rfl dX12_canAsk_14 rfl (Nat.le_of_ble_eq_true rfl) ?_
    refine AW.if_eq (tgt := 45) dX12_canAsk_17 (by decide) (fun c2 => ?_) (fun c2 => ?_)
    · refine AW.iconst dX12_canAsk_45 ?_
      exact AW.val ((if_neg c1).trans (if_pos c2)) J7
    · refine AW.iload_n 2 dX12_canAsk_20 rfl ?_
      refine AW.iconst dX12_canAsk_21 ?_
      refine AW.bipush dX12_canAsk_22 (by decide) (by decide) ?_
      refine AW.callSi (As := [iv x2, iv 0, iv 99]) (st := []) M_isIn_ok cq_X12_3 st_X12_isIn (Nat.le_trans (by decide) hdd) rfl dX12_canAsk_24 rfl (Nat.le_of_ble_eq_true rfl) ?_
      refine AW.if_eq (tgt := 45) dX12_canAsk_27 (by decide) (fun c3 => ?_) (fun c3 => ?_)
      · refine AW.iconst dX12_canAsk_45 ?_
        exact AW.val ((if_neg c1).trans ((if_neg c2).trans (if_pos c3))) J7
      · refine AW.iload_n 3 dX12_canAsk_30 rfl ?_
        refine AW.iconst dX12_canAsk_31 ?_
        refine AW.sipush dX12_canAsk_32 (by decide) (by decide) ?_
        refine AW.callSi (As := [iv x3, iv 0, iv 999]) (st := []) M_isIn_ok cq_X12_3 st_X12_isIn (Nat.le_trans (by decide) hdd) rfl dX12_canAsk_35 rfl (Nat.le_of_ble_eq_true rfl) ?_
        refine AW.if_eq (tgt := 45) dX12_canAsk_38 (by decide) (fun c4 => ?_) (fun c4 => ?_)
        · refine AW.iconst dX12_canAsk_45 ?_
          exact AW.val ((if_neg c1).trans ((if_neg c2).trans ((if_neg c3).trans (if_pos c4)))) J7
        · refine AW.iconst dX12_canAsk_41 ?_
          refine AW.goto (tgt := 46) dX12_canAsk_42 (by decide) ?_
          exact AW.val ((if_neg c1).trans ((if_neg c2).trans ((if_neg c3).trans (if_neg c4)))) J7
set_option synthInstance.maxHeartbeats 2000000 in
theorem M_starts_b_ok {z : AZ} {d : Nat} (hdd : 0 ≤ d) : ∀ (x1 : Int) (g : AG) (r : Int × AG), M_starts_b x1 g = some r → AW z (RX12, cX12_starts, 2, none) d (QD none r) 2 [(0, rv z 117), (1, iv x1)] [] g := by
  refine M_starts_b.partial_correctness (fun x1 g r => AW z (RX12, cX12_starts, 2, none) d (QD none r) 2 [(0, rv z 117), (1, iv x1)] [] g) ?_
  intro fb9 ih x1 g r h
  refine AW.iload_n 1 dX12_starts_2 rfl ?_
  refine AW.sipush dX12_starts_3 (by decide) (by decide) ?_
  refine AW.icmp_ge (tgt := 36) dX12_starts_6 (by decide) (fun c1 => ?_) (fun c1 => ?_)
  · replace h := hT h c1
    exact AW.vret1 rfl dX12_starts_36 h rfl
  · replace h := hF h c1
    refine AW.aloadr_n 0 dX12_starts_9 rfl ?_
    refine AW.getR af_X12_226_117 sr_117_98 dX12_starts_10 ?_
    refine AW.iload_n 1 dX12_starts_13 rfl ?_
    refine AW.iload_n 1 dX12_starts_14 rfl ?_
    refine AW.aloadr_n 0 dX12_starts_15 rfl ?_
    refine AW.getI af_X12_44_117 sr_117_10 dX12_starts_16 ?_
    obtain ⟨t2, e3, h⟩ := hBe h
    refine AW.join (tgt := 29) (lv1 := [(0, rv z 117), (1, iv x1)]) (st1 := [iv t2, iv x1, rv z 186]) (g1 := g) ?_ (fun J19 => ?_)
    · obtain ⟨k4, h⟩ := hK h
      obtain ⟨g5, e6, h⟩ := hBe h
      refine AW.iast kc_186 sk_186 k4 dX12_starts_29 e6 ?_
      refine AW.iinc (lv1 := [(1, iv (x1 + 1)), (0, rv z 117)]) 1 dX12_starts_30 rfl (by decide) rfl ?_
      refine AW.goto (tgt := 2) dX12_starts_33 (by decide) ?_
      refine AW.sub (lv1 := [(0, rv z 117), (1, iv (x1 + 1))]) [1, 0] rfl ?_
      exact ih _ _ _ h
    refine AW.icmp_ne (tgt := 28) dX12_starts_19 (by decide) (fun c7 => ?_) (fun c7 => ?_)
    · refine AW.iconst dX12_starts_28 ?_
      exact AW.val (e3.trans (if_neg c7)) J19
    · refine AW.ldcw dX12_starts_22 cw_X12_561 ?_
      refine AW.goto (tgt := 29) dX12_starts_25 (by decide) ?_
      exact AW.val (e3.trans (if_pos c7)) J19
theorem M_starts_ok {z : AZ} {g : AG} {r : Int × AG} (h : M_starts g = some r) : AMf z yX12_starts cX12_starts 2 none 0 [rv z 117] g r := by
  intro d hdd
  refine AM.of (by decide +kernel) (Nat.le_of_ble_eq_true rfl) ?_
  show AW z (RX12, cX12_starts, 2, none) d (QD none r) 0 [(0, rv z 117)] [] g
  unfold M_starts at h
  refine AW.iconst dX12_starts_0 ?_
  refine AW.istore_n (lv1 := [(1, iv 0), (0, rv z 117)]) dX12_starts_1 (by decide) rfl ?_
  refine AW.sub (lv1 := [(0, rv z 117), (1, iv 0)]) [1, 0] rfl ?_
  exact M_starts_b_ok hdd _ _ _ h
theorem M_falls_ok {z : AZ} {x1 : Int} {x2 : Int} {x3 : Int} {g : AG} {r : Int × AG} (h : M_falls x1 x2 x3 g = some r) : AMf z yX12_falls cX12_falls 5 none 0 [rv z 117, iv x1, iv x2, iv x3] g r := by
  intro d hdd
  refine AM.of (by decide +kernel) (Nat.le_of_ble_eq_true rfl) ?_
  show AW z (RX12, cX12_falls, 5, none) d (QD none r) 0 [(0, rv z 117), (1, iv x1), (2, iv x2), (3, iv x3)] [] g
  unfold M_falls at h
  refine AW.iload_n 1 dX12_falls_0 rfl ?_
  refine AW.sipush dX12_falls_1 (by decide) (by decide) ?_
  obtain ⟨t1, e2, h⟩ := hBe h
  refine AW.join (tgt := 14) (lv1 := [(0, rv z 117), (1, iv x1), (2, iv x2), (3, iv x3)]) (st1 := [iv t1]) (g1 := g) ?_ (fun J4 => ?_)
  · refine AW.istore (lv1 := [(4, iv t1), (0, rv z 117), (1, iv x1), (2, iv x2), (3, iv x3)]) dX12_falls_14 (by decide) rfl ?_
    refine AW.iload 0 dX12_falls_16 rfl ?_
    refine AW.iload_n 3 dX12_falls_18 rfl ?_
    obtain ⟨r7, e8, h⟩ := hC h
    refine AW.join (tgt := 33) (lv1 := []) (st1 := []) (g1 := r7) ?_ (fun J19 => ?_)
    · exact AW.vret1 rfl dX12_falls_33 h rfl
    replace h := e8
    refine AW.icmp_lt (tgt := 33) dX12_falls_19 (by decide) (fun c3 => ?_) (fun c3 => ?_)
    · replace h := hT h c3
      refine AW.sub (lv1 := []) [] rfl ?_
      cases h
      exact J19
    · replace h := hF h c3
      refine AW.aloadr_n 1 dX12_falls_22 rfl ?_
      refine AW.getR af_X12_229_117 sr_117_99 dX12_falls_23 ?_
      refine AW.iload 0 dX12_falls_26 rfl ?_
      refine AW.dup2r dX12_falls_28 ?_
      obtain ⟨k4, h⟩ := hK h
      refine AW.iald kc_187 sk_187 k4 dX12_falls_29 ?_
      refine AW.iload_n 4 dX12_falls_30 rfl ?_
      refine AW.iadd dX12_falls_31 ?_
      obtain ⟨g5, e6, h⟩ := hBe h
      refine AW.iast kc_187 sk_187 k4 dX12_falls_32 e6 ?_
      refine AW.sub (lv1 := []) [] rfl ?_
      cases h
      exact J19
  refine AW.icmp_le (tgt := 13) dX12_falls_4 (by decide) (fun c9 => ?_) (fun c9 => ?_)
  · refine AW.iload_n 1 dX12_falls_13 rfl ?_
    exact AW.val (e2.trans (if_pos c9)) J4
  · refine AW.sipush dX12_falls_7 (by decide) (by decide) ?_
    refine AW.goto (tgt := 14) dX12_falls_10 (by decide) ?_
    exact AW.val (e2.trans (if_neg c9)) J4
set_option synthInstance.maxHeartbeats 2000000 in
theorem M_aDay_b_ok {z : AZ} {d : Nat} (hdd : 1 ≤ d) {x1 : Int} {x2 : Int} {x3 : Int} {x4 : Int} : ∀ (tag : Nat) (x5 : Int) (g : AG) (r : Int × AG), M_aDay_b x1 x2 x3 x4 tag x5 g = some r → (tag = 1 → AW z (RX12, cX12_aDay, 8, none) d (QD none r) 3 [(0, rv z 117), (1, iv x1), (2, iv x2), (3, iv x3), (4, iv x4), (5, iv x5)] [] g) ∧ (tag = 2 → AW z (RX12, cX12_aDay, 8, none) d (QD none r) 28 [(0, rv z 117), (1, iv x1), (2, iv x2), (3, iv x3), (4, iv x4), (5, iv x5)] [] g) ∧ (tag = 3 → AW z (RX12, cX12_aDay, 8, none) d (QD none r) 122 [(0, rv z 117), (5, iv x5)] [] g) := by
  refine M_aDay_b.partial_correctness x1 x2 x3 x4 (fun tag x5 g r => (tag = 1 → AW z (RX12, cX12_aDay, 8, none) d (QD none r) 3 [(0, rv z 117), (1, iv x1), (2, iv x2), (3, iv x3), (4, iv x4), (5, iv x5)] [] g) ∧ (tag = 2 → AW z (RX12, cX12_aDay, 8, none) d (QD none r) 28 [(0, rv z 117), (1, iv x1), (2, iv x2), (3, iv x3), (4, iv x4), (5, iv x5)] [] g) ∧ (tag = 3 → AW z (RX12, cX12_aDay, 8, none) d (QD none r) 122 [(0, rv z 117), (5, iv x5)] [] g)) ?_
  intro fb9 ih tag x5 g r h
  refine ⟨fun h9 => ?_, fun h9 => ?_, fun h9 => ?_⟩
  · subst h9
    replace h := hT h rfl
    refine AW.iload 5 dX12_aDay_3 rfl ?_
    refine AW.sipush dX12_aDay_5 (by decide) (by decide) ?_
    refine AW.icmp_ge (tgt := 25) dX12_aDay_8 (by decide) (fun c1 => ?_) (fun c1 => ?_)
    · replace h := hT h c1
      refine AW.iconst dX12_aDay_25 ?_
      refine AW.istore (lv1 := [(5, iv 0), (0, rv z 117), (1, iv x1), (2, iv x2), (3, iv x3), (4, iv x4)]) dX12_aDay_26 (by decide) rfl ?_
      refine AW.sub (lv1 := [(0, rv z 117), (1, iv x1), (2, iv x2), (3, iv x3), (4, iv x4), (5, iv 0)]) [1, 2, 3, 4, 5, 0] rfl ?_
      exact (ih _ _ _ _ h).2.1 rfl
    · replace h := hF h c1
      refine AW.aloadr_n 0 dX12_aDay_11 rfl ?_
      refine AW.getR af_X12_229_117 sr_117_99 dX12_aDay_12 ?_
      refine AW.iload 5 dX12_aDay_15 rfl ?_
      refine AW.iconst dX12_aDay_17 ?_
      obtain ⟨k2, h⟩ := hK h
      obtain ⟨g3, e4, h⟩ := hBe h
      refine AW.iast kc_187 sk_187 k2 dX12_aDay_18 e4 ?_
      refine AW.iinc (lv1 := [(5, iv (x5 + 1)), (0, rv z 117), (1, iv x1), (2, iv x2), (3, iv x3), (4, iv x4)]) 5 dX12_aDay_19 rfl (by decide) rfl ?_
      refine AW.goto (tgt := 3) dX12_aDay_22 (by decide) ?_
      refine AW.sub (lv1 := [(0, rv z 117), (1, iv x1), (2, iv x2), (3, iv x3), (4, iv x4), (5, iv (x5 + 1))]) [1, 2, 3, 4, 5, 0] rfl ?_
      exact (ih _ _ _ _ h).1 rfl
  · subst h9
    replace h := hF h (by decide)
    replace h := hT h rfl
    refine AW.iload 5 dX12_aDay_28 rfl ?_
    refine AW.sipush dX12_aDay_30 (by decide) (by decide) ?_
    refine AW.icmp_ge (tgt := 119) dX12_aDay_33 (by decide) (fun c1 => ?_) (fun c1 => ?_)
    · replace h := hT h c1
      refine AW.iconst dX12_aDay_119 ?_
      refine AW.istore (lv1 := [(5, iv 0), (0, rv z 117), (1, iv x1), (2, iv x2), (3, iv x3), (4, iv x4)]) dX12_aDay_120 (by decide) rfl ?_
      refine AW.sub (lv1 := [(0, rv z 117), (5, iv 0)]) [1, 0] rfl ?_
      exact (ih _ _ _ _ h).2.2 rfl
    · replace h := hF h c1
      refine AW.aloadr_n 0 dX12_aDay_36 rfl ?_
      refine AW.getR af_X12_226_117 sr_117_98 dX12_aDay_37 ?_
      refine AW.iload 5 dX12_aDay_40 rfl ?_
      obtain ⟨k2, h⟩ := hK h
      refine AW.iald kc_186 sk_186 k2 dX12_aDay_42 ?_
      obtain ⟨r11, e12, h⟩ := hC h
      refine AW.join (tgt := 113) (lv1 := [(0, rv z 117), (1, iv x1), (2, iv x2), (3, iv x3), (4, iv x4), (5, iv x5)]) (st1 := []) (g1 := r11) ?_ (fun J43 => ?_)
      · refine AW.iinc (lv1 := [(5, iv (x5 + 1)), (0, rv z 117), (1, iv x1), (2, iv x2), (3, iv x3), (4, iv x4)]) 5 dX12_aDay_113 rfl (by decide) rfl ?_
        refine AW.goto (tgt := 28) dX12_aDay_116 (by decide) ?_
        refine AW.sub (lv1 := [(0, rv z 117), (1, iv x1), (2, iv x2), (3, iv x3), (4, iv x4), (5, iv (x5 + 1))]) [1, 2, 3, 4, 5, 0] rfl ?_
        exact (ih _ _ _ _ h).2.1 rfl
      replace h := e12
      refine AW.if_ne (tgt := 49) dX12_aDay_43 (by decide) (fun c3 => ?_) (fun c3 => ?_)
      · replace h := hF h c3
        refine AW.aloadr_n 0 dX12_aDay_49 rfl ?_
        refine AW.getR af_X12_226_117 sr_117_98 dX12_aDay_50 ?_
        refine AW.iload 5 dX12_aDay_53 rfl ?_
        refine AW.iald kc_186 sk_186 k2 dX12_aDay_55 ?_
        refine AW.i2l dX12_aDay_56 ?_
        refine AW.iload_n 2 dX12_aDay_57 rfl ?_
        refine AW.i2l dX12_aDay_58 ?_
        refine AW.lmul dX12_aDay_59 ?_
        refine AW.ldc2 dX12_aDay_60 cw_X12_562 ?_
        refine AW.ldiv dX12_aDay_63 (by decide) ?_
        refine AW.l2i dX12_aDay_64 ?_
        refine AW.istore (lv1 := [(6, iv ((nl ((nw (g 186 (ix x5))) * (nw x2))).tdiv 100)), (0, rv z 117), (1, iv x1), (2, iv x2), (3, iv x3), (4, iv x4), (5, iv x5)]) dX12_aDay_65 (by decide) rfl ?_
        refine AW.iload 6 dX12_aDay_67 rfl ?_
        refine AW.iload_n 2 dX12_aDay_69 rfl ?_
        obtain ⟨t4, e5, h⟩ := hBe h
        refine AW.join (tgt := 81) (lv1 := [(6, iv ((nl ((nw (g 186 (ix x5))) * (nw x2))).tdiv 100)), (0, rv z 117), (1, iv x1), (2, iv x2), (3, iv x3), (4, iv x4), (5, iv x5)]) (st1 := [iv t4]) (g1 := g) ?_ (fun J70 => ?_)
        · refine AW.istore (lv1 := [(7, iv t4), (6, iv ((nl ((nw (g 186 (ix x5))) * (nw x2))).tdiv 100)), (0, rv z 117), (1, iv x1), (2, iv x2), (3, iv x3), (4, iv x4), (5, iv x5)]) dX12_aDay_81 (by decide) rfl ?_
          refine AW.aloadr_n 2 dX12_aDay_83 rfl ?_
          refine AW.iload 0 dX12_aDay_84 rfl ?_
          refine AW.iload_n 5 dX12_aDay_86 rfl ?_
          refine AW.iadd dX12_aDay_87 ?_
          refine AW.iload 6 dX12_aDay_88 rfl ?_
          refine AW.iload 1 dX12_aDay_90 rfl ?_
          obtain ⟨r6, e7, h⟩ := hC h
          refine AW.callVv (As := [iv (t4 + x3), iv x4, iv ((nl ((nw (g 186 (ix x5))) * (nw x2))).tdiv 100)]) (st := []) (M_falls_ok e7) cq_X12_564 cr_117_X12_falls (Nat.le_trans (by decide) hdd) rfl dX12_aDay_92 rfl (Nat.le_of_ble_eq_true rfl) ?_
          refine AW.aloadr_n 2 dX12_aDay_95 rfl ?_
          refine AW.iload 0 dX12_aDay_96 rfl ?_
          refine AW.iload 6 dX12_aDay_98 rfl ?_
          refine AW.aloadr_n 2 dX12_aDay_100 rfl ?_
          refine AW.getR af_X12_226_117 sr_117_98 dX12_aDay_101 ?_
          refine AW.iload 7 dX12_aDay_104 rfl ?_
          refine AW.iald kc_186 sk_186 k2 dX12_aDay_106 ?_
          refine AW.iload 1 dX12_aDay_107 rfl ?_
          refine AW.isub dX12_aDay_109 ?_
          obtain ⟨r8, e9, h⟩ := hC h
          refine AW.callVv (As := [iv t4, iv x4, iv ((r6.2 186 (ix x5)) - ((nl ((nw (g 186 (ix x5))) * (nw x2))).tdiv 100))]) (st := []) (M_falls_ok e9) cq_X12_564 cr_117_X12_falls (Nat.le_trans (by decide) hdd) rfl dX12_aDay_110 rfl (Nat.le_of_ble_eq_true rfl) ?_
          refine AW.sub (lv1 := [(0, rv z 117), (1, iv x1), (2, iv x2), (3, iv x3), (4, iv x4), (5, iv x5)]) [2, 3, 4, 5, 6, 7] rfl ?_
          cases h
          exact J43
        refine AW.icmp_ge (tgt := 77) dX12_aDay_70 (by decide) (fun c10 => ?_) (fun c10 => ?_)
        · refine AW.iload 6 dX12_aDay_77 rfl ?_
          refine AW.iload_n 2 dX12_aDay_79 rfl ?_
          refine AW.isub dX12_aDay_80 ?_
          exact AW.val (e5.trans (if_pos c10)) J70
        · refine AW.iconst dX12_aDay_73 ?_
          refine AW.goto (tgt := 81) dX12_aDay_74 (by decide) ?_
          exact AW.val (e5.trans (if_neg c10)) J70
      · replace h := hT h c3
        refine AW.goto (tgt := 113) dX12_aDay_46 (by decide) ?_
        cases h
        exact J43
  · subst h9
    replace h := hF h (by decide)
    replace h := hF h (by decide)
    replace h := hT h rfl
    refine AW.iload 1 dX12_aDay_122 rfl ?_
    refine AW.sipush dX12_aDay_124 (by decide) (by decide) ?_
    refine AW.icmp_ge (tgt := 150) dX12_aDay_127 (by decide) (fun c1 => ?_) (fun c1 => ?_)
    · replace h := hT h c1
      exact AW.vret1 rfl dX12_aDay_150 h rfl
    · replace h := hF h c1
      refine AW.aloadr_n 0 dX12_aDay_130 rfl ?_
      refine AW.getR af_X12_226_117 sr_117_98 dX12_aDay_131 ?_
      refine AW.iload 1 dX12_aDay_134 rfl ?_
      refine AW.aloadr_n 0 dX12_aDay_136 rfl ?_
      refine AW.getR af_X12_229_117 sr_117_99 dX12_aDay_137 ?_
      refine AW.iload 1 dX12_aDay_140 rfl ?_
      obtain ⟨k2, h⟩ := hK h
      refine AW.iald kc_187 sk_187 k2 dX12_aDay_142 ?_
      obtain ⟨g3, e4, h⟩ := hBe h
      refine AW.iast kc_186 sk_186 k2 dX12_aDay_143 e4 ?_
      refine AW.iinc (lv1 := [(5, iv (x5 + 1)), (0, rv z 117)]) 1 dX12_aDay_144 rfl (by decide) rfl ?_
      refine AW.goto (tgt := 122) dX12_aDay_147 (by decide) ?_
      refine AW.sub (lv1 := [(0, rv z 117), (5, iv (x5 + 1))]) [1, 0] rfl ?_
      exact (ih _ _ _ _ h).2.2 rfl
theorem M_aDay_ok {z : AZ} {x1 : Int} {x2 : Int} {x3 : Int} {x4 : Int} {g : AG} {r : Int × AG} (h : M_aDay x1 x2 x3 x4 g = some r) : AMf z yX12_aDay cX12_aDay 8 none 1 [rv z 117, iv x1, iv x2, iv x3, iv x4] g r := by
  intro d hdd
  refine AM.of (by decide +kernel) (Nat.le_of_ble_eq_true rfl) ?_
  show AW z (RX12, cX12_aDay, 8, none) d (QD none r) 0 [(0, rv z 117), (1, iv x1), (2, iv x2), (3, iv x3), (4, iv x4)] [] g
  unfold M_aDay at h
  refine AW.iconst dX12_aDay_0 ?_
  refine AW.istore (lv1 := [(5, iv 0), (0, rv z 117), (1, iv x1), (2, iv x2), (3, iv x3), (4, iv x4)]) dX12_aDay_1 (by decide) rfl ?_
  refine AW.sub (lv1 := [(0, rv z 117), (1, iv x1), (2, iv x2), (3, iv x3), (4, iv x4), (5, iv 0)]) [1, 2, 3, 4, 5, 0] rfl ?_
  exact (M_aDay_b_ok hdd _ _ _ _ h).1 rfl
set_option synthInstance.maxHeartbeats 2000000 in
theorem M_kept_b_ok {z : AZ} {d : Nat} (hdd : 0 ≤ d) {g : AG} : ∀ (x1 : Int) (x2 : Int) (r : Int × AG), M_kept_b g x1 x2 = some r → AW z (RX12, cX12_kept, 3, (some .int)) d (QD (some .int) r) 4 [(0, rv z 117), (1, iv x1), (2, iv x2)] [] g := by
  refine M_kept_b.partial_correctness g (fun x1 x2 r => AW z (RX12, cX12_kept, 3, (some .int)) d (QD (some .int) r) 4 [(0, rv z 117), (1, iv x1), (2, iv x2)] [] g) ?_
  intro fb9 ih x1 x2 r h
  refine AW.iload_n 2 dX12_kept_4 rfl ?_
  refine AW.sipush dX12_kept_5 (by decide) (by decide) ?_
  refine AW.icmp_ge (tgt := 26) dX12_kept_8 (by decide) (fun c1 => ?_) (fun c1 => ?_)
  · replace h := hT h c1
    refine AW.iload_n 1 dX12_kept_26 rfl ?_
    exact AW.iret1 rfl dX12_kept_27 h rfl
  · replace h := hF h c1
    refine AW.iload_n 1 dX12_kept_11 rfl ?_
    refine AW.aloadr_n 0 dX12_kept_12 rfl ?_
    refine AW.getR af_X12_226_117 sr_117_98 dX12_kept_13 ?_
    refine AW.iload_n 2 dX12_kept_16 rfl ?_
    obtain ⟨k2, h⟩ := hK h
    refine AW.iald kc_186 sk_186 k2 dX12_kept_17 ?_
    refine AW.iadd dX12_kept_18 ?_
    refine AW.istore_n (lv1 := [(1, iv (x1 + (g 186 (ix x2)))), (0, rv z 117), (2, iv x2)]) dX12_kept_19 (by decide) rfl ?_
    refine AW.iinc (lv1 := [(2, iv (x2 + 1)), (1, iv (x1 + (g 186 (ix x2)))), (0, rv z 117)]) 2 dX12_kept_20 rfl (by decide) rfl ?_
    refine AW.goto (tgt := 4) dX12_kept_23 (by decide) ?_
    refine AW.sub (lv1 := [(0, rv z 117), (1, iv (x1 + (g 186 (ix x2)))), (2, iv (x2 + 1))]) [2, 1, 0] rfl ?_
    exact ih _ _ _ h
theorem M_kept_ok {z : AZ} {g : AG} {r : Int × AG} (h : M_kept g = some r) : AMf z yX12_kept cX12_kept 3 (some .int) 0 [rv z 117] g r := by
  intro d hdd
  refine AM.of (by decide +kernel) (Nat.le_of_ble_eq_true rfl) ?_
  show AW z (RX12, cX12_kept, 3, (some .int)) d (QD (some .int) r) 0 [(0, rv z 117)] [] g
  unfold M_kept at h
  refine AW.iconst dX12_kept_0 ?_
  refine AW.istore_n (lv1 := [(1, iv 0), (0, rv z 117)]) dX12_kept_1 (by decide) rfl ?_
  refine AW.iconst dX12_kept_2 ?_
  refine AW.istore_n (lv1 := [(2, iv 0), (1, iv 0), (0, rv z 117)]) dX12_kept_3 (by decide) rfl ?_
  refine AW.sub (lv1 := [(0, rv z 117), (1, iv 0), (2, iv 0)]) [2, 1, 0] rfl ?_
  exact M_kept_b_ok hdd _ _ _ h
set_option synthInstance.maxHeartbeats 2000000 in
theorem M_left_b_ok {z : AZ} {d : Nat} (hdd : 2 ≤ d) {x1 : Int} {x2 : Int} {x3 : Int} {x4 : Int} {x5 : Int} : ∀ (x6 : Int) (g : AG) (r : Int × AG), M_left_b x1 x2 x3 x4 x5 x6 g = some r → AW z (RX12, cX12_left, 7, (some .int)) d (QD (some .int) r) 42 [(0, rv z 117), (1, iv x1), (2, iv x2), (3, iv x3), (4, iv x4), (5, iv x5), (6, iv x6)] [] g := by
  refine M_left_b.partial_correctness x1 x2 x3 x4 x5 (fun x6 g r => AW z (RX12, cX12_left, 7, (some .int)) d (QD (some .int) r) 42 [(0, rv z 117), (1, iv x1), (2, iv x2), (3, iv x3), (4, iv x4), (5, iv x5), (6, iv x6)] [] g) ?_
  intro fb9 ih x6 g r h
  refine AW.iload 6 dX12_left_42 rfl ?_
  refine AW.iload 5 dX12_left_44 rfl ?_
  refine AW.icmp_ge (tgt := 64) dX12_left_46 (by decide) (fun c1 => ?_) (fun c1 => ?_)
  · replace h := hT h c1
    refine AW.aloadr_n 0 dX12_left_64 rfl ?_
    obtain ⟨r2, e3, h⟩ := hC h
    refine AW.callVi (As := []) (st := []) (M_kept_ok e3) cq_X12_577 cr_117_X12_kept (Nat.le_trans (by decide) hdd) rfl dX12_left_65 rfl (Nat.le_of_ble_eq_true rfl) ?_
    exact AW.iret1 rfl dX12_left_68 h rfl
  · replace h := hF h c1
    refine AW.aloadr_n 0 dX12_left_49 rfl ?_
    refine AW.iload_n 1 dX12_left_50 rfl ?_
    refine AW.iload_n 2 dX12_left_51 rfl ?_
    refine AW.iload_n 3 dX12_left_52 rfl ?_
    refine AW.iload 4 dX12_left_53 rfl ?_
    obtain ⟨r4, e5, h⟩ := hC h
    refine AW.callVv (As := [iv x1, iv x2, iv x3, iv x4]) (st := []) (M_aDay_ok e5) cq_X12_573 cr_117_X12_aDay (Nat.le_trans (by decide) hdd) rfl dX12_left_55 rfl (Nat.le_of_ble_eq_true rfl) ?_
    refine AW.iinc (lv1 := [(6, iv (x6 + 1)), (0, rv z 117), (1, iv x1), (2, iv x2), (3, iv x3), (4, iv x4), (5, iv x5)]) 6 dX12_left_58 rfl (by decide) rfl ?_
    refine AW.goto (tgt := 42) dX12_left_61 (by decide) ?_
    refine AW.sub (lv1 := [(0, rv z 117), (1, iv x1), (2, iv x2), (3, iv x3), (4, iv x4), (5, iv x5), (6, iv (x6 + 1))]) [1, 2, 3, 4, 5, 6, 0] rfl ?_
    exact ih _ _ _ h
theorem M_left_ok {z : AZ} {x1 : Int} {x2 : Int} {x3 : Int} {x4 : Int} {x5 : Int} {g : AG} {r : Int × AG} (h : M_left x1 x2 x3 x4 x5 g = some r) : AMf z yX12_left cX12_left 7 (some .int) 2 [rv z 117, iv x1, iv x2, iv x3, iv x4, iv x5] g r := by
  intro d hdd
  refine AM.of (by decide +kernel) (Nat.le_of_ble_eq_true rfl) ?_
  show AW z (RX12, cX12_left, 7, (some .int)) d (QD (some .int) r) 0 [(0, rv z 117), (1, iv x1), (2, iv x2), (3, iv x3), (4, iv x4), (5, iv x5)] [] g
  unfold M_left at h
  refine AW.iload_n 1 dX12_left_0 rfl ?_
  refine AW.iload_n 2 dX12_left_1 rfl ?_
  refine AW.iload_n 3 dX12_left_2 rfl ?_
  refine AW.iload 4 dX12_left_3 rfl ?_
  refine AW.callSi (As := [iv x1, iv x2, iv x3, iv x4]) (st := []) M_canAsk_ok cq_X12_567 st_X12_canAsk (Nat.le_trans (by decide) hdd) rfl dX12_left_5 rfl (Nat.le_of_ble_eq_true rfl) ?_
  refine AW.if_eq (tgt := 22) dX12_left_8 (by decide) (fun c1 => ?_) (fun c1 => ?_)
  · replace h := hT h c1
    refine AW.iconst dX12_left_22 ?_
    exact AW.iret1 rfl dX12_left_23 h rfl
  · replace h := hF h c1
    refine AW.iload 5 dX12_left_11 rfl ?_
    refine AW.iconst dX12_left_13 ?_
    refine AW.bipush dX12_left_14 (by decide) (by decide) ?_
    refine AW.callSi (As := [iv x5, iv 0, iv 60]) (st := []) M_isIn_ok cq_X12_3 st_X12_isIn (Nat.le_trans (by decide) hdd) rfl dX12_left_16 rfl (Nat.le_of_ble_eq_true rfl) ?_
    refine AW.if_ne (tgt := 24) dX12_left_19 (by decide) (fun c2 => ?_) (fun c2 => ?_)
    · replace h := hF h c2
      refine AW.aloadr_n 0 dX12_left_24 rfl ?_
      refine AW.getI af_X12_44_117 sr_117_10 dX12_left_25 ?_
      refine AW.iload 4 dX12_left_28 rfl ?_
      refine AW.icmp_ge (tgt := 35) dX12_left_30 (by decide) (fun c3 => ?_) (fun c3 => ?_)
      · replace h := hT h c3
        refine AW.aloadr_n 0 dX12_left_35 rfl ?_
        obtain ⟨r4, e5, h⟩ := hC h
        refine AW.callVv (As := []) (st := []) (M_starts_ok e5) cq_X12_570 cr_117_X12_starts (Nat.le_trans (by decide) hdd) rfl dX12_left_36 rfl (Nat.le_of_ble_eq_true rfl) ?_
        refine AW.iconst dX12_left_39 ?_
        refine AW.istore (lv1 := [(6, iv 0), (0, rv z 117), (1, iv x1), (2, iv x2), (3, iv x3), (4, iv x4), (5, iv x5)]) dX12_left_40 (by decide) rfl ?_
        refine AW.sub (lv1 := [(0, rv z 117), (1, iv x1), (2, iv x2), (3, iv x3), (4, iv x4), (5, iv x5), (6, iv 0)]) [1, 2, 3, 4, 5, 6, 0] rfl ?_
        exact M_left_b_ok hdd _ _ _ h
      · replace h := hF h c3
        refine AW.iconst dX12_left_33 ?_
        exact AW.iret1 rfl dX12_left_34 h rfl
    · replace h := hT h c2
      refine AW.iconst dX12_left_22 ?_
      exact AW.iret1 rfl dX12_left_23 h rfl
set_option synthInstance.maxHeartbeats 2000000 in
theorem M_shuts_b_ok {z : AZ} {d : Nat} (hdd : 2 ≤ d) {x1 : Int} {x2 : Int} {x3 : Int} {x4 : Int} : ∀ (x5 : Int) (g : AG) (r : Int × AG), M_shuts_b x1 x2 x3 x4 x5 g = some r → AW z (RX12, cX12_shuts, 6, (some .int)) d (QD (some .int) r) 31 [(0, rv z 117), (1, iv x1), (2, iv x2), (3, iv x3), (4, iv x4), (5, iv x5)] [] g := by
  refine M_shuts_b.partial_correctness x1 x2 x3 x4 (fun x5 g r => AW z (RX12, cX12_shuts, 6, (some .int)) d (QD (some .int) r) 31 [(0, rv z 117), (1, iv x1), (2, iv x2), (3, iv x3), (4, iv x4), (5, iv x5)] [] g) ?_
  intro fb9 ih x5 g r h
  refine AW.iload 5 dX12_shuts_31 rfl ?_
  refine AW.bipush dX12_shuts_33 (by decide) (by decide) ?_
  refine AW.icmp_gt (tgt := 66) dX12_shuts_35 (by decide) (fun c1 => ?_) (fun c1 => ?_)
  · replace h := hT h c1
    refine AW.iconst dX12_shuts_66 ?_
    exact AW.iret1 rfl dX12_shuts_67 h rfl
  · replace h := hF h c1
    refine AW.aloadr_n 0 dX12_shuts_38 rfl ?_
    refine AW.iload_n 1 dX12_shuts_39 rfl ?_
    refine AW.iload_n 2 dX12_shuts_40 rfl ?_
    refine AW.iload_n 3 dX12_shuts_41 rfl ?_
    refine AW.iload 4 dX12_shuts_42 rfl ?_
    obtain ⟨r2, e3, h⟩ := hC h
    refine AW.callVv (As := [iv x1, iv x2, iv x3, iv x4]) (st := []) (M_aDay_ok e3) cq_X12_573 cr_117_X12_aDay (Nat.le_trans (by decide) hdd) rfl dX12_shuts_44 rfl (Nat.le_of_ble_eq_true rfl) ?_
    refine AW.aloadr_n 0 dX12_shuts_47 rfl ?_
    obtain ⟨r4, e5, h⟩ := hC h
    refine AW.callVi (As := []) (st := []) (M_kept_ok e5) cq_X12_577 cr_117_X12_kept (Nat.le_trans (by decide) hdd) rfl dX12_shuts_48 rfl (Nat.le_of_ble_eq_true rfl) ?_
    refine AW.ldcw dX12_shuts_51 cw_X12_580 ?_
    refine AW.icmp_ge (tgt := 60) dX12_shuts_54 (by decide) (fun c6 => ?_) (fun c6 => ?_)
    · replace h := hT h c6
      refine AW.iinc (lv1 := [(5, iv (x5 + 1)), (0, rv z 117), (1, iv x1), (2, iv x2), (3, iv x3), (4, iv x4)]) 5 dX12_shuts_60 rfl (by decide) rfl ?_
      refine AW.goto (tgt := 31) dX12_shuts_63 (by decide) ?_
      refine AW.sub (lv1 := [(0, rv z 117), (1, iv x1), (2, iv x2), (3, iv x3), (4, iv x4), (5, iv (x5 + 1))]) [1, 2, 3, 4, 5, 0] rfl ?_
      exact ih _ _ _ h
    · replace h := hF h c6
      refine AW.iload 5 dX12_shuts_57 rfl ?_
      exact AW.iret1 rfl dX12_shuts_59 h rfl
theorem M_shuts_ok {z : AZ} {x1 : Int} {x2 : Int} {x3 : Int} {x4 : Int} {g : AG} {r : Int × AG} (h : M_shuts x1 x2 x3 x4 g = some r) : AMf z yX12_shuts cX12_shuts 6 (some .int) 2 [rv z 117, iv x1, iv x2, iv x3, iv x4] g r := by
  intro d hdd
  refine AM.of (by decide +kernel) (Nat.le_of_ble_eq_true rfl) ?_
  show AW z (RX12, cX12_shuts, 6, (some .int)) d (QD (some .int) r) 0 [(0, rv z 117), (1, iv x1), (2, iv x2), (3, iv x3), (4, iv x4)] [] g
  unfold M_shuts at h
  refine AW.iload_n 1 dX12_shuts_0 rfl ?_
  refine AW.iload_n 2 dX12_shuts_1 rfl ?_
  refine AW.iload_n 3 dX12_shuts_2 rfl ?_
  refine AW.iload 4 dX12_shuts_3 rfl ?_
  refine AW.callSi (As := [iv x1, iv x2, iv x3, iv x4]) (st := []) M_canAsk_ok cq_X12_567 st_X12_canAsk (Nat.le_trans (by decide) hdd) rfl dX12_shuts_5 rfl (Nat.le_of_ble_eq_true rfl) ?_
  refine AW.if_ne (tgt := 13) dX12_shuts_8 (by decide) (fun c1 => ?_) (fun c1 => ?_)
  · replace h := hF h c1
    refine AW.aloadr_n 0 dX12_shuts_13 rfl ?_
    refine AW.getI af_X12_44_117 sr_117_10 dX12_shuts_14 ?_
    refine AW.iload 4 dX12_shuts_17 rfl ?_
    refine AW.icmp_ge (tgt := 24) dX12_shuts_19 (by decide) (fun c2 => ?_) (fun c2 => ?_)
    · replace h := hT h c2
      refine AW.aloadr_n 0 dX12_shuts_24 rfl ?_
      obtain ⟨r3, e4, h⟩ := hC h
      refine AW.callVv (As := []) (st := []) (M_starts_ok e4) cq_X12_570 cr_117_X12_starts (Nat.le_trans (by decide) hdd) rfl dX12_shuts_25 rfl (Nat.le_of_ble_eq_true rfl) ?_
      refine AW.iconst dX12_shuts_28 ?_
      refine AW.istore (lv1 := [(5, iv 1), (0, rv z 117), (1, iv x1), (2, iv x2), (3, iv x3), (4, iv x4)]) dX12_shuts_29 (by decide) rfl ?_
      refine AW.sub (lv1 := [(0, rv z 117), (1, iv x1), (2, iv x2), (3, iv x3), (4, iv x4), (5, iv 1)]) [1, 2, 3, 4, 5, 0] rfl ?_
      exact M_shuts_b_ok hdd _ _ _ h
    · replace h := hF h c2
      refine AW.iconst dX12_shuts_22 ?_
      exact AW.iret1 rfl dX12_shuts_23 h rfl
  · replace h := hT h c1
    refine AW.iconst dX12_shuts_11 ?_
    exact AW.iret1 rfl dX12_shuts_12 h rfl
theorem M_held_ok {z : AZ} {x1 : Int} {x2 : Int} {x3 : Int} {x4 : Int} {g : AG} {r : Int × AG} (h : M_held x1 x2 x3 x4 g = some r) : AMf z yX12_held cX12_held 6 (some .int) 3 [rv z 117, iv x1, iv x2, iv x3, iv x4] g r := by
  intro d hdd
  refine AM.of (by decide +kernel) (Nat.le_of_ble_eq_true rfl) ?_
  show AW z (RX12, cX12_held, 6, (some .int)) d (QD (some .int) r) 0 [(0, rv z 117), (1, iv x1), (2, iv x2), (3, iv x3), (4, iv x4)] [] g
  unfold M_held at h
  refine AW.aloadr_n 0 dX12_held_0 rfl ?_
  refine AW.iload_n 1 dX12_held_1 rfl ?_
  refine AW.callVi (As := [iv x1]) (st := []) M_isBoat_ok cq_X12_435 cr_117_X12_isBoat (Nat.le_trans (by decide) hdd) rfl dX12_held_2 rfl (Nat.le_of_ble_eq_true rfl) ?_
  refine AW.if_eq (tgt := 39) dX12_held_5 (by decide) (fun c1 => ?_) (fun c1 => ?_)
  · replace h := hT h c1
    refine AW.ldcw dX12_held_39 cw_X12_450 ?_
    exact AW.iret1 rfl dX12_held_42 h rfl
  · replace h := hF h c1
    refine AW.iload_n 2 dX12_held_8 rfl ?_
    refine AW.iconst dX12_held_9 ?_
    refine AW.bipush dX12_held_10 (by decide) (by decide) ?_
    refine AW.callSi (As := [iv x2, iv 0, iv 99]) (st := []) M_isIn_ok cq_X12_3 st_X12_isIn (Nat.le_trans (by decide) hdd) rfl dX12_held_12 rfl (Nat.le_of_ble_eq_true rfl) ?_
    refine AW.if_eq (tgt := 39) dX12_held_15 (by decide) (fun c2 => ?_) (fun c2 => ?_)
    · replace h := hT h c2
      refine AW.ldcw dX12_held_39 cw_X12_450 ?_
      exact AW.iret1 rfl dX12_held_42 h rfl
    · replace h := hF h c2
      refine AW.iload_n 3 dX12_held_18 rfl ?_
      refine AW.iconst dX12_held_19 ?_
      refine AW.bipush dX12_held_20 (by decide) (by decide) ?_
      refine AW.callSi (As := [iv x3, iv 0, iv 9]) (st := []) M_isIn_ok cq_X12_3 st_X12_isIn (Nat.le_trans (by decide) hdd) rfl dX12_held_22 rfl (Nat.le_of_ble_eq_true rfl) ?_
      refine AW.if_eq (tgt := 39) dX12_held_25 (by decide) (fun c3 => ?_) (fun c3 => ?_)
      · replace h := hT h c3
        refine AW.ldcw dX12_held_39 cw_X12_450 ?_
        exact AW.iret1 rfl dX12_held_42 h rfl
      · replace h := hF h c3
        refine AW.iload 4 dX12_held_28 rfl ?_
        refine AW.iconst dX12_held_30 ?_
        refine AW.bipush dX12_held_31 (by decide) (by decide) ?_
        refine AW.callSi (As := [iv x4, iv 0, iv 9]) (st := []) M_isIn_ok cq_X12_3 st_X12_isIn (Nat.le_trans (by decide) hdd) rfl dX12_held_33 rfl (Nat.le_of_ble_eq_true rfl) ?_
        refine AW.if_ne (tgt := 43) dX12_held_36 (by decide) (fun c4 => ?_) (fun c4 => ?_)
        · replace h := hF h c4
          refine AW.aloadr_n 0 dX12_held_43 rfl ?_
          obtain ⟨r5, e6, h⟩ := hC h
          refine AW.callVv (As := []) (st := []) (M_forgets_ok e6) cq_X12_401 cr_117_X12_forgets (Nat.le_trans (by decide) hdd) rfl dX12_held_44 rfl (Nat.le_of_ble_eq_true rfl) ?_
          refine AW.aloadr_n 0 dX12_held_47 rfl ?_
          refine AW.getR af_X12_109_117 sr_117_33 dX12_held_48 ?_
          refine AW.iconst dX12_held_51 ?_
          refine AW.iload 4 dX12_held_52 rfl ?_
          obtain ⟨g7, e8, h⟩ := hBe h
          refine AW.iast kc_148 sk_148 (by decide) dX12_held_54 e8 ?_
          refine AW.aloadr_n 0 dX12_held_55 rfl ?_
          refine AW.getR af_X12_109_117 sr_117_33 dX12_held_56 ?_
          refine AW.bipush dX12_held_59 (by decide) (by decide) ?_
          refine AW.iload_n 2 dX12_held_61 rfl ?_
          obtain ⟨g9, e10, h⟩ := hBe h
          refine AW.iast kc_148 sk_148 (by decide) dX12_held_62 e10 ?_
          refine AW.aloadr_n 0 dX12_held_63 rfl ?_
          refine AW.getR af_X12_109_117 sr_117_33 dX12_held_64 ?_
          refine AW.bipush dX12_held_67 (by decide) (by decide) ?_
          refine AW.iload_n 3 dX12_held_69 rfl ?_
          obtain ⟨g11, e12, h⟩ := hBe h
          refine AW.iast kc_148 sk_148 (by decide) dX12_held_70 e12 ?_
          refine AW.aloadr_n 0 dX12_held_71 rfl ?_
          refine AW.getR af_X12_109_117 sr_117_33 dX12_held_72 ?_
          refine AW.bipush dX12_held_75 (by decide) (by decide) ?_
          refine AW.aloadr_n 0 dX12_held_77 rfl ?_
          refine AW.getR af_X12_35_117 sr_117_7 dX12_held_78 ?_
          refine AW.iload_n 1 dX12_held_81 rfl ?_
          obtain ⟨k13, h⟩ := hK h
          refine AW.iald kc_125 sk_125 k13 dX12_held_82 ?_
          obtain ⟨g14, e15, h⟩ := hBe h
          refine AW.iast kc_148 sk_148 (by decide) dX12_held_83 e15 ?_
          refine AW.aloadr_n 0 dX12_held_84 rfl ?_
          refine AW.iconst dX12_held_85 ?_
          obtain ⟨r16, e17, h⟩ := hC h
          refine AW.callVi (As := [iv 3]) (st := []) (M_serves_ok e17) cq_X12_404 cr_117_X12_serves (Nat.le_trans (by decide) hdd) rfl dX12_held_86 rfl (Nat.le_of_ble_eq_true rfl) ?_
          refine AW.istore (lv1 := [(5, iv r16.1), (0, rv z 117), (1, iv x1), (2, iv x2), (3, iv x3), (4, iv x4)]) dX12_held_89 (by decide) rfl ?_
          refine AW.iload 0 dX12_held_91 rfl ?_
          refine AW.iconst dX12_held_93 ?_
          obtain ⟨r22, e23, h⟩ := hC h
          refine AW.join (tgt := 119) (lv1 := []) (st1 := [iv r22.1]) (g1 := r22.2) ?_ (fun J94 => ?_)
          · exact AW.iret1 rfl dX12_held_119 h rfl
          replace h := e23
          refine AW.icmp_ne (tgt := 101) dX12_held_94 (by decide) (fun c18 => ?_) (fun c18 => ?_)
          · replace h := hF h c18
            refine AW.aloadr_n 1 dX12_held_101 rfl ?_
            refine AW.aloadr_n 1 dX12_held_102 rfl ?_
            refine AW.getR af_X12_57_117 sr_117_16 dX12_held_103 ?_
            refine AW.iload 0 dX12_held_106 rfl ?_
            obtain ⟨k19, h⟩ := hK h
            refine AW.iald kc_131 sk_131 k19 dX12_held_108 ?_
            refine AW.aloadr_n 1 dX12_held_109 rfl ?_
            refine AW.getR af_X12_60_117 sr_117_17 dX12_held_110 ?_
            refine AW.iload 0 dX12_held_113 rfl ?_
            refine AW.iald kc_132 sk_132 k19 dX12_held_115 ?_
            obtain ⟨r20, e21, h⟩ := hC h
            refine AW.callVi (As := [iv (r16.2 131 (ix r16.1)), iv (r16.2 132 (ix r16.1))]) (st := []) (M_comesTo_ok e21) cq_X12_397 cr_117_X12_comesTo (Nat.le_trans (by decide) hdd) rfl dX12_held_116 rfl (Nat.le_of_ble_eq_true rfl) ?_
            refine AW.sub (lv1 := []) [] rfl ?_
            cases h
            exact J94
          · replace h := hT h c18
            refine AW.iconst dX12_held_97 ?_
            refine AW.goto (tgt := 119) dX12_held_98 (by decide) ?_
            refine AW.sub (lv1 := []) [] rfl ?_
            cases h
            exact J94
        · replace h := hT h c4
          refine AW.ldcw dX12_held_39 cw_X12_450 ?_
          exact AW.iret1 rfl dX12_held_42 h rfl
theorem M_look_ok {z : AZ} {x1 : Int} {g : AG} : AMf z yX12_look cX12_look 2 (some .int) 0 [rv z 117, iv x1] g ((M_look x1 g), g) := by
  intro d hdd
  refine AM.of (by decide +kernel) (Nat.le_of_ble_eq_true rfl) ?_
  show AW z (RX12, cX12_look, 2, (some .int)) d (QD (some .int) ((M_look x1 g), g)) 0 [(0, rv z 117), (1, iv x1)] [] g
  refine AW.iload_n 1 dX12_look_0 rfl ?_
  by_cases c1 : nw x1 = 0
  · refine AW.tsIn (tgt := 48) 0 dX12_look_1 c1 (by decide) (by decide) (by rfl) (by decide) ?_
    refine AW.aloadr_n 0 dX12_look_48 rfl ?_
    refine AW.getI af_X12_235_117 sr_117_12 dX12_look_49 ?_
    exact AW.iret rfl dX12_look_52 ⟨congrArg (fun v => some (iv v)) (show M_look x1 g = (g 117 12) from ((if_pos c1))).symm, rfl⟩
  · by_cases c2 : nw x1 = 1
    · refine AW.tsIn (tgt := 53) 1 dX12_look_1 c2 (by decide) (by decide) (by rfl) (by decide) ?_
      refine AW.aloadr_n 0 dX12_look_53 rfl ?_
      refine AW.getI af_X12_444_117 sr_117_49 dX12_look_54 ?_
      exact AW.iret rfl dX12_look_57 ⟨congrArg (fun v => some (iv v)) (show M_look x1 g = (g 117 49) from (((if_neg c1).trans (if_pos c2)))).symm, rfl⟩
    · by_cases c3 : nw x1 = 2
      · refine AW.tsIn (tgt := 58) 2 dX12_look_1 c3 (by decide) (by decide) (by rfl) (by decide) ?_
        refine AW.aloadr_n 0 dX12_look_58 rfl ?_
        refine AW.getI af_X12_493_117 sr_117_65 dX12_look_59 ?_
        exact AW.iret rfl dX12_look_62 ⟨congrArg (fun v => some (iv v)) (show M_look x1 g = (g 117 65) from (((if_neg c1).trans ((if_neg c2).trans (if_pos c3))))).symm, rfl⟩
      · by_cases c4 : nw x1 = 3
        · refine AW.tsIn (tgt := 63) 3 dX12_look_1 c4 (by decide) (by decide) (by rfl) (by decide) ?_
          refine AW.aloadr_n 0 dX12_look_63 rfl ?_
          refine AW.getI af_X12_528_117 sr_117_87 dX12_look_64 ?_
          exact AW.iret rfl dX12_look_67 ⟨congrArg (fun v => some (iv v)) (show M_look x1 g = (g 117 87) from (((if_neg c1).trans ((if_neg c2).trans ((if_neg c3).trans (if_pos c4)))))).symm, rfl⟩
        · by_cases c5 : nw x1 = 4
          · refine AW.tsIn (tgt := 68) 4 dX12_look_1 c5 (by decide) (by decide) (by rfl) (by decide) ?_
            refine AW.aloadr_n 0 dX12_look_68 rfl ?_
            refine AW.getI af_X12_475_117 sr_117_59 dX12_look_69 ?_
            exact AW.iret rfl dX12_look_72 ⟨congrArg (fun v => some (iv v)) (show M_look x1 g = (g 117 59) from (((if_neg c1).trans ((if_neg c2).trans ((if_neg c3).trans ((if_neg c4).trans (if_pos c5))))))).symm, rfl⟩
          · by_cases c6 : nw x1 = 5
            · refine AW.tsIn (tgt := 73) 5 dX12_look_1 c6 (by decide) (by decide) (by rfl) (by decide) ?_
              refine AW.aloadr_n 0 dX12_look_73 rfl ?_
              refine AW.getI af_X12_232_117 sr_117_11 dX12_look_74 ?_
              exact AW.iret rfl dX12_look_77 ⟨congrArg (fun v => some (iv v)) (show M_look x1 g = (g 117 11) from (((if_neg c1).trans ((if_neg c2).trans ((if_neg c3).trans ((if_neg c4).trans ((if_neg c5).trans (if_pos c6)))))))).symm, rfl⟩
            · by_cases c7 : nw x1 = 6
              · refine AW.tsIn (tgt := 78) 6 dX12_look_1 c7 (by decide) (by decide) (by rfl) (by decide) ?_
                refine AW.aloadr_n 0 dX12_look_78 rfl ?_
                refine AW.getI af_X12_44_117 sr_117_10 dX12_look_79 ?_
                exact AW.iret rfl dX12_look_82 ⟨congrArg (fun v => some (iv v)) (show M_look x1 g = (g 117 10) from (((if_neg c1).trans ((if_neg c2).trans ((if_neg c3).trans ((if_neg c4).trans ((if_neg c5).trans ((if_neg c6).trans (if_pos c7))))))))).symm, rfl⟩
              · by_cases c8 : nw x1 = 7
                · refine AW.tsIn (tgt := 83) 7 dX12_look_1 c8 (by decide) (by decide) (by rfl) (by decide) ?_
                  refine AW.aloadr_n 0 dX12_look_83 rfl ?_
                  refine AW.getI af_X12_555_117 sr_117_92 dX12_look_84 ?_
                  exact AW.iret rfl dX12_look_87 ⟨congrArg (fun v => some (iv v)) (show M_look x1 g = (g 117 92) from (((if_neg c1).trans ((if_neg c2).trans ((if_neg c3).trans ((if_neg c4).trans ((if_neg c5).trans ((if_neg c6).trans ((if_neg c7).trans (if_pos c8)))))))))).symm, rfl⟩
                · refine AW.tsOut (tgt := 88) dX12_look_1 (by omega) (by decide) ?_
                  refine AW.iconst dX12_look_88 ?_
                  exact AW.iret rfl dX12_look_89 ⟨congrArg (fun v => some (iv v)) (show M_look x1 g = (-1) from (((if_neg c1).trans ((if_neg c2).trans ((if_neg c3).trans ((if_neg c4).trans ((if_neg c5).trans ((if_neg c6).trans ((if_neg c7).trans (if_neg c8)))))))))).symm, rfl⟩
