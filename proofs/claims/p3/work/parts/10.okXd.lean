theorem Trips_refund_ok {z : AZ} {x1 : Int} {g : AG} {r : Int × AG} (h : Trips_refund x1 g = some r) : AMf z yX7_refund cX7_refund 6 (some .int) 6 [rv z 7, iv x1] g r := by
  intro d hdd
  refine AM.of (by decide +kernel) (Nat.le_of_ble_eq_true rfl) ?_
  show AW z (RX7, cX7_refund, 6, (some .int)) d (QD (some .int) r) 0 [(0, rv z 7), (1, iv x1)] [] g
  unfold Trips_refund at h
  refine AW.aloadr_n 0 dX7_refund_0 rfl ?_
  refine AW.iload_n 1 dX7_refund_1 rfl ?_
  refine AW.iconst dX7_refund_2 ?_
  obtain ⟨r1, e2, h⟩ := hC h
  refine AW.callVi (As := [iv x1, iv 1]) (st := []) (Trips_lateBy_ok e2) cq_X7_60 cr_7_X7_lateBy (Nat.le_trans (by decide) hdd) rfl dX7_refund_3 rfl (Nat.le_of_ble_eq_true rfl) ?_
  refine AW.istore_n (lv1 := [(2, iv r1.1), (0, rv z 7), (1, iv x1)]) dX7_refund_6 (by decide) rfl ?_
  refine AW.iload_n 0 dX7_refund_7 rfl ?_
  refine AW.if_ne (tgt := 13) dX7_refund_8 (by decide) (fun c3 => ?_) (fun c3 => ?_)
  · replace h := hF h c3
    refine AW.aloadr_n 1 dX7_refund_13 rfl ?_
    refine AW.getR af_X7_27_7 sr_7_0 dX7_refund_14 ?_
    refine AW.aloadr_n 1 dX7_refund_17 rfl ?_
    refine AW.getR af_X7_9_7 sr_7_3 dX7_refund_18 ?_
    refine AW.iload_n 2 dX7_refund_21 rfl ?_
    obtain ⟨k4, h⟩ := hK h
    refine AW.iald kc_76 sk_76 k4 dX7_refund_22 ?_
    refine AW.aloadr_n 1 dX7_refund_23 rfl ?_
    refine AW.getR af_X7_21_7 sr_7_6 dX7_refund_24 ?_
    refine AW.iload_n 2 dX7_refund_27 rfl ?_
    refine AW.iald kc_79 sk_79 k4 dX7_refund_28 ?_
    refine AW.sipush dX7_refund_29 (by decide) (by decide) ?_
    refine AW.idiv dX7_refund_32 (by decide) ?_
    refine AW.bipush dX7_refund_33 (by decide) (by decide) ?_
    refine AW.idiv dX7_refund_35 (by decide) ?_
    refine AW.aloadr_n 1 dX7_refund_36 rfl ?_
    refine AW.getR af_X7_15_7 sr_7_4 dX7_refund_37 ?_
    refine AW.iload_n 2 dX7_refund_40 rfl ?_
    refine AW.iald kc_77 sk_77 k4 dX7_refund_41 ?_
    refine AW.aloadr_n 1 dX7_refund_42 rfl ?_
    refine AW.getR af_X7_18_7 sr_7_5 dX7_refund_43 ?_
    refine AW.iload_n 2 dX7_refund_46 rfl ?_
    refine AW.iald kc_78 sk_78 k4 dX7_refund_47 ?_
    obtain ⟨t5, e6, h⟩ := hBe h
    refine AW.join (tgt := 56) (lv1 := [(2, iv r1.1), (0, rv z 7), (1, iv x1)]) (st1 := [iv t5, iv ((nw ((nw (r1.2 79 (ix x1))).tdiv 1440)).tdiv 7), iv (r1.2 76 (ix x1)), rv z 6]) (g1 := r1.2) ?_ (fun J48 => ?_)
    · obtain ⟨r7, e8, h⟩ := hC h
      refine AW.callVi (As := [iv (r1.2 76 (ix x1)), iv ((nw ((nw (r1.2 79 (ix x1))).tdiv 1440)).tdiv 7), iv t5]) (st := []) (Boats_priceLine_ok e8) cq_X7_73 cr_6_X0_priceLine (Nat.le_trans (by decide) hdd) rfl dX7_refund_56 rfl (Nat.le_of_ble_eq_true rfl) ?_
      refine AW.istore_n (lv1 := [(3, iv r7.1), (2, iv r1.1), (0, rv z 7), (1, iv x1)]) dX7_refund_59 (by decide) rfl ?_
      refine AW.iload_n 0 dX7_refund_60 rfl ?_
      refine AW.iconst dX7_refund_61 ?_
      refine AW.icmp_ne (tgt := 68) dX7_refund_62 (by decide) (fun c9 => ?_) (fun c9 => ?_)
      · replace h := hF h c9
        refine AW.bipush dX7_refund_68 (by decide) (by decide) ?_
        refine AW.iload_n 1 dX7_refund_70 rfl ?_
        refine AW.sipush dX7_refund_71 (by decide) (by decide) ?_
        refine AW.iadd dX7_refund_74 ?_
        refine AW.iconst dX7_refund_75 ?_
        refine AW.isub dX7_refund_76 ?_
        refine AW.sipush dX7_refund_77 (by decide) (by decide) ?_
        refine AW.idiv dX7_refund_80 (by decide) ?_
        refine AW.mmin (st := []) cm_X7_77 mst_min mini mcd_min (Nat.le_trans (by decide) hdd) (Nat.le_of_ble_eq_true rfl) dX7_refund_81 ?_
        refine AW.i2l dX7_refund_84 ?_
        refine AW.lstore (lv1 := [(4, jv (nw (mnI 7 ((nw ((r1.1 + 1440) - 1)).tdiv 1440)))), (3, iv r7.1), (2, iv r1.1), (0, rv z 7), (1, iv x1)]) dX7_refund_85 (by decide) rfl ?_
        refine AW.aloadr_n 3 dX7_refund_87 rfl ?_
        refine AW.getR af_X7_31_7 sr_7_1 dX7_refund_88 ?_
        refine AW.iload_n 1 dX7_refund_91 rfl ?_
        obtain ⟨r10, e11, h⟩ := hC h
        refine AW.callVi (As := [iv r7.1]) (st := []) (Rules_valueOf_ok e11) cq_X7_80 cr_2_X6_valueOf (Nat.le_trans (by decide) hdd) rfl dX7_refund_92 rfl (Nat.le_of_ble_eq_true rfl) ?_
        refine AW.i2l dX7_refund_95 ?_
        refine AW.lload 0 dX7_refund_96 rfl ?_
        refine AW.lmul dX7_refund_98 ?_
        refine AW.ldc2 dX7_refund_99 cw_X7_85 ?_
        refine AW.ldiv dX7_refund_102 (by decide) ?_
        refine AW.l2i dX7_refund_103 ?_
        exact AW.iret1 rfl dX7_refund_104 h rfl
      · replace h := hT h c9
        refine AW.ldc dX7_refund_65 cw_X7_64 ?_
        exact AW.iret1 rfl dX7_refund_67 h rfl
    refine AW.icmp_eq (tgt := 55) dX7_refund_48 (by decide) (fun c12 => ?_) (fun c12 => ?_)
    · refine AW.iconst dX7_refund_55 ?_
      exact AW.val (e6.trans (if_pos c12)) J48
    · refine AW.iconst dX7_refund_51 ?_
      refine AW.goto (tgt := 56) dX7_refund_52 (by decide) ?_
      exact AW.val (e6.trans (if_neg c12)) J48
  · replace h := hT h c3
    refine AW.iconst dX7_refund_11 ?_
    exact AW.iret1 rfl dX7_refund_12 h rfl
theorem Trips_isBackInTime_ok {z : AZ} {x1 : Int} {x2 : Int} {g : AG} {r : Int × AG} (h : Trips_isBackInTime x1 x2 g = some r) : AMf z yX7_isBackInTime cX7_isBackInTime 6 (some .boolean) 5 [rv z 7, iv x1, iv x2] g r := by
  intro d hdd
  refine AM.of (by decide +kernel) (Nat.le_of_ble_eq_true rfl) ?_
  show AW z (RX7, cX7_isBackInTime, 6, (some .boolean)) d (QD (some .boolean) r) 0 [(0, rv z 7), (1, iv x1), (2, iv x2)] [] g
  unfold Trips_isBackInTime at h
  refine AW.aloadr_n 0 dX7_isBackInTime_0 rfl ?_
  refine AW.getR af_X7_27_7 sr_7_0 dX7_isBackInTime_1 ?_
  refine AW.getR af_X7_43_6 sr_6_6 dX7_isBackInTime_4 ?_
  refine AW.aloadr_n 0 dX7_isBackInTime_7 rfl ?_
  refine AW.getR af_X7_9_7 sr_7_3 dX7_isBackInTime_8 ?_
  refine AW.iload_n 1 dX7_isBackInTime_11 rfl ?_
  obtain ⟨k1, h⟩ := hK h
  refine AW.iald kc_76 sk_76 k1 dX7_isBackInTime_12 ?_
  obtain ⟨k2, h⟩ := hK h
  refine AW.iald kc_51 sk_51 k2 dX7_isBackInTime_13 ?_
  refine AW.istore_n (lv1 := [(3, iv (g 51 (ix (g 76 (ix x1))))), (0, rv z 7), (1, iv x1), (2, iv x2)]) dX7_isBackInTime_14 (by decide) rfl ?_
  refine AW.aloadr_n 1 dX7_isBackInTime_15 rfl ?_
  refine AW.getR af_X7_35_7 sr_7_2 dX7_isBackInTime_16 ?_
  refine AW.iload_n 0 dX7_isBackInTime_19 rfl ?_
  refine AW.aloadr_n 1 dX7_isBackInTime_20 rfl ?_
  refine AW.getR af_X7_15_7 sr_7_4 dX7_isBackInTime_21 ?_
  refine AW.iload_n 2 dX7_isBackInTime_24 rfl ?_
  refine AW.iald kc_77 sk_77 k1 dX7_isBackInTime_25 ?_
  refine AW.iload_n 3 dX7_isBackInTime_26 rfl ?_
  refine AW.aloadr_n 1 dX7_isBackInTime_27 rfl ?_
  refine AW.getR af_X7_21_7 sr_7_6 dX7_isBackInTime_28 ?_
  refine AW.iload_n 2 dX7_isBackInTime_31 rfl ?_
  refine AW.iald kc_79 sk_79 k1 dX7_isBackInTime_32 ?_
  refine AW.iconst dX7_isBackInTime_33 ?_
  obtain ⟨r3, e4, h⟩ := hC h
  refine AW.callVi (As := [iv (g 51 (ix (g 76 (ix x1)))), iv (g 77 (ix x1)), iv x2, iv (g 79 (ix x1)), iv 1]) (st := []) (Voyage_comesTo_ok e4) cq_X7_48 cr_5_X9_comesTo (Nat.le_trans (by decide) hdd) rfl dX7_isBackInTime_34 rfl (Nat.le_of_ble_eq_true rfl) ?_
  refine AW.istore (lv1 := [(4, iv r3.1), (3, iv (g 51 (ix (g 76 (ix x1))))), (0, rv z 7), (1, iv x1), (2, iv x2)]) dX7_isBackInTime_37 (by decide) rfl ?_
  refine AW.iload 0 dX7_isBackInTime_39 rfl ?_
  refine AW.iconst dX7_isBackInTime_41 ?_
  refine AW.icmp_ne (tgt := 47) dX7_isBackInTime_42 (by decide) (fun c5 => ?_) (fun c5 => ?_)
  · replace h := hF h c5
    refine AW.aloadr_n 2 dX7_isBackInTime_47 rfl ?_
    refine AW.getR af_X7_35_7 sr_7_2 dX7_isBackInTime_48 ?_
    refine AW.iload_n 1 dX7_isBackInTime_51 rfl ?_
    refine AW.iload_n 4 dX7_isBackInTime_52 rfl ?_
    refine AW.aloadr_n 2 dX7_isBackInTime_53 rfl ?_
    refine AW.getR af_X7_15_7 sr_7_4 dX7_isBackInTime_54 ?_
    refine AW.iload_n 3 dX7_isBackInTime_57 rfl ?_
    refine AW.iald kc_77 sk_77 k1 dX7_isBackInTime_58 ?_
    refine AW.iload 0 dX7_isBackInTime_59 rfl ?_
    refine AW.iconst dX7_isBackInTime_61 ?_
    obtain ⟨r6, e7, h⟩ := hC h
    refine AW.callVi (As := [iv (g 51 (ix (g 76 (ix x1)))), iv x2, iv (r3.2 77 (ix x1)), iv r3.1, iv 1]) (st := []) (Voyage_comesTo_ok e7) cq_X7_48 cr_5_X9_comesTo (Nat.le_trans (by decide) hdd) rfl dX7_isBackInTime_62 rfl (Nat.le_of_ble_eq_true rfl) ?_
    refine AW.istore (lv1 := [(5, iv r6.1), (4, iv r3.1), (3, iv (g 51 (ix (g 76 (ix x1))))), (0, rv z 7), (1, iv x1), (2, iv x2)]) dX7_isBackInTime_65 (by decide) rfl ?_
    refine AW.iload 0 dX7_isBackInTime_67 rfl ?_
    refine AW.iconst dX7_isBackInTime_69 ?_
    obtain ⟨r12, e13, h⟩ := hC h
    refine AW.join (tgt := 89) (lv1 := []) (st1 := [iv r12.1]) (g1 := r12.2) ?_ (fun J70 => ?_)
    · obtain ⟨k14, h⟩ := hK h
      exact AW.zret1 rfl k14 dX7_isBackInTime_89 h rfl
    replace h := e13
    refine AW.icmp_eq (tgt := 88) dX7_isBackInTime_70 (by decide) (fun c8 => ?_) (fun c8 => ?_)
    · replace h := hT h c8
      refine AW.iconst dX7_isBackInTime_88 ?_
      refine AW.sub (lv1 := []) [] rfl ?_
      cases h
      exact J70
    · replace h := hF h c8
      refine AW.iload 0 dX7_isBackInTime_73 rfl ?_
      refine AW.aloadr_n 3 dX7_isBackInTime_75 rfl ?_
      refine AW.getR af_X7_24_7 sr_7_7 dX7_isBackInTime_76 ?_
      refine AW.iload_n 4 dX7_isBackInTime_79 rfl ?_
      refine AW.iald kc_80 sk_80 k1 dX7_isBackInTime_80 ?_
      obtain ⟨t9, e10, h⟩ := hBe h
      refine AW.join (tgt := 89) (lv1 := [(5, iv r6.1), (4, iv r3.1), (3, iv (g 51 (ix (g 76 (ix x1))))), (0, rv z 7), (1, iv x1), (2, iv x2)]) (st1 := [iv t9]) (g1 := r6.2) ?_ (fun J81 => ?_)
      · refine AW.sub (lv1 := []) [] rfl ?_
        cases h
        exact J70
      refine AW.icmp_gt (tgt := 88) dX7_isBackInTime_81 (by decide) (fun c11 => ?_) (fun c11 => ?_)
      · refine AW.iconst dX7_isBackInTime_88 ?_
        exact AW.val (e10.trans (if_pos c11)) J81
      · refine AW.iconst dX7_isBackInTime_84 ?_
        refine AW.goto (tgt := 89) dX7_isBackInTime_85 (by decide) ?_
        exact AW.val (e10.trans (if_neg c11)) J81
  · replace h := hT h c5
    refine AW.iconst dX7_isBackInTime_45 ?_
    exact AW.zret1 rfl (Or.inl rfl) dX7_isBackInTime_46 h rfl
set_option synthInstance.maxHeartbeats 2000000 in
theorem Trips_turningBack_b_ok {z : AZ} {d : Nat} (hdd : 6 ≤ d) {x1 : Int} {x3 : Int} {x4 : Int} : ∀ (x2 : Int) (x5 : Int) (g : AG) (r : Int × AG), Trips_turningBack_b x1 x3 x4 x2 x5 g = some r → AW z (RX7, cX7_turningBack, 7, (some .int)) d (QD (some .int) r) 45 [(0, rv z 7), (1, iv x1), (2, iv x2), (3, iv x3), (4, iv x4), (5, iv x5)] [] g := by
  refine Trips_turningBack_b.partial_correctness x1 x3 x4 (fun x2 x5 g r => AW z (RX7, cX7_turningBack, 7, (some .int)) d (QD (some .int) r) 45 [(0, rv z 7), (1, iv x1), (2, iv x2), (3, iv x3), (4, iv x4), (5, iv x5)] [] g) ?_
  intro fb9 ih x2 x5 g r h
  refine AW.iload 5 dX7_turningBack_45 rfl ?_
  refine AW.iload 4 dX7_turningBack_47 rfl ?_
  refine AW.icmp_gt (tgt := 84) dX7_turningBack_49 (by decide) (fun c1 => ?_) (fun c1 => ?_)
  · replace h := hT h c1
    refine AW.iload_n 2 dX7_turningBack_84 rfl ?_
    exact AW.iret1 rfl dX7_turningBack_85 h rfl
  · replace h := hF h c1
    refine AW.aloadr_n 0 dX7_turningBack_52 rfl ?_
    refine AW.getR af_X7_15_7 sr_7_4 dX7_turningBack_53 ?_
    refine AW.iload_n 1 dX7_turningBack_56 rfl ?_
    obtain ⟨k2, h⟩ := hK h
    refine AW.iald kc_77 sk_77 k2 dX7_turningBack_57 ?_
    refine AW.iload 5 dX7_turningBack_58 rfl ?_
    refine AW.iload_n 3 dX7_turningBack_60 rfl ?_
    refine AW.imul dX7_turningBack_61 ?_
    refine AW.iadd dX7_turningBack_62 ?_
    refine AW.istore (lv1 := [(6, iv ((g 77 (ix x1)) + (x5 * x3))), (0, rv z 7), (1, iv x1), (2, iv x2), (3, iv x3), (4, iv x4), (5, iv x5)]) dX7_turningBack_63 (by decide) rfl ?_
    refine AW.aloadr_n 1 dX7_turningBack_65 rfl ?_
    refine AW.iload_n 2 dX7_turningBack_66 rfl ?_
    refine AW.iload 0 dX7_turningBack_67 rfl ?_
    obtain ⟨r3, e4, h⟩ := hC h
    refine AW.callVi (As := [iv x1, iv ((g 77 (ix x1)) + (x5 * x3))]) (st := []) (Trips_isBackInTime_ok e4) cq_X7_69 cr_7_X7_isBackInTime (Nat.le_trans (by decide) hdd) rfl dX7_turningBack_69 rfl (Nat.le_of_ble_eq_true rfl) ?_
    obtain ⟨r6, e7, h⟩ := hC h
    refine AW.join (tgt := 78) (lv1 := [(0, rv z 7), (1, iv x1), (2, iv r6.1), (3, iv x3), (4, iv x4), (5, iv x5)]) (st1 := []) (g1 := r6.2) ?_ (fun J72 => ?_)
    · refine AW.iinc (lv1 := [(5, iv (x5 + 1)), (0, rv z 7), (1, iv x1), (2, iv r6.1), (3, iv x3), (4, iv x4)]) 5 dX7_turningBack_78 rfl (by decide) rfl ?_
      refine AW.goto (tgt := 45) dX7_turningBack_81 (by decide) ?_
      refine AW.sub (lv1 := [(0, rv z 7), (1, iv x1), (2, iv r6.1), (3, iv x3), (4, iv x4), (5, iv (x5 + 1))]) [1, 2, 3, 4, 5, 0] rfl ?_
      exact ih _ _ _ _ h
    replace h := e7
    refine AW.if_eq (tgt := 78) dX7_turningBack_72 (by decide) (fun c5 => ?_) (fun c5 => ?_)
    · replace h := hT h c5
      refine AW.sub (lv1 := [(0, rv z 7), (1, iv x1), (2, iv x2), (3, iv x3), (4, iv x4), (5, iv x5)]) [1, 2, 3, 4, 5, 6] rfl ?_
      cases h
      exact J72
    · replace h := hF h c5
      refine AW.iload 0 dX7_turningBack_75 rfl ?_
      refine AW.istore_n (lv1 := [(2, iv ((g 77 (ix x1)) + (x5 * x3))), (6, iv ((g 77 (ix x1)) + (x5 * x3))), (0, rv z 7), (1, iv x1), (3, iv x3), (4, iv x4), (5, iv x5)]) dX7_turningBack_77 (by decide) rfl ?_
      refine AW.sub (lv1 := [(0, rv z 7), (1, iv x1), (2, iv ((g 77 (ix x1)) + (x5 * x3))), (3, iv x3), (4, iv x4), (5, iv x5)]) [2, 3, 0, 4, 5, 6] rfl ?_
      cases h
      exact J72
theorem Trips_turningBack_ok {z : AZ} {x1 : Int} {g : AG} {r : Int × AG} (h : Trips_turningBack x1 g = some r) : AMf z yX7_turningBack cX7_turningBack 7 (some .int) 6 [rv z 7, iv x1] g r := by
  intro d hdd
  refine AM.of (by decide +kernel) (Nat.le_of_ble_eq_true rfl) ?_
  show AW z (RX7, cX7_turningBack, 7, (some .int)) d (QD (some .int) r) 0 [(0, rv z 7), (1, iv x1)] [] g
  unfold Trips_turningBack at h
  refine AW.ldc dX7_turningBack_0 cw_X7_64 ?_
  refine AW.istore_n (lv1 := [(2, iv (-1000000)), (0, rv z 7), (1, iv x1)]) dX7_turningBack_2 (by decide) rfl ?_
  refine AW.aloadr_n 1 dX7_turningBack_3 rfl ?_
  refine AW.getR af_X7_18_7 sr_7_5 dX7_turningBack_4 ?_
  refine AW.iload_n 2 dX7_turningBack_7 rfl ?_
  obtain ⟨k1, h⟩ := hK h
  refine AW.iald kc_78 sk_78 k1 dX7_turningBack_8 ?_
  refine AW.aloadr_n 1 dX7_turningBack_9 rfl ?_
  refine AW.getR af_X7_15_7 sr_7_4 dX7_turningBack_10 ?_
  refine AW.iload_n 2 dX7_turningBack_13 rfl ?_
  refine AW.iald kc_77 sk_77 k1 dX7_turningBack_14 ?_
  obtain ⟨t2, e3, h⟩ := hBe h
  refine AW.join (tgt := 23) (lv1 := [(2, iv (-1000000)), (0, rv z 7), (1, iv x1)]) (st1 := [iv t2]) (g1 := g) ?_ (fun J15 => ?_)
  · refine AW.istore_n (lv1 := [(3, iv t2), (2, iv (-1000000)), (0, rv z 7), (1, iv x1)]) dX7_turningBack_23 (by decide) rfl ?_
    refine AW.aloadr_n 2 dX7_turningBack_24 rfl ?_
    refine AW.getR af_X7_18_7 sr_7_5 dX7_turningBack_25 ?_
    refine AW.iload_n 3 dX7_turningBack_28 rfl ?_
    refine AW.iald kc_78 sk_78 k1 dX7_turningBack_29 ?_
    refine AW.aloadr_n 2 dX7_turningBack_30 rfl ?_
    refine AW.getR af_X7_15_7 sr_7_4 dX7_turningBack_31 ?_
    refine AW.iload_n 3 dX7_turningBack_34 rfl ?_
    refine AW.iald kc_77 sk_77 k1 dX7_turningBack_35 ?_
    refine AW.isub dX7_turningBack_36 ?_
    refine AW.mabs (st := []) cm_X7_65 mst_abs mini mcd_abs (Nat.le_trans (by decide) hdd) (Nat.le_of_ble_eq_true rfl) dX7_turningBack_37 ?_
    refine AW.istore (lv1 := [(4, iv (abI ((g 78 (ix x1)) - (g 77 (ix x1))))), (3, iv t2), (2, iv (-1000000)), (0, rv z 7), (1, iv x1)]) dX7_turningBack_40 (by decide) rfl ?_
    refine AW.iconst dX7_turningBack_42 ?_
    refine AW.istore (lv1 := [(5, iv 0), (4, iv (abI ((g 78 (ix x1)) - (g 77 (ix x1))))), (3, iv t2), (2, iv (-1000000)), (0, rv z 7), (1, iv x1)]) dX7_turningBack_43 (by decide) rfl ?_
    refine AW.sub (lv1 := [(0, rv z 7), (1, iv x1), (2, iv (-1000000)), (3, iv t2), (4, iv (abI ((g 78 (ix x1)) - (g 77 (ix x1))))), (5, iv 0)]) [4, 5, 3, 2, 1, 0] rfl ?_
    exact Trips_turningBack_b_ok hdd _ _ _ _ h
  refine AW.icmp_ge (tgt := 22) dX7_turningBack_15 (by decide) (fun c4 => ?_) (fun c4 => ?_)
  · refine AW.iconst dX7_turningBack_22 ?_
    exact AW.val (e3.trans (if_pos c4)) J15
  · refine AW.iconst dX7_turningBack_18 ?_
    refine AW.goto (tgt := 23) dX7_turningBack_19 (by decide) ?_
    exact AW.val (e3.trans (if_neg c4)) J15
theorem X_back_ok {z : AZ} {x1 : Int} {x2 : Int} {g : AG} {r : Int × AG} (h : X_back x1 x2 g = some r) : AMf z yX11_back cX11_back 3 (some .int) 7 [rv z 0, iv x1, iv x2] g r := by
  intro d hdd
  refine AM.of (by decide +kernel) (Nat.le_of_ble_eq_true rfl) ?_
  show AW z (RX11, cX11_back, 3, (some .int)) d (QD (some .int) r) 0 [(0, rv z 0), (1, iv x1), (2, iv x2)] [] g
  unfold X_back at h
  refine AW.iload_n 1 dX11_back_0 rfl ?_
  refine AW.iconst dX11_back_1 ?_
  refine AW.aloadr_n 0 dX11_back_2 rfl ?_
  refine AW.getR af_X11_58_0 sr_0_6 dX11_back_3 ?_
  refine AW.getI af_X11_197_7 sr_7_8 dX11_back_6 ?_
  refine AW.iconst dX11_back_9 ?_
  refine AW.isub dX11_back_10 ?_
  refine AW.callSi (As := [iv x1, iv 0, iv ((g 7 8) - 1)]) (st := []) X_within_ok cq_X11_99 st_X11_within (Nat.le_trans (by decide) hdd) rfl dX11_back_11 rfl (Nat.le_of_ble_eq_true rfl) ?_
  refine AW.if_ne (tgt := 20) dX11_back_14 (by decide) (fun c1 => ?_) (fun c1 => ?_)
  · replace h := hF h c1
    refine AW.iload_n 2 dX11_back_20 rfl ?_
    refine AW.if_ne (tgt := 33) dX11_back_21 (by decide) (fun c2 => ?_) (fun c2 => ?_)
    · replace h := hF h c2
      refine AW.iload_n 2 dX11_back_33 rfl ?_
      refine AW.iconst dX11_back_34 ?_
      obtain ⟨r6, e7, h⟩ := hC h
      refine AW.join (tgt := 51) (lv1 := []) (st1 := [iv r6.1]) (g1 := r6.2) ?_ (fun J35 => ?_)
      · exact AW.iret1 rfl dX11_back_51 h rfl
      replace h := e7
      refine AW.icmp_ne (tgt := 49) dX11_back_35 (by decide) (fun c3 => ?_) (fun c3 => ?_)
      · replace h := hF h c3
        refine AW.ldc dX11_back_49 cw_X11_198 ?_
        refine AW.sub (lv1 := []) [] rfl ?_
        cases h
        exact J35
      · replace h := hT h c3
        refine AW.aloadr_n 0 dX11_back_38 rfl ?_
        refine AW.getR af_X11_58_0 sr_0_6 dX11_back_39 ?_
        refine AW.iload_n 1 dX11_back_42 rfl ?_
        obtain ⟨r4, e5, h⟩ := hC h
        refine AW.callVi (As := [iv x1]) (st := []) (Trips_refund_ok e5) cq_X11_202 cr_7_X7_refund (Nat.le_trans (by decide) hdd) rfl dX11_back_43 rfl (Nat.le_of_ble_eq_true rfl) ?_
        refine AW.goto (tgt := 51) dX11_back_46 (by decide) ?_
        refine AW.sub (lv1 := []) [] rfl ?_
        cases h
        exact J35
    · replace h := hT h c2
      refine AW.aloadr_n 0 dX11_back_24 rfl ?_
      refine AW.getR af_X11_58_0 sr_0_6 dX11_back_25 ?_
      refine AW.iload_n 1 dX11_back_28 rfl ?_
      obtain ⟨r8, e9, h⟩ := hC h
      refine AW.callVi (As := [iv x1]) (st := []) (Trips_turningBack_ok e9) cq_X11_199 cr_7_X7_turningBack (Nat.le_trans (by decide) hdd) rfl dX11_back_29 rfl (Nat.le_of_ble_eq_true rfl) ?_
      exact AW.iret1 rfl dX11_back_32 h rfl
  · replace h := hT h c1
    refine AW.ldc dX11_back_17 cw_X11_198 ?_
    exact AW.iret1 rfl dX11_back_19 h rfl
set_option synthInstance.maxHeartbeats 2000000 in
theorem X_rung_b_ok {z : AZ} {d : Nat} (hdd : 6 ≤ d) : ∀ (x1 : Int) (x2 : Int) (g : AG) (r : Int × AG), X_rung_b x1 x2 g = some r → AW z (RX11, cX11_rung, 3, (some .int)) d (QD (some .int) r) 4 [(0, rv z 0), (1, iv x1), (2, iv x2)] [] g := by
  refine X_rung_b.partial_correctness (fun x1 x2 g r => AW z (RX11, cX11_rung, 3, (some .int)) d (QD (some .int) r) 4 [(0, rv z 0), (1, iv x1), (2, iv x2)] [] g) ?_
  intro fb9 ih x1 x2 g r h
  refine AW.iload_n 2 dX11_rung_4 rfl ?_
  refine AW.aloadr_n 0 dX11_rung_5 rfl ?_
  refine AW.getR af_X11_58_0 sr_0_6 dX11_rung_6 ?_
  refine AW.getI af_X11_197_7 sr_7_8 dX11_rung_9 ?_
  refine AW.icmp_ge (tgt := 51) dX11_rung_12 (by decide) (fun c1 => ?_) (fun c1 => ?_)
  · replace h := hT h c1
    refine AW.iload_n 1 dX11_rung_51 rfl ?_
    exact AW.iret1 rfl dX11_rung_52 h rfl
  · replace h := hF h c1
    refine AW.aloadr_n 0 dX11_rung_15 rfl ?_
    refine AW.getR af_X11_58_0 sr_0_6 dX11_rung_16 ?_
    refine AW.iload_n 2 dX11_rung_19 rfl ?_
    refine AW.iconst dX11_rung_20 ?_
    obtain ⟨r2, e3, h⟩ := hC h
    refine AW.callVi (As := [iv x2, iv 1]) (st := []) (Trips_lateBy_ok e3) cq_X11_205 cr_7_X7_lateBy (Nat.le_trans (by decide) hdd) rfl dX11_rung_21 rfl (Nat.le_of_ble_eq_true rfl) ?_
    obtain ⟨r8, e9, h⟩ := hC h
    refine AW.join (tgt := 45) (lv1 := [(0, rv z 0), (1, iv r8.1), (2, iv x2)]) (st1 := []) (g1 := r8.2) ?_ (fun J24 => ?_)
    · refine AW.iinc (lv1 := [(2, iv (x2 + 1)), (0, rv z 0), (1, iv r8.1)]) 2 dX11_rung_45 rfl (by decide) rfl ?_
      refine AW.goto (tgt := 4) dX11_rung_48 (by decide) ?_
      refine AW.sub (lv1 := [(0, rv z 0), (1, iv r8.1), (2, iv (x2 + 1))]) [1, 2, 0] rfl ?_
      exact ih _ _ _ _ h
    replace h := e9
    refine AW.if_le (tgt := 45) dX11_rung_24 (by decide) (fun c4 => ?_) (fun c4 => ?_)
    · replace h := hT h c4
      cases h
      exact J24
    · replace h := hF h c4
      refine AW.aloadr_n 0 dX11_rung_27 rfl ?_
      refine AW.getR af_X11_58_0 sr_0_6 dX11_rung_28 ?_
      refine AW.iload_n 2 dX11_rung_31 rfl ?_
      refine AW.iconst dX11_rung_32 ?_
      obtain ⟨r5, e6, h⟩ := hC h
      refine AW.callVi (As := [iv x2, iv 0]) (st := []) (Trips_lateBy_ok e6) cq_X11_205 cr_7_X7_lateBy (Nat.le_trans (by decide) hdd) rfl dX11_rung_33 rfl (Nat.le_of_ble_eq_true rfl) ?_
      refine AW.if_ne (tgt := 45) dX11_rung_36 (by decide) (fun c7 => ?_) (fun c7 => ?_)
      · replace h := hF h c7
        cases h
        exact J24
      · replace h := hT h c7
        refine AW.iload_n 1 dX11_rung_39 rfl ?_
        refine AW.iconst dX11_rung_40 ?_
        refine AW.iload_n 2 dX11_rung_41 rfl ?_
        refine AW.ishl dX11_rung_42 ?_
        refine AW.ior dX11_rung_43 ?_
        refine AW.istore_n (lv1 := [(1, iv (orI x1 (shlI 1 x2))), (0, rv z 0), (2, iv x2)]) dX11_rung_44 (by decide) rfl ?_
        refine AW.sub (lv1 := [(0, rv z 0), (1, iv (orI x1 (shlI 1 x2))), (2, iv x2)]) [1, 0, 2] rfl ?_
        cases h
        exact J24
theorem X_rung_ok {z : AZ} {g : AG} {r : Int × AG} (h : X_rung g = some r) : AMf z yX11_rung cX11_rung 3 (some .int) 6 [rv z 0] g r := by
  intro d hdd
  refine AM.of (by decide +kernel) (Nat.le_of_ble_eq_true rfl) ?_
  show AW z (RX11, cX11_rung, 3, (some .int)) d (QD (some .int) r) 0 [(0, rv z 0)] [] g
  unfold X_rung at h
  refine AW.iconst dX11_rung_0 ?_
  refine AW.istore_n (lv1 := [(1, iv 0), (0, rv z 0)]) dX11_rung_1 (by decide) rfl ?_
  refine AW.iconst dX11_rung_2 ?_
  refine AW.istore_n (lv1 := [(2, iv 0), (1, iv 0), (0, rv z 0)]) dX11_rung_3 (by decide) rfl ?_
  refine AW.sub (lv1 := [(0, rv z 0), (1, iv 0), (2, iv 0)]) [2, 1, 0] rfl ?_
  exact X_rung_b_ok hdd _ _ _ _ h
theorem Canal_setPump_ok {z : AZ} {x1 : Int} {x2 : Int} {g : AG} {r : Int × AG} (h : Canal_setPump x1 x2 g = some r) : AMf z yX2_setPump cX2_setPump 3 none 0 [rv z 1, iv x1, iv x2] g r := by
  intro d hdd
  refine AM.of (by decide +kernel) (Nat.le_of_ble_eq_true rfl) ?_
  show AW z (RX2, cX2_setPump, 3, none) d (QD none r) 0 [(0, rv z 1), (1, iv x1), (2, iv x2)] [] g
  unfold Canal_setPump at h
  refine AW.iload_n 2 dX2_setPump_0 rfl ?_
  obtain ⟨r6, e7, h⟩ := hC h
  refine AW.join (tgt := 33) (lv1 := []) (st1 := []) (g1 := r6) ?_ (fun J1 => ?_)
  · exact AW.vret1 rfl dX2_setPump_33 h rfl
  replace h := e7
  refine AW.if_eq (tgt := 19) dX2_setPump_1 (by decide) (fun c1 => ?_) (fun c1 => ?_)
  · replace h := hT h c1
    refine AW.aloadr_n 0 dX2_setPump_19 rfl ?_
    refine AW.duprr dX2_setPump_20 ?_
    refine AW.getI af_X2_37_1 sr_1_6 dX2_setPump_21 ?_
    refine AW.iconst dX2_setPump_24 ?_
    refine AW.iload_n 1 dX2_setPump_25 rfl ?_
    refine AW.ishl dX2_setPump_26 ?_
    refine AW.iconst dX2_setPump_27 ?_
    refine AW.ixor dX2_setPump_28 ?_
    refine AW.iand dX2_setPump_29 ?_
    obtain ⟨g2, e3, h⟩ := hBe h
    refine AW.putI ap_X2_37_1 sr_1_6 dX2_setPump_30 e3 ?_
    refine AW.sub (lv1 := []) [] rfl ?_
    cases h
    exact J1
  · replace h := hF h c1
    refine AW.aloadr_n 0 dX2_setPump_4 rfl ?_
    refine AW.duprr dX2_setPump_5 ?_
    refine AW.getI af_X2_37_1 sr_1_6 dX2_setPump_6 ?_
    refine AW.iconst dX2_setPump_9 ?_
    refine AW.iload_n 1 dX2_setPump_10 rfl ?_
    refine AW.ishl dX2_setPump_11 ?_
    refine AW.ior dX2_setPump_12 ?_
    obtain ⟨g4, e5, h⟩ := hBe h
    refine AW.putI ap_X2_37_1 sr_1_6 dX2_setPump_13 e5 ?_
    refine AW.goto (tgt := 33) dX2_setPump_16 (by decide) ?_
    refine AW.sub (lv1 := []) [] rfl ?_
    cases h
    exact J1
theorem X_pump_ok {z : AZ} {x1 : Int} {x2 : Int} {g : AG} {r : Int × AG} (h : X_pump x1 x2 g = some r) : AMf z yX11_pump cX11_pump 3 (some .boolean) 2 [rv z 0, iv x1, iv x2] g r := by
  intro d hdd
  refine AM.of (by decide +kernel) (Nat.le_of_ble_eq_true rfl) ?_
  show AW z (RX11, cX11_pump, 3, (some .boolean)) d (QD (some .boolean) r) 0 [(0, rv z 0), (1, iv x1), (2, iv x2)] [] g
  unfold X_pump at h
  refine AW.iload_n 1 dX11_pump_0 rfl ?_
  refine AW.callSi (As := [iv x1]) (st := []) X_isPoint_ok cq_X11_111 st_X11_isPoint (Nat.le_trans (by decide) hdd) rfl dX11_pump_1 rfl (Nat.le_of_ble_eq_true rfl) ?_
  refine AW.if_ne (tgt := 9) dX11_pump_4 (by decide) (fun c1 => ?_) (fun c1 => ?_)
  · replace h := hF h c1
    refine AW.aloadr_n 0 dX11_pump_9 rfl ?_
    refine AW.getR af_X11_12_0 sr_0_0 dX11_pump_10 ?_
    refine AW.iload_n 1 dX11_pump_13 rfl ?_
    refine AW.iload_n 2 dX11_pump_14 rfl ?_
    obtain ⟨r2, e3, h⟩ := hC h
    refine AW.callVv (As := [iv x1, iv x2]) (st := []) (Canal_setPump_ok e3) cq_X11_209 cr_1_X2_setPump (Nat.le_trans (by decide) hdd) rfl dX11_pump_15 rfl (Nat.le_of_ble_eq_true rfl) ?_
    refine AW.iconst dX11_pump_18 ?_
    exact AW.zret1 rfl (Or.inr rfl) dX11_pump_19 h rfl
  · replace h := hT h c1
    refine AW.iconst dX11_pump_7 ?_
    exact AW.zret1 rfl (Or.inl rfl) dX11_pump_8 h rfl
set_option synthInstance.maxHeartbeats 2000000 in
theorem Voyage_nextPump_b_ok {z : AZ} {d : Nat} (hdd : 0 ≤ d) {g : AG} : ∀ (x1 : Int) (x2 : Int) (r : Int), Voyage_nextPump_b g x1 x2 = some r → AW z (RX9, cX9_nextPump, 4, (some .int)) d (QD (some .int) (r, g)) 4 [(0, rv z 5), (1, iv x1), (2, iv x2)] [] g := by
  refine Voyage_nextPump_b.partial_correctness g (fun x1 x2 r => AW z (RX9, cX9_nextPump, 4, (some .int)) d (QD (some .int) (r, g)) 4 [(0, rv z 5), (1, iv x1), (2, iv x2)] [] g) ?_
  intro fb9 ih x1 x2 r h
  refine AW.iload_n 2 dX9_nextPump_4 rfl ?_
  refine AW.bipush dX9_nextPump_5 (by decide) (by decide) ?_
  refine AW.icmp_ge (tgt := 72) dX9_nextPump_7 (by decide) (fun c1 => ?_) (fun c1 => ?_)
  · replace h := hT h c1
    refine AW.iload_n 1 dX9_nextPump_72 rfl ?_
    exact AW.iret2 rfl dX9_nextPump_73 h rfl
  · replace h := hF h c1
    refine AW.aloadr_n 0 dX9_nextPump_10 rfl ?_
    refine AW.getR af_X9_24_5 sr_5_0 dX9_nextPump_11 ?_
    refine AW.getI af_X9_75_1 sr_1_6 dX9_nextPump_14 ?_
    refine AW.iload_n 2 dX9_nextPump_17 rfl ?_
    refine AW.ishr dX9_nextPump_18 ?_
    refine AW.iconst dX9_nextPump_19 ?_
    refine AW.iand dX9_nextPump_20 ?_
    obtain ⟨r7, e8, h⟩ := hC h
    refine AW.join (tgt := 39) (lv1 := [(0, rv z 5), (1, iv x1), (2, iv x2)]) (st1 := [iv r7]) (g1 := g) ?_ (fun J21 => ?_)
    · refine AW.istore_n (lv1 := [(3, iv r7), (0, rv z 5), (1, iv x1), (2, iv x2)]) dX9_nextPump_39 (by decide) rfl ?_
      refine AW.iload_n 0 dX9_nextPump_40 rfl ?_
      obtain ⟨r14, e15, h⟩ := hC h
      refine AW.join (tgt := 66) (lv1 := [(0, rv z 5), (1, iv r14), (2, iv x2)]) (st1 := []) (g1 := g) ?_ (fun J41 => ?_)
      · refine AW.iinc (lv1 := [(2, iv (x2 + 1)), (0, rv z 5), (1, iv r14)]) 2 dX9_nextPump_66 rfl (by decide) rfl ?_
        refine AW.goto (tgt := 4) dX9_nextPump_69 (by decide) ?_
        refine AW.sub (lv1 := [(0, rv z 5), (1, iv r14), (2, iv (x2 + 1))]) [1, 2, 0] rfl ?_
        exact ih _ _ _ h
      replace h := e15
      refine AW.if_eq (tgt := 66) dX9_nextPump_41 (by decide) (fun c9 => ?_) (fun c9 => ?_)
      · replace h := hT h c9
        refine AW.sub (lv1 := [(0, rv z 5), (1, iv x1), (2, iv x2)]) [1, 2, 3] rfl ?_
        cases h
        exact J41
      · replace h := hF h c9
        refine AW.iload_n 2 dX9_nextPump_44 rfl ?_
        refine AW.iconst dX9_nextPump_45 ?_
        refine AW.icmp_eq (tgt := 64) dX9_nextPump_46 (by decide) (fun c10 => ?_) (fun c10 => ?_)
        · replace h := hT h c10
          refine AW.iload_n 3 dX9_nextPump_64 rfl ?_
          refine AW.istore_n (lv1 := [(1, iv x2), (3, iv r7), (0, rv z 5), (2, iv x2)]) dX9_nextPump_65 (by decide) rfl ?_
          refine AW.sub (lv1 := [(0, rv z 5), (1, iv x2), (2, iv x2)]) [2, 0, 3] rfl ?_
          cases h
          exact J41
        · replace h := hF h c10
          refine AW.aloadr_n 1 dX9_nextPump_49 rfl ?_
          refine AW.getR af_X9_18_5 sr_5_4 dX9_nextPump_50 ?_
          refine AW.iload_n 3 dX9_nextPump_53 rfl ?_
          obtain ⟨k11, h⟩ := hK h
          refine AW.iald kc_46 sk_46 k11 dX9_nextPump_54 ?_
          refine AW.aloadr_n 1 dX9_nextPump_55 rfl ?_
          refine AW.getR af_X9_18_5 sr_5_4 dX9_nextPump_56 ?_
          refine AW.iload_n 2 dX9_nextPump_59 rfl ?_
          obtain ⟨k12, h⟩ := hK h
          refine AW.iald kc_46 sk_46 k12 dX9_nextPump_60 ?_
          refine AW.icmp_ge (tgt := 66) dX9_nextPump_61 (by decide) (fun c13 => ?_) (fun c13 => ?_)
          · replace h := hT h c13
            refine AW.sub (lv1 := [(0, rv z 5), (1, iv x1), (2, iv x2)]) [1, 2, 3] rfl ?_
            cases h
            exact J41
          · replace h := hF h c13
            refine AW.iload_n 3 dX9_nextPump_64 rfl ?_
            refine AW.istore_n (lv1 := [(1, iv x2), (3, iv r7), (0, rv z 5), (2, iv x2)]) dX9_nextPump_65 (by decide) rfl ?_
            refine AW.sub (lv1 := [(0, rv z 5), (1, iv x2), (2, iv x2)]) [2, 0, 3] rfl ?_
            cases h
            exact J41
    replace h := e8
    refine AW.if_eq (tgt := 38) dX9_nextPump_21 (by decide) (fun c2 => ?_) (fun c2 => ?_)
    · replace h := hT h c2
      refine AW.iconst dX9_nextPump_38 ?_
      cases h
      exact J21
    · replace h := hF h c2
      refine AW.aloadr_n 0 dX9_nextPump_24 rfl ?_
      refine AW.getR af_X9_18_5 sr_5_4 dX9_nextPump_25 ?_
      refine AW.iload_n 2 dX9_nextPump_28 rfl ?_
      obtain ⟨k3, h⟩ := hK h
      refine AW.iald kc_46 sk_46 k3 dX9_nextPump_29 ?_
      refine AW.iconst dX9_nextPump_30 ?_
      obtain ⟨t4, e5, h⟩ := hBe h
      refine AW.join (tgt := 39) (lv1 := [(0, rv z 5), (1, iv x1), (2, iv x2)]) (st1 := [iv t4]) (g1 := g) ?_ (fun J31 => ?_)
      · cases h
        exact J21
      refine AW.icmp_eq (tgt := 38) dX9_nextPump_31 (by decide) (fun c6 => ?_) (fun c6 => ?_)
      · refine AW.iconst dX9_nextPump_38 ?_
        exact AW.val (e5.trans (if_pos c6)) J31
      · refine AW.iconst dX9_nextPump_34 ?_
        refine AW.goto (tgt := 39) dX9_nextPump_35 (by decide) ?_
        exact AW.val (e5.trans (if_neg c6)) J31
theorem Voyage_nextPump_ok {z : AZ} {g : AG} {r : Int} (h : Voyage_nextPump g = some r) : AMf z yX9_nextPump cX9_nextPump 4 (some .int) 0 [rv z 5] g (r, g) := by
  intro d hdd
  refine AM.of (by decide +kernel) (Nat.le_of_ble_eq_true rfl) ?_
  show AW z (RX9, cX9_nextPump, 4, (some .int)) d (QD (some .int) (r, g)) 0 [(0, rv z 5)] [] g
  unfold Voyage_nextPump at h
  refine AW.iconst dX9_nextPump_0 ?_
  refine AW.istore_n (lv1 := [(1, iv (-1)), (0, rv z 5)]) dX9_nextPump_1 (by decide) rfl ?_
  refine AW.iconst dX9_nextPump_2 ?_
  refine AW.istore_n (lv1 := [(2, iv 0), (1, iv (-1)), (0, rv z 5)]) dX9_nextPump_3 (by decide) rfl ?_
  refine AW.sub (lv1 := [(0, rv z 5), (1, iv (-1)), (2, iv 0)]) [2, 1, 0] rfl ?_
  exact Voyage_nextPump_b_ok hdd _ _ _ h
theorem X_pumped_ok {z : AZ} {x1 : Int} {x2 : Int} {x3 : Int} {x4 : Int} {x5 : Int} {g : AG} {r : Int × AG} (h : X_pumped x1 x2 x3 x4 x5 g = some r) : AMf z yX11_pumped cX11_pumped 8 (some .int) 5 [rv z 0, iv x1, iv x2, iv x3, iv x4, iv x5] g r := by
  intro d hdd
  refine AM.of (by decide +kernel) (Nat.le_of_ble_eq_true rfl) ?_
  show AW z (RX11, cX11_pumped, 8, (some .int)) d (QD (some .int) r) 0 [(0, rv z 0), (1, iv x1), (2, iv x2), (3, iv x3), (4, iv x4), (5, iv x5)] [] g
  unfold X_pumped at h
  refine AW.aloadr_n 0 dX11_pumped_0 rfl ?_
  refine AW.iload_n 1 dX11_pumped_1 rfl ?_
  refine AW.iload_n 2 dX11_pumped_2 rfl ?_
  refine AW.iload_n 2 dX11_pumped_3 rfl ?_
  refine AW.iload_n 3 dX11_pumped_4 rfl ?_
  refine AW.callVi (As := [iv x1, iv x2, iv x2, iv x3]) (st := []) X_isWay_ok cq_X11_176 cr_0_X11_isWay (Nat.le_trans (by decide) hdd) rfl dX11_pumped_5 rfl (Nat.le_of_ble_eq_true rfl) ?_
  refine AW.if_eq (tgt := 25) dX11_pumped_8 (by decide) (fun c1 => ?_) (fun c1 => ?_)
  · replace h := hT h c1
    refine AW.iconst dX11_pumped_25 ?_
    exact AW.iret1 rfl dX11_pumped_26 h rfl
  · replace h := hF h c1
    refine AW.iload 4 dX11_pumped_11 rfl ?_
    refine AW.callSi (As := [iv x4]) (st := []) X_isTime_ok cq_X11_114 st_X11_isTime (Nat.le_trans (by decide) hdd) rfl dX11_pumped_13 rfl (Nat.le_of_ble_eq_true rfl) ?_
    refine AW.if_eq (tgt := 25) dX11_pumped_16 (by decide) (fun c2 => ?_) (fun c2 => ?_)
    · replace h := hT h c2
      refine AW.iconst dX11_pumped_25 ?_
      exact AW.iret1 rfl dX11_pumped_26 h rfl
    · replace h := hF h c2
      refine AW.iload 4 dX11_pumped_19 rfl ?_
      refine AW.iload_n 3 dX11_pumped_21 rfl ?_
      refine AW.icmp_le (tgt := 27) dX11_pumped_22 (by decide) (fun c3 => ?_) (fun c3 => ?_)
      · replace h := hT h c3
        refine AW.aloadr_n 0 dX11_pumped_27 rfl ?_
        refine AW.getR af_X11_40_0 sr_0_4 dX11_pumped_28 ?_
        refine AW.aloadr_n 0 dX11_pumped_31 rfl ?_
        refine AW.getR af_X11_49_0 sr_0_5 dX11_pumped_32 ?_
        refine AW.getR af_X11_180_6 sr_6_6 dX11_pumped_35 ?_
        refine AW.iload_n 1 dX11_pumped_38 rfl ?_
        obtain ⟨k4, h⟩ := hK h
        refine AW.iald kc_51 sk_51 k4 dX11_pumped_39 ?_
        refine AW.iload_n 2 dX11_pumped_40 rfl ?_
        refine AW.iload_n 3 dX11_pumped_41 rfl ?_
        obtain ⟨r5, e6, h⟩ := hC h
        refine AW.callVv (As := [iv (g 51 (ix x1)), iv x2, iv x3]) (st := []) (Voyage_reach_ok e6) cq_X11_187 cr_5_X9_reach (Nat.le_trans (by decide) hdd) rfl dX11_pumped_42 rfl (Nat.le_of_ble_eq_true rfl) ?_
        refine AW.aloadr_n 0 dX11_pumped_45 rfl ?_
        refine AW.getR af_X11_40_0 sr_0_4 dX11_pumped_46 ?_
        obtain ⟨r7, e8, h⟩ := hC h
        refine AW.callVi (As := []) (st := []) (Voyage_nextPump_ok e8) cq_X11_213 cr_5_X9_nextPump (Nat.le_trans (by decide) hdd) rfl dX11_pumped_49 rfl (Nat.le_of_ble_eq_true rfl) ?_
        refine AW.istore (lv1 := [(6, iv r7), (0, rv z 0), (1, iv x1), (2, iv x2), (3, iv x3), (4, iv x4), (5, iv x5)]) dX11_pumped_52 (by decide) rfl ?_
        refine AW.iload 0 dX11_pumped_54 rfl ?_
        refine AW.iconst dX11_pumped_56 ?_
        refine AW.icmp_eq (tgt := 70) dX11_pumped_57 (by decide) (fun c9 => ?_) (fun c9 => ?_)
        · replace h := hT h c9
          refine AW.iconst dX11_pumped_70 ?_
          exact AW.iret1 rfl dX11_pumped_71 h rfl
        · replace h := hF h c9
          refine AW.iload 6 dX11_pumped_60 rfl ?_
          refine AW.iconst dX11_pumped_62 ?_
          refine AW.iconst dX11_pumped_63 ?_
          refine AW.callSi (As := [iv x5, iv 0, iv 2]) (st := []) X_within_ok cq_X11_99 st_X11_within (Nat.le_trans (by decide) hdd) rfl dX11_pumped_64 rfl (Nat.le_of_ble_eq_true rfl) ?_
          refine AW.if_ne (tgt := 72) dX11_pumped_67 (by decide) (fun c10 => ?_) (fun c10 => ?_)
          · replace h := hF h c10
            refine AW.iload 6 dX11_pumped_72 rfl ?_
            refine AW.if_ne (tgt := 80) dX11_pumped_74 (by decide) (fun c11 => ?_) (fun c11 => ?_)
            · replace h := hF h c11
              refine AW.aloadr_n 1 dX11_pumped_80 rfl ?_
              refine AW.getR af_X11_40_0 sr_0_4 dX11_pumped_81 ?_
              refine AW.getR af_X11_216_5 sr_5_4 dX11_pumped_84 ?_
              refine AW.iload 0 dX11_pumped_87 rfl ?_
              obtain ⟨k12, h⟩ := hK h
              refine AW.iald kc_46 sk_46 k12 dX11_pumped_89 ?_
              refine AW.istore (lv1 := [(7, iv (r5.2 46 (ix r7))), (6, iv r7), (0, rv z 0), (1, iv x1), (2, iv x2), (3, iv x3), (4, iv x4), (5, iv x5)]) dX11_pumped_90 (by decide) rfl ?_
              refine AW.iload 7 dX11_pumped_92 rfl ?_
              refine AW.iconst dX11_pumped_94 ?_
              refine AW.icmp_ne (tgt := 101) dX11_pumped_95 (by decide) (fun c13 => ?_) (fun c13 => ?_)
              · replace h := hF h c13
                refine AW.iload 6 dX11_pumped_101 rfl ?_
                refine AW.sipush dX11_pumped_103 (by decide) (by decide) ?_
                refine AW.iadd dX11_pumped_106 ?_
                refine AW.iload 0 dX11_pumped_107 rfl ?_
                obtain ⟨t14, e15, h⟩ := hBe h
                refine AW.join (tgt := 117) (lv1 := [(7, iv (r5.2 46 (ix r7))), (6, iv r7), (0, rv z 0), (1, iv x1), (2, iv x2), (3, iv x3), (4, iv x4), (5, iv x5)]) (st1 := [iv t14]) (g1 := r5.2) ?_ (fun J109 => ?_)
                · exact AW.iret1 rfl dX11_pumped_117 h rfl
                refine AW.icmp_ge (tgt := 116) dX11_pumped_109 (by decide) (fun c16 => ?_) (fun c16 => ?_)
                · refine AW.iconst dX11_pumped_116 ?_
                  exact AW.val (e15.trans (if_pos c16)) J109
                · refine AW.iconst dX11_pumped_112 ?_
                  refine AW.goto (tgt := 117) dX11_pumped_113 (by decide) ?_
                  exact AW.val (e15.trans (if_neg c16)) J109
              · replace h := hT h c13
                refine AW.iload 0 dX11_pumped_98 rfl ?_
                exact AW.iret1 rfl dX11_pumped_100 h rfl
            · replace h := hT h c11
              refine AW.iload 0 dX11_pumped_77 rfl ?_
              exact AW.iret1 rfl dX11_pumped_79 h rfl
          · replace h := hT h c10
            refine AW.iconst dX11_pumped_70 ?_
            exact AW.iret1 rfl dX11_pumped_71 h rfl
      · replace h := hF h c3
        refine AW.iconst dX11_pumped_25 ?_
        exact AW.iret1 rfl dX11_pumped_26 h rfl
set_option synthInstance.maxHeartbeats 2000000 in
theorem X_enough_b_ok {z : AZ} {d : Nat} (hdd : 5 ≤ d) {x2 : Int} {x3 : Int} {x4 : Int} {x5 : Int} : ∀ (tag : Nat) (x6 : Int) (g : AG) (r : Int × AG), X_enough_b x2 x3 x4 x5 tag x6 g = some r → (tag = 1 → AW z (RX11, cX11_enough, 8, (some .int)) d (QD (some .int) r) 25 [(0, rv z 0), (2, iv x2), (3, iv x3), (4, iv x4), (5, iv x5), (6, iv x6)] [] g) ∧ (tag = 2 → AW z (RX11, cX11_enough, 8, (some .int)) d (QD (some .int) r) 78 [(0, rv z 0), (2, iv x2), (3, iv x3), (4, iv x4), (5, iv x5), (6, iv x6)] [] g) := by
  refine X_enough_b.partial_correctness x2 x3 x4 x5 (fun tag x6 g r => (tag = 1 → AW z (RX11, cX11_enough, 8, (some .int)) d (QD (some .int) r) 25 [(0, rv z 0), (2, iv x2), (3, iv x3), (4, iv x4), (5, iv x5), (6, iv x6)] [] g) ∧ (tag = 2 → AW z (RX11, cX11_enough, 8, (some .int)) d (QD (some .int) r) 78 [(0, rv z 0), (2, iv x2), (3, iv x3), (4, iv x4), (5, iv x5), (6, iv x6)] [] g)) ?_
  intro fb9 ih tag x6 g r h
  refine ⟨fun h9 => ?_, fun h9 => ?_⟩
  · subst h9
    replace h := hT h rfl
    refine AW.iload 5 dX11_enough_25 rfl ?_
    refine AW.bipush dX11_enough_27 (by decide) (by decide) ?_
    refine AW.icmp_gt (tgt := 84) dX11_enough_29 (by decide) (fun c1 => ?_) (fun c1 => ?_)
    · replace h := hT h c1
      refine AW.iconst dX11_enough_84 ?_
      exact AW.iret1 rfl dX11_enough_85 h rfl
    · replace h := hF h c1
      refine AW.iload 3 dX11_enough_32 rfl ?_
      refine AW.iload 5 dX11_enough_34 rfl ?_
      refine AW.iadd dX11_enough_36 ?_
      refine AW.callSi (As := [iv (x4 + x6)]) (st := []) X_isTime_ok cq_X11_114 st_X11_isTime (Nat.le_trans (by decide) hdd) rfl dX11_enough_37 rfl (Nat.le_of_ble_eq_true rfl) ?_
      refine AW.if_eq (tgt := 84) dX11_enough_40 (by decide) (fun c2 => ?_) (fun c2 => ?_)
      · replace h := hT h c2
        refine AW.iconst dX11_enough_84 ?_
        exact AW.iret1 rfl dX11_enough_85 h rfl
      · replace h := hF h c2
        refine AW.aloadr_n 0 dX11_enough_43 rfl ?_
        refine AW.getR af_X11_40_0 sr_0_4 dX11_enough_44 ?_
        refine AW.iload 5 dX11_enough_47 rfl ?_
        refine AW.iload_n 1 dX11_enough_49 rfl ?_
        refine AW.iload_n 2 dX11_enough_50 rfl ?_
        refine AW.iload 3 dX11_enough_51 rfl ?_
        refine AW.iload 5 dX11_enough_53 rfl ?_
        refine AW.iadd dX11_enough_55 ?_
        refine AW.iconst dX11_enough_56 ?_
        obtain ⟨r3, e4, h⟩ := hC h
        refine AW.callVi (As := [iv x6, iv x2, iv x3, iv (x4 + x6), iv 1]) (st := []) (Voyage_comesTo_ok e4) cq_X11_183 cr_5_X9_comesTo (Nat.le_trans (by decide) hdd) rfl dX11_enough_57 rfl (Nat.le_of_ble_eq_true rfl) ?_
        refine AW.istore (lv1 := [(7, iv r3.1), (0, rv z 0), (2, iv x2), (3, iv x3), (4, iv x4), (5, iv x5), (6, iv x6)]) dX11_enough_60 (by decide) rfl ?_
        refine AW.iload 0 dX11_enough_62 rfl ?_
        refine AW.iconst dX11_enough_64 ?_
        refine AW.icmp_eq (tgt := 78) dX11_enough_65 (by decide) (fun c5 => ?_) (fun c5 => ?_)
        · replace h := hT h c5
          refine AW.sub (lv1 := [(0, rv z 0), (2, iv x2), (3, iv x3), (4, iv x4), (5, iv x5), (6, iv x6)]) [1, 2, 3, 4, 5, 6] rfl ?_
          exact (ih _ _ _ _ h).2 rfl
        · replace h := hF h c5
          refine AW.iload 0 dX11_enough_68 rfl ?_
          refine AW.iload 5 dX11_enough_70 rfl ?_
          refine AW.icmp_gt (tgt := 78) dX11_enough_72 (by decide) (fun c6 => ?_) (fun c6 => ?_)
          · replace h := hT h c6
            refine AW.sub (lv1 := [(0, rv z 0), (2, iv x2), (3, iv x3), (4, iv x4), (5, iv x5), (6, iv x6)]) [1, 2, 3, 4, 5, 6] rfl ?_
            exact (ih _ _ _ _ h).2 rfl
          · replace h := hF h c6
            refine AW.iload 6 dX11_enough_75 rfl ?_
            exact AW.iret1 rfl dX11_enough_77 h rfl
  · subst h9
    replace h := hF h (by decide)
    replace h := hT h rfl
    refine AW.iinc (lv1 := [(6, iv (x6 + 1)), (0, rv z 0), (2, iv x2), (3, iv x3), (4, iv x4), (5, iv x5)]) 5 dX11_enough_78 rfl (by decide) rfl ?_
    refine AW.goto (tgt := 25) dX11_enough_81 (by decide) ?_
    refine AW.sub (lv1 := [(0, rv z 0), (2, iv x2), (3, iv x3), (4, iv x4), (5, iv x5), (6, iv (x6 + 1))]) [1, 2, 3, 4, 5, 0] rfl ?_
    exact (ih _ _ _ _ h).1 rfl
theorem X_enough_ok {z : AZ} {x1 : Int} {x2 : Int} {x3 : Int} {x4 : Int} {x5 : Int} {g : AG} {r : Int × AG} (h : X_enough x1 x2 x3 x4 x5 g = some r) : AMf z yX11_enough cX11_enough 8 (some .int) 5 [rv z 0, iv x1, iv x2, iv x3, iv x4, iv x5] g r := by
  intro d hdd
  refine AM.of (by decide +kernel) (Nat.le_of_ble_eq_true rfl) ?_
  show AW z (RX11, cX11_enough, 8, (some .int)) d (QD (some .int) r) 0 [(0, rv z 0), (1, iv x1), (2, iv x2), (3, iv x3), (4, iv x4), (5, iv x5)] [] g
  unfold X_enough at h
  refine AW.aloadr_n 0 dX11_enough_0 rfl ?_
  refine AW.iload_n 1 dX11_enough_1 rfl ?_
  refine AW.iload_n 2 dX11_enough_2 rfl ?_
  refine AW.iload_n 3 dX11_enough_3 rfl ?_
  refine AW.iload 4 dX11_enough_4 rfl ?_
  refine AW.callVi (As := [iv x1, iv x2, iv x3, iv x4]) (st := []) X_isWay_ok cq_X11_176 cr_0_X11_isWay (Nat.le_trans (by decide) hdd) rfl dX11_enough_6 rfl (Nat.le_of_ble_eq_true rfl) ?_
  refine AW.if_eq (tgt := 20) dX11_enough_9 (by decide) (fun c1 => ?_) (fun c1 => ?_)
  · replace h := hT h c1
    refine AW.iconst dX11_enough_20 ?_
    exact AW.iret1 rfl dX11_enough_21 h rfl
  · replace h := hF h c1
    refine AW.iload 5 dX11_enough_12 rfl ?_
    refine AW.callSi (As := [iv x5]) (st := []) X_isTime_ok cq_X11_114 st_X11_isTime (Nat.le_trans (by decide) hdd) rfl dX11_enough_14 rfl (Nat.le_of_ble_eq_true rfl) ?_
    refine AW.if_ne (tgt := 22) dX11_enough_17 (by decide) (fun c2 => ?_) (fun c2 => ?_)
    · replace h := hF h c2
      refine AW.iconst dX11_enough_22 ?_
      refine AW.istore (lv1 := [(6, iv 0), (0, rv z 0), (1, iv x1), (2, iv x2), (3, iv x3), (4, iv x4), (5, iv x5)]) dX11_enough_23 (by decide) rfl ?_
      refine AW.sub (lv1 := [(0, rv z 0), (2, iv x2), (3, iv x3), (4, iv x4), (5, iv x5), (6, iv 0)]) [1, 3, 4, 5, 6, 0] rfl ?_
      exact (X_enough_b_ok hdd _ _ _ _ h).1 rfl
    · replace h := hT h c2
      refine AW.iconst dX11_enough_20 ?_
      exact AW.iret1 rfl dX11_enough_21 h rfl
theorem Trips_add_ok {z : AZ} {x1 : Int} {x2 : Int} {x3 : Int} {x4 : Int} {x5 : Int} {g : AG} {r : Int × AG} (h : Trips_add x1 x2 x3 x4 x5 g = some r) : AMf z yX7_add cX7_add 6 (some .int) 0 [rv z 7, iv x1, iv x2, iv x3, iv x4, iv x5] g r := by
  intro d hdd
  refine AM.of (by decide +kernel) (Nat.le_of_ble_eq_true rfl) ?_
  show AW z (RX7, cX7_add, 6, (some .int)) d (QD (some .int) r) 0 [(0, rv z 7), (1, iv x1), (2, iv x2), (3, iv x3), (4, iv x4), (5, iv x5)] [] g
  unfold Trips_add at h
  refine AW.aloadr_n 0 dX7_add_0 rfl ?_
  refine AW.getI af_X7_39_7 sr_7_8 dX7_add_1 ?_
  refine AW.bipush dX7_add_4 (by decide) (by decide) ?_
  refine AW.icmp_lt (tgt := 11) dX7_add_6 (by decide) (fun c1 => ?_) (fun c1 => ?_)
  · replace h := hT h c1
    refine AW.aloadr_n 0 dX7_add_11 rfl ?_
    refine AW.getR af_X7_9_7 sr_7_3 dX7_add_12 ?_
    refine AW.aloadr_n 0 dX7_add_15 rfl ?_
    refine AW.getI af_X7_39_7 sr_7_8 dX7_add_16 ?_
    refine AW.iload_n 1 dX7_add_19 rfl ?_
    obtain ⟨k2, h⟩ := hK h
    obtain ⟨g3, e4, h⟩ := hBe h
    refine AW.iast kc_76 sk_76 k2 dX7_add_20 e4 ?_
    refine AW.aloadr_n 0 dX7_add_21 rfl ?_
    refine AW.getR af_X7_15_7 sr_7_4 dX7_add_22 ?_
    refine AW.aloadr_n 0 dX7_add_25 rfl ?_
    refine AW.getI af_X7_39_7 sr_7_8 dX7_add_26 ?_
    refine AW.iload_n 2 dX7_add_29 rfl ?_
    obtain ⟨k5, h⟩ := hK h
    obtain ⟨g6, e7, h⟩ := hBe h
    refine AW.iast kc_77 sk_77 k5 dX7_add_30 e7 ?_
    refine AW.aloadr_n 0 dX7_add_31 rfl ?_
    refine AW.getR af_X7_18_7 sr_7_5 dX7_add_32 ?_
    refine AW.aloadr_n 0 dX7_add_35 rfl ?_
    refine AW.getI af_X7_39_7 sr_7_8 dX7_add_36 ?_
    refine AW.iload_n 3 dX7_add_39 rfl ?_
    obtain ⟨k8, h⟩ := hK h
    obtain ⟨g9, e10, h⟩ := hBe h
    refine AW.iast kc_78 sk_78 k8 dX7_add_40 e10 ?_
    refine AW.aloadr_n 0 dX7_add_41 rfl ?_
    refine AW.getR af_X7_21_7 sr_7_6 dX7_add_42 ?_
    refine AW.aloadr_n 0 dX7_add_45 rfl ?_
    refine AW.getI af_X7_39_7 sr_7_8 dX7_add_46 ?_
    refine AW.iload 4 dX7_add_49 rfl ?_
    obtain ⟨k11, h⟩ := hK h
    obtain ⟨g12, e13, h⟩ := hBe h
    refine AW.iast kc_79 sk_79 k11 dX7_add_51 e13 ?_
    refine AW.aloadr_n 0 dX7_add_52 rfl ?_
    refine AW.getR af_X7_24_7 sr_7_7 dX7_add_53 ?_
    refine AW.aloadr_n 0 dX7_add_56 rfl ?_
    refine AW.getI af_X7_39_7 sr_7_8 dX7_add_57 ?_
    refine AW.iload 5 dX7_add_60 rfl ?_
    obtain ⟨k14, h⟩ := hK h
    obtain ⟨g15, e16, h⟩ := hBe h
    refine AW.iast kc_80 sk_80 k14 dX7_add_62 e16 ?_
    refine AW.aloadr_n 0 dX7_add_63 rfl ?_
    refine AW.duprr dX7_add_64 ?_
    refine AW.getI af_X7_39_7 sr_7_8 dX7_add_65 ?_
    refine AW.iconst dX7_add_68 ?_
    refine AW.iadd dX7_add_69 ?_
    obtain ⟨g17, e18, h⟩ := hBe h
    refine AW.putI ap_X7_39_7 sr_7_8 dX7_add_70 e18 ?_
    refine AW.aloadr_n 0 dX7_add_73 rfl ?_
    refine AW.getI af_X7_39_7 sr_7_8 dX7_add_74 ?_
    refine AW.iconst dX7_add_77 ?_
    refine AW.isub dX7_add_78 ?_
    exact AW.iret1 rfl dX7_add_79 h rfl
  · replace h := hF h c1
    refine AW.iconst dX7_add_9 ?_
    exact AW.iret1 rfl dX7_add_10 h rfl
theorem X_trip_ok {z : AZ} {x1 : Int} {x2 : Int} {x3 : Int} {x4 : Int} {x5 : Int} {g : AG} {r : Int × AG} (h : X_trip x1 x2 x3 x4 x5 g = some r) : AMf z yX11_trip cX11_trip 6 (some .int) 3 [rv z 0, iv x1, iv x2, iv x3, iv x4, iv x5] g r := by
  intro d hdd
  refine AM.of (by decide +kernel) (Nat.le_of_ble_eq_true rfl) ?_
  show AW z (RX11, cX11_trip, 6, (some .int)) d (QD (some .int) r) 0 [(0, rv z 0), (1, iv x1), (2, iv x2), (3, iv x3), (4, iv x4), (5, iv x5)] [] g
  unfold X_trip at h
  refine AW.aloadr_n 0 dX11_trip_0 rfl ?_
  refine AW.iload_n 1 dX11_trip_1 rfl ?_
  refine AW.iload_n 2 dX11_trip_2 rfl ?_
  refine AW.iload_n 3 dX11_trip_3 rfl ?_
  refine AW.iload 4 dX11_trip_4 rfl ?_
  refine AW.callVi (As := [iv x1, iv x2, iv x3, iv x4]) (st := []) X_isWay_ok cq_X11_176 cr_0_X11_isWay (Nat.le_trans (by decide) hdd) rfl dX11_trip_6 rfl (Nat.le_of_ble_eq_true rfl) ?_
  refine AW.if_eq (tgt := 20) dX11_trip_9 (by decide) (fun c1 => ?_) (fun c1 => ?_)
  · replace h := hT h c1
    refine AW.iconst dX11_trip_20 ?_
    exact AW.iret1 rfl dX11_trip_21 h rfl
  · replace h := hF h c1
    refine AW.iload 5 dX11_trip_12 rfl ?_
    refine AW.callSi (As := [iv x5]) (st := []) X_isTime_ok cq_X11_114 st_X11_isTime (Nat.le_trans (by decide) hdd) rfl dX11_trip_14 rfl (Nat.le_of_ble_eq_true rfl) ?_
    refine AW.if_ne (tgt := 22) dX11_trip_17 (by decide) (fun c2 => ?_) (fun c2 => ?_)
    · replace h := hF h c2
      refine AW.aloadr_n 0 dX11_trip_22 rfl ?_
      refine AW.getR af_X11_58_0 sr_0_6 dX11_trip_23 ?_
      refine AW.iload_n 1 dX11_trip_26 rfl ?_
      refine AW.iload_n 2 dX11_trip_27 rfl ?_
      refine AW.iload_n 3 dX11_trip_28 rfl ?_
      refine AW.iload 4 dX11_trip_29 rfl ?_
      refine AW.iload 5 dX11_trip_31 rfl ?_
      obtain ⟨r3, e4, h⟩ := hC h
      refine AW.callVi (As := [iv x1, iv x2, iv x3, iv x4, iv x5]) (st := []) (Trips_add_ok e4) cq_X11_219 cr_7_X7_add (Nat.le_trans (by decide) hdd) rfl dX11_trip_33 rfl (Nat.le_of_ble_eq_true rfl) ?_
      exact AW.iret1 rfl dX11_trip_36 h rfl
    · replace h := hT h c2
      refine AW.iconst dX11_trip_20 ?_
      exact AW.iret1 rfl dX11_trip_21 h rfl
set_option synthInstance.maxHeartbeats 2000000 in
theorem Trips_howManyLate_b_ok {z : AZ} {d : Nat} (hdd : 6 ≤ d) : ∀ (x1 : Int) (x2 : Int) (g : AG) (r : Int × AG), Trips_howManyLate_b x1 x2 g = some r → AW z (RX7, cX7_howManyLate, 3, (some .int)) d (QD (some .int) r) 4 [(0, rv z 7), (1, iv x1), (2, iv x2)] [] g := by
  refine Trips_howManyLate_b.partial_correctness (fun x1 x2 g r => AW z (RX7, cX7_howManyLate, 3, (some .int)) d (QD (some .int) r) 4 [(0, rv z 7), (1, iv x1), (2, iv x2)] [] g) ?_
  intro fb9 ih x1 x2 g r h
  refine AW.iload_n 2 dX7_howManyLate_4 rfl ?_
  refine AW.aloadr_n 0 dX7_howManyLate_5 rfl ?_
  refine AW.getI af_X7_39_7 sr_7_8 dX7_howManyLate_6 ?_
  refine AW.icmp_ge (tgt := 30) dX7_howManyLate_9 (by decide) (fun c1 => ?_) (fun c1 => ?_)
  · replace h := hT h c1
    refine AW.iload_n 1 dX7_howManyLate_30 rfl ?_
    exact AW.iret1 rfl dX7_howManyLate_31 h rfl
  · replace h := hF h c1
    refine AW.aloadr_n 0 dX7_howManyLate_12 rfl ?_
    refine AW.iload_n 2 dX7_howManyLate_13 rfl ?_
    refine AW.iconst dX7_howManyLate_14 ?_
    obtain ⟨r2, e3, h⟩ := hC h
    refine AW.callVi (As := [iv x2, iv 1]) (st := []) (Trips_lateBy_ok e3) cq_X7_60 cr_7_X7_lateBy (Nat.le_trans (by decide) hdd) rfl dX7_howManyLate_15 rfl (Nat.le_of_ble_eq_true rfl) ?_
    obtain ⟨r5, e6, h⟩ := hC h
    refine AW.join (tgt := 24) (lv1 := [(0, rv z 7), (1, iv r5.1), (2, iv x2)]) (st1 := []) (g1 := r5.2) ?_ (fun J18 => ?_)
    · refine AW.iinc (lv1 := [(2, iv (x2 + 1)), (0, rv z 7), (1, iv r5.1)]) 2 dX7_howManyLate_24 rfl (by decide) rfl ?_
      refine AW.goto (tgt := 4) dX7_howManyLate_27 (by decide) ?_
      refine AW.sub (lv1 := [(0, rv z 7), (1, iv r5.1), (2, iv (x2 + 1))]) [1, 2, 0] rfl ?_
      exact ih _ _ _ _ h
    replace h := e6
    refine AW.if_le (tgt := 24) dX7_howManyLate_18 (by decide) (fun c4 => ?_) (fun c4 => ?_)
    · replace h := hT h c4
      cases h
      exact J18
    · replace h := hF h c4
      refine AW.iinc (lv1 := [(1, iv (x1 + 1)), (0, rv z 7), (2, iv x2)]) 1 dX7_howManyLate_21 rfl (by decide) rfl ?_
      refine AW.sub (lv1 := [(0, rv z 7), (1, iv (x1 + 1)), (2, iv x2)]) [1, 0, 2] rfl ?_
      cases h
      exact J18
theorem Trips_howManyLate_ok {z : AZ} {g : AG} {r : Int × AG} (h : Trips_howManyLate g = some r) : AMf z yX7_howManyLate cX7_howManyLate 3 (some .int) 6 [rv z 7] g r := by
  intro d hdd
  refine AM.of (by decide +kernel) (Nat.le_of_ble_eq_true rfl) ?_
  show AW z (RX7, cX7_howManyLate, 3, (some .int)) d (QD (some .int) r) 0 [(0, rv z 7)] [] g
  unfold Trips_howManyLate at h
  refine AW.iconst dX7_howManyLate_0 ?_
  refine AW.istore_n (lv1 := [(1, iv 0), (0, rv z 7)]) dX7_howManyLate_1 (by decide) rfl ?_
  refine AW.iconst dX7_howManyLate_2 ?_
  refine AW.istore_n (lv1 := [(2, iv 0), (1, iv 0), (0, rv z 7)]) dX7_howManyLate_3 (by decide) rfl ?_
  refine AW.sub (lv1 := [(0, rv z 7), (1, iv 0), (2, iv 0)]) [2, 1, 0] rfl ?_
  exact Trips_howManyLate_b_ok hdd _ _ _ _ h
theorem X_late_ok {z : AZ} {x1 : Int} {g : AG} {r : Int × AG} (h : X_late x1 g = some r) : AMf z yX11_late cX11_late 2 (some .int) 7 [rv z 0, iv x1] g r := by
  intro d hdd
  refine AM.of (by decide +kernel) (Nat.le_of_ble_eq_true rfl) ?_
  show AW z (RX11, cX11_late, 2, (some .int)) d (QD (some .int) r) 0 [(0, rv z 0), (1, iv x1)] [] g
  unfold X_late at h
  refine AW.iload_n 1 dX11_late_0 rfl ?_
  refine AW.iconst dX11_late_1 ?_
  refine AW.icmp_ne (tgt := 13) dX11_late_2 (by decide) (fun c1 => ?_) (fun c1 => ?_)
  · replace h := hF h c1
    refine AW.iload_n 1 dX11_late_13 rfl ?_
    refine AW.iconst dX11_late_14 ?_
    refine AW.aloadr_n 0 dX11_late_15 rfl ?_
    refine AW.getR af_X11_58_0 sr_0_6 dX11_late_16 ?_
    refine AW.getI af_X11_197_7 sr_7_8 dX11_late_19 ?_
    refine AW.iconst dX11_late_22 ?_
    refine AW.isub dX11_late_23 ?_
    refine AW.callSi (As := [iv x1, iv 0, iv ((g 7 8) - 1)]) (st := []) X_within_ok cq_X11_99 st_X11_within (Nat.le_trans (by decide) hdd) rfl dX11_late_24 rfl (Nat.le_of_ble_eq_true rfl) ?_
    obtain ⟨r5, e6, h⟩ := hC h
    refine AW.join (tgt := 43) (lv1 := []) (st1 := [iv r5.1]) (g1 := r5.2) ?_ (fun J27 => ?_)
    · exact AW.iret1 rfl dX11_late_43 h rfl
    replace h := e6
    refine AW.if_eq (tgt := 42) dX11_late_27 (by decide) (fun c2 => ?_) (fun c2 => ?_)
    · replace h := hT h c2
      refine AW.iconst dX11_late_42 ?_
      refine AW.sub (lv1 := []) [] rfl ?_
      cases h
      exact J27
    · replace h := hF h c2
      refine AW.aloadr_n 0 dX11_late_30 rfl ?_
      refine AW.getR af_X11_58_0 sr_0_6 dX11_late_31 ?_
      refine AW.iload_n 1 dX11_late_34 rfl ?_
      refine AW.iconst dX11_late_35 ?_
      obtain ⟨r3, e4, h⟩ := hC h
      refine AW.callVi (As := [iv x1, iv 1]) (st := []) (Trips_lateBy_ok e4) cq_X11_205 cr_7_X7_lateBy (Nat.le_trans (by decide) hdd) rfl dX11_late_36 rfl (Nat.le_of_ble_eq_true rfl) ?_
      refine AW.goto (tgt := 43) dX11_late_39 (by decide) ?_
      refine AW.sub (lv1 := []) [] rfl ?_
      cases h
      exact J27
  · replace h := hT h c1
    refine AW.aloadr_n 0 dX11_late_5 rfl ?_
    refine AW.getR af_X11_58_0 sr_0_6 dX11_late_6 ?_
    obtain ⟨r7, e8, h⟩ := hC h
    refine AW.callVi (As := []) (st := []) (Trips_howManyLate_ok e8) cq_X11_222 cr_7_X7_howManyLate (Nat.le_trans (by decide) hdd) rfl dX11_late_9 rfl (Nat.le_of_ble_eq_true rfl) ?_
    exact AW.iret1 rfl dX11_late_12 h rfl
set_option synthInstance.maxHeartbeats 2000000 in
theorem Boats_addLog_b_ok {z : AZ} {d : Nat} (hdd : 0 ≤ d) {x1 : Int} {x2 : Int} {x3 : Int} {x4 : Int} {g : AG} : ∀ (r : Int × AG), Boats_addLog_b x1 x2 x3 x4 g = some r → AW z (RX0, cX0_addLog, 5, (some .int)) d (QD (some .int) r) 37 [(0, rv z 6), (1, iv x1), (2, iv x2), (3, iv x3), (4, iv x4)] [] g := by
  intro r h
  unfold Boats_addLog_b at h
  refine AW.aloadr_n 0 dX0_addLog_37 rfl ?_
  refine AW.getR af_X0_26_6 sr_6_8 dX0_addLog_38 ?_
  refine AW.iload_n 1 dX0_addLog_41 rfl ?_
  obtain ⟨k1, h⟩ := hK h
  refine AW.aald (b := 53) kc_52 sk_52 sb_52 k1 dX0_addLog_42 ?_
  refine AW.iload 4 dX0_addLog_43 rfl ?_
  refine AW.iload_n 2 dX0_addLog_45 rfl ?_
  obtain ⟨k2, h⟩ := hK h
  obtain ⟨g3, e4, h⟩ := hBe h
  refine AW.iast (s2_53 _ (ix_lt k1)).1 (s2_53 _ (ix_lt k1)).2 k2 dX0_addLog_46 e4 ?_
  refine AW.aloadr_n 0 dX0_addLog_47 rfl ?_
  refine AW.getR af_X0_29_6 sr_6_9 dX0_addLog_48 ?_
  refine AW.iload_n 1 dX0_addLog_51 rfl ?_
  refine AW.aald (b := 64) kc_63 sk_63 sb_63 k1 dX0_addLog_52 ?_
  refine AW.iload 4 dX0_addLog_53 rfl ?_
  refine AW.iload_n 3 dX0_addLog_55 rfl ?_
  obtain ⟨g5, e6, h⟩ := hBe h
  refine AW.iast (s2_64 _ (ix_lt k1)).1 (s2_64 _ (ix_lt k1)).2 k2 dX0_addLog_56 e6 ?_
  refine AW.aloadr_n 0 dX0_addLog_57 rfl ?_
  refine AW.getR af_X0_32_6 sr_6_10 dX0_addLog_58 ?_
  refine AW.iload_n 1 dX0_addLog_61 rfl ?_
  refine AW.iload 4 dX0_addLog_62 rfl ?_
  refine AW.iconst dX0_addLog_64 ?_
  refine AW.iadd dX0_addLog_65 ?_
  obtain ⟨g7, e8, h⟩ := hBe h
  refine AW.iast kc_74 sk_74 k1 dX0_addLog_66 e8 ?_
  refine AW.iload 4 dX0_addLog_67 rfl ?_
  refine AW.iconst dX0_addLog_69 ?_
  refine AW.iadd dX0_addLog_70 ?_
  exact AW.iret1 rfl dX0_addLog_71 h rfl
theorem Boats_addLog_ok {z : AZ} {x1 : Int} {x2 : Int} {x3 : Int} {g : AG} {r : Int × AG} (h : Boats_addLog x1 x2 x3 g = some r) : AMf z yX0_addLog cX0_addLog 5 (some .int) 0 [rv z 6, iv x1, iv x2, iv x3] g r := by
  intro d hdd
  refine AM.of (by decide +kernel) (Nat.le_of_ble_eq_true rfl) ?_
  show AW z (RX0, cX0_addLog, 5, (some .int)) d (QD (some .int) r) 0 [(0, rv z 6), (1, iv x1), (2, iv x2), (3, iv x3)] [] g
  unfold Boats_addLog at h
  refine AW.aloadr_n 0 dX0_addLog_0 rfl ?_
  refine AW.getR af_X0_32_6 sr_6_10 dX0_addLog_1 ?_
  refine AW.iload_n 1 dX0_addLog_4 rfl ?_
  obtain ⟨k1, h⟩ := hK h
  refine AW.iald kc_74 sk_74 k1 dX0_addLog_5 ?_
  refine AW.istore (lv1 := [(4, iv (g 74 (ix x1))), (0, rv z 6), (1, iv x1), (2, iv x2), (3, iv x3)]) dX0_addLog_6 (by decide) rfl ?_
  refine AW.iload 0 dX0_addLog_8 rfl ?_
  refine AW.bipush dX0_addLog_10 (by decide) (by decide) ?_
  refine AW.icmp_ge (tgt := 35) dX0_addLog_12 (by decide) (fun c2 => ?_) (fun c2 => ?_)
  · replace h := hT h c2
    refine AW.iconst dX0_addLog_35 ?_
    exact AW.iret1 rfl dX0_addLog_36 h rfl
  · replace h := hF h c2
    refine AW.iload 0 dX0_addLog_15 rfl ?_
    refine AW.if_le (tgt := 37) dX0_addLog_17 (by decide) (fun c3 => ?_) (fun c3 => ?_)
    · replace h := hT h c3
      refine AW.sub (lv1 := [(0, rv z 6), (1, iv x1), (2, iv x2), (3, iv x3), (4, iv (g 74 (ix x1)))]) [1, 2, 3, 4, 0] rfl ?_
      exact Boats_addLog_b_ok hdd _ h
    · replace h := hF h c3
      refine AW.iload_n 4 dX0_addLog_20 rfl ?_
      refine AW.aloadr_n 1 dX0_addLog_21 rfl ?_
      refine AW.getR af_X0_29_6 sr_6_9 dX0_addLog_22 ?_
      refine AW.iload_n 2 dX0_addLog_25 rfl ?_
      refine AW.aald (b := 64) kc_63 sk_63 sb_63 k1 dX0_addLog_26 ?_
      refine AW.iload 0 dX0_addLog_27 rfl ?_
      refine AW.iconst dX0_addLog_29 ?_
      refine AW.isub dX0_addLog_30 ?_
      obtain ⟨k4, h⟩ := hK h
      refine AW.iald (s2_64 _ (ix_lt k1)).1 (s2_64 _ (ix_lt k1)).2 k4 dX0_addLog_31 ?_
      refine AW.icmp_gt (tgt := 37) dX0_addLog_32 (by decide) (fun c5 => ?_) (fun c5 => ?_)
      · replace h := hT h c5
        refine AW.sub (lv1 := [(0, rv z 6), (1, iv x1), (2, iv x2), (3, iv x3), (4, iv (g 74 (ix x1)))]) [1, 2, 3, 4, 0] rfl ?_
        exact Boats_addLog_b_ok hdd _ h
      · replace h := hF h c5
        refine AW.iconst dX0_addLog_35 ?_
        exact AW.iret1 rfl dX0_addLog_36 h rfl
theorem X_log_ok {z : AZ} {x1 : Int} {x2 : Int} {x3 : Int} {g : AG} {r : Int × AG} (h : X_log x1 x2 x3 g = some r) : AMf z yX11_log cX11_log 4 (some .int) 3 [rv z 0, iv x1, iv x2, iv x3] g r := by
  intro d hdd
  refine AM.of (by decide +kernel) (Nat.le_of_ble_eq_true rfl) ?_
  show AW z (RX11, cX11_log, 4, (some .int)) d (QD (some .int) r) 0 [(0, rv z 0), (1, iv x1), (2, iv x2), (3, iv x3)] [] g
  unfold X_log at h
  refine AW.aloadr_n 0 dX11_log_0 rfl ?_
  refine AW.iload_n 1 dX11_log_1 rfl ?_
  refine AW.iload_n 2 dX11_log_2 rfl ?_
  refine AW.iload_n 2 dX11_log_3 rfl ?_
  refine AW.iload_n 3 dX11_log_4 rfl ?_
  refine AW.callVi (As := [iv x1, iv x2, iv x2, iv x3]) (st := []) X_isWay_ok cq_X11_176 cr_0_X11_isWay (Nat.le_trans (by decide) hdd) rfl dX11_log_5 rfl (Nat.le_of_ble_eq_true rfl) ?_
  refine AW.if_ne (tgt := 13) dX11_log_8 (by decide) (fun c1 => ?_) (fun c1 => ?_)
  · replace h := hF h c1
    refine AW.aloadr_n 0 dX11_log_13 rfl ?_
    refine AW.getR af_X11_49_0 sr_0_5 dX11_log_14 ?_
    refine AW.iload_n 1 dX11_log_17 rfl ?_
    refine AW.iload_n 2 dX11_log_18 rfl ?_
    refine AW.iload_n 3 dX11_log_19 rfl ?_
    obtain ⟨r2, e3, h⟩ := hC h
    refine AW.callVi (As := [iv x1, iv x2, iv x3]) (st := []) (Boats_addLog_ok e3) cq_X11_225 cr_6_X0_addLog (Nat.le_trans (by decide) hdd) rfl dX11_log_20 rfl (Nat.le_of_ble_eq_true rfl) ?_
    exact AW.iret1 rfl dX11_log_23 h rfl
  · replace h := hT h c1
    refine AW.iconst dX11_log_11 ?_
    exact AW.iret1 rfl dX11_log_12 h rfl
theorem Boats_placeOf_ok {z : AZ} {x1 : Int} {x2 : Int} {g : AG} {r : Int} (h : Boats_placeOf x1 x2 g = some r) : AMf z yX0_placeOf cX0_placeOf 3 (some .int) 0 [rv z 6, iv x1, iv x2] g (r, g) := by
  intro d hdd
  refine AM.of (by decide +kernel) (Nat.le_of_ble_eq_true rfl) ?_
  show AW z (RX0, cX0_placeOf, 3, (some .int)) d (QD (some .int) (r, g)) 0 [(0, rv z 6), (1, iv x1), (2, iv x2)] [] g
  unfold Boats_placeOf at h
  refine AW.iload_n 2 dX0_placeOf_0 rfl ?_
  obtain ⟨r5, e6, h⟩ := hC h
  refine AW.join (tgt := 21) (lv1 := []) (st1 := [iv r5]) (g1 := g) ?_ (fun J1 => ?_)
  · exact AW.iret2 rfl dX0_placeOf_21 h rfl
  replace h := e6
  refine AW.if_ge (tgt := 13) dX0_placeOf_1 (by decide) (fun c1 => ?_) (fun c1 => ?_)
  · replace h := hT h c1
    refine AW.aloadr_n 0 dX0_placeOf_13 rfl ?_
    refine AW.getR af_X0_26_6 sr_6_8 dX0_placeOf_14 ?_
    refine AW.iload_n 1 dX0_placeOf_17 rfl ?_
    obtain ⟨k2, h⟩ := hK h
    refine AW.aald (b := 53) kc_52 sk_52 sb_52 k2 dX0_placeOf_18 ?_
    refine AW.iload_n 2 dX0_placeOf_19 rfl ?_
    obtain ⟨k3, h⟩ := hK h
    refine AW.iald (s2_53 _ (ix_lt k2)).1 (s2_53 _ (ix_lt k2)).2 k3 dX0_placeOf_20 ?_
    refine AW.sub (lv1 := []) [] rfl ?_
    cases h
    exact J1
  · replace h := hF h c1
    refine AW.aloadr_n 0 dX0_placeOf_4 rfl ?_
    refine AW.getR af_X0_18_6 sr_6_5 dX0_placeOf_5 ?_
    refine AW.iload_n 1 dX0_placeOf_8 rfl ?_
    obtain ⟨k4, h⟩ := hK h
    refine AW.iald kc_50 sk_50 k4 dX0_placeOf_9 ?_
    refine AW.goto (tgt := 21) dX0_placeOf_10 (by decide) ?_
    refine AW.sub (lv1 := []) [] rfl ?_
    cases h
    exact J1
theorem Boats_timeOf_ok {z : AZ} {x1 : Int} {x2 : Int} {g : AG} {r : Int} (h : Boats_timeOf x1 x2 g = some r) : AMf z yX0_timeOf cX0_timeOf 3 (some .int) 0 [rv z 6, iv x1, iv x2] g (r, g) := by
  intro d hdd
  refine AM.of (by decide +kernel) (Nat.le_of_ble_eq_true rfl) ?_
  show AW z (RX0, cX0_timeOf, 3, (some .int)) d (QD (some .int) (r, g)) 0 [(0, rv z 6), (1, iv x1), (2, iv x2)] [] g
  unfold Boats_timeOf at h
  refine AW.iload_n 2 dX0_timeOf_0 rfl ?_
  obtain ⟨r4, e5, h⟩ := hC h
  refine AW.join (tgt := 16) (lv1 := []) (st1 := [iv r4]) (g1 := g) ?_ (fun J1 => ?_)
  · exact AW.iret2 rfl dX0_timeOf_16 h rfl
  replace h := e5
  refine AW.if_ge (tgt := 8) dX0_timeOf_1 (by decide) (fun c1 => ?_) (fun c1 => ?_)
  · replace h := hT h c1
    refine AW.aloadr_n 0 dX0_timeOf_8 rfl ?_
    refine AW.getR af_X0_29_6 sr_6_9 dX0_timeOf_9 ?_
    refine AW.iload_n 1 dX0_timeOf_12 rfl ?_
    obtain ⟨k2, h⟩ := hK h
    refine AW.aald (b := 64) kc_63 sk_63 sb_63 k2 dX0_timeOf_13 ?_
    refine AW.iload_n 2 dX0_timeOf_14 rfl ?_
    obtain ⟨k3, h⟩ := hK h
    refine AW.iald (s2_64 _ (ix_lt k2)).1 (s2_64 _ (ix_lt k2)).2 k3 dX0_timeOf_15 ?_
    refine AW.sub (lv1 := []) [] rfl ?_
    cases h
    exact J1
  · replace h := hF h c1
    refine AW.iconst dX0_timeOf_4 ?_
    refine AW.goto (tgt := 16) dX0_timeOf_5 (by decide) ?_
    refine AW.sub (lv1 := []) [] rfl ?_
    cases h
    exact J1
theorem Boats_canBetween_ok {z : AZ} {x1 : Int} {x2 : Int} {x3 : Int} {x4 : Int} {x5 : Int} {g : AG} {r : Int × AG} (h : Boats_canBetween x1 x2 x3 x4 x5 g = some r) : AMf z yX0_canBetween cX0_canBetween 12 (some .boolean) 5 [rv z 6, iv x1, iv x2, iv x3, iv x4, iv x5] g r := by
  intro d hdd
  refine AM.of (by decide +kernel) (Nat.le_of_ble_eq_true rfl) ?_
  show AW z (RX0, cX0_canBetween, 12, (some .boolean)) d (QD (some .boolean) r) 0 [(0, rv z 6), (1, iv x1), (2, iv x2), (3, iv x3), (4, iv x4), (5, iv x5)] [] g
  unfold Boats_canBetween at h
  refine AW.iload_n 2 dX0_canBetween_0 rfl ?_
  refine AW.iconst dX0_canBetween_1 ?_
  refine AW.iadd dX0_canBetween_2 ?_
  refine AW.istore (lv1 := [(6, iv (x2 + 1)), (0, rv z 6), (1, iv x1), (2, iv x2), (3, iv x3), (4, iv x4), (5, iv x5)]) dX0_canBetween_3 (by decide) rfl ?_
  refine AW.iload 0 dX0_canBetween_5 rfl ?_
  refine AW.aloadr_n 1 dX0_canBetween_7 rfl ?_
  refine AW.getR af_X0_32_6 sr_6_10 dX0_canBetween_8 ?_
  refine AW.iload_n 2 dX0_canBetween_11 rfl ?_
  obtain ⟨k1, h⟩ := hK h
  refine AW.iald kc_74 sk_74 k1 dX0_canBetween_12 ?_
  obtain ⟨t2, e3, h⟩ := hBe h
  refine AW.join (tgt := 21) (lv1 := [(6, iv (x2 + 1)), (0, rv z 6), (1, iv x1), (2, iv x2), (3, iv x3), (4, iv x4), (5, iv x5)]) (st1 := [iv t2]) (g1 := g) ?_ (fun J13 => ?_)
  · refine AW.istore (lv1 := [(7, iv t2), (6, iv (x2 + 1)), (0, rv z 6), (1, iv x1), (2, iv x2), (3, iv x3), (4, iv x4), (5, iv x5)]) dX0_canBetween_21 (by decide) rfl ?_
    refine AW.iload 0 dX0_canBetween_23 rfl ?_
    obtain ⟨r6, e7, h⟩ := hC h
    refine AW.join (tgt := 43) (lv1 := [(0, rv z 6), (1, iv x1), (2, iv x2), (3, iv x3), (4, iv x4), (5, iv x5), (6, iv (x2 + 1)), (7, iv t2)]) (st1 := [iv r6.1]) (g1 := r6.2) ?_ (fun J25 => ?_)
    · refine AW.istore (lv1 := [(8, iv r6.1), (0, rv z 6), (1, iv x1), (2, iv x2), (3, iv x3), (4, iv x4), (5, iv x5), (6, iv (x2 + 1)), (7, iv t2)]) dX0_canBetween_43 (by decide) rfl ?_
      refine AW.aloadr_n 1 dX0_canBetween_45 rfl ?_
      refine AW.getR af_X0_46_6 sr_6_2 dX0_canBetween_46 ?_
      refine AW.aloadr_n 1 dX0_canBetween_49 rfl ?_
      refine AW.getR af_X0_21_6 sr_6_6 dX0_canBetween_50 ?_
      refine AW.iload_n 2 dX0_canBetween_53 rfl ?_
      refine AW.iald kc_51 sk_51 k1 dX0_canBetween_54 ?_
      refine AW.aloadr_n 1 dX0_canBetween_55 rfl ?_
      refine AW.iload_n 2 dX0_canBetween_56 rfl ?_
      refine AW.iload_n 3 dX0_canBetween_57 rfl ?_
      obtain ⟨r8, e9, h⟩ := hC h
      refine AW.callVi (As := [iv x1, iv x2]) (st := [iv (r6.2 51 (ix x1)), rv z 5]) (Boats_placeOf_ok e9) cq_X0_58 cr_6_X0_placeOf (Nat.le_trans (by decide) hdd) rfl dX0_canBetween_58 rfl (Nat.le_of_ble_eq_true rfl) ?_
      refine AW.iload_n 4 dX0_canBetween_61 rfl ?_
      refine AW.aloadr_n 1 dX0_canBetween_62 rfl ?_
      refine AW.iload_n 2 dX0_canBetween_63 rfl ?_
      refine AW.iload_n 3 dX0_canBetween_64 rfl ?_
      obtain ⟨r10, e11, h⟩ := hC h
      refine AW.callVi (As := [iv x1, iv x2]) (st := [iv x3, iv r8, iv (r6.2 51 (ix x1)), rv z 5]) (Boats_timeOf_ok e11) cq_X0_62 cr_6_X0_timeOf (Nat.le_trans (by decide) hdd) rfl dX0_canBetween_65 rfl (Nat.le_of_ble_eq_true rfl) ?_
      refine AW.iconst dX0_canBetween_68 ?_
      obtain ⟨r12, e13, h⟩ := hC h
      refine AW.callVi (As := [iv (r6.2 51 (ix x1)), iv r8, iv x3, iv r10, iv 1]) (st := []) (Voyage_comesTo_ok e13) cq_X0_65 cr_5_X9_comesTo (Nat.le_trans (by decide) hdd) rfl dX0_canBetween_69 rfl (Nat.le_of_ble_eq_true rfl) ?_
      refine AW.istore (lv1 := [(9, iv r12.1), (8, iv r6.1), (0, rv z 6), (1, iv x1), (2, iv x2), (3, iv x3), (4, iv x4), (5, iv x5), (6, iv (x2 + 1)), (7, iv t2)]) dX0_canBetween_72 (by decide) rfl ?_
      refine AW.iload 0 dX0_canBetween_74 rfl ?_
      refine AW.iload 6 dX0_canBetween_76 rfl ?_
      refine AW.mmax (st := []) cm_X0_71 mst_max mini mcd_max (Nat.le_trans (by decide) hdd) (Nat.le_of_ble_eq_true rfl) dX0_canBetween_78 ?_
      refine AW.istore (lv1 := [(10, iv (mxI r12.1 x4)), (9, iv r12.1), (8, iv r6.1), (0, rv z 6), (1, iv x1), (2, iv x2), (3, iv x3), (4, iv x4), (5, iv x5), (6, iv (x2 + 1)), (7, iv t2)]) dX0_canBetween_81 (by decide) rfl ?_
      refine AW.iload 1 dX0_canBetween_83 rfl ?_
      refine AW.iconst dX0_canBetween_85 ?_
      refine AW.icmp_eq (tgt := 103) dX0_canBetween_86 (by decide) (fun c14 => ?_) (fun c14 => ?_)
      · replace h := hT h c14
        refine AW.iconst dX0_canBetween_103 ?_
        exact AW.zret1 rfl (Or.inl rfl) dX0_canBetween_104 h rfl
      · replace h := hF h c14
        refine AW.iload 0 dX0_canBetween_89 rfl ?_
        refine AW.iload 8 dX0_canBetween_91 rfl ?_
        refine AW.icmp_gt (tgt := 103) dX0_canBetween_93 (by decide) (fun c15 => ?_) (fun c15 => ?_)
        · replace h := hT h c15
          refine AW.iconst dX0_canBetween_103 ?_
          exact AW.zret1 rfl (Or.inl rfl) dX0_canBetween_104 h rfl
        · replace h := hF h c15
          refine AW.iload 0 dX0_canBetween_96 rfl ?_
          refine AW.iload 2 dX0_canBetween_98 rfl ?_
          refine AW.icmp_lt (tgt := 105) dX0_canBetween_100 (by decide) (fun c16 => ?_) (fun c16 => ?_)
          · replace h := hT h c16
            refine AW.iload 10 dX0_canBetween_105 rfl ?_
            refine AW.if_eq (tgt := 112) dX0_canBetween_107 (by decide) (fun c17 => ?_) (fun c17 => ?_)
            · replace h := hT h c17
              refine AW.aloadr_n 3 dX0_canBetween_112 rfl ?_
              refine AW.getR af_X0_46_6 sr_6_2 dX0_canBetween_113 ?_
              refine AW.aloadr_n 3 dX0_canBetween_116 rfl ?_
              refine AW.getR af_X0_21_6 sr_6_6 dX0_canBetween_117 ?_
              refine AW.iload_n 4 dX0_canBetween_120 rfl ?_
              refine AW.iald kc_51 sk_51 k1 dX0_canBetween_121 ?_
              refine AW.iload_n 6 dX0_canBetween_122 rfl ?_
              refine AW.aloadr_n 3 dX0_canBetween_123 rfl ?_
              refine AW.getR af_X0_26_6 sr_6_8 dX0_canBetween_124 ?_
              refine AW.iload_n 4 dX0_canBetween_127 rfl ?_
              refine AW.aald (b := 53) kc_52 sk_52 sb_52 k1 dX0_canBetween_128 ?_
              refine AW.iload 9 dX0_canBetween_129 rfl ?_
              obtain ⟨k18, h⟩ := hK h
              refine AW.iald (s2_53 _ (ix_lt k1)).1 (s2_53 _ (ix_lt k1)).2 k18 dX0_canBetween_131 ?_
              refine AW.iload 0 dX0_canBetween_132 rfl ?_
              refine AW.iconst dX0_canBetween_134 ?_
              obtain ⟨r19, e20, h⟩ := hC h
              refine AW.callVi (As := [iv (r12.2 51 (ix x1)), iv x3, iv (r12.2 (53 + ix x1) (ix (x2 + 1))), iv (mxI r12.1 x4), iv 1]) (st := []) (Voyage_comesTo_ok e20) cq_X0_65 cr_5_X9_comesTo (Nat.le_trans (by decide) hdd) rfl dX0_canBetween_135 rfl (Nat.le_of_ble_eq_true rfl) ?_
              refine AW.istore (lv1 := [(11, iv r19.1), (10, iv (mxI r12.1 x4)), (9, iv r12.1), (8, iv r6.1), (0, rv z 6), (1, iv x1), (2, iv x2), (3, iv x3), (4, iv x4), (5, iv x5), (6, iv (x2 + 1)), (7, iv t2)]) dX0_canBetween_138 (by decide) rfl ?_
              refine AW.iload 0 dX0_canBetween_140 rfl ?_
              refine AW.iconst dX0_canBetween_142 ?_
              obtain ⟨t21, e22, h⟩ := hBe h
              refine AW.join (tgt := 158) (lv1 := [(11, iv r19.1), (10, iv (mxI r12.1 x4)), (9, iv r12.1), (8, iv r6.1), (0, rv z 6), (1, iv x1), (2, iv x2), (3, iv x3), (4, iv x4), (5, iv x5), (6, iv (x2 + 1)), (7, iv t2)]) (st1 := [iv t21]) (g1 := r19.2) ?_ (fun J143 => ?_)
              · exact AW.zret1 rfl (by rw [e22]; (repeat' split) <;> first | exact Or.inl rfl | exact Or.inr rfl) dX0_canBetween_158 h rfl
              refine AW.icmp_eq (tgt := 157) dX0_canBetween_143 (by decide) (fun c23 => ?_) (fun c23 => ?_)
              · refine AW.iconst dX0_canBetween_157 ?_
                exact AW.val (e22.trans (if_pos c23)) J143
              · refine AW.iload 0 dX0_canBetween_146 rfl ?_
                refine AW.iload 3 dX0_canBetween_148 rfl ?_
                refine AW.icmp_gt (tgt := 157) dX0_canBetween_150 (by decide) (fun c24 => ?_) (fun c24 => ?_)
                · refine AW.iconst dX0_canBetween_157 ?_
                  exact AW.val (e22.trans ((if_neg c23).trans (if_pos c24))) J143
                · refine AW.iconst dX0_canBetween_153 ?_
                  refine AW.goto (tgt := 158) dX0_canBetween_154 (by decide) ?_
                  exact AW.val (e22.trans ((if_neg c23).trans (if_neg c24))) J143
            · replace h := hF h c17
              refine AW.iconst dX0_canBetween_110 ?_
              exact AW.zret1 rfl (Or.inr rfl) dX0_canBetween_111 h rfl
          · replace h := hF h c16
            refine AW.iconst dX0_canBetween_103 ?_
            exact AW.zret1 rfl (Or.inl rfl) dX0_canBetween_104 h rfl
    replace h := e7
    refine AW.if_eq (tgt := 34) dX0_canBetween_25 (by decide) (fun c4 => ?_) (fun c4 => ?_)
    · replace h := hT h c4
      refine AW.aloadr_n 2 dX0_canBetween_34 rfl ?_
      refine AW.getR af_X0_29_6 sr_6_9 dX0_canBetween_35 ?_
      refine AW.iload_n 3 dX0_canBetween_38 rfl ?_
      refine AW.aald (b := 64) kc_63 sk_63 sb_63 k1 dX0_canBetween_39 ?_
      refine AW.iload 1 dX0_canBetween_40 rfl ?_
      obtain ⟨k5, h⟩ := hK h
      refine AW.iald (s2_64 _ (ix_lt k1)).1 (s2_64 _ (ix_lt k1)).2 k5 dX0_canBetween_42 ?_
      refine AW.sub (lv1 := [(0, rv z 6), (1, iv x1), (2, iv x2), (3, iv x3), (4, iv x4), (5, iv x5), (6, iv (x2 + 1)), (7, iv t2)]) [2, 3, 4, 5, 6, 7, 1, 0] rfl ?_
      cases h
      exact J25
    · replace h := hF h c4
      refine AW.sipush dX0_canBetween_28 (by decide) (by decide) ?_
      refine AW.goto (tgt := 43) dX0_canBetween_31 (by decide) ?_
      refine AW.sub (lv1 := [(0, rv z 6), (1, iv x1), (2, iv x2), (3, iv x3), (4, iv x4), (5, iv x5), (6, iv (x2 + 1)), (7, iv t2)]) [2, 3, 4, 5, 6, 7, 1, 0] rfl ?_
      cases h
      exact J25
  refine AW.icmp_lt (tgt := 20) dX0_canBetween_13 (by decide) (fun c25 => ?_) (fun c25 => ?_)
  · refine AW.iconst dX0_canBetween_20 ?_
    exact AW.val (e3.trans (if_pos c25)) J13
  · refine AW.iconst dX0_canBetween_16 ?_
    refine AW.goto (tgt := 21) dX0_canBetween_17 (by decide) ?_
    exact AW.val (e3.trans (if_neg c25)) J13
set_option synthInstance.maxHeartbeats 2000000 in
theorem Boats_canHaveBeen_b_ok {z : AZ} {d : Nat} (hdd : 6 ≤ d) {x1 : Int} {x2 : Int} {x3 : Int} {x4 : Int} : ∀ (x5 : Int) (g : AG) (r : Int × AG), Boats_canHaveBeen_b x1 x2 x3 x4 x5 g = some r → AW z (RX0, cX0_canHaveBeen, 6, (some .boolean)) d (QD (some .boolean) r) 3 [(0, rv z 6), (1, iv x1), (2, iv x2), (3, iv x3), (4, iv x4), (5, iv x5)] [] g := by
  refine Boats_canHaveBeen_b.partial_correctness x1 x2 x3 x4 (fun x5 g r => AW z (RX0, cX0_canHaveBeen, 6, (some .boolean)) d (QD (some .boolean) r) 3 [(0, rv z 6), (1, iv x1), (2, iv x2), (3, iv x3), (4, iv x4), (5, iv x5)] [] g) ?_
  intro fb9 ih x5 g r h
  refine AW.iload 5 dX0_canHaveBeen_3 rfl ?_
  refine AW.aloadr_n 0 dX0_canHaveBeen_5 rfl ?_
  refine AW.getR af_X0_32_6 sr_6_10 dX0_canHaveBeen_6 ?_
  refine AW.iload_n 1 dX0_canHaveBeen_9 rfl ?_
  obtain ⟨k1, h⟩ := hK h
  refine AW.iald kc_74 sk_74 k1 dX0_canHaveBeen_10 ?_
  refine AW.icmp_ge (tgt := 36) dX0_canHaveBeen_11 (by decide) (fun c2 => ?_) (fun c2 => ?_)
  · replace h := hT h c2
    refine AW.iconst dX0_canHaveBeen_36 ?_
    exact AW.zret1 rfl (Or.inl rfl) dX0_canHaveBeen_37 h rfl
  · replace h := hF h c2
    refine AW.aloadr_n 0 dX0_canHaveBeen_14 rfl ?_
    refine AW.iload_n 1 dX0_canHaveBeen_15 rfl ?_
    refine AW.iload 5 dX0_canHaveBeen_16 rfl ?_
    refine AW.iload_n 2 dX0_canHaveBeen_18 rfl ?_
    refine AW.iload_n 3 dX0_canHaveBeen_19 rfl ?_
    refine AW.iload 4 dX0_canHaveBeen_20 rfl ?_
    obtain ⟨r3, e4, h⟩ := hC h
    refine AW.callVi (As := [iv x1, iv x5, iv x2, iv x3, iv x4]) (st := []) (Boats_canBetween_ok e4) cq_X0_54 cr_6_X0_canBetween (Nat.le_trans (by decide) hdd) rfl dX0_canHaveBeen_22 rfl (Nat.le_of_ble_eq_true rfl) ?_
    refine AW.if_eq (tgt := 30) dX0_canHaveBeen_25 (by decide) (fun c5 => ?_) (fun c5 => ?_)
    · replace h := hT h c5
      refine AW.iinc (lv1 := [(5, iv (x5 + 1)), (0, rv z 6), (1, iv x1), (2, iv x2), (3, iv x3), (4, iv x4)]) 5 dX0_canHaveBeen_30 rfl (by decide) rfl ?_
      refine AW.goto (tgt := 3) dX0_canHaveBeen_33 (by decide) ?_
      refine AW.sub (lv1 := [(0, rv z 6), (1, iv x1), (2, iv x2), (3, iv x3), (4, iv x4), (5, iv (x5 + 1))]) [1, 2, 3, 4, 5, 0] rfl ?_
      exact ih _ _ _ h
    · replace h := hF h c5
      refine AW.iconst dX0_canHaveBeen_28 ?_
      exact AW.zret1 rfl (Or.inr rfl) dX0_canHaveBeen_29 h rfl
theorem Boats_canHaveBeen_ok {z : AZ} {x1 : Int} {x2 : Int} {x3 : Int} {x4 : Int} {g : AG} {r : Int × AG} (h : Boats_canHaveBeen x1 x2 x3 x4 g = some r) : AMf z yX0_canHaveBeen cX0_canHaveBeen 6 (some .boolean) 6 [rv z 6, iv x1, iv x2, iv x3, iv x4] g r := by
  intro d hdd
  refine AM.of (by decide +kernel) (Nat.le_of_ble_eq_true rfl) ?_
  show AW z (RX0, cX0_canHaveBeen, 6, (some .boolean)) d (QD (some .boolean) r) 0 [(0, rv z 6), (1, iv x1), (2, iv x2), (3, iv x3), (4, iv x4)] [] g
  unfold Boats_canHaveBeen at h
  refine AW.iconst dX0_canHaveBeen_0 ?_
  refine AW.istore (lv1 := [(5, iv (-1)), (0, rv z 6), (1, iv x1), (2, iv x2), (3, iv x3), (4, iv x4)]) dX0_canHaveBeen_1 (by decide) rfl ?_
  refine AW.sub (lv1 := [(0, rv z 6), (1, iv x1), (2, iv x2), (3, iv x3), (4, iv x4), (5, iv (-1))]) [1, 2, 3, 4, 5, 0] rfl ?_
  exact Boats_canHaveBeen_b_ok hdd _ _ _ h
theorem X_could_ok {z : AZ} {x1 : Int} {x2 : Int} {x3 : Int} {x4 : Int} {g : AG} {r : Int × AG} (h : X_could x1 x2 x3 x4 g = some r) : AMf z yX11_could cX11_could 5 (some .int) 7 [rv z 0, iv x1, iv x2, iv x3, iv x4] g r := by
  intro d hdd
  refine AM.of (by decide +kernel) (Nat.le_of_ble_eq_true rfl) ?_
  show AW z (RX11, cX11_could, 5, (some .int)) d (QD (some .int) r) 0 [(0, rv z 0), (1, iv x1), (2, iv x2), (3, iv x3), (4, iv x4)] [] g
  unfold X_could at h
  refine AW.aloadr_n 0 dX11_could_0 rfl ?_
  refine AW.iload_n 1 dX11_could_1 rfl ?_
  refine AW.iload_n 2 dX11_could_2 rfl ?_
  refine AW.iload_n 2 dX11_could_3 rfl ?_
  refine AW.iload_n 3 dX11_could_4 rfl ?_
  refine AW.callVi (As := [iv x1, iv x2, iv x2, iv x3]) (st := []) X_isWay_ok cq_X11_176 cr_0_X11_isWay (Nat.le_trans (by decide) hdd) rfl dX11_could_5 rfl (Nat.le_of_ble_eq_true rfl) ?_
  refine AW.if_eq (tgt := 25) dX11_could_8 (by decide) (fun c1 => ?_) (fun c1 => ?_)
  · replace h := hT h c1
    refine AW.iconst dX11_could_25 ?_
    exact AW.iret1 rfl dX11_could_26 h rfl
  · replace h := hF h c1
    refine AW.iload 4 dX11_could_11 rfl ?_
    refine AW.callSi (As := [iv x4]) (st := []) X_isTime_ok cq_X11_114 st_X11_isTime (Nat.le_trans (by decide) hdd) rfl dX11_could_13 rfl (Nat.le_of_ble_eq_true rfl) ?_
    refine AW.if_eq (tgt := 25) dX11_could_16 (by decide) (fun c2 => ?_) (fun c2 => ?_)
    · replace h := hT h c2
      refine AW.iconst dX11_could_25 ?_
      exact AW.iret1 rfl dX11_could_26 h rfl
    · replace h := hF h c2
      refine AW.iload_n 3 dX11_could_19 rfl ?_
      refine AW.iload 4 dX11_could_20 rfl ?_
      refine AW.icmp_le (tgt := 27) dX11_could_22 (by decide) (fun c3 => ?_) (fun c3 => ?_)
      · replace h := hT h c3
        refine AW.aloadr_n 0 dX11_could_27 rfl ?_
        refine AW.getR af_X11_49_0 sr_0_5 dX11_could_28 ?_
        refine AW.iload_n 1 dX11_could_31 rfl ?_
        refine AW.iload_n 2 dX11_could_32 rfl ?_
        refine AW.iload_n 3 dX11_could_33 rfl ?_
        refine AW.iload 4 dX11_could_34 rfl ?_
        obtain ⟨r4, e5, h⟩ := hC h
        refine AW.callVi (As := [iv x1, iv x2, iv x3, iv x4]) (st := []) (Boats_canHaveBeen_ok e5) cq_X11_229 cr_6_X0_canHaveBeen (Nat.le_trans (by decide) hdd) rfl dX11_could_36 rfl (Nat.le_of_ble_eq_true rfl) ?_
        obtain ⟨t6, e7, h⟩ := hBe h
        refine AW.join (tgt := 47) (lv1 := [(0, rv z 0), (1, iv x1), (2, iv x2), (3, iv x3), (4, iv x4)]) (st1 := [iv t6]) (g1 := r4.2) ?_ (fun J39 => ?_)
        · exact AW.iret1 rfl dX11_could_47 h rfl
        refine AW.if_eq (tgt := 46) dX11_could_39 (by decide) (fun c8 => ?_) (fun c8 => ?_)
        · refine AW.iconst dX11_could_46 ?_
          exact AW.val (e7.trans (if_pos c8)) J39
        · refine AW.iconst dX11_could_42 ?_
          refine AW.goto (tgt := 47) dX11_could_43 (by decide) ?_
          exact AW.val (e7.trans (if_neg c8)) J39
      · replace h := hF h c3
        refine AW.iconst dX11_could_25 ?_
        exact AW.iret1 rfl dX11_could_26 h rfl
set_option synthInstance.maxHeartbeats 2000000 in
theorem X_whose_b_ok {z : AZ} {d : Nat} (hdd : 7 ≤ d) {x1 : Int} {x2 : Int} {x3 : Int} {x4 : Int} : ∀ (x5 : Int) (x6 : Int) (x7 : Int) (g : AG) (r : Int × AG), X_whose_b x1 x2 x3 x4 x5 x6 x7 g = some r → AW z (RX11, cX11_whose, 8, (some .int)) d (QD (some .int) r) 49 [(0, rv z 0), (1, iv x1), (2, iv x2), (3, iv x3), (4, iv x4), (5, iv x5), (6, iv x6), (7, iv x7)] [] g := by
  refine X_whose_b.partial_correctness x1 x2 x3 x4 (fun x5 x6 x7 g r => AW z (RX11, cX11_whose, 8, (some .int)) d (QD (some .int) r) 49 [(0, rv z 0), (1, iv x1), (2, iv x2), (3, iv x3), (4, iv x4), (5, iv x5), (6, iv x6), (7, iv x7)] [] g) ?_
  intro fb9 ih x5 x6 x7 g r h
  refine AW.iload 7 dX11_whose_49 rfl ?_
  refine AW.aloadr_n 0 dX11_whose_51 rfl ?_
  refine AW.getR af_X11_49_0 sr_0_5 dX11_whose_52 ?_
  refine AW.getI af_X11_103_6 sr_6_7 dX11_whose_55 ?_
  refine AW.icmp_ge (tgt := 95) dX11_whose_58 (by decide) (fun c1 => ?_) (fun c1 => ?_)
  · replace h := hT h c1
    refine AW.iload 4 dX11_whose_95 rfl ?_
    refine AW.if_ne (tgt := 103) dX11_whose_97 (by decide) (fun c2 => ?_) (fun c2 => ?_)
    · replace h := hF h c2
      refine AW.iload 5 dX11_whose_103 rfl ?_
      obtain ⟨r3, e4, h⟩ := hC h
      refine AW.callSi (As := [iv x5]) (st := []) (Integer_bitCount_ok e4) cq_X11_232 st_J6_bitCount_0f7a4 (Nat.le_trans (by decide) hdd) rfl dX11_whose_105 rfl (Nat.le_of_ble_eq_true rfl) ?_
      refine AW.iconst dX11_whose_108 ?_
      obtain ⟨t5, e6, h⟩ := hBe h
      refine AW.join (tgt := 118) (lv1 := [(0, rv z 0), (1, iv x1), (2, iv x2), (3, iv x3), (4, iv x4), (5, iv x5), (6, iv x6), (7, iv x7)]) (st1 := [iv t5]) (g1 := g) ?_ (fun J109 => ?_)
      · exact AW.iret1 rfl dX11_whose_118 h rfl
      refine AW.icmp_ne (tgt := 117) dX11_whose_109 (by decide) (fun c7 => ?_) (fun c7 => ?_)
      · refine AW.iconst dX11_whose_117 ?_
        exact AW.val (e6.trans (if_neg c7)) J109
      · refine AW.iload 6 dX11_whose_112 rfl ?_
        refine AW.goto (tgt := 118) dX11_whose_114 (by decide) ?_
        exact AW.val (e6.trans (if_pos c7)) J109
    · replace h := hT h c2
      refine AW.iload 5 dX11_whose_100 rfl ?_
      exact AW.iret1 rfl dX11_whose_102 h rfl
  · replace h := hF h c1
    refine AW.aloadr_n 0 dX11_whose_61 rfl ?_
    refine AW.getR af_X11_49_0 sr_0_5 dX11_whose_62 ?_
    refine AW.iload 7 dX11_whose_65 rfl ?_
    refine AW.iload_n 1 dX11_whose_67 rfl ?_
    refine AW.iload_n 2 dX11_whose_68 rfl ?_
    refine AW.iload_n 3 dX11_whose_69 rfl ?_
    obtain ⟨r8, e9, h⟩ := hC h
    refine AW.callVi (As := [iv x7, iv x1, iv x2, iv x3]) (st := []) (Boats_canHaveBeen_ok e9) cq_X11_229 cr_6_X0_canHaveBeen (Nat.le_trans (by decide) hdd) rfl dX11_whose_70 rfl (Nat.le_of_ble_eq_true rfl) ?_
    obtain ⟨r11, e12, h⟩ := hC h
    refine AW.join (tgt := 89) (lv1 := [(0, rv z 0), (1, iv x1), (2, iv x2), (3, iv x3), (4, iv x4), (5, iv r11.1), (6, iv r11.2.1), (7, iv x7)]) (st1 := []) (g1 := r11.2.2) ?_ (fun J73 => ?_)
    · refine AW.iinc (lv1 := [(7, iv (x7 + 1)), (0, rv z 0), (1, iv x1), (2, iv x2), (3, iv x3), (4, iv x4), (5, iv r11.1), (6, iv r11.2.1)]) 7 dX11_whose_89 rfl (by decide) rfl ?_
      refine AW.goto (tgt := 49) dX11_whose_92 (by decide) ?_
      refine AW.sub (lv1 := [(0, rv z 0), (1, iv x1), (2, iv x2), (3, iv x3), (4, iv x4), (5, iv r11.1), (6, iv r11.2.1), (7, iv (x7 + 1))]) [1, 2, 3, 4, 5, 6, 7, 0] rfl ?_
      exact ih _ _ _ _ _ h
    replace h := e12
    refine AW.if_eq (tgt := 89) dX11_whose_73 (by decide) (fun c10 => ?_) (fun c10 => ?_)
    · replace h := hT h c10
      cases h
      exact J73
    · replace h := hF h c10
      refine AW.iload 5 dX11_whose_76 rfl ?_
      refine AW.iconst dX11_whose_78 ?_
      refine AW.iload 7 dX11_whose_79 rfl ?_
      refine AW.ishl dX11_whose_81 ?_
      refine AW.ior dX11_whose_82 ?_
      refine AW.istore (lv1 := [(5, iv (orI x5 (shlI 1 x7))), (0, rv z 0), (1, iv x1), (2, iv x2), (3, iv x3), (4, iv x4), (6, iv x6), (7, iv x7)]) dX11_whose_83 (by decide) rfl ?_
      refine AW.iload 7 dX11_whose_85 rfl ?_
      refine AW.istore (lv1 := [(6, iv x7), (5, iv (orI x5 (shlI 1 x7))), (0, rv z 0), (1, iv x1), (2, iv x2), (3, iv x3), (4, iv x4), (7, iv x7)]) dX11_whose_87 (by decide) rfl ?_
      refine AW.sub (lv1 := [(0, rv z 0), (1, iv x1), (2, iv x2), (3, iv x3), (4, iv x4), (5, iv (orI x5 (shlI 1 x7))), (6, iv x7), (7, iv x7)]) [2, 3, 4, 5, 6, 1, 0, 7] rfl ?_
      cases h
      exact J73
theorem X_whose_ok {z : AZ} {x1 : Int} {x2 : Int} {x3 : Int} {x4 : Int} {g : AG} {r : Int × AG} (h : X_whose x1 x2 x3 x4 g = some r) : AMf z yX11_whose cX11_whose 8 (some .int) 7 [rv z 0, iv x1, iv x2, iv x3, iv x4] g r := by
  intro d hdd
  refine AM.of (by decide +kernel) (Nat.le_of_ble_eq_true rfl) ?_
  show AW z (RX11, cX11_whose, 8, (some .int)) d (QD (some .int) r) 0 [(0, rv z 0), (1, iv x1), (2, iv x2), (3, iv x3), (4, iv x4)] [] g
  unfold X_whose at h
  refine AW.iload_n 1 dX11_whose_0 rfl ?_
  refine AW.callSi (As := [iv x1]) (st := []) X_isPoint_ok cq_X11_111 st_X11_isPoint (Nat.le_trans (by decide) hdd) rfl dX11_whose_1 rfl (Nat.le_of_ble_eq_true rfl) ?_
  refine AW.if_eq (tgt := 26) dX11_whose_4 (by decide) (fun c1 => ?_) (fun c1 => ?_)
  · replace h := hT h c1
    refine AW.iconst dX11_whose_26 ?_
    exact AW.iret1 rfl dX11_whose_27 h rfl
  · replace h := hF h c1
    refine AW.iload_n 2 dX11_whose_7 rfl ?_
    refine AW.callSi (As := [iv x2]) (st := []) X_isTime_ok cq_X11_114 st_X11_isTime (Nat.le_trans (by decide) hdd) rfl dX11_whose_8 rfl (Nat.le_of_ble_eq_true rfl) ?_
    refine AW.if_eq (tgt := 26) dX11_whose_11 (by decide) (fun c2 => ?_) (fun c2 => ?_)
    · replace h := hT h c2
      refine AW.iconst dX11_whose_26 ?_
      exact AW.iret1 rfl dX11_whose_27 h rfl
    · replace h := hF h c2
      refine AW.iload_n 3 dX11_whose_14 rfl ?_
      refine AW.callSi (As := [iv x3]) (st := []) X_isTime_ok cq_X11_114 st_X11_isTime (Nat.le_trans (by decide) hdd) rfl dX11_whose_15 rfl (Nat.le_of_ble_eq_true rfl) ?_
      refine AW.if_eq (tgt := 26) dX11_whose_18 (by decide) (fun c3 => ?_) (fun c3 => ?_)
      · replace h := hT h c3
        refine AW.iconst dX11_whose_26 ?_
        exact AW.iret1 rfl dX11_whose_27 h rfl
      · replace h := hF h c3
        refine AW.iload_n 2 dX11_whose_21 rfl ?_
        refine AW.iload_n 3 dX11_whose_22 rfl ?_
        refine AW.icmp_le (tgt := 28) dX11_whose_23 (by decide) (fun c4 => ?_) (fun c4 => ?_)
        · replace h := hT h c4
          refine AW.iload 4 dX11_whose_28 rfl ?_
          refine AW.iconst dX11_whose_30 ?_
          refine AW.iconst dX11_whose_31 ?_
          refine AW.callSi (As := [iv x4, iv 0, iv 1]) (st := []) X_within_ok cq_X11_99 st_X11_within (Nat.le_trans (by decide) hdd) rfl dX11_whose_32 rfl (Nat.le_of_ble_eq_true rfl) ?_
          refine AW.if_ne (tgt := 40) dX11_whose_35 (by decide) (fun c5 => ?_) (fun c5 => ?_)
          · replace h := hF h c5
            refine AW.iconst dX11_whose_40 ?_
            refine AW.istore (lv1 := [(5, iv 0), (0, rv z 0), (1, iv x1), (2, iv x2), (3, iv x3), (4, iv x4)]) dX11_whose_41 (by decide) rfl ?_
            refine AW.iconst dX11_whose_43 ?_
            refine AW.istore (lv1 := [(6, iv (-1)), (5, iv 0), (0, rv z 0), (1, iv x1), (2, iv x2), (3, iv x3), (4, iv x4)]) dX11_whose_44 (by decide) rfl ?_
            refine AW.iconst dX11_whose_46 ?_
            refine AW.istore (lv1 := [(7, iv 0), (6, iv (-1)), (5, iv 0), (0, rv z 0), (1, iv x1), (2, iv x2), (3, iv x3), (4, iv x4)]) dX11_whose_47 (by decide) rfl ?_
            refine AW.sub (lv1 := [(0, rv z 0), (1, iv x1), (2, iv x2), (3, iv x3), (4, iv x4), (5, iv 0), (6, iv (-1)), (7, iv 0)]) [3, 4, 5, 6, 7, 2, 1, 0] rfl ?_
            exact X_whose_b_ok hdd _ _ _ _ _ h
          · replace h := hT h c5
            refine AW.iconst dX11_whose_38 ?_
            exact AW.iret1 rfl dX11_whose_39 h rfl
        · replace h := hF h c4
          refine AW.iconst dX11_whose_26 ?_
          exact AW.iret1 rfl dX11_whose_27 h rfl
