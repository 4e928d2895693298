theorem Trips_refund_ok {z : AZ} {x1 : Int} {g : AG} {r : Int × AG} (h : Trips_refund x1 g = some r) : AMf z yX7_refund cX7_refund 6 (some .int) 6 [rv z 7, iv x1] g r := by
  intro d hdd
  refine AM.of (by decide +kernel) (Nat.le_of_ble_eq_true rfl) ?_
  show AW z (RX7, cX7_refund, 6, (some .int)) d (QD (some .int) r) 0 [(0, rv z 7), (1, iv x1)] [] g
  unfold Trips_refund at h
  refine AW.aloadr_n 0 (dcN_0 dcg_237 :) rfl ?_
  refine AW.iload_n 1 (dcN_1 dcg_237 :) rfl ?_
  refine AW.iconst (dcN_2 dcg_237 :) ?_
  obtain ⟨r1, e2, h⟩ := hC h
  refine AW.callVi (As := [iv x1, iv 1]) (st := []) (Trips_lateBy_ok e2) cq_X7_60 cr_7_X7_lateBy (Nat.le_trans (by decide) hdd) rfl (dcN_3 dcg_237 :) rfl (Nat.le_of_ble_eq_true rfl) ?_
  refine AW.istore_n (lv1 := [(2, iv r1.1), (0, rv z 7), (1, iv x1)]) (dcN_4 dcg_237 :) (by decide) rfl ?_
  refine AW.iload_n 0 (dcN_5 dcg_237 :) rfl ?_
  refine AW.if_ne (tgt := 13) (dcN_6 dcg_237 :) (by decide) (fun c3 => ?_) (fun c3 => ?_)
  · replace h := hF h c3
    refine AW.aloadr_n 1 (dcN_9 dcg_237 :) rfl ?_
    refine AW.getR af_X7_27_7 sr_7_0 (dcN_10 dcg_237 :) ?_
    refine AW.aloadr_n 1 (dcN_11 dcg_237 :) rfl ?_
    refine AW.getR af_X7_9_7 sr_7_3 (dcN_12 dcg_237 :) ?_
    refine AW.iload_n 2 (dcN_13 dcg_237 :) rfl ?_
    obtain ⟨k4, h⟩ := hK h
    refine AW.iald kc_76 sk_76 k4 (dcN_14 dcg_237 :) ?_
    refine AW.aloadr_n 1 (dcN_15 dcg_237 :) rfl ?_
    refine AW.getR af_X7_21_7 sr_7_6 (dcN_16 dcg_237 :) ?_
    refine AW.iload_n 2 (dcN_17 dcg_237 :) rfl ?_
    refine AW.iald kc_79 sk_79 k4 (dcN_18 dcg_237 :) ?_
    refine AW.sipush (dcN_19 dcg_237 :) (by decide) (by decide) ?_
    refine AW.idiv (dcN_0 dcg_238 :) (by decide) ?_
    refine AW.bipush (dcN_1 dcg_238 :) (by decide) (by decide) ?_
    refine AW.idiv (dcN_2 dcg_238 :) (by decide) ?_
    refine AW.aloadr_n 1 (dcN_3 dcg_238 :) rfl ?_
    refine AW.getR af_X7_15_7 sr_7_4 (dcN_4 dcg_238 :) ?_
    refine AW.iload_n 2 (dcN_5 dcg_238 :) rfl ?_
    refine AW.iald kc_77 sk_77 k4 (dcN_6 dcg_238 :) ?_
    refine AW.aloadr_n 1 (dcN_7 dcg_238 :) rfl ?_
    refine AW.getR af_X7_18_7 sr_7_5 (dcN_8 dcg_238 :) ?_
    refine AW.iload_n 2 (dcN_9 dcg_238 :) rfl ?_
    refine AW.iald kc_78 sk_78 k4 (dcN_10 dcg_238 :) ?_
    obtain ⟨t5, e6, h⟩ := hBe h
    refine AW.join (tgt := 56) (lv1 := [(2, iv r1.1), (0, rv z 7), (1, iv x1)]) (st1 := [iv t5, iv ((nw ((nw (r1.2 79 (ix x1))).tdiv 1440)).tdiv 7), iv (r1.2 76 (ix x1)), rv z 6]) (g1 := r1.2) ?_ (fun J48 => ?_)
    · obtain ⟨r7, e8, h⟩ := hC h
      refine AW.callVi (As := [iv (r1.2 76 (ix x1)), iv ((nw ((nw (r1.2 79 (ix x1))).tdiv 1440)).tdiv 7), iv t5]) (st := []) (Boats_priceLine_ok e8) cq_X7_73 cr_6_X0_priceLine (Nat.le_trans (by decide) hdd) rfl (dcN_15 dcg_238 :) rfl (Nat.le_of_ble_eq_true rfl) ?_
      refine AW.istore_n (lv1 := [(3, iv r7.1), (2, iv r1.1), (0, rv z 7), (1, iv x1)]) (dcN_16 dcg_238 :) (by decide) rfl ?_
      refine AW.iload_n 0 (dcN_17 dcg_238 :) rfl ?_
      refine AW.iconst (dcN_18 dcg_238 :) ?_
      refine AW.icmp_ne (tgt := 68) (dcN_19 dcg_238 :) (by decide) (fun c9 => ?_) (fun c9 => ?_)
      · replace h := hF h c9
        refine AW.bipush (dcN_2 dcg_239 :) (by decide) (by decide) ?_
        refine AW.iload_n 1 (dcN_3 dcg_239 :) rfl ?_
        refine AW.sipush (dcN_4 dcg_239 :) (by decide) (by decide) ?_
        refine AW.iadd (dcN_5 dcg_239 :) ?_
        refine AW.iconst (dcN_6 dcg_239 :) ?_
        refine AW.isub (dcN_7 dcg_239 :) ?_
        refine AW.sipush (dcN_8 dcg_239 :) (by decide) (by decide) ?_
        refine AW.idiv (dcN_9 dcg_239 :) (by decide) ?_
        refine AW.mmin (st := []) cm_X7_77 mst_min mini mcd_min (Nat.le_trans (by decide) hdd) (Nat.le_of_ble_eq_true rfl) (dcN_10 dcg_239 :) ?_
        refine AW.i2l (dcN_11 dcg_239 :) ?_
        refine AW.lstore (lv1 := [(4, jv (nw (mnI 7 ((nw ((r1.1 + 1440) - 1)).tdiv 1440)))), (3, iv r7.1), (2, iv r1.1), (0, rv z 7), (1, iv x1)]) (dcN_12 dcg_239 :) (by decide) rfl ?_
        refine AW.aloadr_n 3 (dcN_13 dcg_239 :) rfl ?_
        refine AW.getR af_X7_31_7 sr_7_1 (dcN_14 dcg_239 :) ?_
        refine AW.iload_n 1 (dcN_15 dcg_239 :) rfl ?_
        obtain ⟨r10, e11, h⟩ := hC h
        refine AW.callVi (As := [iv r7.1]) (st := []) (Rules_valueOf_ok e11) cq_X7_80 cr_2_X6_valueOf (Nat.le_trans (by decide) hdd) rfl (dcN_16 dcg_239 :) rfl (Nat.le_of_ble_eq_true rfl) ?_
        refine AW.i2l (dcN_17 dcg_239 :) ?_
        refine AW.lload 0 (dcN_0 dcg_240 :) rfl ?_
        refine AW.lmul (dcN_1 dcg_240 :) ?_
        refine AW.ldc2 (dcN_2 dcg_240 :) cw_X7_85 ?_
        refine AW.ldiv (dcN_3 dcg_240 :) (by decide) ?_
        refine AW.l2i (dcN_4 dcg_240 :) ?_
        exact AW.iret1 rfl (dcN_5 dcg_240 :) h rfl
      · replace h := hT h c9
        refine AW.ldc (dcN_0 dcg_239 :) cw_X7_64 ?_
        exact AW.iret1 rfl (dcN_1 dcg_239 :) h rfl
    refine AW.icmp_eq (tgt := 55) (dcN_11 dcg_238 :) (by decide) (fun c12 => ?_) (fun c12 => ?_)
    · refine AW.iconst (dcN_14 dcg_238 :) ?_
      exact AW.val (e6.trans (if_pos c12)) J48
    · refine AW.iconst (dcN_12 dcg_238 :) ?_
      refine AW.goto (tgt := 56) (dcN_13 dcg_238 :) (by decide) ?_
      exact AW.val (e6.trans (if_neg c12)) J48
  · replace h := hT h c3
    refine AW.iconst (dcN_7 dcg_237 :) ?_
    exact AW.iret1 rfl (dcN_8 dcg_237 :) h rfl
theorem Trips_isBackInTime_ok {z : AZ} {x1 : Int} {x2 : Int} {g : AG} {r : Int × AG} (h : Trips_isBackInTime x1 x2 g = some r) : AMf z yX7_isBackInTime cX7_isBackInTime 6 (some .boolean) 5 [rv z 7, iv x1, iv x2] g r := by
  intro d hdd
  refine AM.of (by decide +kernel) (Nat.le_of_ble_eq_true rfl) ?_
  show AW z (RX7, cX7_isBackInTime, 6, (some .boolean)) d (QD (some .boolean) r) 0 [(0, rv z 7), (1, iv x1), (2, iv x2)] [] g
  unfold Trips_isBackInTime at h
  refine AW.aloadr_n 0 (dcN_0 dcg_234 :) rfl ?_
  refine AW.getR af_X7_27_7 sr_7_0 (dcN_1 dcg_234 :) ?_
  refine AW.getR af_X7_43_6 sr_6_6 (dcN_2 dcg_234 :) ?_
  refine AW.aloadr_n 0 (dcN_3 dcg_234 :) rfl ?_
  refine AW.getR af_X7_9_7 sr_7_3 (dcN_4 dcg_234 :) ?_
  refine AW.iload_n 1 (dcN_5 dcg_234 :) rfl ?_
  obtain ⟨k1, h⟩ := hK h
  refine AW.iald kc_76 sk_76 k1 (dcN_6 dcg_234 :) ?_
  obtain ⟨k2, h⟩ := hK h
  refine AW.iald kc_51 sk_51 k2 (dcN_7 dcg_234 :) ?_
  refine AW.istore_n (lv1 := [(3, iv (g 51 (ix (g 76 (ix x1))))), (0, rv z 7), (1, iv x1), (2, iv x2)]) (dcN_8 dcg_234 :) (by decide) rfl ?_
  refine AW.aloadr_n 1 (dcN_9 dcg_234 :) rfl ?_
  refine AW.getR af_X7_35_7 sr_7_2 (dcN_10 dcg_234 :) ?_
  refine AW.iload_n 0 (dcN_11 dcg_234 :) rfl ?_
  refine AW.aloadr_n 1 (dcN_12 dcg_234 :) rfl ?_
  refine AW.getR af_X7_15_7 sr_7_4 (dcN_13 dcg_234 :) ?_
  refine AW.iload_n 2 (dcN_14 dcg_234 :) rfl ?_
  refine AW.iald kc_77 sk_77 k1 (dcN_15 dcg_234 :) ?_
  refine AW.iload_n 3 (dcN_16 dcg_234 :) rfl ?_
  refine AW.aloadr_n 1 (dcN_17 dcg_234 :) rfl ?_
  refine AW.getR af_X7_21_7 sr_7_6 (dcN_18 dcg_234 :) ?_
  refine AW.iload_n 2 (dcN_19 dcg_234 :) rfl ?_
  refine AW.iald kc_79 sk_79 k1 (dcN_0 dcg_235 :) ?_
  refine AW.iconst (dcN_1 dcg_235 :) ?_
  obtain ⟨r3, e4, h⟩ := hC h
  refine AW.callVi (As := [iv (g 51 (ix (g 76 (ix x1)))), iv (g 77 (ix x1)), iv x2, iv (g 79 (ix x1)), iv 1]) (st := []) (Voyage_comesTo_ok e4) cq_X7_48 cr_5_X9_comesTo (Nat.le_trans (by decide) hdd) rfl (dcN_2 dcg_235 :) rfl (Nat.le_of_ble_eq_true rfl) ?_
  refine AW.istore (lv1 := [(4, iv r3.1), (3, iv (g 51 (ix (g 76 (ix x1))))), (0, rv z 7), (1, iv x1), (2, iv x2)]) (dcN_3 dcg_235 :) (by decide) rfl ?_
  refine AW.iload 0 (dcN_4 dcg_235 :) rfl ?_
  refine AW.iconst (dcN_5 dcg_235 :) ?_
  refine AW.icmp_ne (tgt := 47) (dcN_6 dcg_235 :) (by decide) (fun c5 => ?_) (fun c5 => ?_)
  · replace h := hF h c5
    refine AW.aloadr_n 2 (dcN_9 dcg_235 :) rfl ?_
    refine AW.getR af_X7_35_7 sr_7_2 (dcN_10 dcg_235 :) ?_
    refine AW.iload_n 1 (dcN_11 dcg_235 :) rfl ?_
    refine AW.iload_n 4 (dcN_12 dcg_235 :) rfl ?_
    refine AW.aloadr_n 2 (dcN_13 dcg_235 :) rfl ?_
    refine AW.getR af_X7_15_7 sr_7_4 (dcN_14 dcg_235 :) ?_
    refine AW.iload_n 3 (dcN_15 dcg_235 :) rfl ?_
    refine AW.iald kc_77 sk_77 k1 (dcN_16 dcg_235 :) ?_
    refine AW.iload 0 (dcN_17 dcg_235 :) rfl ?_
    refine AW.iconst (dcN_18 dcg_235 :) ?_
    obtain ⟨r6, e7, h⟩ := hC h
    refine AW.callVi (As := [iv (g 51 (ix (g 76 (ix x1)))), iv x2, iv (r3.2 77 (ix x1)), iv r3.1, iv 1]) (st := []) (Voyage_comesTo_ok e7) cq_X7_48 cr_5_X9_comesTo (Nat.le_trans (by decide) hdd) rfl (dcN_19 dcg_235 :) rfl (Nat.le_of_ble_eq_true rfl) ?_
    refine AW.istore (lv1 := [(5, iv r6.1), (4, iv r3.1), (3, iv (g 51 (ix (g 76 (ix x1))))), (0, rv z 7), (1, iv x1), (2, iv x2)]) (dcN_0 dcg_236 :) (by decide) rfl ?_
    refine AW.iload 0 (dcN_1 dcg_236 :) rfl ?_
    refine AW.iconst (dcN_2 dcg_236 :) ?_
    obtain ⟨r12, e13, h⟩ := hC h
    refine AW.join (tgt := 89) (lv1 := []) (st1 := [iv r12.1]) (g1 := r12.2) ?_ (fun J70 => ?_)
    · obtain ⟨k14, h⟩ := hK h
      exact AW.zret1 rfl k14 (dcN_13 dcg_236 :) h rfl
    replace h := e13
    refine AW.icmp_eq (tgt := 88) (dcN_3 dcg_236 :) (by decide) (fun c8 => ?_) (fun c8 => ?_)
    · replace h := hT h c8
      refine AW.iconst (dcN_12 dcg_236 :) ?_
      refine AW.sub (lv1 := []) [] rfl ?_
      cases h
      exact J70
    · replace h := hF h c8
      refine AW.iload 0 (dcN_4 dcg_236 :) rfl ?_
      refine AW.aloadr_n 3 (dcN_5 dcg_236 :) rfl ?_
      refine AW.getR af_X7_24_7 sr_7_7 (dcN_6 dcg_236 :) ?_
      refine AW.iload_n 4 (dcN_7 dcg_236 :) rfl ?_
      refine AW.iald kc_80 sk_80 k1 (dcN_8 dcg_236 :) ?_
      obtain ⟨t9, e10, h⟩ := hBe h
      refine AW.join (tgt := 89) (lv1 := [(5, iv r6.1), (4, iv r3.1), (3, iv (g 51 (ix (g 76 (ix x1))))), (0, rv z 7), (1, iv x1), (2, iv x2)]) (st1 := [iv t9]) (g1 := r6.2) ?_ (fun J81 => ?_)
      · refine AW.sub (lv1 := []) [] rfl ?_
        cases h
        exact J70
      refine AW.icmp_gt (tgt := 88) (dcN_9 dcg_236 :) (by decide) (fun c11 => ?_) (fun c11 => ?_)
      · refine AW.iconst (dcN_12 dcg_236 :) ?_
        exact AW.val (e10.trans (if_pos c11)) J81
      · refine AW.iconst (dcN_10 dcg_236 :) ?_
        refine AW.goto (tgt := 89) (dcN_11 dcg_236 :) (by decide) ?_
        exact AW.val (e10.trans (if_neg c11)) J81
  · replace h := hT h c5
    refine AW.iconst (dcN_7 dcg_235 :) ?_
    exact AW.zret1 rfl (Or.inl rfl) (dcN_8 dcg_235 :) h rfl
set_option synthInstance.maxHeartbeats 2000000 in
theorem Trips_turningBack_b_ok {z : AZ} {d : Nat} (hdd : 6 ≤ d) {x1 : Int} {x3 : Int} {x4 : Int} : ∀ (x2 : Int) (x5 : Int) (g : AG) (r : Int × AG), Trips_turningBack_b x1 x3 x4 x2 x5 g = some r → AW z (RX7, cX7_turningBack, 7, (some .int)) d (QD (some .int) r) 45 [(0, rv z 7), (1, iv x1), (2, iv x2), (3, iv x3), (4, iv x4), (5, iv x5)] [] g := by
  refine Trips_turningBack_b.partial_correctness x1 x3 x4 (fun x2 x5 g r => AW z (RX7, cX7_turningBack, 7, (some .int)) d (QD (some .int) r) 45 [(0, rv z 7), (1, iv x1), (2, iv x2), (3, iv x3), (4, iv x4), (5, iv x5)] [] g) ?_
  intro fb9 ih x2 x5 g r h
  refine AW.iload 5 (dcN_7 dcg_232 :) rfl ?_
  refine AW.iload 4 (dcN_8 dcg_232 :) rfl ?_
  refine AW.icmp_gt (tgt := 84) (dcN_9 dcg_232 :) (by decide) (fun c1 => ?_) (fun c1 => ?_)
  · replace h := hT h c1
    refine AW.iload_n 2 (dcN_9 dcg_233 :) rfl ?_
    exact AW.iret1 rfl (dcN_10 dcg_233 :) h rfl
  · replace h := hF h c1
    refine AW.aloadr_n 0 (dcN_10 dcg_232 :) rfl ?_
    refine AW.getR af_X7_15_7 sr_7_4 (dcN_11 dcg_232 :) ?_
    refine AW.iload_n 1 (dcN_12 dcg_232 :) rfl ?_
    obtain ⟨k2, h⟩ := hK h
    refine AW.iald kc_77 sk_77 k2 (dcN_13 dcg_232 :) ?_
    refine AW.iload 5 (dcN_14 dcg_232 :) rfl ?_
    refine AW.iload_n 3 (dcN_15 dcg_232 :) rfl ?_
    refine AW.imul (dcN_16 dcg_232 :) ?_
    refine AW.iadd (dcN_17 dcg_232 :) ?_
    refine AW.istore (lv1 := [(6, iv ((g 77 (ix x1)) + (x5 * x3))), (0, rv z 7), (1, iv x1), (2, iv x2), (3, iv x3), (4, iv x4), (5, iv x5)]) (dcN_18 dcg_232 :) (by decide) rfl ?_
    refine AW.aloadr_n 1 (dcN_0 dcg_233 :) rfl ?_
    refine AW.iload_n 2 (dcN_1 dcg_233 :) rfl ?_
    refine AW.iload 0 (dcN_2 dcg_233 :) rfl ?_
    obtain ⟨r3, e4, h⟩ := hC h
    refine AW.callVi (As := [iv x1, iv ((g 77 (ix x1)) + (x5 * x3))]) (st := []) (Trips_isBackInTime_ok e4) cq_X7_69 cr_7_X7_isBackInTime (Nat.le_trans (by decide) hdd) rfl (dcN_3 dcg_233 :) rfl (Nat.le_of_ble_eq_true rfl) ?_
    obtain ⟨r6, e7, h⟩ := hC h
    refine AW.join (tgt := 78) (lv1 := [(0, rv z 7), (1, iv x1), (2, iv r6.1), (3, iv x3), (4, iv x4), (5, iv x5)]) (st1 := []) (g1 := r6.2) ?_ (fun J72 => ?_)
    · refine AW.iinc (lv1 := [(5, iv (x5 + 1)), (0, rv z 7), (1, iv x1), (2, iv r6.1), (3, iv x3), (4, iv x4)]) 5 (dcN_7 dcg_233 :) rfl (by decide) rfl ?_
      refine AW.goto (tgt := 45) (dcN_8 dcg_233 :) (by decide) ?_
      refine AW.sub (lv1 := [(0, rv z 7), (1, iv x1), (2, iv r6.1), (3, iv x3), (4, iv x4), (5, iv (x5 + 1))]) [1, 2, 3, 4, 5, 0] rfl ?_
      exact ih _ _ _ _ h
    replace h := e7
    refine AW.if_eq (tgt := 78) (dcN_4 dcg_233 :) (by decide) (fun c5 => ?_) (fun c5 => ?_)
    · replace h := hT h c5
      refine AW.sub (lv1 := [(0, rv z 7), (1, iv x1), (2, iv x2), (3, iv x3), (4, iv x4), (5, iv x5)]) [1, 2, 3, 4, 5, 6] rfl ?_
      cases h
      exact J72
    · replace h := hF h c5
      refine AW.iload 0 (dcN_5 dcg_233 :) rfl ?_
      refine AW.istore_n (lv1 := [(2, iv ((g 77 (ix x1)) + (x5 * x3))), (6, iv ((g 77 (ix x1)) + (x5 * x3))), (0, rv z 7), (1, iv x1), (3, iv x3), (4, iv x4), (5, iv x5)]) (dcN_6 dcg_233 :) (by decide) rfl ?_
      refine AW.sub (lv1 := [(0, rv z 7), (1, iv x1), (2, iv ((g 77 (ix x1)) + (x5 * x3))), (3, iv x3), (4, iv x4), (5, iv x5)]) [2, 3, 0, 4, 5, 6] rfl ?_
      cases h
      exact J72
theorem Trips_turningBack_ok {z : AZ} {x1 : Int} {g : AG} {r : Int × AG} (h : Trips_turningBack x1 g = some r) : AMf z yX7_turningBack cX7_turningBack 7 (some .int) 6 [rv z 7, iv x1] g r := by
  intro d hdd
  refine AM.of (by decide +kernel) (Nat.le_of_ble_eq_true rfl) ?_
  show AW z (RX7, cX7_turningBack, 7, (some .int)) d (QD (some .int) r) 0 [(0, rv z 7), (1, iv x1)] [] g
  unfold Trips_turningBack at h
  refine AW.ldc (dcN_0 dcg_231 :) cw_X7_64 ?_
  refine AW.istore_n (lv1 := [(2, iv (-1000000)), (0, rv z 7), (1, iv x1)]) (dcN_1 dcg_231 :) (by decide) rfl ?_
  refine AW.aloadr_n 1 (dcN_2 dcg_231 :) rfl ?_
  refine AW.getR af_X7_18_7 sr_7_5 (dcN_3 dcg_231 :) ?_
  refine AW.iload_n 2 (dcN_4 dcg_231 :) rfl ?_
  obtain ⟨k1, h⟩ := hK h
  refine AW.iald kc_78 sk_78 k1 (dcN_5 dcg_231 :) ?_
  refine AW.aloadr_n 1 (dcN_6 dcg_231 :) rfl ?_
  refine AW.getR af_X7_15_7 sr_7_4 (dcN_7 dcg_231 :) ?_
  refine AW.iload_n 2 (dcN_8 dcg_231 :) rfl ?_
  refine AW.iald kc_77 sk_77 k1 (dcN_9 dcg_231 :) ?_
  obtain ⟨t2, e3, h⟩ := hBe h
  refine AW.join (tgt := 23) (lv1 := [(2, iv (-1000000)), (0, rv z 7), (1, iv x1)]) (st1 := [iv t2]) (g1 := g) ?_ (fun J15 => ?_)
  · refine AW.istore_n (lv1 := [(3, iv t2), (2, iv (-1000000)), (0, rv z 7), (1, iv x1)]) (dcN_14 dcg_231 :) (by decide) rfl ?_
    refine AW.aloadr_n 2 (dcN_15 dcg_231 :) rfl ?_
    refine AW.getR af_X7_18_7 sr_7_5 (dcN_16 dcg_231 :) ?_
    refine AW.iload_n 3 (dcN_17 dcg_231 :) rfl ?_
    refine AW.iald kc_78 sk_78 k1 (dcN_18 dcg_231 :) ?_
    refine AW.aloadr_n 2 (dcN_19 dcg_231 :) rfl ?_
    refine AW.getR af_X7_15_7 sr_7_4 (dcN_20 dcg_231 :) ?_
    refine AW.iload_n 3 (dcN_0 dcg_232 :) rfl ?_
    refine AW.iald kc_77 sk_77 k1 (dcN_1 dcg_232 :) ?_
    refine AW.isub (dcN_2 dcg_232 :) ?_
    refine AW.mabs (st := []) cm_X7_65 mst_abs mini mcd_abs (Nat.le_trans (by decide) hdd) (Nat.le_of_ble_eq_true rfl) (dcN_3 dcg_232 :) ?_
    refine AW.istore (lv1 := [(4, iv (abI ((g 78 (ix x1)) - (g 77 (ix x1))))), (3, iv t2), (2, iv (-1000000)), (0, rv z 7), (1, iv x1)]) (dcN_4 dcg_232 :) (by decide) rfl ?_
    refine AW.iconst (dcN_5 dcg_232 :) ?_
    refine AW.istore (lv1 := [(5, iv 0), (4, iv (abI ((g 78 (ix x1)) - (g 77 (ix x1))))), (3, iv t2), (2, iv (-1000000)), (0, rv z 7), (1, iv x1)]) (dcN_6 dcg_232 :) (by decide) rfl ?_
    refine AW.sub (lv1 := [(0, rv z 7), (1, iv x1), (2, iv (-1000000)), (3, iv t2), (4, iv (abI ((g 78 (ix x1)) - (g 77 (ix x1))))), (5, iv 0)]) [4, 5, 3, 2, 1, 0] rfl ?_
    exact Trips_turningBack_b_ok hdd _ _ _ _ h
  refine AW.icmp_ge (tgt := 22) (dcN_10 dcg_231 :) (by decide) (fun c4 => ?_) (fun c4 => ?_)
  · refine AW.iconst (dcN_13 dcg_231 :) ?_
    exact AW.val (e3.trans (if_pos c4)) J15
  · refine AW.iconst (dcN_11 dcg_231 :) ?_
    refine AW.goto (tgt := 23) (dcN_12 dcg_231 :) (by decide) ?_
    exact AW.val (e3.trans (if_neg c4)) J15
theorem X_back_ok {z : AZ} {x1 : Int} {x2 : Int} {g : AG} {r : Int × AG} (h : X_back x1 x2 g = some r) : AMf z yX11_back cX11_back 3 (some .int) 7 [rv z 0, iv x1, iv x2] g r := by
  intro d hdd
  refine AM.of (by decide +kernel) (Nat.le_of_ble_eq_true rfl) ?_
  show AW z (RX11, cX11_back, 3, (some .int)) d (QD (some .int) r) 0 [(0, rv z 0), (1, iv x1), (2, iv x2)] [] g
  unfold X_back at h
  refine AW.iload_n 1 (dcN_0 dcg_381 :) rfl ?_
  refine AW.iconst (dcN_1 dcg_381 :) ?_
  refine AW.aloadr_n 0 (dcN_2 dcg_381 :) rfl ?_
  refine AW.getR af_X11_58_0 sr_0_6 (dcN_3 dcg_381 :) ?_
  refine AW.getI af_X11_197_7 sr_7_8 (dcN_4 dcg_381 :) ?_
  refine AW.iconst (dcN_5 dcg_381 :) ?_
  refine AW.isub (dcN_6 dcg_381 :) ?_
  refine AW.callSi (As := [iv x1, iv 0, iv ((g 7 8) - 1)]) (st := []) X_within_ok cq_X11_99 st_X11_within (Nat.le_trans (by decide) hdd) rfl (dcN_7 dcg_381 :) rfl (Nat.le_of_ble_eq_true rfl) ?_
  refine AW.if_ne (tgt := 20) (dcN_8 dcg_381 :) (by decide) (fun c1 => ?_) (fun c1 => ?_)
  · replace h := hF h c1
    refine AW.iload_n 2 (dcN_11 dcg_381 :) rfl ?_
    refine AW.if_ne (tgt := 33) (dcN_12 dcg_381 :) (by decide) (fun c2 => ?_) (fun c2 => ?_)
    · replace h := hF h c2
      refine AW.iload_n 2 (dcN_1 dcg_382 :) rfl ?_
      refine AW.iconst (dcN_2 dcg_382 :) ?_
      obtain ⟨r6, e7, h⟩ := hC h
      refine AW.join (tgt := 51) (lv1 := []) (st1 := [iv r6.1]) (g1 := r6.2) ?_ (fun J35 => ?_)
      · exact AW.iret1 rfl (dcN_10 dcg_382 :) h rfl
      replace h := e7
      refine AW.icmp_ne (tgt := 49) (dcN_3 dcg_382 :) (by decide) (fun c3 => ?_) (fun c3 => ?_)
      · replace h := hF h c3
        refine AW.ldc (dcN_9 dcg_382 :) cw_X11_198 ?_
        refine AW.sub (lv1 := []) [] rfl ?_
        cases h
        exact J35
      · replace h := hT h c3
        refine AW.aloadr_n 0 (dcN_4 dcg_382 :) rfl ?_
        refine AW.getR af_X11_58_0 sr_0_6 (dcN_5 dcg_382 :) ?_
        refine AW.iload_n 1 (dcN_6 dcg_382 :) rfl ?_
        obtain ⟨r4, e5, h⟩ := hC h
        refine AW.callVi (As := [iv x1]) (st := []) (Trips_refund_ok e5) cq_X11_202 cr_7_X7_refund (Nat.le_trans (by decide) hdd) rfl (dcN_7 dcg_382 :) rfl (Nat.le_of_ble_eq_true rfl) ?_
        refine AW.goto (tgt := 51) (dcN_8 dcg_382 :) (by decide) ?_
        refine AW.sub (lv1 := []) [] rfl ?_
        cases h
        exact J35
    · replace h := hT h c2
      refine AW.aloadr_n 0 (dcN_13 dcg_381 :) rfl ?_
      refine AW.getR af_X11_58_0 sr_0_6 (dcN_14 dcg_381 :) ?_
      refine AW.iload_n 1 (dcN_15 dcg_381 :) rfl ?_
      obtain ⟨r8, e9, h⟩ := hC h
      refine AW.callVi (As := [iv x1]) (st := []) (Trips_turningBack_ok e9) cq_X11_199 cr_7_X7_turningBack (Nat.le_trans (by decide) hdd) rfl (dcN_16 dcg_381 :) rfl (Nat.le_of_ble_eq_true rfl) ?_
      exact AW.iret1 rfl (dcN_0 dcg_382 :) h rfl
  · replace h := hT h c1
    refine AW.ldc (dcN_9 dcg_381 :) cw_X11_198 ?_
    exact AW.iret1 rfl (dcN_10 dcg_381 :) h rfl
set_option synthInstance.maxHeartbeats 2000000 in
theorem X_rung_b_ok {z : AZ} {d : Nat} (hdd : 6 ≤ d) : ∀ (x1 : Int) (x2 : Int) (g : AG) (r : Int × AG), X_rung_b x1 x2 g = some r → AW z (RX11, cX11_rung, 3, (some .int)) d (QD (some .int) r) 4 [(0, rv z 0), (1, iv x1), (2, iv x2)] [] g := by
  refine X_rung_b.partial_correctness (fun x1 x2 g r => AW z (RX11, cX11_rung, 3, (some .int)) d (QD (some .int) r) 4 [(0, rv z 0), (1, iv x1), (2, iv x2)] [] g) ?_
  intro fb9 ih x1 x2 g r h
  refine AW.iload_n 2 (dcN_4 dcg_383 :) rfl ?_
  refine AW.aloadr_n 0 (dcN_5 dcg_383 :) rfl ?_
  refine AW.getR af_X11_58_0 sr_0_6 (dcN_6 dcg_383 :) ?_
  refine AW.getI af_X11_197_7 sr_7_8 (dcN_7 dcg_383 :) ?_
  refine AW.icmp_ge (tgt := 51) (dcN_8 dcg_383 :) (by decide) (fun c1 => ?_) (fun c1 => ?_)
  · replace h := hT h c1
    refine AW.iload_n 1 (dcN_11 dcg_384 :) rfl ?_
    exact AW.iret1 rfl (dcN_12 dcg_384 :) h rfl
  · replace h := hF h c1
    refine AW.aloadr_n 0 (dcN_9 dcg_383 :) rfl ?_
    refine AW.getR af_X11_58_0 sr_0_6 (dcN_10 dcg_383 :) ?_
    refine AW.iload_n 2 (dcN_11 dcg_383 :) rfl ?_
    refine AW.iconst (dcN_12 dcg_383 :) ?_
    obtain ⟨r2, e3, h⟩ := hC h
    refine AW.callVi (As := [iv x2, iv 1]) (st := []) (Trips_lateBy_ok e3) cq_X11_205 cr_7_X7_lateBy (Nat.le_trans (by decide) hdd) rfl (dcN_13 dcg_383 :) rfl (Nat.le_of_ble_eq_true rfl) ?_
    obtain ⟨r8, e9, h⟩ := hC h
    refine AW.join (tgt := 45) (lv1 := [(0, rv z 0), (1, iv r8.1), (2, iv x2)]) (st1 := []) (g1 := r8.2) ?_ (fun J24 => ?_)
    · refine AW.iinc (lv1 := [(2, iv (x2 + 1)), (0, rv z 0), (1, iv r8.1)]) 2 (dcN_9 dcg_384 :) rfl (by decide) rfl ?_
      refine AW.goto (tgt := 4) (dcN_10 dcg_384 :) (by decide) ?_
      refine AW.sub (lv1 := [(0, rv z 0), (1, iv r8.1), (2, iv (x2 + 1))]) [1, 2, 0] rfl ?_
      exact ih _ _ _ _ h
    replace h := e9
    refine AW.if_le (tgt := 45) (dcN_14 dcg_383 :) (by decide) (fun c4 => ?_) (fun c4 => ?_)
    · replace h := hT h c4
      cases h
      exact J24
    · replace h := hF h c4
      refine AW.aloadr_n 0 (dcN_15 dcg_383 :) rfl ?_
      refine AW.getR af_X11_58_0 sr_0_6 (dcN_16 dcg_383 :) ?_
      refine AW.iload_n 2 (dcN_17 dcg_383 :) rfl ?_
      refine AW.iconst (dcN_0 dcg_384 :) ?_
      obtain ⟨r5, e6, h⟩ := hC h
      refine AW.callVi (As := [iv x2, iv 0]) (st := []) (Trips_lateBy_ok e6) cq_X11_205 cr_7_X7_lateBy (Nat.le_trans (by decide) hdd) rfl (dcN_1 dcg_384 :) rfl (Nat.le_of_ble_eq_true rfl) ?_
      refine AW.if_ne (tgt := 45) (dcN_2 dcg_384 :) (by decide) (fun c7 => ?_) (fun c7 => ?_)
      · replace h := hF h c7
        cases h
        exact J24
      · replace h := hT h c7
        refine AW.iload_n 1 (dcN_3 dcg_384 :) rfl ?_
        refine AW.iconst (dcN_4 dcg_384 :) ?_
        refine AW.iload_n 2 (dcN_5 dcg_384 :) rfl ?_
        refine AW.ishl (dcN_6 dcg_384 :) ?_
        refine AW.ior (dcN_7 dcg_384 :) ?_
        refine AW.istore_n (lv1 := [(1, iv (orI x1 (shlI 1 x2))), (0, rv z 0), (2, iv x2)]) (dcN_8 dcg_384 :) (by decide) rfl ?_
        refine AW.sub (lv1 := [(0, rv z 0), (1, iv (orI x1 (shlI 1 x2))), (2, iv x2)]) [1, 0, 2] rfl ?_
        cases h
        exact J24
theorem X_rung_ok {z : AZ} {g : AG} {r : Int × AG} (h : X_rung g = some r) : AMf z yX11_rung cX11_rung 3 (some .int) 6 [rv z 0] g r := by
  intro d hdd
  refine AM.of (by decide +kernel) (Nat.le_of_ble_eq_true rfl) ?_
  show AW z (RX11, cX11_rung, 3, (some .int)) d (QD (some .int) r) 0 [(0, rv z 0)] [] g
  unfold X_rung at h
  refine AW.iconst (dcN_0 dcg_383 :) ?_
  refine AW.istore_n (lv1 := [(1, iv 0), (0, rv z 0)]) (dcN_1 dcg_383 :) (by decide) rfl ?_
  refine AW.iconst (dcN_2 dcg_383 :) ?_
  refine AW.istore_n (lv1 := [(2, iv 0), (1, iv 0), (0, rv z 0)]) (dcN_3 dcg_383 :) (by decide) rfl ?_
  refine AW.sub (lv1 := [(0, rv z 0), (1, iv 0), (2, iv 0)]) [2, 1, 0] rfl ?_
  exact X_rung_b_ok hdd _ _ _ _ h
theorem Canal_setPump_ok {z : AZ} {x1 : Int} {x2 : Int} {g : AG} {r : Int × AG} (h : Canal_setPump x1 x2 g = some r) : AMf z yX2_setPump cX2_setPump 3 none 0 [rv z 1, iv x1, iv x2] g r := by
  intro d hdd
  refine AM.of (by decide +kernel) (Nat.le_of_ble_eq_true rfl) ?_
  show AW z (RX2, cX2_setPump, 3, none) d (QD none r) 0 [(0, rv z 1), (1, iv x1), (2, iv x2)] [] g
  unfold Canal_setPump at h
  refine AW.iload_n 2 (dcN_0 dcg_77 :) rfl ?_
  obtain ⟨r6, e7, h⟩ := hC h
  refine AW.join (tgt := 33) (lv1 := []) (st1 := []) (g1 := r6) ?_ (fun J1 => ?_)
  · exact AW.vret1 rfl (dcN_9 dcg_78 :) h rfl
  replace h := e7
  refine AW.if_eq (tgt := 19) (dcN_1 dcg_77 :) (by decide) (fun c1 => ?_) (fun c1 => ?_)
  · replace h := hT h c1
    refine AW.aloadr_n 0 (dcN_11 dcg_77 :) rfl ?_
    refine AW.duprr (dcN_0 dcg_78 :) ?_
    refine AW.getI af_X2_37_1 sr_1_6 (dcN_1 dcg_78 :) ?_
    refine AW.iconst (dcN_2 dcg_78 :) ?_
    refine AW.iload_n 1 (dcN_3 dcg_78 :) rfl ?_
    refine AW.ishl (dcN_4 dcg_78 :) ?_
    refine AW.iconst (dcN_5 dcg_78 :) ?_
    refine AW.ixor (dcN_6 dcg_78 :) ?_
    refine AW.iand (dcN_7 dcg_78 :) ?_
    obtain ⟨g2, e3, h⟩ := hBe h
    refine AW.putI ap_X2_37_1 sr_1_6 (dcN_8 dcg_78 :) e3 ?_
    refine AW.sub (lv1 := []) [] rfl ?_
    cases h
    exact J1
  · replace h := hF h c1
    refine AW.aloadr_n 0 (dcN_2 dcg_77 :) rfl ?_
    refine AW.duprr (dcN_3 dcg_77 :) ?_
    refine AW.getI af_X2_37_1 sr_1_6 (dcN_4 dcg_77 :) ?_
    refine AW.iconst (dcN_5 dcg_77 :) ?_
    refine AW.iload_n 1 (dcN_6 dcg_77 :) rfl ?_
    refine AW.ishl (dcN_7 dcg_77 :) ?_
    refine AW.ior (dcN_8 dcg_77 :) ?_
    obtain ⟨g4, e5, h⟩ := hBe h
    refine AW.putI ap_X2_37_1 sr_1_6 (dcN_9 dcg_77 :) e5 ?_
    refine AW.goto (tgt := 33) (dcN_10 dcg_77 :) (by decide) ?_
    refine AW.sub (lv1 := []) [] rfl ?_
    cases h
    exact J1
theorem X_pump_ok {z : AZ} {x1 : Int} {x2 : Int} {g : AG} {r : Int × AG} (h : X_pump x1 x2 g = some r) : AMf z yX11_pump cX11_pump 3 (some .boolean) 2 [rv z 0, iv x1, iv x2] g r := by
  intro d hdd
  refine AM.of (by decide +kernel) (Nat.le_of_ble_eq_true rfl) ?_
  show AW z (RX11, cX11_pump, 3, (some .boolean)) d (QD (some .boolean) r) 0 [(0, rv z 0), (1, iv x1), (2, iv x2)] [] g
  unfold X_pump at h
  refine AW.iload_n 1 (dcN_0 dcg_385 :) rfl ?_
  refine AW.callSi (As := [iv x1]) (st := []) X_isPoint_ok cq_X11_111 st_X11_isPoint (Nat.le_trans (by decide) hdd) rfl (dcN_1 dcg_385 :) rfl (Nat.le_of_ble_eq_true rfl) ?_
  refine AW.if_ne (tgt := 9) (dcN_2 dcg_385 :) (by decide) (fun c1 => ?_) (fun c1 => ?_)
  · replace h := hF h c1
    refine AW.aloadr_n 0 (dcN_5 dcg_385 :) rfl ?_
    refine AW.getR af_X11_12_0 sr_0_0 (dcN_6 dcg_385 :) ?_
    refine AW.iload_n 1 (dcN_7 dcg_385 :) rfl ?_
    refine AW.iload_n 2 (dcN_8 dcg_385 :) rfl ?_
    obtain ⟨r2, e3, h⟩ := hC h
    refine AW.callVv (As := [iv x1, iv x2]) (st := []) (Canal_setPump_ok e3) cq_X11_209 cr_1_X2_setPump (Nat.le_trans (by decide) hdd) rfl (dcN_9 dcg_385 :) rfl (Nat.le_of_ble_eq_true rfl) ?_
    refine AW.iconst (dcN_10 dcg_385 :) ?_
    exact AW.zret1 rfl (Or.inr rfl) (dcN_11 dcg_385 :) h rfl
  · replace h := hT h c1
    refine AW.iconst (dcN_3 dcg_385 :) ?_
    exact AW.zret1 rfl (Or.inl rfl) (dcN_4 dcg_385 :) h rfl
set_option synthInstance.maxHeartbeats 2000000 in
theorem Voyage_nextPump_b_ok {z : AZ} {d : Nat} (hdd : 0 ≤ d) {g : AG} : ∀ (x1 : Int) (x2 : Int) (r : Int), Voyage_nextPump_b g x1 x2 = some r → AW z (RX9, cX9_nextPump, 4, (some .int)) d (QD (some .int) (r, g)) 4 [(0, rv z 5), (1, iv x1), (2, iv x2)] [] g := by
  refine Voyage_nextPump_b.partial_correctness g (fun x1 x2 r => AW z (RX9, cX9_nextPump, 4, (some .int)) d (QD (some .int) (r, g)) 4 [(0, rv z 5), (1, iv x1), (2, iv x2)] [] g) ?_
  intro fb9 ih x1 x2 r h
  refine AW.iload_n 2 (dcN_4 dcg_286 :) rfl ?_
  refine AW.bipush (dcN_5 dcg_286 :) (by decide) (by decide) ?_
  refine AW.icmp_ge (tgt := 72) (dcN_6 dcg_286 :) (by decide) (fun c1 => ?_) (fun c1 => ?_)
  · replace h := hT h c1
    refine AW.iload_n 1 (dcN_4 dcg_288 :) rfl ?_
    exact AW.iret2 rfl (dcN_5 dcg_288 :) h rfl
  · replace h := hF h c1
    refine AW.aloadr_n 0 (dcN_7 dcg_286 :) rfl ?_
    refine AW.getR af_X9_24_5 sr_5_0 (dcN_8 dcg_286 :) ?_
    refine AW.getI af_X9_75_1 sr_1_6 (dcN_9 dcg_286 :) ?_
    refine AW.iload_n 2 (dcN_10 dcg_286 :) rfl ?_
    refine AW.ishr (dcN_11 dcg_286 :) ?_
    refine AW.iconst (dcN_12 dcg_286 :) ?_
    refine AW.iand (dcN_13 dcg_286 :) ?_
    obtain ⟨r7, e8, h⟩ := hC h
    refine AW.join (tgt := 39) (lv1 := [(0, rv z 5), (1, iv x1), (2, iv x2)]) (st1 := [iv r7]) (g1 := g) ?_ (fun J21 => ?_)
    · refine AW.istore_n (lv1 := [(3, iv r7), (0, rv z 5), (1, iv x1), (2, iv x2)]) (dcN_3 dcg_287 :) (by decide) rfl ?_
      refine AW.iload_n 0 (dcN_4 dcg_287 :) rfl ?_
      obtain ⟨r14, e15, h⟩ := hC h
      refine AW.join (tgt := 66) (lv1 := [(0, rv z 5), (1, iv r14), (2, iv x2)]) (st1 := []) (g1 := g) ?_ (fun J41 => ?_)
      · refine AW.iinc (lv1 := [(2, iv (x2 + 1)), (0, rv z 5), (1, iv r14)]) 2 (dcN_2 dcg_288 :) rfl (by decide) rfl ?_
        refine AW.goto (tgt := 4) (dcN_3 dcg_288 :) (by decide) ?_
        refine AW.sub (lv1 := [(0, rv z 5), (1, iv r14), (2, iv (x2 + 1))]) [1, 2, 0] rfl ?_
        exact ih _ _ _ h
      replace h := e15
      refine AW.if_eq (tgt := 66) (dcN_5 dcg_287 :) (by decide) (fun c9 => ?_) (fun c9 => ?_)
      · replace h := hT h c9
        refine AW.sub (lv1 := [(0, rv z 5), (1, iv x1), (2, iv x2)]) [1, 2, 3] rfl ?_
        cases h
        exact J41
      · replace h := hF h c9
        refine AW.iload_n 2 (dcN_6 dcg_287 :) rfl ?_
        refine AW.iconst (dcN_7 dcg_287 :) ?_
        refine AW.icmp_eq (tgt := 64) (dcN_8 dcg_287 :) (by decide) (fun c10 => ?_) (fun c10 => ?_)
        · replace h := hT h c10
          refine AW.iload_n 3 (dcN_0 dcg_288 :) rfl ?_
          refine AW.istore_n (lv1 := [(1, iv x2), (3, iv r7), (0, rv z 5), (2, iv x2)]) (dcN_1 dcg_288 :) (by decide) rfl ?_
          refine AW.sub (lv1 := [(0, rv z 5), (1, iv x2), (2, iv x2)]) [2, 0, 3] rfl ?_
          cases h
          exact J41
        · replace h := hF h c10
          refine AW.aloadr_n 1 (dcN_9 dcg_287 :) rfl ?_
          refine AW.getR af_X9_18_5 sr_5_4 (dcN_10 dcg_287 :) ?_
          refine AW.iload_n 3 (dcN_11 dcg_287 :) rfl ?_
          obtain ⟨k11, h⟩ := hK h
          refine AW.iald kc_46 sk_46 k11 (dcN_12 dcg_287 :) ?_
          refine AW.aloadr_n 1 (dcN_13 dcg_287 :) rfl ?_
          refine AW.getR af_X9_18_5 sr_5_4 (dcN_14 dcg_287 :) ?_
          refine AW.iload_n 2 (dcN_15 dcg_287 :) rfl ?_
          obtain ⟨k12, h⟩ := hK h
          refine AW.iald kc_46 sk_46 k12 (dcN_16 dcg_287 :) ?_
          refine AW.icmp_ge (tgt := 66) (dcN_17 dcg_287 :) (by decide) (fun c13 => ?_) (fun c13 => ?_)
          · replace h := hT h c13
            refine AW.sub (lv1 := [(0, rv z 5), (1, iv x1), (2, iv x2)]) [1, 2, 3] rfl ?_
            cases h
            exact J41
          · replace h := hF h c13
            refine AW.iload_n 3 (dcN_0 dcg_288 :) rfl ?_
            refine AW.istore_n (lv1 := [(1, iv x2), (3, iv r7), (0, rv z 5), (2, iv x2)]) (dcN_1 dcg_288 :) (by decide) rfl ?_
            refine AW.sub (lv1 := [(0, rv z 5), (1, iv x2), (2, iv x2)]) [2, 0, 3] rfl ?_
            cases h
            exact J41
    replace h := e8
    refine AW.if_eq (tgt := 38) (dcN_14 dcg_286 :) (by decide) (fun c2 => ?_) (fun c2 => ?_)
    · replace h := hT h c2
      refine AW.iconst (dcN_2 dcg_287 :) ?_
      cases h
      exact J21
    · replace h := hF h c2
      refine AW.aloadr_n 0 (dcN_15 dcg_286 :) rfl ?_
      refine AW.getR af_X9_18_5 sr_5_4 (dcN_16 dcg_286 :) ?_
      refine AW.iload_n 2 (dcN_17 dcg_286 :) rfl ?_
      obtain ⟨k3, h⟩ := hK h
      refine AW.iald kc_46 sk_46 k3 (dcN_18 dcg_286 :) ?_
      refine AW.iconst (dcN_19 dcg_286 :) ?_
      obtain ⟨t4, e5, h⟩ := hBe h
      refine AW.join (tgt := 39) (lv1 := [(0, rv z 5), (1, iv x1), (2, iv x2)]) (st1 := [iv t4]) (g1 := g) ?_ (fun J31 => ?_)
      · cases h
        exact J21
      refine AW.icmp_eq (tgt := 38) (dcN_20 dcg_286 :) (by decide) (fun c6 => ?_) (fun c6 => ?_)
      · refine AW.iconst (dcN_2 dcg_287 :) ?_
        exact AW.val (e5.trans (if_pos c6)) J31
      · refine AW.iconst (dcN_0 dcg_287 :) ?_
        refine AW.goto (tgt := 39) (dcN_1 dcg_287 :) (by decide) ?_
        exact AW.val (e5.trans (if_neg c6)) J31
theorem Voyage_nextPump_ok {z : AZ} {g : AG} {r : Int} (h : Voyage_nextPump g = some r) : AMf z yX9_nextPump cX9_nextPump 4 (some .int) 0 [rv z 5] g (r, g) := by
  intro d hdd
  refine AM.of (by decide +kernel) (Nat.le_of_ble_eq_true rfl) ?_
  show AW z (RX9, cX9_nextPump, 4, (some .int)) d (QD (some .int) (r, g)) 0 [(0, rv z 5)] [] g
  unfold Voyage_nextPump at h
  refine AW.iconst (dcN_0 dcg_286 :) ?_
  refine AW.istore_n (lv1 := [(1, iv (-1)), (0, rv z 5)]) (dcN_1 dcg_286 :) (by decide) rfl ?_
  refine AW.iconst (dcN_2 dcg_286 :) ?_
  refine AW.istore_n (lv1 := [(2, iv 0), (1, iv (-1)), (0, rv z 5)]) (dcN_3 dcg_286 :) (by decide) rfl ?_
  refine AW.sub (lv1 := [(0, rv z 5), (1, iv (-1)), (2, iv 0)]) [2, 1, 0] rfl ?_
  exact Voyage_nextPump_b_ok hdd _ _ _ h
theorem X_pumped_ok {z : AZ} {x1 : Int} {x2 : Int} {x3 : Int} {x4 : Int} {x5 : Int} {g : AG} {r : Int × AG} (h : X_pumped x1 x2 x3 x4 x5 g = some r) : AMf z yX11_pumped cX11_pumped 8 (some .int) 5 [rv z 0, iv x1, iv x2, iv x3, iv x4, iv x5] g r := by
  intro d hdd
  refine AM.of (by decide +kernel) (Nat.le_of_ble_eq_true rfl) ?_
  show AW z (RX11, cX11_pumped, 8, (some .int)) d (QD (some .int) r) 0 [(0, rv z 0), (1, iv x1), (2, iv x2), (3, iv x3), (4, iv x4), (5, iv x5)] [] g
  unfold X_pumped at h
  refine AW.aloadr_n 0 (dcN_0 dcg_386 :) rfl ?_
  refine AW.iload_n 1 (dcN_1 dcg_386 :) rfl ?_
  refine AW.iload_n 2 (dcN_2 dcg_386 :) rfl ?_
  refine AW.iload_n 2 (dcN_3 dcg_386 :) rfl ?_
  refine AW.iload_n 3 (dcN_4 dcg_386 :) rfl ?_
  refine AW.callVi (As := [iv x1, iv x2, iv x2, iv x3]) (st := []) X_isWay_ok cq_X11_176 cr_0_X11_isWay (Nat.le_trans (by decide) hdd) rfl (dcN_5 dcg_386 :) rfl (Nat.le_of_ble_eq_true rfl) ?_
  refine AW.if_eq (tgt := 25) (dcN_6 dcg_386 :) (by decide) (fun c1 => ?_) (fun c1 => ?_)
  · replace h := hT h c1
    refine AW.iconst (dcN_13 dcg_386 :) ?_
    exact AW.iret1 rfl (dcN_14 dcg_386 :) h rfl
  · replace h := hF h c1
    refine AW.iload 4 (dcN_7 dcg_386 :) rfl ?_
    refine AW.callSi (As := [iv x4]) (st := []) X_isTime_ok cq_X11_114 st_X11_isTime (Nat.le_trans (by decide) hdd) rfl (dcN_8 dcg_386 :) rfl (Nat.le_of_ble_eq_true rfl) ?_
    refine AW.if_eq (tgt := 25) (dcN_9 dcg_386 :) (by decide) (fun c2 => ?_) (fun c2 => ?_)
    · replace h := hT h c2
      refine AW.iconst (dcN_13 dcg_386 :) ?_
      exact AW.iret1 rfl (dcN_14 dcg_386 :) h rfl
    · replace h := hF h c2
      refine AW.iload 4 (dcN_10 dcg_386 :) rfl ?_
      refine AW.iload_n 3 (dcN_11 dcg_386 :) rfl ?_
      refine AW.icmp_le (tgt := 27) (dcN_12 dcg_386 :) (by decide) (fun c3 => ?_) (fun c3 => ?_)
      · replace h := hT h c3
        refine AW.aloadr_n 0 (dcN_15 dcg_386 :) rfl ?_
        refine AW.getR af_X11_40_0 sr_0_4 (dcN_16 dcg_386 :) ?_
        refine AW.aloadr_n 0 (dcN_17 dcg_386 :) rfl ?_
        refine AW.getR af_X11_49_0 sr_0_5 (dcN_0 dcg_387 :) ?_
        refine AW.getR af_X11_180_6 sr_6_6 (dcN_1 dcg_387 :) ?_
        refine AW.iload_n 1 (dcN_2 dcg_387 :) rfl ?_
        obtain ⟨k4, h⟩ := hK h
        refine AW.iald kc_51 sk_51 k4 (dcN_3 dcg_387 :) ?_
        refine AW.iload_n 2 (dcN_4 dcg_387 :) rfl ?_
        refine AW.iload_n 3 (dcN_5 dcg_387 :) rfl ?_
        obtain ⟨r5, e6, h⟩ := hC h
        refine AW.callVv (As := [iv (g 51 (ix x1)), iv x2, iv x3]) (st := []) (Voyage_reach_ok e6) cq_X11_187 cr_5_X9_reach (Nat.le_trans (by decide) hdd) rfl (dcN_6 dcg_387 :) rfl (Nat.le_of_ble_eq_true rfl) ?_
        refine AW.aloadr_n 0 (dcN_7 dcg_387 :) rfl ?_
        refine AW.getR af_X11_40_0 sr_0_4 (dcN_8 dcg_387 :) ?_
        obtain ⟨r7, e8, h⟩ := hC h
        refine AW.callVi (As := []) (st := []) (Voyage_nextPump_ok e8) cq_X11_213 cr_5_X9_nextPump (Nat.le_trans (by decide) hdd) rfl (dcN_9 dcg_387 :) rfl (Nat.le_of_ble_eq_true rfl) ?_
        refine AW.istore (lv1 := [(6, iv r7), (0, rv z 0), (1, iv x1), (2, iv x2), (3, iv x3), (4, iv x4), (5, iv x5)]) (dcN_10 dcg_387 :) (by decide) rfl ?_
        refine AW.iload 0 (dcN_11 dcg_387 :) rfl ?_
        refine AW.iconst (dcN_12 dcg_387 :) ?_
        refine AW.icmp_eq (tgt := 70) (dcN_13 dcg_387 :) (by decide) (fun c9 => ?_) (fun c9 => ?_)
        · replace h := hT h c9
          refine AW.iconst (dcN_2 dcg_388 :) ?_
          exact AW.iret1 rfl (dcN_3 dcg_388 :) h rfl
        · replace h := hF h c9
          refine AW.iload 6 (dcN_14 dcg_387 :) rfl ?_
          refine AW.iconst (dcN_15 dcg_387 :) ?_
          refine AW.iconst (dcN_16 dcg_387 :) ?_
          refine AW.callSi (As := [iv x5, iv 0, iv 2]) (st := []) X_within_ok cq_X11_99 st_X11_within (Nat.le_trans (by decide) hdd) rfl (dcN_0 dcg_388 :) rfl (Nat.le_of_ble_eq_true rfl) ?_
          refine AW.if_ne (tgt := 72) (dcN_1 dcg_388 :) (by decide) (fun c10 => ?_) (fun c10 => ?_)
          · replace h := hF h c10
            refine AW.iload 6 (dcN_4 dcg_388 :) rfl ?_
            refine AW.if_ne (tgt := 80) (dcN_5 dcg_388 :) (by decide) (fun c11 => ?_) (fun c11 => ?_)
            · replace h := hF h c11
              refine AW.aloadr_n 1 (dcN_8 dcg_388 :) rfl ?_
              refine AW.getR af_X11_40_0 sr_0_4 (dcN_9 dcg_388 :) ?_
              refine AW.getR af_X11_216_5 sr_5_4 (dcN_10 dcg_388 :) ?_
              refine AW.iload 0 (dcN_11 dcg_388 :) rfl ?_
              obtain ⟨k12, h⟩ := hK h
              refine AW.iald kc_46 sk_46 k12 (dcN_12 dcg_388 :) ?_
              refine AW.istore (lv1 := [(7, iv (r5.2 46 (ix r7))), (6, iv r7), (0, rv z 0), (1, iv x1), (2, iv x2), (3, iv x3), (4, iv x4), (5, iv x5)]) (dcN_13 dcg_388 :) (by decide) rfl ?_
              refine AW.iload 7 (dcN_14 dcg_388 :) rfl ?_
              refine AW.iconst (dcN_15 dcg_388 :) ?_
              refine AW.icmp_ne (tgt := 101) (dcN_16 dcg_388 :) (by decide) (fun c13 => ?_) (fun c13 => ?_)
              · replace h := hF h c13
                refine AW.iload 6 (dcN_2 dcg_389 :) rfl ?_
                refine AW.sipush (dcN_3 dcg_389 :) (by decide) (by decide) ?_
                refine AW.iadd (dcN_4 dcg_389 :) ?_
                refine AW.iload 0 (dcN_5 dcg_389 :) rfl ?_
                obtain ⟨t14, e15, h⟩ := hBe h
                refine AW.join (tgt := 117) (lv1 := [(7, iv (r5.2 46 (ix r7))), (6, iv r7), (0, rv z 0), (1, iv x1), (2, iv x2), (3, iv x3), (4, iv x4), (5, iv x5)]) (st1 := [iv t14]) (g1 := r5.2) ?_ (fun J109 => ?_)
                · exact AW.iret1 rfl (dcN_10 dcg_389 :) h rfl
                refine AW.icmp_ge (tgt := 116) (dcN_6 dcg_389 :) (by decide) (fun c16 => ?_) (fun c16 => ?_)
                · refine AW.iconst (dcN_9 dcg_389 :) ?_
                  exact AW.val (e15.trans (if_pos c16)) J109
                · refine AW.iconst (dcN_7 dcg_389 :) ?_
                  refine AW.goto (tgt := 117) (dcN_8 dcg_389 :) (by decide) ?_
                  exact AW.val (e15.trans (if_neg c16)) J109
              · replace h := hT h c13
                refine AW.iload 0 (dcN_0 dcg_389 :) rfl ?_
                exact AW.iret1 rfl (dcN_1 dcg_389 :) h rfl
            · replace h := hT h c11
              refine AW.iload 0 (dcN_6 dcg_388 :) rfl ?_
              exact AW.iret1 rfl (dcN_7 dcg_388 :) h rfl
          · replace h := hT h c10
            refine AW.iconst (dcN_2 dcg_388 :) ?_
            exact AW.iret1 rfl (dcN_3 dcg_388 :) h rfl
      · replace h := hF h c3
        refine AW.iconst (dcN_13 dcg_386 :) ?_
        exact AW.iret1 rfl (dcN_14 dcg_386 :) h rfl
set_option synthInstance.maxHeartbeats 2000000 in
theorem X_enough_b_ok {z : AZ} {d : Nat} (hdd : 5 ≤ d) {x2 : Int} {x3 : Int} {x4 : Int} {x5 : Int} : ∀ (tag : Nat) (x6 : Int) (g : AG) (r : Int × AG), X_enough_b x2 x3 x4 x5 tag x6 g = some r → (tag = 1 → AW z (RX11, cX11_enough, 8, (some .int)) d (QD (some .int) r) 25 [(0, rv z 0), (2, iv x2), (3, iv x3), (4, iv x4), (5, iv x5), (6, iv x6)] [] g) ∧ (tag = 2 → AW z (RX11, cX11_enough, 8, (some .int)) d (QD (some .int) r) 78 [(0, rv z 0), (2, iv x2), (3, iv x3), (4, iv x4), (5, iv x5), (6, iv x6)] [] g) := by
  refine X_enough_b.partial_correctness x2 x3 x4 x5 (fun tag x6 g r => (tag = 1 → AW z (RX11, cX11_enough, 8, (some .int)) d (QD (some .int) r) 25 [(0, rv z 0), (2, iv x2), (3, iv x3), (4, iv x4), (5, iv x5), (6, iv x6)] [] g) ∧ (tag = 2 → AW z (RX11, cX11_enough, 8, (some .int)) d (QD (some .int) r) 78 [(0, rv z 0), (2, iv x2), (3, iv x3), (4, iv x4), (5, iv x5), (6, iv x6)] [] g)) ?_
  intro fb9 ih tag x6 g r h
  refine ⟨fun h9 => ?_, fun h9 => ?_⟩
  · subst h9
    replace h := hT h rfl
    refine AW.iload 5 (dcN_14 dcg_390 :) rfl ?_
    refine AW.bipush (dcN_15 dcg_390 :) (by decide) (by decide) ?_
    refine AW.icmp_gt (tgt := 84) (dcN_16 dcg_390 :) (by decide) (fun c1 => ?_) (fun c1 => ?_)
    · replace h := hT h c1
      refine AW.iconst (dcN_9 dcg_392 :) ?_
      exact AW.iret1 rfl (dcN_10 dcg_392 :) h rfl
    · replace h := hF h c1
      refine AW.iload 3 (dcN_0 dcg_391 :) rfl ?_
      refine AW.iload 5 (dcN_1 dcg_391 :) rfl ?_
      refine AW.iadd (dcN_2 dcg_391 :) ?_
      refine AW.callSi (As := [iv (x4 + x6)]) (st := []) X_isTime_ok cq_X11_114 st_X11_isTime (Nat.le_trans (by decide) hdd) rfl (dcN_3 dcg_391 :) rfl (Nat.le_of_ble_eq_true rfl) ?_
      refine AW.if_eq (tgt := 84) (dcN_4 dcg_391 :) (by decide) (fun c2 => ?_) (fun c2 => ?_)
      · replace h := hT h c2
        refine AW.iconst (dcN_9 dcg_392 :) ?_
        exact AW.iret1 rfl (dcN_10 dcg_392 :) h rfl
      · replace h := hF h c2
        refine AW.aloadr_n 0 (dcN_5 dcg_391 :) rfl ?_
        refine AW.getR af_X11_40_0 sr_0_4 (dcN_6 dcg_391 :) ?_
        refine AW.iload 5 (dcN_7 dcg_391 :) rfl ?_
        refine AW.iload_n 1 (dcN_8 dcg_391 :) rfl ?_
        refine AW.iload_n 2 (dcN_9 dcg_391 :) rfl ?_
        refine AW.iload 3 (dcN_10 dcg_391 :) rfl ?_
        refine AW.iload 5 (dcN_11 dcg_391 :) rfl ?_
        refine AW.iadd (dcN_12 dcg_391 :) ?_
        refine AW.iconst (dcN_13 dcg_391 :) ?_
        obtain ⟨r3, e4, h⟩ := hC h
        refine AW.callVi (As := [iv x6, iv x2, iv x3, iv (x4 + x6), iv 1]) (st := []) (Voyage_comesTo_ok e4) cq_X11_183 cr_5_X9_comesTo (Nat.le_trans (by decide) hdd) rfl (dcN_14 dcg_391 :) rfl (Nat.le_of_ble_eq_true rfl) ?_
        refine AW.istore (lv1 := [(7, iv r3.1), (0, rv z 0), (2, iv x2), (3, iv x3), (4, iv x4), (5, iv x5), (6, iv x6)]) (dcN_15 dcg_391 :) (by decide) rfl ?_
        refine AW.iload 0 (dcN_16 dcg_391 :) rfl ?_
        refine AW.iconst (dcN_0 dcg_392 :) ?_
        refine AW.icmp_eq (tgt := 78) (dcN_1 dcg_392 :) (by decide) (fun c5 => ?_) (fun c5 => ?_)
        · replace h := hT h c5
          refine AW.sub (lv1 := [(0, rv z 0), (2, iv x2), (3, iv x3), (4, iv x4), (5, iv x5), (6, iv x6)]) [1, 2, 3, 4, 5, 6] rfl ?_
          exact (ih _ _ _ _ h).2 rfl
        · replace h := hF h c5
          refine AW.iload 0 (dcN_2 dcg_392 :) rfl ?_
          refine AW.iload 5 (dcN_3 dcg_392 :) rfl ?_
          refine AW.icmp_gt (tgt := 78) (dcN_4 dcg_392 :) (by decide) (fun c6 => ?_) (fun c6 => ?_)
          · replace h := hT h c6
            refine AW.sub (lv1 := [(0, rv z 0), (2, iv x2), (3, iv x3), (4, iv x4), (5, iv x5), (6, iv x6)]) [1, 2, 3, 4, 5, 6] rfl ?_
            exact (ih _ _ _ _ h).2 rfl
          · replace h := hF h c6
            refine AW.iload 6 (dcN_5 dcg_392 :) rfl ?_
            exact AW.iret1 rfl (dcN_6 dcg_392 :) h rfl
  · subst h9
    replace h := hF h (by decide)
    replace h := hT h rfl
    refine AW.iinc (lv1 := [(6, iv (x6 + 1)), (0, rv z 0), (2, iv x2), (3, iv x3), (4, iv x4), (5, iv x5)]) 5 (dcN_7 dcg_392 :) rfl (by decide) rfl ?_
    refine AW.goto (tgt := 25) (dcN_8 dcg_392 :) (by decide) ?_
    refine AW.sub (lv1 := [(0, rv z 0), (2, iv x2), (3, iv x3), (4, iv x4), (5, iv x5), (6, iv (x6 + 1))]) [1, 2, 3, 4, 5, 0] rfl ?_
    exact (ih _ _ _ _ h).1 rfl
theorem X_enough_ok {z : AZ} {x1 : Int} {x2 : Int} {x3 : Int} {x4 : Int} {x5 : Int} {g : AG} {r : Int × AG} (h : X_enough x1 x2 x3 x4 x5 g = some r) : AMf z yX11_enough cX11_enough 8 (some .int) 5 [rv z 0, iv x1, iv x2, iv x3, iv x4, iv x5] g r := by
  intro d hdd
  refine AM.of (by decide +kernel) (Nat.le_of_ble_eq_true rfl) ?_
  show AW z (RX11, cX11_enough, 8, (some .int)) d (QD (some .int) r) 0 [(0, rv z 0), (1, iv x1), (2, iv x2), (3, iv x3), (4, iv x4), (5, iv x5)] [] g
  unfold X_enough at h
  refine AW.aloadr_n 0 (dcN_0 dcg_390 :) rfl ?_
  refine AW.iload_n 1 (dcN_1 dcg_390 :) rfl ?_
  refine AW.iload_n 2 (dcN_2 dcg_390 :) rfl ?_
  refine AW.iload_n 3 (dcN_3 dcg_390 :) rfl ?_
  refine AW.iload 4 (dcN_4 dcg_390 :) rfl ?_
  refine AW.callVi (As := [iv x1, iv x2, iv x3, iv x4]) (st := []) X_isWay_ok cq_X11_176 cr_0_X11_isWay (Nat.le_trans (by decide) hdd) rfl (dcN_5 dcg_390 :) rfl (Nat.le_of_ble_eq_true rfl) ?_
  refine AW.if_eq (tgt := 20) (dcN_6 dcg_390 :) (by decide) (fun c1 => ?_) (fun c1 => ?_)
  · replace h := hT h c1
    refine AW.iconst (dcN_10 dcg_390 :) ?_
    exact AW.iret1 rfl (dcN_11 dcg_390 :) h rfl
  · replace h := hF h c1
    refine AW.iload 5 (dcN_7 dcg_390 :) rfl ?_
    refine AW.callSi (As := [iv x5]) (st := []) X_isTime_ok cq_X11_114 st_X11_isTime (Nat.le_trans (by decide) hdd) rfl (dcN_8 dcg_390 :) rfl (Nat.le_of_ble_eq_true rfl) ?_
    refine AW.if_ne (tgt := 22) (dcN_9 dcg_390 :) (by decide) (fun c2 => ?_) (fun c2 => ?_)
    · replace h := hF h c2
      refine AW.iconst (dcN_12 dcg_390 :) ?_
      refine AW.istore (lv1 := [(6, iv 0), (0, rv z 0), (1, iv x1), (2, iv x2), (3, iv x3), (4, iv x4), (5, iv x5)]) (dcN_13 dcg_390 :) (by decide) rfl ?_
      refine AW.sub (lv1 := [(0, rv z 0), (2, iv x2), (3, iv x3), (4, iv x4), (5, iv x5), (6, iv 0)]) [1, 3, 4, 5, 6, 0] rfl ?_
      exact (X_enough_b_ok hdd _ _ _ _ h).1 rfl
    · replace h := hT h c2
      refine AW.iconst (dcN_10 dcg_390 :) ?_
      exact AW.iret1 rfl (dcN_11 dcg_390 :) h rfl
theorem Trips_add_ok {z : AZ} {x1 : Int} {x2 : Int} {x3 : Int} {x4 : Int} {x5 : Int} {g : AG} {r : Int × AG} (h : Trips_add x1 x2 x3 x4 x5 g = some r) : AMf z yX7_add cX7_add 6 (some .int) 0 [rv z 7, iv x1, iv x2, iv x3, iv x4, iv x5] g r := by
  intro d hdd
  refine AM.of (by decide +kernel) (Nat.le_of_ble_eq_true rfl) ?_
  show AW z (RX7, cX7_add, 6, (some .int)) d (QD (some .int) r) 0 [(0, rv z 7), (1, iv x1), (2, iv x2), (3, iv x3), (4, iv x4), (5, iv x5)] [] g
  unfold Trips_add at h
  refine AW.aloadr_n 0 (dcN_0 dcg_223 :) rfl ?_
  refine AW.getI af_X7_39_7 sr_7_8 (dcN_1 dcg_223 :) ?_
  refine AW.bipush (dcN_2 dcg_223 :) (by decide) (by decide) ?_
  refine AW.icmp_lt (tgt := 11) (dcN_3 dcg_223 :) (by decide) (fun c1 => ?_) (fun c1 => ?_)
  · replace h := hT h c1
    refine AW.aloadr_n 0 (dcN_6 dcg_223 :) rfl ?_
    refine AW.getR af_X7_9_7 sr_7_3 (dcN_7 dcg_223 :) ?_
    refine AW.aloadr_n 0 (dcN_8 dcg_223 :) rfl ?_
    refine AW.getI af_X7_39_7 sr_7_8 (dcN_9 dcg_223 :) ?_
    refine AW.iload_n 1 (dcN_10 dcg_223 :) rfl ?_
    obtain ⟨k2, h⟩ := hK h
    obtain ⟨g3, e4, h⟩ := hBe h
    refine AW.iast kc_76 sk_76 k2 (dcN_11 dcg_223 :) e4 ?_
    refine AW.aloadr_n 0 (dcN_12 dcg_223 :) rfl ?_
    refine AW.getR af_X7_15_7 sr_7_4 (dcN_13 dcg_223 :) ?_
    refine AW.aloadr_n 0 (dcN_14 dcg_223 :) rfl ?_
    refine AW.getI af_X7_39_7 sr_7_8 (dcN_15 dcg_223 :) ?_
    refine AW.iload_n 2 (dcN_16 dcg_223 :) rfl ?_
    obtain ⟨k5, h⟩ := hK h
    obtain ⟨g6, e7, h⟩ := hBe h
    refine AW.iast kc_77 sk_77 k5 (dcN_17 dcg_223 :) e7 ?_
    refine AW.aloadr_n 0 (dcN_18 dcg_223 :) rfl ?_
    refine AW.getR af_X7_18_7 sr_7_5 (dcN_0 dcg_224 :) ?_
    refine AW.aloadr_n 0 (dcN_1 dcg_224 :) rfl ?_
    refine AW.getI af_X7_39_7 sr_7_8 (dcN_2 dcg_224 :) ?_
    refine AW.iload_n 3 (dcN_3 dcg_224 :) rfl ?_
    obtain ⟨k8, h⟩ := hK h
    obtain ⟨g9, e10, h⟩ := hBe h
    refine AW.iast kc_78 sk_78 k8 (dcN_4 dcg_224 :) e10 ?_
    refine AW.aloadr_n 0 (dcN_5 dcg_224 :) rfl ?_
    refine AW.getR af_X7_21_7 sr_7_6 (dcN_6 dcg_224 :) ?_
    refine AW.aloadr_n 0 (dcN_7 dcg_224 :) rfl ?_
    refine AW.getI af_X7_39_7 sr_7_8 (dcN_8 dcg_224 :) ?_
    refine AW.iload 4 (dcN_9 dcg_224 :) rfl ?_
    obtain ⟨k11, h⟩ := hK h
    obtain ⟨g12, e13, h⟩ := hBe h
    refine AW.iast kc_79 sk_79 k11 (dcN_10 dcg_224 :) e13 ?_
    refine AW.aloadr_n 0 (dcN_11 dcg_224 :) rfl ?_
    refine AW.getR af_X7_24_7 sr_7_7 (dcN_12 dcg_224 :) ?_
    refine AW.aloadr_n 0 (dcN_13 dcg_224 :) rfl ?_
    refine AW.getI af_X7_39_7 sr_7_8 (dcN_14 dcg_224 :) ?_
    refine AW.iload 5 (dcN_15 dcg_224 :) rfl ?_
    obtain ⟨k14, h⟩ := hK h
    obtain ⟨g15, e16, h⟩ := hBe h
    refine AW.iast kc_80 sk_80 k14 (dcN_16 dcg_224 :) e16 ?_
    refine AW.aloadr_n 0 (dcN_17 dcg_224 :) rfl ?_
    refine AW.duprr (dcN_0 dcg_225 :) ?_
    refine AW.getI af_X7_39_7 sr_7_8 (dcN_1 dcg_225 :) ?_
    refine AW.iconst (dcN_2 dcg_225 :) ?_
    refine AW.iadd (dcN_3 dcg_225 :) ?_
    obtain ⟨g17, e18, h⟩ := hBe h
    refine AW.putI ap_X7_39_7 sr_7_8 (dcN_4 dcg_225 :) e18 ?_
    refine AW.aloadr_n 0 (dcN_5 dcg_225 :) rfl ?_
    refine AW.getI af_X7_39_7 sr_7_8 (dcN_6 dcg_225 :) ?_
    refine AW.iconst (dcN_7 dcg_225 :) ?_
    refine AW.isub (dcN_8 dcg_225 :) ?_
    exact AW.iret1 rfl (dcN_9 dcg_225 :) h rfl
  · replace h := hF h c1
    refine AW.iconst (dcN_4 dcg_223 :) ?_
    exact AW.iret1 rfl (dcN_5 dcg_223 :) h rfl
theorem X_trip_ok {z : AZ} {x1 : Int} {x2 : Int} {x3 : Int} {x4 : Int} {x5 : Int} {g : AG} {r : Int × AG} (h : X_trip x1 x2 x3 x4 x5 g = some r) : AMf z yX11_trip cX11_trip 6 (some .int) 3 [rv z 0, iv x1, iv x2, iv x3, iv x4, iv x5] g r := by
  intro d hdd
  refine AM.of (by decide +kernel) (Nat.le_of_ble_eq_true rfl) ?_
  show AW z (RX11, cX11_trip, 6, (some .int)) d (QD (some .int) r) 0 [(0, rv z 0), (1, iv x1), (2, iv x2), (3, iv x3), (4, iv x4), (5, iv x5)] [] g
  unfold X_trip at h
  refine AW.aloadr_n 0 (dcN_0 dcg_393 :) rfl ?_
  refine AW.iload_n 1 (dcN_1 dcg_393 :) rfl ?_
  refine AW.iload_n 2 (dcN_2 dcg_393 :) rfl ?_
  refine AW.iload_n 3 (dcN_3 dcg_393 :) rfl ?_
  refine AW.iload 4 (dcN_4 dcg_393 :) rfl ?_
  refine AW.callVi (As := [iv x1, iv x2, iv x3, iv x4]) (st := []) X_isWay_ok cq_X11_176 cr_0_X11_isWay (Nat.le_trans (by decide) hdd) rfl (dcN_5 dcg_393 :) rfl (Nat.le_of_ble_eq_true rfl) ?_
  refine AW.if_eq (tgt := 20) (dcN_6 dcg_393 :) (by decide) (fun c1 => ?_) (fun c1 => ?_)
  · replace h := hT h c1
    refine AW.iconst (dcN_10 dcg_393 :) ?_
    exact AW.iret1 rfl (dcN_11 dcg_393 :) h rfl
  · replace h := hF h c1
    refine AW.iload 5 (dcN_7 dcg_393 :) rfl ?_
    refine AW.callSi (As := [iv x5]) (st := []) X_isTime_ok cq_X11_114 st_X11_isTime (Nat.le_trans (by decide) hdd) rfl (dcN_8 dcg_393 :) rfl (Nat.le_of_ble_eq_true rfl) ?_
    refine AW.if_ne (tgt := 22) (dcN_9 dcg_393 :) (by decide) (fun c2 => ?_) (fun c2 => ?_)
    · replace h := hF h c2
      refine AW.aloadr_n 0 (dcN_0 dcg_394 :) rfl ?_
      refine AW.getR af_X11_58_0 sr_0_6 (dcN_1 dcg_394 :) ?_
      refine AW.iload_n 1 (dcN_2 dcg_394 :) rfl ?_
      refine AW.iload_n 2 (dcN_3 dcg_394 :) rfl ?_
      refine AW.iload_n 3 (dcN_4 dcg_394 :) rfl ?_
      refine AW.iload 4 (dcN_5 dcg_394 :) rfl ?_
      refine AW.iload 5 (dcN_6 dcg_394 :) rfl ?_
      obtain ⟨r3, e4, h⟩ := hC h
      refine AW.callVi (As := [iv x1, iv x2, iv x3, iv x4, iv x5]) (st := []) (Trips_add_ok e4) cq_X11_219 cr_7_X7_add (Nat.le_trans (by decide) hdd) rfl (dcN_7 dcg_394 :) rfl (Nat.le_of_ble_eq_true rfl) ?_
      exact AW.iret1 rfl (dcN_8 dcg_394 :) h rfl
    · replace h := hT h c2
      refine AW.iconst (dcN_10 dcg_393 :) ?_
      exact AW.iret1 rfl (dcN_11 dcg_393 :) h rfl
set_option synthInstance.maxHeartbeats 2000000 in
theorem Trips_howManyLate_b_ok {z : AZ} {d : Nat} (hdd : 6 ≤ d) : ∀ (x1 : Int) (x2 : Int) (g : AG) (r : Int × AG), Trips_howManyLate_b x1 x2 g = some r → AW z (RX7, cX7_howManyLate, 3, (some .int)) d (QD (some .int) r) 4 [(0, rv z 7), (1, iv x1), (2, iv x2)] [] g := by
  refine Trips_howManyLate_b.partial_correctness (fun x1 x2 g r => AW z (RX7, cX7_howManyLate, 3, (some .int)) d (QD (some .int) r) 4 [(0, rv z 7), (1, iv x1), (2, iv x2)] [] g) ?_
  intro fb9 ih x1 x2 g r h
  refine AW.iload_n 2 (dcN_4 dcg_229 :) rfl ?_
  refine AW.aloadr_n 0 (dcN_5 dcg_229 :) rfl ?_
  refine AW.getI af_X7_39_7 sr_7_8 (dcN_6 dcg_229 :) ?_
  refine AW.icmp_ge (tgt := 30) (dcN_7 dcg_229 :) (by decide) (fun c1 => ?_) (fun c1 => ?_)
  · replace h := hT h c1
    refine AW.iload_n 1 (dcN_4 dcg_230 :) rfl ?_
    exact AW.iret1 rfl (dcN_5 dcg_230 :) h rfl
  · replace h := hF h c1
    refine AW.aloadr_n 0 (dcN_8 dcg_229 :) rfl ?_
    refine AW.iload_n 2 (dcN_9 dcg_229 :) rfl ?_
    refine AW.iconst (dcN_10 dcg_229 :) ?_
    obtain ⟨r2, e3, h⟩ := hC h
    refine AW.callVi (As := [iv x2, iv 1]) (st := []) (Trips_lateBy_ok e3) cq_X7_60 cr_7_X7_lateBy (Nat.le_trans (by decide) hdd) rfl (dcN_11 dcg_229 :) rfl (Nat.le_of_ble_eq_true rfl) ?_
    obtain ⟨r5, e6, h⟩ := hC h
    refine AW.join (tgt := 24) (lv1 := [(0, rv z 7), (1, iv r5.1), (2, iv x2)]) (st1 := []) (g1 := r5.2) ?_ (fun J18 => ?_)
    · refine AW.iinc (lv1 := [(2, iv (x2 + 1)), (0, rv z 7), (1, iv r5.1)]) 2 (dcN_2 dcg_230 :) rfl (by decide) rfl ?_
      refine AW.goto (tgt := 4) (dcN_3 dcg_230 :) (by decide) ?_
      refine AW.sub (lv1 := [(0, rv z 7), (1, iv r5.1), (2, iv (x2 + 1))]) [1, 2, 0] rfl ?_
      exact ih _ _ _ _ h
    replace h := e6
    refine AW.if_le (tgt := 24) (dcN_0 dcg_230 :) (by decide) (fun c4 => ?_) (fun c4 => ?_)
    · replace h := hT h c4
      cases h
      exact J18
    · replace h := hF h c4
      refine AW.iinc (lv1 := [(1, iv (x1 + 1)), (0, rv z 7), (2, iv x2)]) 1 (dcN_1 dcg_230 :) rfl (by decide) rfl ?_
      refine AW.sub (lv1 := [(0, rv z 7), (1, iv (x1 + 1)), (2, iv x2)]) [1, 0, 2] rfl ?_
      cases h
      exact J18
theorem Trips_howManyLate_ok {z : AZ} {g : AG} {r : Int × AG} (h : Trips_howManyLate g = some r) : AMf z yX7_howManyLate cX7_howManyLate 3 (some .int) 6 [rv z 7] g r := by
  intro d hdd
  refine AM.of (by decide +kernel) (Nat.le_of_ble_eq_true rfl) ?_
  show AW z (RX7, cX7_howManyLate, 3, (some .int)) d (QD (some .int) r) 0 [(0, rv z 7)] [] g
  unfold Trips_howManyLate at h
  refine AW.iconst (dcN_0 dcg_229 :) ?_
  refine AW.istore_n (lv1 := [(1, iv 0), (0, rv z 7)]) (dcN_1 dcg_229 :) (by decide) rfl ?_
  refine AW.iconst (dcN_2 dcg_229 :) ?_
  refine AW.istore_n (lv1 := [(2, iv 0), (1, iv 0), (0, rv z 7)]) (dcN_3 dcg_229 :) (by decide) rfl ?_
  refine AW.sub (lv1 := [(0, rv z 7), (1, iv 0), (2, iv 0)]) [2, 1, 0] rfl ?_
  exact Trips_howManyLate_b_ok hdd _ _ _ _ h
theorem X_late_ok {z : AZ} {x1 : Int} {g : AG} {r : Int × AG} (h : X_late x1 g = some r) : AMf z yX11_late cX11_late 2 (some .int) 7 [rv z 0, iv x1] g r := by
  intro d hdd
  refine AM.of (by decide +kernel) (Nat.le_of_ble_eq_true rfl) ?_
  show AW z (RX11, cX11_late, 2, (some .int)) d (QD (some .int) r) 0 [(0, rv z 0), (1, iv x1)] [] g
  unfold X_late at h
  refine AW.iload_n 1 (dcN_0 dcg_395 :) rfl ?_
  refine AW.iconst (dcN_1 dcg_395 :) ?_
  refine AW.icmp_ne (tgt := 13) (dcN_2 dcg_395 :) (by decide) (fun c1 => ?_) (fun c1 => ?_)
  · replace h := hF h c1
    refine AW.iload_n 1 (dcN_7 dcg_395 :) rfl ?_
    refine AW.iconst (dcN_8 dcg_395 :) ?_
    refine AW.aloadr_n 0 (dcN_9 dcg_395 :) rfl ?_
    refine AW.getR af_X11_58_0 sr_0_6 (dcN_10 dcg_395 :) ?_
    refine AW.getI af_X11_197_7 sr_7_8 (dcN_11 dcg_395 :) ?_
    refine AW.iconst (dcN_0 dcg_396 :) ?_
    refine AW.isub (dcN_1 dcg_396 :) ?_
    refine AW.callSi (As := [iv x1, iv 0, iv ((g 7 8) - 1)]) (st := []) X_within_ok cq_X11_99 st_X11_within (Nat.le_trans (by decide) hdd) rfl (dcN_2 dcg_396 :) rfl (Nat.le_of_ble_eq_true rfl) ?_
    obtain ⟨r5, e6, h⟩ := hC h
    refine AW.join (tgt := 43) (lv1 := []) (st1 := [iv r5.1]) (g1 := r5.2) ?_ (fun J27 => ?_)
    · exact AW.iret1 rfl (dcN_11 dcg_396 :) h rfl
    replace h := e6
    refine AW.if_eq (tgt := 42) (dcN_3 dcg_396 :) (by decide) (fun c2 => ?_) (fun c2 => ?_)
    · replace h := hT h c2
      refine AW.iconst (dcN_10 dcg_396 :) ?_
      refine AW.sub (lv1 := []) [] rfl ?_
      cases h
      exact J27
    · replace h := hF h c2
      refine AW.aloadr_n 0 (dcN_4 dcg_396 :) rfl ?_
      refine AW.getR af_X11_58_0 sr_0_6 (dcN_5 dcg_396 :) ?_
      refine AW.iload_n 1 (dcN_6 dcg_396 :) rfl ?_
      refine AW.iconst (dcN_7 dcg_396 :) ?_
      obtain ⟨r3, e4, h⟩ := hC h
      refine AW.callVi (As := [iv x1, iv 1]) (st := []) (Trips_lateBy_ok e4) cq_X11_205 cr_7_X7_lateBy (Nat.le_trans (by decide) hdd) rfl (dcN_8 dcg_396 :) rfl (Nat.le_of_ble_eq_true rfl) ?_
      refine AW.goto (tgt := 43) (dcN_9 dcg_396 :) (by decide) ?_
      refine AW.sub (lv1 := []) [] rfl ?_
      cases h
      exact J27
  · replace h := hT h c1
    refine AW.aloadr_n 0 (dcN_3 dcg_395 :) rfl ?_
    refine AW.getR af_X11_58_0 sr_0_6 (dcN_4 dcg_395 :) ?_
    obtain ⟨r7, e8, h⟩ := hC h
    refine AW.callVi (As := []) (st := []) (Trips_howManyLate_ok e8) cq_X11_222 cr_7_X7_howManyLate (Nat.le_trans (by decide) hdd) rfl (dcN_5 dcg_395 :) rfl (Nat.le_of_ble_eq_true rfl) ?_
    exact AW.iret1 rfl (dcN_6 dcg_395 :) h rfl
set_option synthInstance.maxHeartbeats 2000000 in
theorem Boats_addLog_b_ok {z : AZ} {d : Nat} (hdd : 0 ≤ d) {x1 : Int} {x2 : Int} {x3 : Int} {x4 : Int} {g : AG} : ∀ (r : Int × AG), Boats_addLog_b x1 x2 x3 x4 g = some r → AW z (RX0, cX0_addLog, 5, (some .int)) d (QD (some .int) r) 37 [(0, rv z 6), (1, iv x1), (2, iv x2), (3, iv x3), (4, iv x4)] [] g := by
  intro r h
  unfold Boats_addLog_b at h
  refine AW.aloadr_n 0 (dcN_3 dcg_7 :) rfl ?_
  refine AW.getR af_X0_26_6 sr_6_8 (dcN_4 dcg_7 :) ?_
  refine AW.iload_n 1 (dcN_5 dcg_7 :) rfl ?_
  obtain ⟨k1, h⟩ := hK h
  refine AW.aald (b := 53) kc_52 sk_52 sb_52 k1 (dcN_6 dcg_7 :) ?_
  refine AW.iload 4 (dcN_7 dcg_7 :) rfl ?_
  refine AW.iload_n 2 (dcN_8 dcg_7 :) rfl ?_
  obtain ⟨k2, h⟩ := hK h
  obtain ⟨g3, e4, h⟩ := hBe h
  refine AW.iast (s2_53 _ (ix_lt k1)).1 (s2_53 _ (ix_lt k1)).2 k2 (dcN_9 dcg_7 :) e4 ?_
  refine AW.aloadr_n 0 (dcN_10 dcg_7 :) rfl ?_
  refine AW.getR af_X0_29_6 sr_6_9 (dcN_11 dcg_7 :) ?_
  refine AW.iload_n 1 (dcN_12 dcg_7 :) rfl ?_
  refine AW.aald (b := 64) kc_63 sk_63 sb_63 k1 (dcN_13 dcg_7 :) ?_
  refine AW.iload 4 (dcN_14 dcg_7 :) rfl ?_
  refine AW.iload_n 3 (dcN_15 dcg_7 :) rfl ?_
  obtain ⟨g5, e6, h⟩ := hBe h
  refine AW.iast (s2_64 _ (ix_lt k1)).1 (s2_64 _ (ix_lt k1)).2 k2 (dcN_16 dcg_7 :) e6 ?_
  refine AW.aloadr_n 0 (dcN_17 dcg_7 :) rfl ?_
  refine AW.getR af_X0_32_6 sr_6_10 (dcN_18 dcg_7 :) ?_
  refine AW.iload_n 1 (dcN_19 dcg_7 :) rfl ?_
  refine AW.iload 4 (dcN_20 dcg_7 :) rfl ?_
  refine AW.iconst (dcN_0 dcg_8 :) ?_
  refine AW.iadd (dcN_1 dcg_8 :) ?_
  obtain ⟨g7, e8, h⟩ := hBe h
  refine AW.iast kc_74 sk_74 k1 (dcN_2 dcg_8 :) e8 ?_
  refine AW.iload 4 (dcN_3 dcg_8 :) rfl ?_
  refine AW.iconst (dcN_4 dcg_8 :) ?_
  refine AW.iadd (dcN_5 dcg_8 :) ?_
  exact AW.iret1 rfl (dcN_6 dcg_8 :) h rfl
theorem Boats_addLog_ok {z : AZ} {x1 : Int} {x2 : Int} {x3 : Int} {g : AG} {r : Int × AG} (h : Boats_addLog x1 x2 x3 g = some r) : AMf z yX0_addLog cX0_addLog 5 (some .int) 0 [rv z 6, iv x1, iv x2, iv x3] g r := by
  intro d hdd
  refine AM.of (by decide +kernel) (Nat.le_of_ble_eq_true rfl) ?_
  show AW z (RX0, cX0_addLog, 5, (some .int)) d (QD (some .int) r) 0 [(0, rv z 6), (1, iv x1), (2, iv x2), (3, iv x3)] [] g
  unfold Boats_addLog at h
  refine AW.aloadr_n 0 (dcN_0 dcg_6 :) rfl ?_
  refine AW.getR af_X0_32_6 sr_6_10 (dcN_1 dcg_6 :) ?_
  refine AW.iload_n 1 (dcN_2 dcg_6 :) rfl ?_
  obtain ⟨k1, h⟩ := hK h
  refine AW.iald kc_74 sk_74 k1 (dcN_3 dcg_6 :) ?_
  refine AW.istore (lv1 := [(4, iv (g 74 (ix x1))), (0, rv z 6), (1, iv x1), (2, iv x2), (3, iv x3)]) (dcN_4 dcg_6 :) (by decide) rfl ?_
  refine AW.iload 0 (dcN_5 dcg_6 :) rfl ?_
  refine AW.bipush (dcN_6 dcg_6 :) (by decide) (by decide) ?_
  refine AW.icmp_ge (tgt := 35) (dcN_7 dcg_6 :) (by decide) (fun c2 => ?_) (fun c2 => ?_)
  · replace h := hT h c2
    refine AW.iconst (dcN_1 dcg_7 :) ?_
    exact AW.iret1 rfl (dcN_2 dcg_7 :) h rfl
  · replace h := hF h c2
    refine AW.iload 0 (dcN_8 dcg_6 :) rfl ?_
    refine AW.if_le (tgt := 37) (dcN_9 dcg_6 :) (by decide) (fun c3 => ?_) (fun c3 => ?_)
    · replace h := hT h c3
      refine AW.sub (lv1 := [(0, rv z 6), (1, iv x1), (2, iv x2), (3, iv x3), (4, iv (g 74 (ix x1)))]) [1, 2, 3, 4, 0] rfl ?_
      exact Boats_addLog_b_ok hdd _ h
    · replace h := hF h c3
      refine AW.iload_n 4 (dcN_10 dcg_6 :) rfl ?_
      refine AW.aloadr_n 1 (dcN_11 dcg_6 :) rfl ?_
      refine AW.getR af_X0_29_6 sr_6_9 (dcN_12 dcg_6 :) ?_
      refine AW.iload_n 2 (dcN_13 dcg_6 :) rfl ?_
      refine AW.aald (b := 64) kc_63 sk_63 sb_63 k1 (dcN_14 dcg_6 :) ?_
      refine AW.iload 0 (dcN_15 dcg_6 :) rfl ?_
      refine AW.iconst (dcN_16 dcg_6 :) ?_
      refine AW.isub (dcN_17 dcg_6 :) ?_
      obtain ⟨k4, h⟩ := hK h
      refine AW.iald (s2_64 _ (ix_lt k1)).1 (s2_64 _ (ix_lt k1)).2 k4 (dcN_18 dcg_6 :) ?_
      refine AW.icmp_gt (tgt := 37) (dcN_0 dcg_7 :) (by decide) (fun c5 => ?_) (fun c5 => ?_)
      · replace h := hT h c5
        refine AW.sub (lv1 := [(0, rv z 6), (1, iv x1), (2, iv x2), (3, iv x3), (4, iv (g 74 (ix x1)))]) [1, 2, 3, 4, 0] rfl ?_
        exact Boats_addLog_b_ok hdd _ h
      · replace h := hF h c5
        refine AW.iconst (dcN_1 dcg_7 :) ?_
        exact AW.iret1 rfl (dcN_2 dcg_7 :) h rfl
theorem X_log_ok {z : AZ} {x1 : Int} {x2 : Int} {x3 : Int} {g : AG} {r : Int × AG} (h : X_log x1 x2 x3 g = some r) : AMf z yX11_log cX11_log 4 (some .int) 3 [rv z 0, iv x1, iv x2, iv x3] g r := by
  intro d hdd
  refine AM.of (by decide +kernel) (Nat.le_of_ble_eq_true rfl) ?_
  show AW z (RX11, cX11_log, 4, (some .int)) d (QD (some .int) r) 0 [(0, rv z 0), (1, iv x1), (2, iv x2), (3, iv x3)] [] g
  unfold X_log at h
  refine AW.aloadr_n 0 (dcN_0 dcg_397 :) rfl ?_
  refine AW.iload_n 1 (dcN_1 dcg_397 :) rfl ?_
  refine AW.iload_n 2 (dcN_2 dcg_397 :) rfl ?_
  refine AW.iload_n 2 (dcN_3 dcg_397 :) rfl ?_
  refine AW.iload_n 3 (dcN_4 dcg_397 :) rfl ?_
  refine AW.callVi (As := [iv x1, iv x2, iv x2, iv x3]) (st := []) X_isWay_ok cq_X11_176 cr_0_X11_isWay (Nat.le_trans (by decide) hdd) rfl (dcN_5 dcg_397 :) rfl (Nat.le_of_ble_eq_true rfl) ?_
  refine AW.if_ne (tgt := 13) (dcN_6 dcg_397 :) (by decide) (fun c1 => ?_) (fun c1 => ?_)
  · replace h := hF h c1
    refine AW.aloadr_n 0 (dcN_9 dcg_397 :) rfl ?_
    refine AW.getR af_X11_49_0 sr_0_5 (dcN_10 dcg_397 :) ?_
    refine AW.iload_n 1 (dcN_11 dcg_397 :) rfl ?_
    refine AW.iload_n 2 (dcN_0 dcg_398 :) rfl ?_
    refine AW.iload_n 3 (dcN_1 dcg_398 :) rfl ?_
    obtain ⟨r2, e3, h⟩ := hC h
    refine AW.callVi (As := [iv x1, iv x2, iv x3]) (st := []) (Boats_addLog_ok e3) cq_X11_225 cr_6_X0_addLog (Nat.le_trans (by decide) hdd) rfl (dcN_2 dcg_398 :) rfl (Nat.le_of_ble_eq_true rfl) ?_
    exact AW.iret1 rfl (dcN_3 dcg_398 :) h rfl
  · replace h := hT h c1
    refine AW.iconst (dcN_7 dcg_397 :) ?_
    exact AW.iret1 rfl (dcN_8 dcg_397 :) h rfl
theorem Boats_placeOf_ok {z : AZ} {x1 : Int} {x2 : Int} {g : AG} {r : Int} (h : Boats_placeOf x1 x2 g = some r) : AMf z yX0_placeOf cX0_placeOf 3 (some .int) 0 [rv z 6, iv x1, iv x2] g (r, g) := by
  intro d hdd
  refine AM.of (by decide +kernel) (Nat.le_of_ble_eq_true rfl) ?_
  show AW z (RX0, cX0_placeOf, 3, (some .int)) d (QD (some .int) (r, g)) 0 [(0, rv z 6), (1, iv x1), (2, iv x2)] [] g
  unfold Boats_placeOf at h
  refine AW.iload_n 2 (dcN_0 dcg_9 :) rfl ?_
  obtain ⟨r5, e6, h⟩ := hC h
  refine AW.join (tgt := 21) (lv1 := []) (st1 := [iv r5]) (g1 := g) ?_ (fun J1 => ?_)
  · exact AW.iret2 rfl (dcN_1 dcg_10 :) h rfl
  replace h := e6
  refine AW.if_ge (tgt := 13) (dcN_1 dcg_9 :) (by decide) (fun c1 => ?_) (fun c1 => ?_)
  · replace h := hT h c1
    refine AW.aloadr_n 0 (dcN_7 dcg_9 :) rfl ?_
    refine AW.getR af_X0_26_6 sr_6_8 (dcN_8 dcg_9 :) ?_
    refine AW.iload_n 1 (dcN_9 dcg_9 :) rfl ?_
    obtain ⟨k2, h⟩ := hK h
    refine AW.aald (b := 53) kc_52 sk_52 sb_52 k2 (dcN_10 dcg_9 :) ?_
    refine AW.iload_n 2 (dcN_11 dcg_9 :) rfl ?_
    obtain ⟨k3, h⟩ := hK h
    refine AW.iald (s2_53 _ (ix_lt k2)).1 (s2_53 _ (ix_lt k2)).2 k3 (dcN_0 dcg_10 :) ?_
    refine AW.sub (lv1 := []) [] rfl ?_
    cases h
    exact J1
  · replace h := hF h c1
    refine AW.aloadr_n 0 (dcN_2 dcg_9 :) rfl ?_
    refine AW.getR af_X0_18_6 sr_6_5 (dcN_3 dcg_9 :) ?_
    refine AW.iload_n 1 (dcN_4 dcg_9 :) rfl ?_
    obtain ⟨k4, h⟩ := hK h
    refine AW.iald kc_50 sk_50 k4 (dcN_5 dcg_9 :) ?_
    refine AW.goto (tgt := 21) (dcN_6 dcg_9 :) (by decide) ?_
    refine AW.sub (lv1 := []) [] rfl ?_
    cases h
    exact J1
theorem Boats_timeOf_ok {z : AZ} {x1 : Int} {x2 : Int} {g : AG} {r : Int} (h : Boats_timeOf x1 x2 g = some r) : AMf z yX0_timeOf cX0_timeOf 3 (some .int) 0 [rv z 6, iv x1, iv x2] g (r, g) := by
  intro d hdd
  refine AM.of (by decide +kernel) (Nat.le_of_ble_eq_true rfl) ?_
  show AW z (RX0, cX0_timeOf, 3, (some .int)) d (QD (some .int) (r, g)) 0 [(0, rv z 6), (1, iv x1), (2, iv x2)] [] g
  unfold Boats_timeOf at h
  refine AW.iload_n 2 (dcN_0 dcg_11 :) rfl ?_
  obtain ⟨r4, e5, h⟩ := hC h
  refine AW.join (tgt := 16) (lv1 := []) (st1 := [iv r4]) (g1 := g) ?_ (fun J1 => ?_)
  · exact AW.iret2 rfl (dcN_10 dcg_11 :) h rfl
  replace h := e5
  refine AW.if_ge (tgt := 8) (dcN_1 dcg_11 :) (by decide) (fun c1 => ?_) (fun c1 => ?_)
  · replace h := hT h c1
    refine AW.aloadr_n 0 (dcN_4 dcg_11 :) rfl ?_
    refine AW.getR af_X0_29_6 sr_6_9 (dcN_5 dcg_11 :) ?_
    refine AW.iload_n 1 (dcN_6 dcg_11 :) rfl ?_
    obtain ⟨k2, h⟩ := hK h
    refine AW.aald (b := 64) kc_63 sk_63 sb_63 k2 (dcN_7 dcg_11 :) ?_
    refine AW.iload_n 2 (dcN_8 dcg_11 :) rfl ?_
    obtain ⟨k3, h⟩ := hK h
    refine AW.iald (s2_64 _ (ix_lt k2)).1 (s2_64 _ (ix_lt k2)).2 k3 (dcN_9 dcg_11 :) ?_
    refine AW.sub (lv1 := []) [] rfl ?_
    cases h
    exact J1
  · replace h := hF h c1
    refine AW.iconst (dcN_2 dcg_11 :) ?_
    refine AW.goto (tgt := 16) (dcN_3 dcg_11 :) (by decide) ?_
    refine AW.sub (lv1 := []) [] rfl ?_
    cases h
    exact J1
theorem Boats_canBetween_ok {z : AZ} {x1 : Int} {x2 : Int} {x3 : Int} {x4 : Int} {x5 : Int} {g : AG} {r : Int × AG} (h : Boats_canBetween x1 x2 x3 x4 x5 g = some r) : AMf z yX0_canBetween cX0_canBetween 12 (some .boolean) 5 [rv z 6, iv x1, iv x2, iv x3, iv x4, iv x5] g r := by
  intro d hdd
  refine AM.of (by decide +kernel) (Nat.le_of_ble_eq_true rfl) ?_
  show AW z (RX0, cX0_canBetween, 12, (some .boolean)) d (QD (some .boolean) r) 0 [(0, rv z 6), (1, iv x1), (2, iv x2), (3, iv x3), (4, iv x4), (5, iv x5)] [] g
  unfold Boats_canBetween at h
  refine AW.iload_n 2 (dcN_0 dcg_14 :) rfl ?_
  refine AW.iconst (dcN_1 dcg_14 :) ?_
  refine AW.iadd (dcN_2 dcg_14 :) ?_
  refine AW.istore (lv1 := [(6, iv (x2 + 1)), (0, rv z 6), (1, iv x1), (2, iv x2), (3, iv x3), (4, iv x4), (5, iv x5)]) (dcN_3 dcg_14 :) (by decide) rfl ?_
  refine AW.iload 0 (dcN_4 dcg_14 :) rfl ?_
  refine AW.aloadr_n 1 (dcN_5 dcg_14 :) rfl ?_
  refine AW.getR af_X0_32_6 sr_6_10 (dcN_6 dcg_14 :) ?_
  refine AW.iload_n 2 (dcN_7 dcg_14 :) rfl ?_
  obtain ⟨k1, h⟩ := hK h
  refine AW.iald kc_74 sk_74 k1 (dcN_8 dcg_14 :) ?_
  obtain ⟨t2, e3, h⟩ := hBe h
  refine AW.join (tgt := 21) (lv1 := [(6, iv (x2 + 1)), (0, rv z 6), (1, iv x1), (2, iv x2), (3, iv x3), (4, iv x4), (5, iv x5)]) (st1 := [iv t2]) (g1 := g) ?_ (fun J13 => ?_)
  · refine AW.istore (lv1 := [(7, iv t2), (6, iv (x2 + 1)), (0, rv z 6), (1, iv x1), (2, iv x2), (3, iv x3), (4, iv x4), (5, iv x5)]) (dcN_13 dcg_14 :) (by decide) rfl ?_
    refine AW.iload 0 (dcN_14 dcg_14 :) rfl ?_
    obtain ⟨r6, e7, h⟩ := hC h
    refine AW.join (tgt := 43) (lv1 := [(0, rv z 6), (1, iv x1), (2, iv x2), (3, iv x3), (4, iv x4), (5, iv x5), (6, iv (x2 + 1)), (7, iv t2)]) (st1 := [iv r6.1]) (g1 := r6.2) ?_ (fun J25 => ?_)
    · refine AW.istore (lv1 := [(8, iv r6.1), (0, rv z 6), (1, iv x1), (2, iv x2), (3, iv x3), (4, iv x4), (5, iv x5), (6, iv (x2 + 1)), (7, iv t2)]) (dcN_6 dcg_15 :) (by decide) rfl ?_
      refine AW.aloadr_n 1 (dcN_7 dcg_15 :) rfl ?_
      refine AW.getR af_X0_46_6 sr_6_2 (dcN_8 dcg_15 :) ?_
      refine AW.aloadr_n 1 (dcN_9 dcg_15 :) rfl ?_
      refine AW.getR af_X0_21_6 sr_6_6 (dcN_10 dcg_15 :) ?_
      refine AW.iload_n 2 (dcN_11 dcg_15 :) rfl ?_
      refine AW.iald kc_51 sk_51 k1 (dcN_12 dcg_15 :) ?_
      refine AW.aloadr_n 1 (dcN_13 dcg_15 :) rfl ?_
      refine AW.iload_n 2 (dcN_14 dcg_15 :) rfl ?_
      refine AW.iload_n 3 (dcN_15 dcg_15 :) rfl ?_
      obtain ⟨r8, e9, h⟩ := hC h
      refine AW.callVi (As := [iv x1, iv x2]) (st := [iv (r6.2 51 (ix x1)), rv z 5]) (Boats_placeOf_ok e9) cq_X0_58 cr_6_X0_placeOf (Nat.le_trans (by decide) hdd) rfl (dcN_16 dcg_15 :) rfl (Nat.le_of_ble_eq_true rfl) ?_
      refine AW.iload_n 4 (dcN_17 dcg_15 :) rfl ?_
      refine AW.aloadr_n 1 (dcN_18 dcg_15 :) rfl ?_
      refine AW.iload_n 2 (dcN_19 dcg_15 :) rfl ?_
      refine AW.iload_n 3 (dcN_0 dcg_16 :) rfl ?_
      obtain ⟨r10, e11, h⟩ := hC h
      refine AW.callVi (As := [iv x1, iv x2]) (st := [iv x3, iv r8, iv (r6.2 51 (ix x1)), rv z 5]) (Boats_timeOf_ok e11) cq_X0_62 cr_6_X0_timeOf (Nat.le_trans (by decide) hdd) rfl (dcN_1 dcg_16 :) rfl (Nat.le_of_ble_eq_true rfl) ?_
      refine AW.iconst (dcN_2 dcg_16 :) ?_
      obtain ⟨r12, e13, h⟩ := hC h
      refine AW.callVi (As := [iv (r6.2 51 (ix x1)), iv r8, iv x3, iv r10, iv 1]) (st := []) (Voyage_comesTo_ok e13) cq_X0_65 cr_5_X9_comesTo (Nat.le_trans (by decide) hdd) rfl (dcN_3 dcg_16 :) rfl (Nat.le_of_ble_eq_true rfl) ?_
      refine AW.istore (lv1 := [(9, iv r12.1), (8, iv r6.1), (0, rv z 6), (1, iv x1), (2, iv x2), (3, iv x3), (4, iv x4), (5, iv x5), (6, iv (x2 + 1)), (7, iv t2)]) (dcN_4 dcg_16 :) (by decide) rfl ?_
      refine AW.iload 0 (dcN_5 dcg_16 :) rfl ?_
      refine AW.iload 6 (dcN_6 dcg_16 :) rfl ?_
      refine AW.mmax (st := []) cm_X0_71 mst_max mini mcd_max (Nat.le_trans (by decide) hdd) (Nat.le_of_ble_eq_true rfl) (dcN_7 dcg_16 :) ?_
      refine AW.istore (lv1 := [(10, iv (mxI r12.1 x4)), (9, iv r12.1), (8, iv r6.1), (0, rv z 6), (1, iv x1), (2, iv x2), (3, iv x3), (4, iv x4), (5, iv x5), (6, iv (x2 + 1)), (7, iv t2)]) (dcN_8 dcg_16 :) (by decide) rfl ?_
      refine AW.iload 1 (dcN_9 dcg_16 :) rfl ?_
      refine AW.iconst (dcN_10 dcg_16 :) ?_
      refine AW.icmp_eq (tgt := 103) (dcN_11 dcg_16 :) (by decide) (fun c14 => ?_) (fun c14 => ?_)
      · replace h := hT h c14
        refine AW.iconst (dcN_3 dcg_17 :) ?_
        exact AW.zret1 rfl (Or.inl rfl) (dcN_4 dcg_17 :) h rfl
      · replace h := hF h c14
        refine AW.iload 0 (dcN_12 dcg_16 :) rfl ?_
        refine AW.iload 8 (dcN_13 dcg_16 :) rfl ?_
        refine AW.icmp_gt (tgt := 103) (dcN_14 dcg_16 :) (by decide) (fun c15 => ?_) (fun c15 => ?_)
        · replace h := hT h c15
          refine AW.iconst (dcN_3 dcg_17 :) ?_
          exact AW.zret1 rfl (Or.inl rfl) (dcN_4 dcg_17 :) h rfl
        · replace h := hF h c15
          refine AW.iload 0 (dcN_0 dcg_17 :) rfl ?_
          refine AW.iload 2 (dcN_1 dcg_17 :) rfl ?_
          refine AW.icmp_lt (tgt := 105) (dcN_2 dcg_17 :) (by decide) (fun c16 => ?_) (fun c16 => ?_)
          · replace h := hT h c16
            refine AW.iload 10 (dcN_5 dcg_17 :) rfl ?_
            refine AW.if_eq (tgt := 112) (dcN_6 dcg_17 :) (by decide) (fun c17 => ?_) (fun c17 => ?_)
            · replace h := hT h c17
              refine AW.aloadr_n 3 (dcN_9 dcg_17 :) rfl ?_
              refine AW.getR af_X0_46_6 sr_6_2 (dcN_10 dcg_17 :) ?_
              refine AW.aloadr_n 3 (dcN_11 dcg_17 :) rfl ?_
              refine AW.getR af_X0_21_6 sr_6_6 (dcN_12 dcg_17 :) ?_
              refine AW.iload_n 4 (dcN_13 dcg_17 :) rfl ?_
              refine AW.iald kc_51 sk_51 k1 (dcN_14 dcg_17 :) ?_
              refine AW.iload_n 6 (dcN_15 dcg_17 :) rfl ?_
              refine AW.aloadr_n 3 (dcN_16 dcg_17 :) rfl ?_
              refine AW.getR af_X0_26_6 sr_6_8 (dcN_17 dcg_17 :) ?_
              refine AW.iload_n 4 (dcN_18 dcg_17 :) rfl ?_
              refine AW.aald (b := 53) kc_52 sk_52 sb_52 k1 (dcN_0 dcg_18 :) ?_
              refine AW.iload 9 (dcN_1 dcg_18 :) rfl ?_
              obtain ⟨k18, h⟩ := hK h
              refine AW.iald (s2_53 _ (ix_lt k1)).1 (s2_53 _ (ix_lt k1)).2 k18 (dcN_2 dcg_18 :) ?_
              refine AW.iload 0 (dcN_3 dcg_18 :) rfl ?_
              refine AW.iconst (dcN_4 dcg_18 :) ?_
              obtain ⟨r19, e20, h⟩ := hC h
              refine AW.callVi (As := [iv (r12.2 51 (ix x1)), iv x3, iv (r12.2 (53 + ix x1) (ix (x2 + 1))), iv (mxI r12.1 x4), iv 1]) (st := []) (Voyage_comesTo_ok e20) cq_X0_65 cr_5_X9_comesTo (Nat.le_trans (by decide) hdd) rfl (dcN_5 dcg_18 :) rfl (Nat.le_of_ble_eq_true rfl) ?_
              refine AW.istore (lv1 := [(11, iv r19.1), (10, iv (mxI r12.1 x4)), (9, iv r12.1), (8, iv r6.1), (0, rv z 6), (1, iv x1), (2, iv x2), (3, iv x3), (4, iv x4), (5, iv x5), (6, iv (x2 + 1)), (7, iv t2)]) (dcN_6 dcg_18 :) (by decide) rfl ?_
              refine AW.iload 0 (dcN_7 dcg_18 :) rfl ?_
              refine AW.iconst (dcN_8 dcg_18 :) ?_
              obtain ⟨t21, e22, h⟩ := hBe h
              refine AW.join (tgt := 158) (lv1 := [(11, iv r19.1), (10, iv (mxI r12.1 x4)), (9, iv r12.1), (8, iv r6.1), (0, rv z 6), (1, iv x1), (2, iv x2), (3, iv x3), (4, iv x4), (5, iv x5), (6, iv (x2 + 1)), (7, iv t2)]) (st1 := [iv t21]) (g1 := r19.2) ?_ (fun J143 => ?_)
              · exact AW.zret1 rfl (by rw [e22]; (repeat' split) <;> first | exact Or.inl rfl | exact Or.inr rfl) (dcN_16 dcg_18 :) h rfl
              refine AW.icmp_eq (tgt := 157) (dcN_9 dcg_18 :) (by decide) (fun c23 => ?_) (fun c23 => ?_)
              · refine AW.iconst (dcN_15 dcg_18 :) ?_
                exact AW.val (e22.trans (if_pos c23)) J143
              · refine AW.iload 0 (dcN_10 dcg_18 :) rfl ?_
                refine AW.iload 3 (dcN_11 dcg_18 :) rfl ?_
                refine AW.icmp_gt (tgt := 157) (dcN_12 dcg_18 :) (by decide) (fun c24 => ?_) (fun c24 => ?_)
                · refine AW.iconst (dcN_15 dcg_18 :) ?_
                  exact AW.val (e22.trans ((if_neg c23).trans (if_pos c24))) J143
                · refine AW.iconst (dcN_13 dcg_18 :) ?_
                  refine AW.goto (tgt := 158) (dcN_14 dcg_18 :) (by decide) ?_
                  exact AW.val (e22.trans ((if_neg c23).trans (if_neg c24))) J143
            · replace h := hF h c17
              refine AW.iconst (dcN_7 dcg_17 :) ?_
              exact AW.zret1 rfl (Or.inr rfl) (dcN_8 dcg_17 :) h rfl
          · replace h := hF h c16
            refine AW.iconst (dcN_3 dcg_17 :) ?_
            exact AW.zret1 rfl (Or.inl rfl) (dcN_4 dcg_17 :) h rfl
    replace h := e7
    refine AW.if_eq (tgt := 34) (dcN_15 dcg_14 :) (by decide) (fun c4 => ?_) (fun c4 => ?_)
    · replace h := hT h c4
      refine AW.aloadr_n 2 (dcN_0 dcg_15 :) rfl ?_
      refine AW.getR af_X0_29_6 sr_6_9 (dcN_1 dcg_15 :) ?_
      refine AW.iload_n 3 (dcN_2 dcg_15 :) rfl ?_
      refine AW.aald (b := 64) kc_63 sk_63 sb_63 k1 (dcN_3 dcg_15 :) ?_
      refine AW.iload 1 (dcN_4 dcg_15 :) rfl ?_
      obtain ⟨k5, h⟩ := hK h
      refine AW.iald (s2_64 _ (ix_lt k1)).1 (s2_64 _ (ix_lt k1)).2 k5 (dcN_5 dcg_15 :) ?_
      refine AW.sub (lv1 := [(0, rv z 6), (1, iv x1), (2, iv x2), (3, iv x3), (4, iv x4), (5, iv x5), (6, iv (x2 + 1)), (7, iv t2)]) [2, 3, 4, 5, 6, 7, 1, 0] rfl ?_
      cases h
      exact J25
    · replace h := hF h c4
      refine AW.sipush (dcN_16 dcg_14 :) (by decide) (by decide) ?_
      refine AW.goto (tgt := 43) (dcN_17 dcg_14 :) (by decide) ?_
      refine AW.sub (lv1 := [(0, rv z 6), (1, iv x1), (2, iv x2), (3, iv x3), (4, iv x4), (5, iv x5), (6, iv (x2 + 1)), (7, iv t2)]) [2, 3, 4, 5, 6, 7, 1, 0] rfl ?_
      cases h
      exact J25
  refine AW.icmp_lt (tgt := 20) (dcN_9 dcg_14 :) (by decide) (fun c25 => ?_) (fun c25 => ?_)
  · refine AW.iconst (dcN_12 dcg_14 :) ?_
    exact AW.val (e3.trans (if_pos c25)) J13
  · refine AW.iconst (dcN_10 dcg_14 :) ?_
    refine AW.goto (tgt := 21) (dcN_11 dcg_14 :) (by decide) ?_
    exact AW.val (e3.trans (if_neg c25)) J13
set_option synthInstance.maxHeartbeats 2000000 in
theorem Boats_canHaveBeen_b_ok {z : AZ} {d : Nat} (hdd : 6 ≤ d) {x1 : Int} {x2 : Int} {x3 : Int} {x4 : Int} : ∀ (x5 : Int) (g : AG) (r : Int × AG), Boats_canHaveBeen_b x1 x2 x3 x4 x5 g = some r → AW z (RX0, cX0_canHaveBeen, 6, (some .boolean)) d (QD (some .boolean) r) 3 [(0, rv z 6), (1, iv x1), (2, iv x2), (3, iv x3), (4, iv x4), (5, iv x5)] [] g := by
  refine Boats_canHaveBeen_b.partial_correctness x1 x2 x3 x4 (fun x5 g r => AW z (RX0, cX0_canHaveBeen, 6, (some .boolean)) d (QD (some .boolean) r) 3 [(0, rv z 6), (1, iv x1), (2, iv x2), (3, iv x3), (4, iv x4), (5, iv x5)] [] g) ?_
  intro fb9 ih x5 g r h
  refine AW.iload 5 (dcN_2 dcg_12 :) rfl ?_
  refine AW.aloadr_n 0 (dcN_3 dcg_12 :) rfl ?_
  refine AW.getR af_X0_32_6 sr_6_10 (dcN_4 dcg_12 :) ?_
  refine AW.iload_n 1 (dcN_5 dcg_12 :) rfl ?_
  obtain ⟨k1, h⟩ := hK h
  refine AW.iald kc_74 sk_74 k1 (dcN_6 dcg_12 :) ?_
  refine AW.icmp_ge (tgt := 36) (dcN_7 dcg_12 :) (by decide) (fun c2 => ?_) (fun c2 => ?_)
  · replace h := hT h c2
    refine AW.iconst (dcN_8 dcg_13 :) ?_
    exact AW.zret1 rfl (Or.inl rfl) (dcN_9 dcg_13 :) h rfl
  · replace h := hF h c2
    refine AW.aloadr_n 0 (dcN_8 dcg_12 :) rfl ?_
    refine AW.iload_n 1 (dcN_9 dcg_12 :) rfl ?_
    refine AW.iload 5 (dcN_10 dcg_12 :) rfl ?_
    refine AW.iload_n 2 (dcN_11 dcg_12 :) rfl ?_
    refine AW.iload_n 3 (dcN_0 dcg_13 :) rfl ?_
    refine AW.iload 4 (dcN_1 dcg_13 :) rfl ?_
    obtain ⟨r3, e4, h⟩ := hC h
    refine AW.callVi (As := [iv x1, iv x5, iv x2, iv x3, iv x4]) (st := []) (Boats_canBetween_ok e4) cq_X0_54 cr_6_X0_canBetween (Nat.le_trans (by decide) hdd) rfl (dcN_2 dcg_13 :) rfl (Nat.le_of_ble_eq_true rfl) ?_
    refine AW.if_eq (tgt := 30) (dcN_3 dcg_13 :) (by decide) (fun c5 => ?_) (fun c5 => ?_)
    · replace h := hT h c5
      refine AW.iinc (lv1 := [(5, iv (x5 + 1)), (0, rv z 6), (1, iv x1), (2, iv x2), (3, iv x3), (4, iv x4)]) 5 (dcN_6 dcg_13 :) rfl (by decide) rfl ?_
      refine AW.goto (tgt := 3) (dcN_7 dcg_13 :) (by decide) ?_
      refine AW.sub (lv1 := [(0, rv z 6), (1, iv x1), (2, iv x2), (3, iv x3), (4, iv x4), (5, iv (x5 + 1))]) [1, 2, 3, 4, 5, 0] rfl ?_
      exact ih _ _ _ h
    · replace h := hF h c5
      refine AW.iconst (dcN_4 dcg_13 :) ?_
      exact AW.zret1 rfl (Or.inr rfl) (dcN_5 dcg_13 :) h rfl
theorem Boats_canHaveBeen_ok {z : AZ} {x1 : Int} {x2 : Int} {x3 : Int} {x4 : Int} {g : AG} {r : Int × AG} (h : Boats_canHaveBeen x1 x2 x3 x4 g = some r) : AMf z yX0_canHaveBeen cX0_canHaveBeen 6 (some .boolean) 6 [rv z 6, iv x1, iv x2, iv x3, iv x4] g r := by
  intro d hdd
  refine AM.of (by decide +kernel) (Nat.le_of_ble_eq_true rfl) ?_
  show AW z (RX0, cX0_canHaveBeen, 6, (some .boolean)) d (QD (some .boolean) r) 0 [(0, rv z 6), (1, iv x1), (2, iv x2), (3, iv x3), (4, iv x4)] [] g
  unfold Boats_canHaveBeen at h
  refine AW.iconst (dcN_0 dcg_12 :) ?_
  refine AW.istore (lv1 := [(5, iv (-1)), (0, rv z 6), (1, iv x1), (2, iv x2), (3, iv x3), (4, iv x4)]) (dcN_1 dcg_12 :) (by decide) rfl ?_
  refine AW.sub (lv1 := [(0, rv z 6), (1, iv x1), (2, iv x2), (3, iv x3), (4, iv x4), (5, iv (-1))]) [1, 2, 3, 4, 5, 0] rfl ?_
  exact Boats_canHaveBeen_b_ok hdd _ _ _ h
theorem X_could_ok {z : AZ} {x1 : Int} {x2 : Int} {x3 : Int} {x4 : Int} {g : AG} {r : Int × AG} (h : X_could x1 x2 x3 x4 g = some r) : AMf z yX11_could cX11_could 5 (some .int) 7 [rv z 0, iv x1, iv x2, iv x3, iv x4] g r := by
  intro d hdd
  refine AM.of (by decide +kernel) (Nat.le_of_ble_eq_true rfl) ?_
  show AW z (RX11, cX11_could, 5, (some .int)) d (QD (some .int) r) 0 [(0, rv z 0), (1, iv x1), (2, iv x2), (3, iv x3), (4, iv x4)] [] g
  unfold X_could at h
  refine AW.aloadr_n 0 (dcN_0 dcg_399 :) rfl ?_
  refine AW.iload_n 1 (dcN_1 dcg_399 :) rfl ?_
  refine AW.iload_n 2 (dcN_2 dcg_399 :) rfl ?_
  refine AW.iload_n 2 (dcN_3 dcg_399 :) rfl ?_
  refine AW.iload_n 3 (dcN_4 dcg_399 :) rfl ?_
  refine AW.callVi (As := [iv x1, iv x2, iv x2, iv x3]) (st := []) X_isWay_ok cq_X11_176 cr_0_X11_isWay (Nat.le_trans (by decide) hdd) rfl (dcN_5 dcg_399 :) rfl (Nat.le_of_ble_eq_true rfl) ?_
  refine AW.if_eq (tgt := 25) (dcN_6 dcg_399 :) (by decide) (fun c1 => ?_) (fun c1 => ?_)
  · replace h := hT h c1
    refine AW.iconst (dcN_1 dcg_400 :) ?_
    exact AW.iret1 rfl (dcN_2 dcg_400 :) h rfl
  · replace h := hF h c1
    refine AW.iload 4 (dcN_7 dcg_399 :) rfl ?_
    refine AW.callSi (As := [iv x4]) (st := []) X_isTime_ok cq_X11_114 st_X11_isTime (Nat.le_trans (by decide) hdd) rfl (dcN_8 dcg_399 :) rfl (Nat.le_of_ble_eq_true rfl) ?_
    refine AW.if_eq (tgt := 25) (dcN_9 dcg_399 :) (by decide) (fun c2 => ?_) (fun c2 => ?_)
    · replace h := hT h c2
      refine AW.iconst (dcN_1 dcg_400 :) ?_
      exact AW.iret1 rfl (dcN_2 dcg_400 :) h rfl
    · replace h := hF h c2
      refine AW.iload_n 3 (dcN_10 dcg_399 :) rfl ?_
      refine AW.iload 4 (dcN_11 dcg_399 :) rfl ?_
      refine AW.icmp_le (tgt := 27) (dcN_0 dcg_400 :) (by decide) (fun c3 => ?_) (fun c3 => ?_)
      · replace h := hT h c3
        refine AW.aloadr_n 0 (dcN_3 dcg_400 :) rfl ?_
        refine AW.getR af_X11_49_0 sr_0_5 (dcN_4 dcg_400 :) ?_
        refine AW.iload_n 1 (dcN_5 dcg_400 :) rfl ?_
        refine AW.iload_n 2 (dcN_6 dcg_400 :) rfl ?_
        refine AW.iload_n 3 (dcN_7 dcg_400 :) rfl ?_
        refine AW.iload 4 (dcN_8 dcg_400 :) rfl ?_
        obtain ⟨r4, e5, h⟩ := hC h
        refine AW.callVi (As := [iv x1, iv x2, iv x3, iv x4]) (st := []) (Boats_canHaveBeen_ok e5) cq_X11_229 cr_6_X0_canHaveBeen (Nat.le_trans (by decide) hdd) rfl (dcN_9 dcg_400 :) rfl (Nat.le_of_ble_eq_true rfl) ?_
        obtain ⟨t6, e7, h⟩ := hBe h
        refine AW.join (tgt := 47) (lv1 := [(0, rv z 0), (1, iv x1), (2, iv x2), (3, iv x3), (4, iv x4)]) (st1 := [iv t6]) (g1 := r4.2) ?_ (fun J39 => ?_)
        · exact AW.iret1 rfl (dcN_2 dcg_401 :) h rfl
        refine AW.if_eq (tgt := 46) (dcN_10 dcg_400 :) (by decide) (fun c8 => ?_) (fun c8 => ?_)
        · refine AW.iconst (dcN_1 dcg_401 :) ?_
          exact AW.val (e7.trans (if_pos c8)) J39
        · refine AW.iconst (dcN_11 dcg_400 :) ?_
          refine AW.goto (tgt := 47) (dcN_0 dcg_401 :) (by decide) ?_
          exact AW.val (e7.trans (if_neg c8)) J39
      · replace h := hF h c3
        refine AW.iconst (dcN_1 dcg_400 :) ?_
        exact AW.iret1 rfl (dcN_2 dcg_400 :) h rfl
set_option synthInstance.maxHeartbeats 2000000 in
theorem X_whose_b_ok {z : AZ} {d : Nat} (hdd : 7 ≤ d) {x1 : Int} {x2 : Int} {x3 : Int} {x4 : Int} : ∀ (x5 : Int) (x6 : Int) (x7 : Int) (g : AG) (r : Int × AG), X_whose_b x1 x2 x3 x4 x5 x6 x7 g = some r → AW z (RX11, cX11_whose, 8, (some .int)) d (QD (some .int) r) 49 [(0, rv z 0), (1, iv x1), (2, iv x2), (3, iv x3), (4, iv x4), (5, iv x5), (6, iv x6), (7, iv x7)] [] g := by
  refine X_whose_b.partial_correctness x1 x2 x3 x4 (fun x5 x6 x7 g r => AW z (RX11, cX11_whose, 8, (some .int)) d (QD (some .int) r) 49 [(0, rv z 0), (1, iv x1), (2, iv x2), (3, iv x3), (4, iv x4), (5, iv x5), (6, iv x6), (7, iv x7)] [] g) ?_
  intro fb9 ih x5 x6 x7 g r h
  refine AW.iload 7 (dcN_10 dcg_403 :) rfl ?_
  refine AW.aloadr_n 0 (dcN_11 dcg_403 :) rfl ?_
  refine AW.getR af_X11_49_0 sr_0_5 (dcN_12 dcg_403 :) ?_
  refine AW.getI af_X11_103_6 sr_6_7 (dcN_13 dcg_403 :) ?_
  refine AW.icmp_ge (tgt := 95) (dcN_14 dcg_403 :) (by decide) (fun c1 => ?_) (fun c1 => ?_)
  · replace h := hT h c1
    refine AW.iload 4 (dcN_16 dcg_404 :) rfl ?_
    refine AW.if_ne (tgt := 103) (dcN_0 dcg_405 :) (by decide) (fun c2 => ?_) (fun c2 => ?_)
    · replace h := hF h c2
      refine AW.iload 5 (dcN_3 dcg_405 :) rfl ?_
      obtain ⟨r3, e4, h⟩ := hC h
      refine AW.callSi (As := [iv x5]) (st := []) (Integer_bitCount_ok e4) cq_X11_232 st_J6_bitCount_0f7a4 (Nat.le_trans (by decide) hdd) rfl (dcN_4 dcg_405 :) rfl (Nat.le_of_ble_eq_true rfl) ?_
      refine AW.iconst (dcN_5 dcg_405 :) ?_
      obtain ⟨t5, e6, h⟩ := hBe h
      refine AW.join (tgt := 118) (lv1 := [(0, rv z 0), (1, iv x1), (2, iv x2), (3, iv x3), (4, iv x4), (5, iv x5), (6, iv x6), (7, iv x7)]) (st1 := [iv t5]) (g1 := g) ?_ (fun J109 => ?_)
      · exact AW.iret1 rfl (dcN_10 dcg_405 :) h rfl
      refine AW.icmp_ne (tgt := 117) (dcN_6 dcg_405 :) (by decide) (fun c7 => ?_) (fun c7 => ?_)
      · refine AW.iconst (dcN_9 dcg_405 :) ?_
        exact AW.val (e6.trans (if_neg c7)) J109
      · refine AW.iload 6 (dcN_7 dcg_405 :) rfl ?_
        refine AW.goto (tgt := 118) (dcN_8 dcg_405 :) (by decide) ?_
        exact AW.val (e6.trans (if_pos c7)) J109
    · replace h := hT h c2
      refine AW.iload 5 (dcN_1 dcg_405 :) rfl ?_
      exact AW.iret1 rfl (dcN_2 dcg_405 :) h rfl
  · replace h := hF h c1
    refine AW.aloadr_n 0 (dcN_15 dcg_403 :) rfl ?_
    refine AW.getR af_X11_49_0 sr_0_5 (dcN_16 dcg_403 :) ?_
    refine AW.iload 7 (dcN_0 dcg_404 :) rfl ?_
    refine AW.iload_n 1 (dcN_1 dcg_404 :) rfl ?_
    refine AW.iload_n 2 (dcN_2 dcg_404 :) rfl ?_
    refine AW.iload_n 3 (dcN_3 dcg_404 :) rfl ?_
    obtain ⟨r8, e9, h⟩ := hC h
    refine AW.callVi (As := [iv x7, iv x1, iv x2, iv x3]) (st := []) (Boats_canHaveBeen_ok e9) cq_X11_229 cr_6_X0_canHaveBeen (Nat.le_trans (by decide) hdd) rfl (dcN_4 dcg_404 :) rfl (Nat.le_of_ble_eq_true rfl) ?_
    obtain ⟨r11, e12, h⟩ := hC h
    refine AW.join (tgt := 89) (lv1 := [(0, rv z 0), (1, iv x1), (2, iv x2), (3, iv x3), (4, iv x4), (5, iv r11.1), (6, iv r11.2.1), (7, iv x7)]) (st1 := []) (g1 := r11.2.2) ?_ (fun J73 => ?_)
    · refine AW.iinc (lv1 := [(7, iv (x7 + 1)), (0, rv z 0), (1, iv x1), (2, iv x2), (3, iv x3), (4, iv x4), (5, iv r11.1), (6, iv r11.2.1)]) 7 (dcN_14 dcg_404 :) rfl (by decide) rfl ?_
      refine AW.goto (tgt := 49) (dcN_15 dcg_404 :) (by decide) ?_
      refine AW.sub (lv1 := [(0, rv z 0), (1, iv x1), (2, iv x2), (3, iv x3), (4, iv x4), (5, iv r11.1), (6, iv r11.2.1), (7, iv (x7 + 1))]) [1, 2, 3, 4, 5, 6, 7, 0] rfl ?_
      exact ih _ _ _ _ _ h
    replace h := e12
    refine AW.if_eq (tgt := 89) (dcN_5 dcg_404 :) (by decide) (fun c10 => ?_) (fun c10 => ?_)
    · replace h := hT h c10
      cases h
      exact J73
    · replace h := hF h c10
      refine AW.iload 5 (dcN_6 dcg_404 :) rfl ?_
      refine AW.iconst (dcN_7 dcg_404 :) ?_
      refine AW.iload 7 (dcN_8 dcg_404 :) rfl ?_
      refine AW.ishl (dcN_9 dcg_404 :) ?_
      refine AW.ior (dcN_10 dcg_404 :) ?_
      refine AW.istore (lv1 := [(5, iv (orI x5 (shlI 1 x7))), (0, rv z 0), (1, iv x1), (2, iv x2), (3, iv x3), (4, iv x4), (6, iv x6), (7, iv x7)]) (dcN_11 dcg_404 :) (by decide) rfl ?_
      refine AW.iload 7 (dcN_12 dcg_404 :) rfl ?_
      refine AW.istore (lv1 := [(6, iv x7), (5, iv (orI x5 (shlI 1 x7))), (0, rv z 0), (1, iv x1), (2, iv x2), (3, iv x3), (4, iv x4), (7, iv x7)]) (dcN_13 dcg_404 :) (by decide) rfl ?_
      refine AW.sub (lv1 := [(0, rv z 0), (1, iv x1), (2, iv x2), (3, iv x3), (4, iv x4), (5, iv (orI x5 (shlI 1 x7))), (6, iv x7), (7, iv x7)]) [2, 3, 4, 5, 6, 1, 0, 7] rfl ?_
      cases h
      exact J73
theorem X_whose_ok {z : AZ} {x1 : Int} {x2 : Int} {x3 : Int} {x4 : Int} {g : AG} {r : Int × AG} (h : X_whose x1 x2 x3 x4 g = some r) : AMf z yX11_whose cX11_whose 8 (some .int) 7 [rv z 0, iv x1, iv x2, iv x3, iv x4] g r := by
  intro d hdd
  refine AM.of (by decide +kernel) (Nat.le_of_ble_eq_true rfl) ?_
  show AW z (RX11, cX11_whose, 8, (some .int)) d (QD (some .int) r) 0 [(0, rv z 0), (1, iv x1), (2, iv x2), (3, iv x3), (4, iv x4)] [] g
  unfold X_whose at h
  refine AW.iload_n 1 (dcN_0 dcg_402 :) rfl ?_
  refine AW.callSi (As := [iv x1]) (st := []) X_isPoint_ok cq_X11_111 st_X11_isPoint (Nat.le_trans (by decide) hdd) rfl (dcN_1 dcg_402 :) rfl (Nat.le_of_ble_eq_true rfl) ?_
  refine AW.if_eq (tgt := 26) (dcN_2 dcg_402 :) (by decide) (fun c1 => ?_) (fun c1 => ?_)
  · replace h := hT h c1
    refine AW.iconst (dcN_12 dcg_402 :) ?_
    exact AW.iret1 rfl (dcN_13 dcg_402 :) h rfl
  · replace h := hF h c1
    refine AW.iload_n 2 (dcN_3 dcg_402 :) rfl ?_
    refine AW.callSi (As := [iv x2]) (st := []) X_isTime_ok cq_X11_114 st_X11_isTime (Nat.le_trans (by decide) hdd) rfl (dcN_4 dcg_402 :) rfl (Nat.le_of_ble_eq_true rfl) ?_
    refine AW.if_eq (tgt := 26) (dcN_5 dcg_402 :) (by decide) (fun c2 => ?_) (fun c2 => ?_)
    · replace h := hT h c2
      refine AW.iconst (dcN_12 dcg_402 :) ?_
      exact AW.iret1 rfl (dcN_13 dcg_402 :) h rfl
    · replace h := hF h c2
      refine AW.iload_n 3 (dcN_6 dcg_402 :) rfl ?_
      refine AW.callSi (As := [iv x3]) (st := []) X_isTime_ok cq_X11_114 st_X11_isTime (Nat.le_trans (by decide) hdd) rfl (dcN_7 dcg_402 :) rfl (Nat.le_of_ble_eq_true rfl) ?_
      refine AW.if_eq (tgt := 26) (dcN_8 dcg_402 :) (by decide) (fun c3 => ?_) (fun c3 => ?_)
      · replace h := hT h c3
        refine AW.iconst (dcN_12 dcg_402 :) ?_
        exact AW.iret1 rfl (dcN_13 dcg_402 :) h rfl
      · replace h := hF h c3
        refine AW.iload_n 2 (dcN_9 dcg_402 :) rfl ?_
        refine AW.iload_n 3 (dcN_10 dcg_402 :) rfl ?_
        refine AW.icmp_le (tgt := 28) (dcN_11 dcg_402 :) (by decide) (fun c4 => ?_) (fun c4 => ?_)
        · replace h := hT h c4
          refine AW.iload 4 (dcN_14 dcg_402 :) rfl ?_
          refine AW.iconst (dcN_15 dcg_402 :) ?_
          refine AW.iconst (dcN_16 dcg_402 :) ?_
          refine AW.callSi (As := [iv x4, iv 0, iv 1]) (st := []) X_within_ok cq_X11_99 st_X11_within (Nat.le_trans (by decide) hdd) rfl (dcN_0 dcg_403 :) rfl (Nat.le_of_ble_eq_true rfl) ?_
          refine AW.if_ne (tgt := 40) (dcN_1 dcg_403 :) (by decide) (fun c5 => ?_) (fun c5 => ?_)
          · replace h := hF h c5
            refine AW.iconst (dcN_4 dcg_403 :) ?_
            refine AW.istore (lv1 := [(5, iv 0), (0, rv z 0), (1, iv x1), (2, iv x2), (3, iv x3), (4, iv x4)]) (dcN_5 dcg_403 :) (by decide) rfl ?_
            refine AW.iconst (dcN_6 dcg_403 :) ?_
            refine AW.istore (lv1 := [(6, iv (-1)), (5, iv 0), (0, rv z 0), (1, iv x1), (2, iv x2), (3, iv x3), (4, iv x4)]) (dcN_7 dcg_403 :) (by decide) rfl ?_
            refine AW.iconst (dcN_8 dcg_403 :) ?_
            refine AW.istore (lv1 := [(7, iv 0), (6, iv (-1)), (5, iv 0), (0, rv z 0), (1, iv x1), (2, iv x2), (3, iv x3), (4, iv x4)]) (dcN_9 dcg_403 :) (by decide) rfl ?_
            refine AW.sub (lv1 := [(0, rv z 0), (1, iv x1), (2, iv x2), (3, iv x3), (4, iv x4), (5, iv 0), (6, iv (-1)), (7, iv 0)]) [3, 4, 5, 6, 7, 2, 1, 0] rfl ?_
            exact X_whose_b_ok hdd _ _ _ _ _ h
          · replace h := hT h c5
            refine AW.iconst (dcN_2 dcg_403 :) ?_
            exact AW.iret1 rfl (dcN_3 dcg_403 :) h rfl
        · replace h := hF h c4
          refine AW.iconst (dcN_12 dcg_402 :) ?_
          exact AW.iret1 rfl (dcN_13 dcg_402 :) h rfl
