section
theorem Trips_refund_ok {z : AZ} {x1 : Int} {g : AG} {r : Int × AG} (h : Trips_refund x1 g = some r) : AMf z yX7_refund cX7_refund 6 (some .int) 6 [rv z 7, iv x1] g r := by
  intro d hdd
  refine AM.of (by decide +kernel) (Nat.le_of_ble_eq_true rfl) ?_
  show AW z (RX7, cX7_refund, 6, (some .int)) d (QD (some .int) r) 0 [(0, rv z 7), (1, iv x1)] [] g
  unfold Trips_refund at h
  refine AW.aloadr_n 0 (dcN_0 dcg_237 :) rfl ?_
  refine AW.iload_n 1 (dcN_1 dcg_237 :) rfl ?_
  refine AW.iconst (dcN_2 dcg_237 :) ?_
  obtain ⟨r1, e2, h⟩ := hC h
  refine AW.callVi (As := [iv x1, iv 1]) (st := []) (Trips_lateBy_ok e2) cq_X7_60 cr_7_X7_lateBy (Nat.le_trans (by decide) hdd) rfl (dcN_3 dcg_237 :) rfl (Nat.le_of_ble_eq_true rfl) ?_
  refine AW.istore_n (lv1 := [(2, iv r1.1), (0, rv z 7), (1, iv x1)]) (dcN_4 dcg_237 :) (by decide) rfl ?_
  refine AW.iload_n 0 (dcN_5 dcg_237 :) rfl ?_
  refine AW.if_ne (tgt := 13) (dcN_6 dcg_237 :) (by decide) (fun c3 => ?_) (fun c3 => ?_)
  · replace h := hF h c3
    refine AW.aloadr_n 1 (dcN_9 dcg_237 :) rfl ?_
    refine AW.getR af_X7_27_7 sr_7_0 (dcN_10 dcg_237 :) ?_
    refine AW.aloadr_n 1 (dcN_11 dcg_237 :) rfl ?_
    refine AW.getR af_X7_9_7 sr_7_3 (dcN_12 dcg_237 :) ?_
    refine AW.iload_n 2 (dcN_13 dcg_237 :) rfl ?_
    obtain ⟨k4, h⟩ := hK h
    refine AW.iald kc_76 sk_76 k4 (dcN_14 dcg_237 :) ?_
    refine AW.aloadr_n 1 (dcN_15 dcg_237 :) rfl ?_
    refine AW.getR af_X7_21_7 sr_7_6 (dcN_16 dcg_237 :) ?_
    refine AW.iload_n 2 (dcN_17 dcg_237 :) rfl ?_
    refine AW.iald kc_79 sk_79 k4 (dcN_18 dcg_237 :) ?_
    refine AW.sipush (dcN_19 dcg_237 :) (by decide) (by decide) ?_
    refine AW.idiv (dcN_0 dcg_238 :) (by decide) ?_
    refine AW.bipush (dcN_1 dcg_238 :) (by decide) (by decide) ?_
    refine AW.idiv (dcN_2 dcg_238 :) (by decide) ?_
    refine AW.aloadr_n 1 (dcN_3 dcg_238 :) rfl ?_
    refine AW.getR af_X7_15_7 sr_7_4 (dcN_4 dcg_238 :) ?_
    refine AW.iload_n 2 (dcN_5 dcg_238 :) rfl ?_
    refine AW.iald kc_77 sk_77 k4 (dcN_6 dcg_238 :) ?_
    refine AW.aloadr_n 1 (dcN_7 dcg_238 :) rfl ?_
    refine AW.getR af_X7_18_7 sr_7_5 (dcN_8 dcg_238 :) ?_
    refine AW.iload_n 2 (dcN_9 dcg_238 :) rfl ?_
    refine AW.iald kc_78 sk_78 k4 (dcN_10 dcg_238 :) ?_
    obtain ⟨t5, e6, h⟩ := hBe h
    refine AW.join (tgt := 56) (lv1 := [(2, iv r1.1), (0, rv z 7), (1, iv x1)]) (st1 := [iv t5, iv ((nw ((nw (r1.2 79 (ix x1))).tdiv 1440)).tdiv 7), iv (r1.2 76 (ix x1)), rv z 6]) (g1 := r1.2) ?_ (fun J48 => ?_)
    · obtain ⟨r7, e8, h⟩ := hC h
      refine AW.callVi (As := [iv (r1.2 76 (ix x1)), iv ((nw ((nw (r1.2 79 (ix x1))).tdiv 1440)).tdiv 7), iv t5]) (st := []) (Boats_priceLine_ok e8) cq_X7_73 cr_6_X0_priceLine (Nat.le_trans (by decide) hdd) rfl (dcN_15 dcg_238 :) rfl (Nat.le_of_ble_eq_true rfl) ?_
      refine AW.istore_n (lv1 := [(3, iv r7.1), (2, iv r1.1), (0, rv z 7), (1, iv x1)]) (dcN_16 dcg_238 :) (by decide) rfl ?_
      refine AW.iload_n 0 (dcN_17 dcg_238 :) rfl ?_
      refine AW.iconst (dcN_18 dcg_238 :) ?_
      refine AW.icmp_ne (tgt := 68) (dcN_19 dcg_238 :) (by decide) (fun c9 => ?_) (fun c9 => ?_)
      · replace h := hF h c9
        refine AW.bipush (dcN_2 dcg_239 :) (by decide) (by decide) ?_
        refine AW.iload_n 1 (dcN_3 dcg_239 :) rfl ?_
        refine AW.sipush (dcN_4 dcg_239 :) (by decide) (by decide) ?_
        refine AW.iadd (dcN_5 dcg_239 :) ?_
        refine AW.iconst (dcN_6 dcg_239 :) ?_
        refine AW.isub (dcN_7 dcg_239 :) ?_
        refine AW.sipush (dcN_8 dcg_239 :) (by decide) (by decide) ?_
        refine AW.idiv (dcN_9 dcg_239 :) (by decide) ?_
        refine AW.mmin (st := []) cm_X7_77 mst_min mini mcd_min (Nat.le_trans (by decide) hdd) (Nat.le_of_ble_eq_true rfl) (dcN_10 dcg_239 :) ?_
        refine AW.i2l (dcN_11 dcg_239 :) ?_
        refine AW.lstore (lv1 := [(4, jv (nw (mnI 7 ((nw ((r1.1 + 1440) - 1)).tdiv 1440)))), (3, iv r7.1), (2, iv r1.1), (0, rv z 7), (1, iv x1)]) (dcN_12 dcg_239 :) (by decide) rfl ?_
        refine AW.aloadr_n 3 (dcN_13 dcg_239 :) rfl ?_
        refine AW.getR af_X7_31_7 sr_7_1 (dcN_14 dcg_239 :) ?_
        refine AW.iload_n 1 (dcN_15 dcg_239 :) rfl ?_
        obtain ⟨r10, e11, h⟩ := hC h
        refine AW.callVi (As := [iv r7.1]) (st := []) (Rules_valueOf_ok e11) cq_X7_80 cr_2_X6_valueOf (Nat.le_trans (by decide) hdd) rfl (dcN_16 dcg_239 :) rfl (Nat.le_of_ble_eq_true rfl) ?_
        refine AW.i2l (dcN_17 dcg_239 :) ?_
        refine AW.lload 0 (dcN_0 dcg_240 :) rfl ?_
        refine AW.lmul (dcN_1 dcg_240 :) ?_
        refine AW.ldc2 (dcN_2 dcg_240 :) cw_X7_85 ?_
        refine AW.ldiv (dcN_3 dcg_240 :) (by decide) ?_
        refine AW.l2i (dcN_4 dcg_240 :) ?_
        exact AW.iret1 rfl (dcN_5 dcg_240 :) h rfl
      · replace h := hT h c9
        refine AW.ldc (dcN_0 dcg_239 :) cw_X7_64 ?_
        exact AW.iret1 rfl (dcN_1 dcg_239 :) h rfl
    refine AW.icmp_eq (tgt := 55) (dcN_11 dcg_238 :) (by decide) (fun c12 => ?_) (fun c12 => ?_)
    · refine AW.iconst (dcN_14 dcg_238 :) ?_
      exact AW.val (e6.trans (if_pos c12)) J48
    · refine AW.iconst (dcN_12 dcg_238 :) ?_
      refine AW.goto (tgt := 56) (dcN_13 dcg_238 :) (by decide) ?_
      exact AW.val (e6.trans (if_neg c12)) J48
  · replace h := hT h c3
    refine AW.iconst (dcN_7 dcg_237 :) ?_
    exact AW.iret1 rfl (dcN_8 dcg_237 :) h rfl
theorem Trips_isBackInTime_ok {z : AZ} {x1 : Int} {x2 : Int} {g : AG} {r : Int × AG} (h : Trips_isBackInTime x1 x2 g = some r) : AMf z yX7_isBackInTime cX7_isBackInTime 6 (some .boolean) 5 [rv z 7, iv x1, iv x2] g r := by
  intro d hdd
  refine AM.of (by decide +kernel) (Nat.le_of_ble_eq_true rfl) ?_
  show AW z (RX7, cX7_isBackInTime, 6, (some .boolean)) d (QD (some .boolean) r) 0 [(0, rv z 7), (1, iv x1), (2, iv x2)] [] g
  unfold Trips_isBackInTime at h
  refine AW.aloadr_n 0 (dcN_0 dcg_234 :) rfl ?_
  refine AW.getR af_X7_27_7 sr_7_0 (dcN_1 dcg_234 :) ?_
  refine AW.getR af_X7_43_6 sr_6_6 (dcN_2 dcg_234 :) ?_
  refine AW.aloadr_n 0 (dcN_3 dcg_234 :) rfl ?_
  refine AW.getR af_X7_9_7 sr_7_3 (dcN_4 dcg_234 :) ?_
  refine AW.iload_n 1 (dcN_5 dcg_234 :) rfl ?_
  obtain ⟨k1, h⟩ := hK h
  refine AW.iald kc_76 sk_76 k1 (dcN_6 dcg_234 :) ?_
  obtain ⟨k2, h⟩ := hK h
  refine AW.iald kc_51 sk_51 k2 (dcN_7 dcg_234 :) ?_
  refine AW.istore_n (lv1 := [(3, iv (g 51 (ix (g 76 (ix x1))))), (0, rv z 7), (1, iv x1), (2, iv x2)]) (dcN_8 dcg_234 :) (by decide) rfl ?_
  refine AW.aloadr_n 1 (dcN_9 dcg_234 :) rfl ?_
  refine AW.getR af_X7_35_7 sr_7_2 (dcN_10 dcg_234 :) ?_
  refine AW.iload_n 0 (dcN_11 dcg_234 :) rfl ?_
  refine AW.aloadr_n 1 (dcN_12 dcg_234 :) rfl ?_
  refine AW.getR af_X7_15_7 sr_7_4 (dcN_13 dcg_234 :) ?_
  refine AW.iload_n 2 (dcN_14 dcg_234 :) rfl ?_
  refine AW.iald kc_77 sk_77 k1 (dcN_15 dcg_234 :) ?_
  refine AW.iload_n 3 (dcN_16 dcg_234 :) rfl ?_
  refine AW.aloadr_n 1 (dcN_17 dcg_234 :) rfl ?_
  refine AW.getR af_X7_21_7 sr_7_6 (dcN_18 dcg_234 :) ?_
  refine AW.iload_n 2 (dcN_19 dcg_234 :) rfl ?_
  refine AW.iald kc_79 sk_79 k1 (dcN_0 dcg_235 :) ?_
  refine AW.iconst (dcN_1 dcg_235 :) ?_
  obtain ⟨r3, e4, h⟩ := hC h
  refine AW.callVi (As := [iv (g 51 (ix (g 76 (ix x1)))), iv (g 77 (ix x1)), iv x2, iv (g 79 (ix x1)), iv 1]) (st := []) (Voyage_comesTo_ok e4) cq_X7_48 cr_5_X9_comesTo (Nat.le_trans (by decide) hdd) rfl (dcN_2 dcg_235 :) rfl (Nat.le_of_ble_eq_true rfl) ?_
  refine AW.istore (lv1 := [(4, iv r3.1), (3, iv (g 51 (ix (g 76 (ix x1))))), (0, rv z 7), (1, iv x1), (2, iv x2)]) (dcN_3 dcg_235 :) (by decide) rfl ?_
  refine AW.iload 0 (dcN_4 dcg_235 :) rfl ?_
  refine AW.iconst (dcN_5 dcg_235 :) ?_
  refine AW.icmp_ne (tgt := 47) (dcN_6 dcg_235 :) (by decide) (fun c5 => ?_) (fun c5 => ?_)
  · replace h := hF h c5
    refine AW.aloadr_n 2 (dcN_9 dcg_235 :) rfl ?_
    refine AW.getR af_X7_35_7 sr_7_2 (dcN_10 dcg_235 :) ?_
    refine AW.iload_n 1 (dcN_11 dcg_235 :) rfl ?_
    refine AW.iload_n 4 (dcN_12 dcg_235 :) rfl ?_
    refine AW.aloadr_n 2 (dcN_13 dcg_235 :) rfl ?_
    refine AW.getR af_X7_15_7 sr_7_4 (dcN_14 dcg_235 :) ?_
    refine AW.iload_n 3 (dcN_15 dcg_235 :) rfl ?_
    refine AW.iald kc_77 sk_77 k1 (dcN_16 dcg_235 :) ?_
    refine AW.iload 0 (dcN_17 dcg_235 :) rfl ?_
    refine AW.iconst (dcN_18 dcg_235 :) ?_
    obtain ⟨r6, e7, h⟩ := hC h
    refine AW.callVi (As := [iv (g 51 (ix (g 76 (ix x1)))), iv x2, iv (r3.2 77 (ix x1)), iv r3.1, iv 1]) (st := []) (Voyage_comesTo_ok e7) cq_X7_48 cr_5_X9_comesTo (Nat.le_trans (by decide) hdd) rfl (dcN_19 dcg_235 :) rfl (Nat.le_of_ble_eq_true rfl) ?_
    refine AW.istore (lv1 := [(5, iv r6.1), (4, iv r3.1), (3, iv (g 51 (ix (g 76 (ix x1))))), (0, rv z 7), (1, iv x1), (2, iv x2)]) (dcN_0 dcg_236 :) (by decide) rfl ?_
    refine AW.iload 0 (dcN_1 dcg_236 :) rfl ?_
    refine AW.iconst (dcN_2 dcg_236 :) ?_
    obtain ⟨r12, e13, h⟩ := hC h
    refine AW.join (tgt := 89) (lv1 := []) (st1 := [iv r12.1]) (g1 := r12.2) ?_ (fun J70 => ?_)
    · obtain ⟨k14, h⟩ := hK h
      exact AW.zret1 rfl k14 (dcN_13 dcg_236 :) h rfl
    replace h := e13
    refine AW.icmp_eq (tgt := 88) (dcN_3 dcg_236 :) (by decide) (fun c8 => ?_) (fun c8 => ?_)
    · replace h := hT h c8
      refine AW.iconst (dcN_12 dcg_236 :) ?_
      refine AW.sub (lv1 := []) [] rfl ?_
      cases h
      exact J70
    · replace h := hF h c8
      refine AW.iload 0 (dcN_4 dcg_236 :) rfl ?_
      refine AW.aloadr_n 3 (dcN_5 dcg_236 :) rfl ?_
      refine AW.getR af_X7_24_7 sr_7_7 (dcN_6 dcg_236 :) ?_
      refine AW.iload_n 4 (dcN_7 dcg_236 :) rfl ?_
      refine AW.iald kc_80 sk_80 k1 (dcN_8 dcg_236 :) ?_
      obtain ⟨t9, e10, h⟩ := hBe h
      refine AW.join (tgt := 89) (lv1 := [(5, iv r6.1), (4, iv r3.1), (3, iv (g 51 (ix (g 76 (ix x1))))), (0, rv z 7), (1, iv x1), (2, iv x2)]) (st1 := [iv t9]) (g1 := r6.2) ?_ (fun J81 => ?_)
      · refine AW.sub (lv1 := []) [] rfl ?_
        cases h
        exact J70
      refine AW.icmp_gt (tgt := 88) (dcN_9 dcg_236 :) (by decide) (fun c11 => ?_) (fun c11 => ?_)
      · refine AW.iconst (dcN_12 dcg_236 :) ?_
        exact AW.val (e10.trans (if_pos c11)) J81
      · refine AW.iconst (dcN_10 dcg_236 :) ?_
        refine AW.goto (tgt := 89) (dcN_11 dcg_236 :) (by decide) ?_
        exact AW.val (e10.trans (if_neg c11)) J81
  · replace h := hT h c5
    refine AW.iconst (dcN_7 dcg_235 :) ?_
    exact AW.zret1 rfl (Or.inl rfl) (dcN_8 dcg_235 :) h rfl
set_option synthInstance.maxHeartbeats 2000000 in
theorem Trips_turningBack_b_ok {z : AZ} {d : Nat} (hdd : 6 ≤ d) {x1 : Int} {x3 : Int} {x4 : Int} : ∀ (x2 : Int) (x5 : Int) (g : AG) (r : Int × AG), Trips_turningBack_b x1 x3 x4 x2 x5 g = some r → AW z (RX7, cX7_turningBack, 7, (some .int)) d (QD (some .int) r) 45 [(0, rv z 7), (1, iv x1), (2, iv x2), (3, iv x3), (4, iv x4), (5, iv x5)] [] g := by
  refine Trips_turningBack_b.partial_correctness x1 x3 x4 (fun x2 x5 g r => AW z (RX7, cX7_turningBack, 7, (some .int)) d (QD (some .int) r) 45 [(0, rv z 7), (1, iv x1), (2, iv x2), (3, iv x3), (4, iv x4), (5, iv x5)] [] g) ?_
  intro fb9 ih x2 x5 g r h
  refine AW.iload 5 (dcN_7 dcg_232 :) rfl ?_
  refine AW.iload 4 (dcN_8 dcg_232 :) rfl ?_
  refine AW.icmp_gt (tgt := 84) (dcN_9 dcg_232 :) (by decide) (fun c1 => ?_) (fun c1 => ?_)
  · replace h := hT h c1
    refine AW.iload_n 2 (dcN_9 dcg_233 :) rfl ?_
    exact AW.iret1 rfl (dcN_10 dcg_233 :) h rfl
  · replace h := hF h c1
    refine AW.aloadr_n 0 (dcN_10 dcg_232 :) rfl ?_
    refine AW.getR af_X7_15_7 sr_7_4 (dcN_11 dcg_232 :) ?_
    refine AW.iload_n 1 (dcN_12 dcg_232 :) rfl ?_
    obtain ⟨k2, h⟩ := hK h
    refine AW.iald kc_77 sk_77 k2 (dcN_13 dcg_232 :) ?_
    refine AW.iload 5 (dcN_14 dcg_232 :) rfl ?_
    refine AW.iload_n 3 (dcN_15 dcg_232 :) rfl ?_
    refine AW.imul (dcN_16 dcg_232 :) ?_
    refine AW.iadd (dcN_17 dcg_232 :) ?_
    refine AW.istore (lv1 := [(6, iv ((g 77 (ix x1)) + (x5 * x3))), (0, rv z 7), (1, iv x1), (2, iv x2), (3, iv x3), (4, iv x4), (5, iv x5)]) (dcN_18 dcg_232 :) (by decide) rfl ?_
    refine AW.aloadr_n 1 (dcN_0 dcg_233 :) rfl ?_
    refine AW.iload_n 2 (dcN_1 dcg_233 :) rfl ?_
    refine AW.iload 0 (dcN_2 dcg_233 :) rfl ?_
    obtain ⟨r3, e4, h⟩ := hC h
    refine AW.callVi (As := [iv x1, iv ((g 77 (ix x1)) + (x5 * x3))]) (st := []) (Trips_isBackInTime_ok e4) cq_X7_69 cr_7_X7_isBackInTime (Nat.le_trans (by decide) hdd) rfl (dcN_3 dcg_233 :) rfl (Nat.le_of_ble_eq_true rfl) ?_
    obtain ⟨r6, e7, h⟩ := hC h
    refine AW.join (tgt := 78) (lv1 := [(0, rv z 7), (1, iv x1), (2, iv r6.1), (3, iv x3), (4, iv x4), (5, iv x5)]) (st1 := []) (g1 := r6.2) ?_ (fun J72 => ?_)
    · refine AW.iinc (lv1 := [(5, iv (x5 + 1)), (0, rv z 7), (1, iv x1), (2, iv r6.1), (3, iv x3), (4, iv x4)]) 5 (dcN_7 dcg_233 :) rfl (by decide) rfl ?_
      refine AW.goto (tgt := 45) (dcN_8 dcg_233 :) (by decide) ?_
      refine AW.sub (lv1 := [(0, rv z 7), (1, iv x1), (2, iv r6.1), (3, iv x3), (4, iv x4), (5, iv (x5 + 1))]) [1, 2, 3, 4, 5, 0] rfl ?_
      exact ih _ _ _ _ h
    replace h := e7
    refine AW.if_eq (tgt := 78) (dcN_4 dcg_233 :) (by decide) (fun c5 => ?_) (fun c5 => ?_)
    · replace h := hT h c5
      refine AW.sub (lv1 := [(0, rv z 7), (1, iv x1), (2, iv x2), (3, iv x3), (4, iv x4), (5, iv x5)]) [1, 2, 3, 4, 5, 6] rfl ?_
      cases h
      exact J72
    · replace h := hF h c5
      refine AW.iload 0 (dcN_5 dcg_233 :) rfl ?_
      refine AW.istore_n (lv1 := [(2, iv ((g 77 (ix x1)) + (x5 * x3))), (6, iv ((g 77 (ix x1)) + (x5 * x3))), (0, rv z 7), (1, iv x1), (3, iv x3), (4, iv x4), (5, iv x5)]) (dcN_6 dcg_233 :) (by decide) rfl ?_
      refine AW.sub (lv1 := [(0, rv z 7), (1, iv x1), (2, iv ((g 77 (ix x1)) + (x5 * x3))), (3, iv x3), (4, iv x4), (5, iv x5)]) [2, 3, 0, 4, 5, 6] rfl ?_
      cases h
      exact J72
theorem Trips_turningBack_ok {z : AZ} {x1 : Int} {g : AG} {r : Int × AG} (h : Trips_turningBack x1 g = some r) : AMf z yX7_turningBack cX7_turningBack 7 (some .int) 6 [rv z 7, iv x1] g r := by
  intro d hdd
  refine AM.of (by decide +kernel) (Nat.le_of_ble_eq_true rfl) ?_
  show AW z (RX7, cX7_turningBack, 7, (some .int)) d (QD (some .int) r) 0 [(0, rv z 7), (1, iv x1)] [] g
  unfold Trips_turningBack at h
  refine AW.ldc (dcN_0 dcg_231 :) cw_X7_64 ?_
  refine AW.istore_n (lv1 := [(2, iv (-1000000)), (0, rv z 7), (1, iv x1)]) (dcN_1 dcg_231 :) (by decide) rfl ?_
  refine AW.aloadr_n 1 (dcN_2 dcg_231 :) rfl ?_
  refine AW.getR af_X7_18_7 sr_7_5 (dcN_3 dcg_231 :) ?_
  refine AW.iload_n 2 (dcN_4 dcg_231 :) rfl ?_
  obtain ⟨k1, h⟩ := hK h
  refine AW.iald kc_78 sk_78 k1 (dcN_5 dcg_231 :) ?_
  refine AW.aloadr_n 1 (dcN_6 dcg_231 :) rfl ?_
  refine AW.getR af_X7_15_7 sr_7_4 (dcN_7 dcg_231 :) ?_
  refine AW.iload_n 2 (dcN_8 dcg_231 :) rfl ?_
  refine AW.iald kc_77 sk_77 k1 (dcN_9 dcg_231 :) ?_
  obtain ⟨t2, e3, h⟩ := hBe h
  refine AW.join (tgt := 23) (lv1 := [(2, iv (-1000000)), (0, rv z 7), (1, iv x1)]) (st1 := [iv t2]) (g1 := g) ?_ (fun J15 => ?_)
  · refine AW.istore_n (lv1 := [(3, iv t2), (2, iv (-1000000)), (0, rv z 7), (1, iv x1)]) (dcN_14 dcg_231 :) (by decide) rfl ?_
    refine AW.aloadr_n 2 (dcN_15 dcg_231 :) rfl ?_
    refine AW.getR af_X7_18_7 sr_7_5 (dcN_16 dcg_231 :) ?_
    refine AW.iload_n 3 (dcN_17 dcg_231 :) rfl ?_
    refine AW.iald kc_78 sk_78 k1 (dcN_18 dcg_231 :) ?_
    refine AW.aloadr_n 2 (dcN_19 dcg_231 :) rfl ?_
    refine AW.getR af_X7_15_7 sr_7_4 (dcN_20 dcg_231 :) ?_
    refine AW.iload_n 3 (dcN_0 dcg_232 :) rfl ?_
    refine AW.iald kc_77 sk_77 k1 (dcN_1 dcg_232 :) ?_
    refine AW.isub (dcN_2 dcg_232 :) ?_
    refine AW.mabs (st := []) cm_X7_65 mst_abs mini mcd_abs (Nat.le_trans (by decide) hdd) (Nat.le_of_ble_eq_true rfl) (dcN_3 dcg_232 :) ?_
    refine AW.istore (lv1 := [(4, iv (abI ((g 78 (ix x1)) - (g 77 (ix x1))))), (3, iv t2), (2, iv (-1000000)), (0, rv z 7), (1, iv x1)]) (dcN_4 dcg_232 :) (by decide) rfl ?_
    refine AW.iconst (dcN_5 dcg_232 :) ?_
    refine AW.istore (lv1 := [(5, iv 0), (4, iv (abI ((g 78 (ix x1)) - (g 77 (ix x1))))), (3, iv t2), (2, iv (-1000000)), (0, rv z 7), (1, iv x1)]) (dcN_6 dcg_232 :) (by decide) rfl ?_
    refine AW.sub (lv1 := [(0, rv z 7), (1, iv x1), (2, iv (-1000000)), (3, iv t2), (4, iv (abI ((g 78 (ix x1)) - (g 77 (ix x1))))), (5, iv 0)]) [4, 5, 3, 2, 1, 0] rfl ?_
    exact Trips_turningBack_b_ok hdd _ _ _ _ h
  refine AW.icmp_ge (tgt := 22) (dcN_10 dcg_231 :) (by decide) (fun c4 => ?_) (fun c4 => ?_)
  · refine AW.iconst (dcN_13 dcg_231 :) ?_
    exact AW.val (e3.trans (if_pos c4)) J15
  · refine AW.iconst (dcN_11 dcg_231 :) ?_
    refine AW.goto (tgt := 23) (dcN_12 dcg_231 :) (by decide) ?_
    exact AW.val (e3.trans (if_neg c4)) J15
theorem X_back_ok {z : AZ} {x1 : Int} {x2 : Int} {g : AG} {r : Int × AG} (h : X_back x1 x2 g = some r) : AMf z yX11_back cX11_back 3 (some .int) 7 [rv z 0, iv x1, iv x2] g r := by
  intro d hdd
  refine AM.of (by decide +kernel) (Nat.le_of_ble_eq_true rfl) ?_
  show AW z (RX11, cX11_back, 3, (some .int)) d (QD (some .int) r) 0 [(0, rv z 0), (1, iv x1), (2, iv x2)] [] g
  unfold X_back at h
  refine AW.iload_n 1 (dcN_0 dcg_381 :) rfl ?_
  refine AW.iconst (dcN_1 dcg_381 :) ?_
  refine AW.aloadr_n 0 (dcN_2 dcg_381 :) rfl ?_
  refine AW.getR af_X11_58_0 sr_0_6 (dcN_3 dcg_381 :) ?_
  refine AW.getI af_X11_197_7 sr_7_8 (dcN_4 dcg_381 :) ?_
  refine AW.iconst (dcN_5 dcg_381 :) ?_
  refine AW.isub (dcN_6 dcg_381 :) ?_
  refine AW.callSi (As := [iv x1, iv 0, iv ((g 7 8) - 1)]) (st := []) X_within_ok cq_X11_99 st_X11_within (Nat.le_trans (by decide) hdd) rfl (dcN_7 dcg_381 :) rfl (Nat.le_of_ble_eq_true rfl) ?_
  refine AW.if_ne (tgt := 20) (dcN_8 dcg_381 :) (by decide) (fun c1 => ?_) (fun c1 => ?_)
  · replace h := hF h c1
    refine AW.iload_n 2 (dcN_11 dcg_381 :) rfl ?_
    refine AW.if_ne (tgt := 33) (dcN_12 dcg_381 :) (by decide) (fun c2 => ?_) (fun c2 => ?_)
    · replace h := hF h c2
      refine AW.iload_n 2 (dcN_1 dcg_382 :) rfl ?_
      refine AW.iconst (dcN_2 dcg_382 :) ?_
      obtain ⟨r6, e7, h⟩ := hC h
      refine AW.join (tgt := 51) (lv1 := []) (st1 := [iv r6.1]) (g1 := r6.2) ?_ (fun J35 => ?_)
      · exact AW.iret1 rfl (dcN_10 dcg_382 :) h rfl
      replace h := e7
      refine AW.icmp_ne (tgt := 49) (dcN_3 dcg_382 :) (by decide) (fun c3 => ?_) (fun c3 => ?_)
      · replace h := hF h c3
        refine AW.ldc (dcN_9 dcg_382 :) cw_X11_198 ?_
        refine AW.sub (lv1 := []) [] rfl ?_
        cases h
        exact J35
      · replace h := hT h c3
        refine AW.aloadr_n 0 (dcN_4 dcg_382 :) rfl ?_
        refine AW.getR af_X11_58_0 sr_0_6 (dcN_5 dcg_382 :) ?_
        refine AW.iload_n 1 (dcN_6 dcg_382 :) rfl ?_
        obtain ⟨r4, e5, h⟩ := hC h
        refine AW.callVi (As := [iv x1]) (st := []) (Trips_refund_ok e5) cq_X11_202 cr_7_X7_refund (Nat.le_trans (by decide) hdd) rfl (dcN_7 dcg_382 :) rfl (Nat.le_of_ble_eq_true rfl) ?_
        refine AW.goto (tgt := 51) (dcN_8 dcg_382 :) (by decide) ?_
        refine AW.sub (lv1 := []) [] rfl ?_
        cases h
        exact J35
    · replace h := hT h c2
      refine AW.aloadr_n 0 (dcN_13 dcg_381 :) rfl ?_
      refine AW.getR af_X11_58_0 sr_0_6 (dcN_14 dcg_381 :) ?_
      refine AW.iload_n 1 (dcN_15 dcg_381 :) rfl ?_
      obtain ⟨r8, e9, h⟩ := hC h
      refine AW.callVi (As := [iv x1]) (st := []) (Trips_turningBack_ok e9) cq_X11_199 cr_7_X7_turningBack (Nat.le_trans (by decide) hdd) rfl (dcN_16 dcg_381 :) rfl (Nat.le_of_ble_eq_true rfl) ?_
      exact AW.iret1 rfl (dcN_0 dcg_382 :) h rfl
  · replace h := hT h c1
    refine AW.ldc (dcN_9 dcg_381 :) cw_X11_198 ?_
    exact AW.iret1 rfl (dcN_10 dcg_381 :) h rfl
set_option synthInstance.maxHeartbeats 2000000 in
theorem X_rung_b_ok {z : AZ} {d : Nat} (hdd : 6 ≤ d) : ∀ (x1 : Int) (x2 : Int) (g : AG) (r : Int × AG), X_rung_b x1 x2 g = some r → AW z (RX11, cX11_rung, 3, (some .int)) d (QD (some .int) r) 4 [(0, rv z 0), (1, iv x1), (2, iv x2)] [] g := by
  refine X_rung_b.partial_correctness (fun x1 x2 g r => AW z (RX11, cX11_rung, 3, (some .int)) d (QD (some .int) r) 4 [(0, rv z 0), (1, iv x1), (2, iv x2)] [] g) ?_
  intro fb9 ih x1 x2 g r h
  refine AW.iload_n 2 (dcN_4 dcg_383 :) rfl ?_
  refine AW.aloadr_n 0 (dcN_5 dcg_383 :) rfl ?_
  refine AW.getR af_X11_58_0 sr_0_6 (dcN_6 dcg_383 :) ?_
  refine AW.getI af_X11_197_7 sr_7_8 (dcN_7 dcg_383 :) ?_
  refine AW.icmp_ge (tgt := 51) (dcN_8 dcg_383 :) (by decide) (fun c1 => ?_) (fun c1 => ?_)
  · replace h := hT h c1
    refine AW.iload_n 1 (dcN_11 dcg_384 :) rfl ?_
    exact AW.iret1 rfl (dcN_12 dcg_384 :) h rfl
  · replace h := hF h c1
    refine AW.aloadr_n 0 (dcN_9 dcg_383 :) rfl ?_
    refine AW.getR af_X11_58_0 sr_0_6 (dcN_10 dcg_383 :) ?_
    refine AW.iload_n 2 (dcN_11 dcg_383 :) rfl ?_
    refine AW.iconst (dcN_12 dcg_383 :) ?_
    obtain ⟨r2, e3, h⟩ := hC h
    refine AW.callVi (As := [iv x2, iv 1]) (st := []) (Trips_lateBy_ok e3) cq_X11_205 cr_7_X7_lateBy (Nat.le_trans (by decide) hdd) rfl (dcN_13 dcg_383 :) rfl (Nat.le_of_ble_eq_true rfl) ?_
    obtain ⟨r8, e9, h⟩ := hC h
    refine AW.join (tgt := 45) (lv1 := [(0, rv z 0), (1, iv r8.1), (2, iv x2)]) (st1 := []) (g1 := r8.2) ?_ (fun J24 => ?_)
    · refine AW.iinc (lv1 := [(2, iv (x2 + 1)), (0, rv z 0), (1, iv r8.1)]) 2 (dcN_9 dcg_384 :) rfl (by decide) rfl ?_
      refine AW.goto (tgt := 4) (dcN_10 dcg_384 :) (by decide) ?_
      refine AW.sub (lv1 := [(0, rv z 0), (1, iv r8.1), (2, iv (x2 + 1))]) [1, 2, 0] rfl ?_
      exact ih _ _ _ _ h
    replace h := e9
    refine AW.if_le (tgt := 45) (dcN_14 dcg_383 :) (by decide) (fun c4 => ?_) (fun c4 => ?_)
    · replace h := hT h c4
      cases h
      exact J24
    · replace h := hF h c4
      refine AW.aloadr_n 0 (dcN_15 dcg_383 :) rfl ?_
      refine AW.getR af_X11_58_0 sr_0_6 (dcN_16 dcg_383 :) ?_
      refine AW.iload_n 2 (dcN_17 dcg_383 :) rfl ?_
      refine AW.iconst (dcN_0 dcg_384 :) ?_
      obtain ⟨r5, e6, h⟩ := hC h
      refine AW.callVi (As := [iv x2, iv 0]) (st := []) (Trips_lateBy_ok e6) cq_X11_205 cr_7_X7_lateBy (Nat.le_trans (by decide) hdd) rfl (dcN_1 dcg_384 :) rfl (Nat.le_of_ble_eq_true rfl) ?_
      refine AW.if_ne (tgt := 45) (dcN_2 dcg_384 :) (by decide) (fun c7 => ?_) (fun c7 => ?_)
      · replace h := hF h c7
        cases h
        exact J24
      · replace h := hT h c7
        refine AW.iload_n 1 (dcN_3 dcg_384 :) rfl ?_
        refine AW.iconst (dcN_4 dcg_384 :) ?_
        refine AW.iload_n 2 (dcN_5 dcg_384 :) rfl ?_
        refine AW.ishl (dcN_6 dcg_384 :) ?_
        refine AW.ior (dcN_7 dcg_384 :) ?_
        refine AW.istore_n (lv1 := [(1, iv (orI x1 (shlI 1 x2))), (0, rv z 0), (2, iv x2)]) (dcN_8 dcg_384 :) (by decide) rfl ?_
        refine AW.sub (lv1 := [(0, rv z 0), (1, iv (orI x1 (shlI 1 x2))), (2, iv x2)]) [1, 0, 2] rfl ?_
        cases h
        exact J24
theorem X_rung_ok {z : AZ} {g : AG} {r : Int × AG} (h : X_rung g = some r) : AMf z yX11_rung cX11_rung 3 (some .int) 6 [rv z 0] g r := by
  intro d hdd
  refine AM.of (by decide +kernel) (Nat.le_of_ble_eq_true rfl) ?_
  show AW z (RX11, cX11_rung, 3, (some .int)) d (QD (some .int) r) 0 [(0, rv z 0)] [] g
  unfold X_rung at h
  refine AW.iconst (dcN_0 dcg_383 :) ?_
  refine AW.istore_n (lv1 := [(1, iv 0), (0, rv z 0)]) (dcN_1 dcg_383 :) (by decide) rfl ?_
  refine AW.iconst (dcN_2 dcg_383 :) ?_
  refine AW.istore_n (lv1 := [(2, iv 0), (1, iv 0), (0, rv z 0)]) (dcN_3 dcg_383 :) (by decide) rfl ?_
  refine AW.sub (lv1 := [(0, rv z 0), (1, iv 0), (2, iv 0)]) [2, 1, 0] rfl ?_
  exact X_rung_b_ok hdd _ _ _ _ h
theorem Canal_setPump_ok {z : AZ} {x1 : Int} {x2 : Int} {g : AG} {r : Int × AG} (h : Canal_setPump x1 x2 g = some r) : AMf z yX2_setPump cX2_setPump 3 none 0 [rv z 1, iv x1, iv x2] g r := by
  intro d hdd
  refine AM.of (by decide +kernel) (Nat.le_of_ble_eq_true rfl) ?_
  show AW z (RX2, cX2_setPump, 3, none) d (QD none r) 0 [(0, rv z 1), (1, iv x1), (2, iv x2)] [] g
  unfold Canal_setPump at h
  refine AW.iload_n 2 (dcN_0 dcg_77 :) rfl ?_
  obtain ⟨r6, e7, h⟩ := hC h
  refine AW.join (tgt := 33) (lv1 := []) (st1 := []) (g1 := r6) ?_ (fun J1 => ?_)
  · exact AW.vret1 rfl (dcN_9 dcg_78 :) h rfl
  replace h := e7
  refine AW.if_eq (tgt := 19) (dcN_1 dcg_77 :) (by decide) (fun c1 => ?_) (fun c1 => ?_)
  · replace h := hT h c1
    refine AW.aloadr_n 0 (dcN_11 dcg_77 :) rfl ?_
    refine AW.duprr (dcN_0 dcg_78 :) ?_
    refine AW.getI af_X2_37_1 sr_1_6 (dcN_1 dcg_78 :) ?_
    refine AW.iconst (dcN_2 dcg_78 :) ?_
    refine AW.iload_n 1 (dcN_3 dcg_78 :) rfl ?_
    refine AW.ishl (dcN_4 dcg_78 :) ?_
    refine AW.iconst (dcN_5 dcg_78 :) ?_
    refine AW.ixor (dcN_6 dcg_78 :) ?_
    refine AW.iand (dcN_7 dcg_78 :) ?_
    obtain ⟨g2, e3, h⟩ := hBe h
    refine AW.putI ap_X2_37_1 sr_1_6 (dcN_8 dcg_78 :) e3 ?_
    refine AW.sub (lv1 := []) [] rfl ?_
    cases h
    exact J1
  · replace h := hF h c1
    refine AW.aloadr_n 0 (dcN_2 dcg_77 :) rfl ?_
    refine AW.duprr (dcN_3 dcg_77 :) ?_
    refine AW.getI af_X2_37_1 sr_1_6 (dcN_4 dcg_77 :) ?_
    refine AW.iconst (dcN_5 dcg_77 :) ?_
    refine AW.iload_n 1 (dcN_6 dcg_77 :) rfl ?_
    refine AW.ishl (dcN_7 dcg_77 :) ?_
    refine AW.ior (dcN_8 dcg_77 :) ?_
    obtain ⟨g4, e5, h⟩ := hBe h
    refine AW.putI ap_X2_37_1 sr_1_6 (dcN_9 dcg_77 :) e5 ?_
    refine AW.goto (tgt := 33) (dcN_10 dcg_77 :) (by decide) ?_
    refine AW.sub (lv1 := []) [] rfl ?_
    cases h
    exact J1
theorem X_pump_ok {z : AZ} {x1 : Int} {x2 : Int} {g : AG} {r : Int × AG} (h : X_pump x1 x2 g = some r) : AMf z yX11_pump cX11_pump 3 (some .boolean) 2 [rv z 0, iv x1, iv x2] g r := by
  intro d hdd
  refine AM.of (by decide +kernel) (Nat.le_of_ble_eq_true rfl) ?_
  show AW z (RX11, cX11_pump, 3, (some .boolean)) d (QD (some .boolean) r) 0 [(0, rv z 0), (1, iv x1), (2, iv x2)] [] g
  unfold X_pump at h
  refine AW.iload_n 1 (dcN_0 dcg_385 :) rfl ?_
  refine AW.callSi (As := [iv x1]) (st := []) X_isPoint_ok cq_X11_111 st_X11_isPoint (Nat.le_trans (by decide) hdd) rfl (dcN_1 dcg_385 :) rfl (Nat.le_of_ble_eq_true rfl) ?_
  refine AW.if_ne (tgt := 9) (dcN_2 dcg_385 :) (by decide) (fun c1 => ?_) (fun c1 => ?_)
  · replace h := hF h c1
    refine AW.aloadr_n 0 (dcN_5 dcg_385 :) rfl ?_
    refine AW.getR af_X11_12_0 sr_0_0 (dcN_6 dcg_385 :) ?_
    refine AW.iload_n 1 (dcN_7 dcg_385 :) rfl ?_
    refine AW.iload_n 2 (dcN_8 dcg_385 :) rfl ?_
    obtain ⟨r2, e3, h⟩ := hC h
    refine AW.callVv (As := [iv x1, iv x2]) (st := []) (Canal_setPump_ok e3) cq_X11_209 cr_1_X2_setPump (Nat.le_trans (by decide) hdd) rfl (dcN_9 dcg_385 :) rfl (Nat.le_of_ble_eq_true rfl) ?_
    refine AW.iconst (dcN_10 dcg_385 :) ?_
    exact AW.zret1 rfl (Or.inr rfl) (dcN_11 dcg_385 :) h rfl
  · replace h := hT h c1
    refine AW.iconst (dcN_3 dcg_385 :) ?_
    exact AW.zret1 rfl (Or.inl rfl) (dcN_4 dcg_385 :) h rfl
set_option synthInstance.maxHeartbeats 2000000 in
theorem Voyage_nextPump_b_ok {z : AZ} {d : Nat} (hdd : 0 ≤ d) {g : AG} : ∀ (x1 : Int) (x2 : Int) (r : Int), Voyage_nextPump_b g x1 x2 = some r → AW z (RX9, cX9_nextPump, 4, (some .int)) d (QD (some .int) (r, g)) 4 [(0, rv z 5), (1, iv x1), (2, iv x2)] [] g := by
  refine Voyage_nextPump_b.partial_correctness g (fun x1 x2 r => AW z (RX9, cX9_nextPump, 4, (some .int)) d (QD (some .int) (r, g)) 4 [(0, rv z 5), (1, iv x1), (2, iv x2)] [] g) ?_
  intro fb9 ih x1 x2 r h
  refine AW.iload_n 2 (dcN_4 dcg_286 :) rfl ?_
  refine AW.bipush (dcN_5 dcg_286 :) (by decide) (by decide) ?_
  refine AW.icmp_ge (tgt := 72) (dcN_6 dcg_286 :) (by decide) (fun c1 => ?_) (fun c1 => ?_)
  · replace h := hT h c1
    refine AW.iload_n 1 (dcN_4 dcg_288 :) rfl ?_
    exact AW.iret2 rfl (dcN_5 dcg_288 :) h rfl
  · replace h := hF h c1
    refine AW.aloadr_n 0 (dcN_7 dcg_286 :) rfl ?_
    refine AW.getR af_X9_24_5 sr_5_0 (dcN_8 dcg_286 :) ?_
    refine AW.getI af_X9_75_1 sr_1_6 (dcN_9 dcg_286 :) ?_
    refine AW.iload_n 2 (dcN_10 dcg_286 :) rfl ?_
    refine AW.ishr (dcN_11 dcg_286 :) ?_
    refine AW.iconst (dcN_12 dcg_286 :) ?_
    refine AW.iand (dcN_13 dcg_286 :) ?_
    obtain ⟨r7, e8, h⟩ := hC h
    refine AW.join (tgt := 39) (lv1 := [(0, rv z 5), (1, iv x1), (2, iv x2)]) (st1 := [iv r7]) (g1 := g) ?_ (fun J21 => ?_)
    · refine AW.istore_n (lv1 := [(3, iv r7), (0, rv z 5), (1, iv x1), (2, iv x2)]) (dcN_3 dcg_287 :) (by decide) rfl ?_
      refine AW.iload_n 0 (dcN_4 dcg_287 :) rfl ?_
      obtain ⟨r14, e15, h⟩ := hC h
      refine AW.join (tgt := 66) (lv1 := [(0, rv z 5), (1, iv r14), (2, iv x2)]) (st1 := []) (g1 := g) ?_ (fun J41 => ?_)
      · refine AW.iinc (lv1 := [(2, iv (x2 + 1)), (0, rv z 5), (1, iv r14)]) 2 (dcN_2 dcg_288 :) rfl (by decide) rfl ?_
        refine AW.goto (tgt := 4) (dcN_3 dcg_288 :) (by decide) ?_
        refine AW.sub (lv1 := [(0, rv z 5), (1, iv r14), (2, iv (x2 + 1))]) [1, 2, 0] rfl ?_
        exact ih _ _ _ h
      replace h := e15
      refine AW.if_eq (tgt := 66) (dcN_5 dcg_287 :) (by decide) (fun c9 => ?_) (fun c9 => ?_)
      · replace h := hT h c9
        refine AW.sub (lv1 := [(0, rv z 5), (1, iv x1), (2, iv x2)]) [1, 2, 3] rfl ?_
        cases h
        exact J41
      · replace h := hF h c9
        refine AW.iload_n 2 (dcN_6 dcg_287 :) rfl ?_
        refine AW.iconst (dcN_7 dcg_287 :) ?_
        refine AW.icmp_eq (tgt := 64) (dcN_8 dcg_287 :) (by decide) (fun c10 => ?_) (fun c10 => ?_)
        · replace h := hT h c10
          refine AW.iload_n 3 (dcN_0 dcg_288 :) rfl ?_
          refine AW.istore_n (lv1 := [(1, iv x2), (3, iv r7), (0, rv z 5), (2, iv x2)]) (dcN_1 dcg_288 :) (by decide) rfl ?_
          refine AW.sub (lv1 := [(0, rv z 5), (1, iv x2), (2, iv x2)]) [2, 0, 3] rfl ?_
          cases h
          exact J41
        · replace h := hF h c10
          refine AW.aloadr_n 1 (dcN_9 dcg_287 :) rfl ?_
          refine AW.getR af_X9_18_5 sr_5_4 (dcN_10 dcg_287 :) ?_
          refine AW.iload_n 3 (dcN_11 dcg_287 :) rfl ?_
          obtain ⟨k11, h⟩ := hK h
          refine AW.iald kc_46 sk_46 k11 (dcN_12 dcg_287 :) ?_
          refine AW.aloadr_n 1 (dcN_13 dcg_287 :) rfl ?_
          refine AW.getR af_X9_18_5 sr_5_4 (dcN_14 dcg_287 :) ?_
          refine AW.iload_n 2 (dcN_15 dcg_287 :) rfl ?_
          obtain ⟨k12, h⟩ := hK h
          refine AW.iald kc_46 sk_46 k12 (dcN_16 dcg_287 :) ?_
          refine AW.icmp_ge (tgt := 66) (dcN_17 dcg_287 :) (by decide) (fun c13 => ?_) (fun c13 => ?_)
          · replace h := hT h c13
            refine AW.sub (lv1 := [(0, rv z 5), (1, iv x1), (2, iv x2)]) [1, 2, 3] rfl ?_
            cases h
            exact J41
          · replace h := hF h c13
            refine AW.iload_n 3 (dcN_0 dcg_288 :) rfl ?_
            refine AW.istore_n (lv1 := [(1, iv x2), (3, iv r7), (0, rv z 5), (2, iv x2)]) (dcN_1 dcg_288 :) (by decide) rfl ?_
            refine AW.sub (lv1 := [(0, rv z 5), (1, iv x2), (2, iv x2)]) [2, 0, 3] rfl ?_
            cases h
            exact J41
    replace h := e8
    refine AW.if_eq (tgt := 38) (dcN_14 dcg_286 :) (by decide) (fun c2 => ?_) (fun c2 => ?_)
    · replace h := hT h c2
      refine AW.iconst (dcN_2 dcg_287 :) ?_
      cases h
      exact J21
    · replace h := hF h c2
      refine AW.aloadr_n 0 (dcN_15 dcg_286 :) rfl ?_
      refine AW.getR af_X9_18_5 sr_5_4 (dcN_16 dcg_286 :) ?_
      refine AW.iload_n 2 (dcN_17 dcg_286 :) rfl ?_
      obtain ⟨k3, h⟩ := hK h
      refine AW.iald kc_46 sk_46 k3 (dcN_18 dcg_286 :) ?_
      refine AW.iconst (dcN_19 dcg_286 :) ?_
      obtain ⟨t4, e5, h⟩ := hBe h
      refine AW.join (tgt := 39) (lv1 := [(0, rv z 5), (1, iv x1), (2, iv x2)]) (st1 := [iv t4]) (g1 := g) ?_ (fun J31 => ?_)
      · cases h
        exact J21
      refine AW.icmp_eq (tgt := 38) (dcN_20 dcg_286 :) (by decide) (fun c6 => ?_) (fun c6 => ?_)
      · refine AW.iconst (dcN_2 dcg_287 :) ?_
        exact AW.val (e5.trans (if_pos c6)) J31
      · refine AW.iconst (dcN_0 dcg_287 :) ?_
        refine AW.goto (tgt := 39) (dcN_1 dcg_287 :) (by decide) ?_
        exact AW.val (e5.trans (if_neg c6)) J31
theorem Voyage_nextPump_ok {z : AZ} {g : AG} {r : Int} (h : Voyage_nextPump g = some r) : AMf z yX9_nextPump cX9_nextPump 4 (some .int) 0 [rv z 5] g (r, g) := by
  intro d hdd
  refine AM.of (by decide +kernel) (Nat.le_of_ble_eq_true rfl) ?_
  show AW z (RX9, cX9_nextPump, 4, (some .int)) d (QD (some .int) (r, g)) 0 [(0, rv z 5)] [] g
  unfold Voyage_nextPump at h
  refine AW.iconst (dcN_0 dcg_286 :) ?_
  refine AW.istore_n (lv1 := [(1, iv (-1)), (0, rv z 5)]) (dcN_1 dcg_286 :) (by decide) rfl ?_
  refine AW.iconst (dcN_2 dcg_286 :) ?_
  refine AW.istore_n (lv1 := [(2, iv 0), (1, iv (-1)), (0, rv z 5)]) (dcN_3 dcg_286 :) (by decide) rfl ?_
  refine AW.sub (lv1 := [(0, rv z 5), (1, iv (-1)), (2, iv 0)]) [2, 1, 0] rfl ?_
  exact Voyage_nextPump_b_ok hdd _ _ _ h
theorem X_pumped_ok {z : AZ} {x1 : Int} {x2 : Int} {x3 : Int} {x4 : Int} {x5 : Int} {g : AG} {r : Int × AG} (h : X_pumped x1 x2 x3 x4 x5 g = some r) : AMf z yX11_pumped cX11_pumped 8 (some .int) 5 [rv z 0, iv x1, iv x2, iv x3, iv x4, iv x5] g r := by
  intro d hdd
  refine AM.of (by decide +kernel) (Nat.le_of_ble_eq_true rfl) ?_
  show AW z (RX11, cX11_pumped, 8, (some .int)) d (QD (some .int) r) 0 [(0, rv z 0), (1, iv x1), (2, iv x2), (3, iv x3), (4, iv x4), (5, iv x5)] [] g
  unfold X_pumped at h
  refine AW.aloadr_n 0 (dcN_0 dcg_386 :) rfl ?_
  refine AW.iload_n 1 (dcN_1 dcg_386 :) rfl ?_
  refine AW.iload_n 2 (dcN_2 dcg_386 :) rfl ?_
  refine AW.iload_n 2 (dcN_3 dcg_386 :) rfl ?_
  refine AW.iload_n 3 (dcN_4 dcg_386 :) rfl ?_
  refine AW.callVi (As := [iv x1, iv x2, iv x2, iv x3]) (st := []) X_isWay_ok cq_X11_176 cr_0_X11_isWay (Nat.le_trans (by decide) hdd) rfl (dcN_5 dcg_386 :) rfl (Nat.le_of_ble_eq_true rfl) ?_
  refine AW.if_eq (tgt := 25) (dcN_6 dcg_386 :) (by decide) (fun c1 => ?_) (fun c1 => ?_)
  · replace h := hT h c1
    refine AW.iconst (dcN_13 dcg_386 :) ?_
    exact AW.iret1 rfl (dcN_14 dcg_386 :) h rfl
  · replace h := hF h c1
    refine AW.iload 4 (dcN_7 dcg_386 :) rfl ?_
    refine AW.callSi (As := [iv x4]) (st := []) X_isTime_ok cq_X11_114 st_X11_isTime (Nat.le_trans (by decide) hdd) rfl (dcN_8 dcg_386 :) rfl (Nat.le_of_ble_eq_true rfl) ?_
    refine AW.if_eq (tgt := 25) (dcN_9 dcg_386 :) (by decide) (fun c2 => ?_) (fun c2 => ?_)
    · replace h := hT h c2
      refine AW.iconst (dcN_13 dcg_386 :) ?_
      exact AW.iret1 rfl (dcN_14 dcg_386 :) h rfl
    · replace h := hF h c2
      refine AW.iload 4 (dcN_10 dcg_386 :) rfl ?_
      refine AW.iload_n 3 (dcN_11 dcg_386 :) rfl ?_
      refine AW.icmp_le (tgt := 27) (dcN_12 dcg_386 :) (by decide) (fun c3 => ?_) (fun c3 => ?_)
      · replace h := hT h c3
        refine AW.aloadr_n 0 (dcN_15 dcg_386 :) rfl ?_
        refine AW.getR af_X11_40_0 sr_0_4 (dcN_16 dcg_386 :) ?_
        refine AW.aloadr_n 0 (dcN_17 dcg_386 :) rfl ?_
        refine AW.getR af_X11_49_0 sr_0_5 (dcN_0 dcg_387 :) ?_
        refine AW.getR af_X11_180_6 sr_6_6 (dcN_1 dcg_387 :) ?_
        refine AW.iload_n 1 (dcN_2 dcg_387 :) rfl ?_
        obtain ⟨k4, h⟩ := hK h
        refine AW.iald kc_51 sk_51 k4 (dcN_3 dcg_387 :) ?_
        refine AW.iload_n 2 (dcN_4 dcg_387 :) rfl ?_
        refine AW.iload_n 3 (dcN_5 dcg_387 :) rfl ?_
        obtain ⟨r5, e6, h⟩ := hC h
        refine AW.callVv (As := [iv (g 51 (ix x1)), iv x2, iv x3]) (st := []) (Voyage_reach_ok e6) cq_X11_187 cr_5_X9_reach (Nat.le_trans (by decide) hdd) rfl (dcN_6 dcg_387 :) rfl (Nat.le_of_ble_eq_true rfl) ?_
        refine AW.aloadr_n 0 (dcN_7 dcg_387 :) rfl ?_
        refine AW.getR af_X11_40_0 sr_0_4 (dcN_8 dcg_387 :) ?_
        obtain ⟨r7, e8, h⟩ := hC h
        refine AW.callVi (As := []) (st := []) (Voyage_nextPump_ok e8) cq_X11_213 cr_5_X9_nextPump (Nat.le_trans (by decide) hdd) rfl (dcN_9 dcg_387 :) rfl (Nat.le_of_ble_eq_true rfl) ?_
        refine AW.istore (lv1 := [(6, iv r7), (0, rv z 0), (1, iv x1), (2, iv x2), (3, iv x3), (4, iv x4), (5, iv x5)]) (dcN_10 dcg_387 :) (by decide) rfl ?_
        refine AW.iload 0 (dcN_11 dcg_387 :) rfl ?_
        refine AW.iconst (dcN_12 dcg_387 :) ?_
        refine AW.icmp_eq (tgt := 70) (dcN_13 dcg_387 :) (by decide) (fun c9 => ?_) (fun c9 => ?_)
        · replace h := hT h c9
          refine AW.iconst (dcN_2 dcg_388 :) ?_
          exact AW.iret1 rfl (dcN_3 dcg_388 :) h rfl
        · replace h := hF h c9
          refine AW.iload 6 (dcN_14 dcg_387 :) rfl ?_
          refine AW.iconst (dcN_15 dcg_387 :) ?_
          refine AW.iconst (dcN_16 dcg_387 :) ?_
          refine AW.callSi (As := [iv x5, iv 0, iv 2]) (st := []) X_within_ok cq_X11_99 st_X11_within (Nat.le_trans (by decide) hdd) rfl (dcN_0 dcg_388 :) rfl (Nat.le_of_ble_eq_true rfl) ?_
          refine AW.if_ne (tgt := 72) (dcN_1 dcg_388 :) (by decide) (fun c10 => ?_) (fun c10 => ?_)
          · replace h := hF h c10
            refine AW.iload 6 (dcN_4 dcg_388 :) rfl ?_
            refine AW.if_ne (tgt := 80) (dcN_5 dcg_388 :) (by decide) (fun c11 => ?_) (fun c11 => ?_)
            · replace h := hF h c11
              refine AW.aloadr_n 1 (dcN_8 dcg_388 :) rfl ?_
              refine AW.getR af_X11_40_0 sr_0_4 (dcN_9 dcg_388 :) ?_
              refine AW.getR af_X11_216_5 sr_5_4 (dcN_10 dcg_388 :) ?_
              refine AW.iload 0 (dcN_11 dcg_388 :) rfl ?_
              obtain ⟨k12, h⟩ := hK h
              refine AW.iald kc_46 sk_46 k12 (dcN_12 dcg_388 :) ?_
              refine AW.istore (lv1 := [(7, iv (r5.2 46 (ix r7))), (6, iv r7), (0, rv z 0), (1, iv x1), (2, iv x2), (3, iv x3), (4, iv x4), (5, iv x5)]) (dcN_13 dcg_388 :) (by decide) rfl ?_
              refine AW.iload 7 (dcN_14 dcg_388 :) rfl ?_
              refine AW.iconst (dcN_15 dcg_388 :) ?_
              refine AW.icmp_ne (tgt := 101) (dcN_16 dcg_388 :) (by decide) (fun c13 => ?_) (fun c13 => ?_)
              · replace h := hF h c13
                refine AW.iload 6 (dcN_2 dcg_389 :) rfl ?_
                refine AW.sipush (dcN_3 dcg_389 :) (by decide) (by decide) ?_
                refine AW.iadd (dcN_4 dcg_389 :) ?_
                refine AW.iload 0 (dcN_5 dcg_389 :) rfl ?_
                obtain ⟨t14, e15, h⟩ := hBe h
                refine AW.join (tgt := 117) (lv1 := [(7, iv (r5.2 46 (ix r7))), (6, iv r7), (0, rv z 0), (1, iv x1), (2, iv x2), (3, iv x3), (4, iv x4), (5, iv x5)]) (st1 := [iv t14]) (g1 := r5.2) ?_ (fun J109 => ?_)
                · exact AW.iret1 rfl (dcN_10 dcg_389 :) h rfl
                refine AW.icmp_ge (tgt := 116) (dcN_6 dcg_389 :) (by decide) (fun c16 => ?_) (fun c16 => ?_)
                · refine AW.iconst (dcN_9 dcg_389 :) ?_
                  exact AW.val (e15.trans (if_pos c16)) J109
                · refine AW.iconst (dcN_7 dcg_389 :) ?_
                  refine AW.goto (tgt := 117) (dcN_8 dcg_389 :) (by decide) ?_
                  exact AW.val (e15.trans (if_neg c16)) J109
              · replace h := hT h c13
                refine AW.iload 0 (dcN_0 dcg_389 :) rfl ?_
                exact AW.iret1 rfl (dcN_1 dcg_389 :) h rfl
            · replace h := hT h c11
              refine AW.iload 0 (dcN_6 dcg_388 :) rfl ?_
              exact AW.iret1 rfl (dcN_7 dcg_388 :) h rfl
          · replace h := hT h c10
            refine AW.iconst (dcN_2 dcg_388 :) ?_
            exact AW.iret1 rfl (dcN_3 dcg_388 :) h rfl
      · replace h := hF h c3
        refine AW.iconst (dcN_13 dcg_386 :) ?_
        exact AW.iret1 rfl (dcN_14 dcg_386 :) h rfl
set_option synthInstance.maxHeartbeats 2000000 in
theorem X_enough_b_ok {z : AZ} {d : Nat} (hdd : 5 ≤ d) {x2 : Int} {x3 : Int} {x4 : Int} {x5 : Int} : ∀ (tag : Nat) (x6 : Int) (g : AG) (r : Int × AG), X_enough_b x2 x3 x4 x5 tag x6 g = some r → (tag = 1 → AW z (RX11, cX11_enough, 8, (some .int)) d (QD (some .int) r) 25 [(0, rv z 0), (2, iv x2), (3, iv x3), (4, iv x4), (5, iv x5), (6, iv x6)] [] g) ∧ (tag = 2 → AW z (RX11, cX11_enough, 8, (some .int)) d (QD (some .int) r) 78 [(0, rv z 0), (2, iv x2), (3, iv x3), (4, iv x4), (5, iv x5), (6, iv x6)] [] g) := by
  refine X_enough_b.partial_correctness x2 x3 x4 x5 (fun tag x6 g r => (tag = 1 → AW z (RX11, cX11_enough, 8, (some .int)) d (QD (some .int) r) 25 [(0, rv z 0), (2, iv x2), (3, iv x3), (4, iv x4), (5, iv x5), (6, iv x6)] [] g) ∧ (tag = 2 → AW z (RX11, cX11_enough, 8, (some .int)) d (QD (some .int) r) 78 [(0, rv z 0), (2, iv x2), (3, iv x3), (4, iv x4), (5, iv x5), (6, iv x6)] [] g)) ?_
  intro fb9 ih tag x6 g r h
  refine ⟨fun h9 => ?_, fun h9 => ?_⟩
  · subst h9
    replace h := hT h rfl
    refine AW.iload 5 (dcN_14 dcg_390 :) rfl ?_
    refine AW.bipush (dcN_15 dcg_390 :) (by decide) (by decide) ?_
    refine AW.icmp_gt (tgt := 84) (dcN_16 dcg_390 :) (by decide) (fun c1 => ?_) (fun c1 => ?_)
    · replace h := hT h c1
      refine AW.iconst (dcN_9 dcg_392 :) ?_
      exact AW.iret1 rfl (dcN_10 dcg_392 :) h rfl
    · replace h := hF h c1
      refine AW.iload 3 (dcN_0 dcg_391 :) rfl ?_
      refine AW.iload 5 (dcN_1 dcg_391 :) rfl ?_
      refine AW.iadd (dcN_2 dcg_391 :) ?_
      refine AW.callSi (As := [iv (x4 + x6)]) (st := []) X_isTime_ok cq_X11_114 st_X11_isTime (Nat.le_trans (by decide) hdd) rfl (dcN_3 dcg_391 :) rfl (Nat.le_of_ble_eq_true rfl) ?_
      refine AW.if_eq (tgt := 84) (dcN_4 dcg_391 :) (by decide) (fun c2 => ?_) (fun c2 => ?_)
      · replace h := hT h c2
        refine AW.iconst (dcN_9 dcg_392 :) ?_
        exact AW.iret1 rfl (dcN_10 dcg_392 :) h rfl
      · replace h := hF h c2
        refine AW.aloadr_n 0 (dcN_5 dcg_391 :) rfl ?_
        refine AW.getR af_X11_40_0 sr_0_4 (dcN_6 dcg_391 :) ?_
        refine AW.iload 5 (dcN_7 dcg_391 :) rfl ?_
        refine AW.iload_n 1 (dcN_8 dcg_391 :) rfl ?_
        refine AW.iload_n 2 (dcN_9 dcg_391 :) rfl ?_
        refine AW.iload 3 (dcN_10 dcg_391 :) rfl ?_
        refine AW.iload 5 (dcN_11 dcg_391 :) rfl ?_
        refine AW.iadd (dcN_12 dcg_391 :) ?_
        refine AW.iconst (dcN_13 dcg_391 :) ?_
        obtain ⟨r3, e4, h⟩ := hC h
        refine AW.callVi (As := [iv x6, iv x2, iv x3, iv (x4 + x6), iv 1]) (st := []) (Voyage_comesTo_ok e4) cq_X11_183 cr_5_X9_comesTo (Nat.le_trans (by decide) hdd) rfl (dcN_14 dcg_391 :) rfl (Nat.le_of_ble_eq_true rfl) ?_
        refine AW.istore (lv1 := [(7, iv r3.1), (0, rv z 0), (2, iv x2), (3, iv x3), (4, iv x4), (5, iv x5), (6, iv x6)]) (dcN_15 dcg_391 :) (by decide) rfl ?_
        refine AW.iload 0 (dcN_16 dcg_391 :) rfl ?_
        refine AW.iconst (dcN_0 dcg_392 :) ?_
        refine AW.icmp_eq (tgt := 78) (dcN_1 dcg_392 :) (by decide) (fun c5 => ?_) (fun c5 => ?_)
        · replace h := hT h c5
          refine AW.sub (lv1 := [(0, rv z 0), (2, iv x2), (3, iv x3), (4, iv x4), (5, iv x5), (6, iv x6)]) [1, 2, 3, 4, 5, 6] rfl ?_
          exact (ih _ _ _ _ h).2 rfl
        · replace h := hF h c5
          refine AW.iload 0 (dcN_2 dcg_392 :) rfl ?_
          refine AW.iload 5 (dcN_3 dcg_392 :) rfl ?_
          refine AW.icmp_gt (tgt := 78) (dcN_4 dcg_392 :) (by decide) (fun c6 => ?_) (fun c6 => ?_)
          · replace h := hT h c6
            refine AW.sub (lv1 := [(0, rv z 0), (2, iv x2), (3, iv x3), (4, iv x4), (5, iv x5), (6, iv x6)]) [1, 2, 3, 4, 5, 6] rfl ?_
            exact (ih _ _ _ _ h).2 rfl
          · replace h := hF h c6
            refine AW.iload 6 (dcN_5 dcg_392 :) rfl ?_
            exact AW.iret1 rfl (dcN_6 dcg_392 :) h rfl
  · subst h9
    replace h := hF h (by decide)
    replace h := hT h rfl
    refine AW.iinc (lv1 := [(6, iv (x6 + 1)), (0, rv z 0), (2, iv x2), (3, iv x3), (4, iv x4), (5, iv x5)]) 5 (dcN_7 dcg_392 :) rfl (by decide) rfl ?_
    refine AW.goto (tgt := 25) (dcN_8 dcg_392 :) (by decide) ?_
    refine AW.sub (lv1 := [(0, rv z 0), (2, iv x2), (3, iv x3), (4, iv x4), (5, iv x5), (6, iv (x6 + 1))]) [1, 2, 3, 4, 5, 0] rfl ?_
    exact (ih _ _ _ _ h).1 rfl
theorem X_enough_ok {z : AZ} {x1 : Int} {x2 : Int} {x3 : Int} {x4 : Int} {x5 : Int} {g : AG} {r : Int × AG} (h : X_enough x1 x2 x3 x4 x5 g = some r) : AMf z yX11_enough cX11_enough 8 (some .int) 5 [rv z 0, iv x1, iv x2, iv x3, iv x4, iv x5] g r := by
  intro d hdd
  refine AM.of (by decide +kernel) (Nat.le_of_ble_eq_true rfl) ?_
  show AW z (RX11, cX11_enough, 8, (some .int)) d (QD (some .int) r) 0 [(0, rv z 0), (1, iv x1), (2, iv x2), (3, iv x3), (4, iv x4), (5, iv x5)] [] g
  unfold X_enough at h
  refine AW.aloadr_n 0 (dcN_0 dcg_390 :) rfl ?_
  refine AW.iload_n 1 (dcN_1 dcg_390 :) rfl ?_
  refine AW.iload_n 2 (dcN_2 dcg_390 :) rfl ?_
  refine AW.iload_n 3 (dcN_3 dcg_390 :) rfl ?_
  refine AW.iload 4 (dcN_4 dcg_390 :) rfl ?_
  refine AW.callVi (As := [iv x1, iv x2, iv x3, iv x4]) (st := []) X_isWay_ok cq_X11_176 cr_0_X11_isWay (Nat.le_trans (by decide) hdd) rfl (dcN_5 dcg_390 :) rfl (Nat.le_of_ble_eq_true rfl) ?_
  refine AW.if_eq (tgt := 20) (dcN_6 dcg_390 :) (by decide) (fun c1 => ?_) (fun c1 => ?_)
  · replace h := hT h c1
    refine AW.iconst (dcN_10 dcg_390 :) ?_
    exact AW.iret1 rfl (dcN_11 dcg_390 :) h rfl
  · replace h := hF h c1
    refine AW.iload 5 (dcN_7 dcg_390 :) rfl ?_
    refine AW.callSi (As := [iv x5]) (st := []) X_isTime_ok cq_X11_114 st_X11_isTime (Nat.le_trans (by decide) hdd) rfl (dcN_8 dcg_390 :) rfl (Nat.le_of_ble_eq_true rfl) ?_
    refine AW.if_ne (tgt := 22) (dcN_9 dcg_390 :) (by decide) (fun c2 => ?_) (fun c2 => ?_)
    · replace h := hF h c2
      refine AW.iconst (dcN_12 dcg_390 :) ?_
      refine AW.istore (lv1 := [(6, iv 0), (0, rv z 0), (1, iv x1), (2, iv x2), (3, iv x3), (4, iv x4), (5, iv x5)]) (dcN_13 dcg_390 :) (by decide) rfl ?_
      refine AW.sub (lv1 := [(0, rv z 0), (2, iv x2), (3, iv x3), (4, iv x4), (5, iv x5), (6, iv 0)]) [1, 3, 4, 5, 6, 0] rfl ?_
      exact (X_enough_b_ok hdd _ _ _ _ h).1 rfl
    · replace h := hT h c2
      refine AW.iconst (dcN_10 dcg_390 :) ?_
      exact AW.iret1 rfl (dcN_11 dcg_390 :) h rfl
theorem Trips_add_ok {z : AZ} {x1 : Int} {x2 : Int} {x3 : Int} {x4 : Int} {x5 : Int} {g : AG} {r : Int × AG} (h : Trips_add x1 x2 x3 x4 x5 g = some r) : AMf z yX7_add cX7_add 6 (some .int) 0 [rv z 7, iv x1, iv x2, iv x3, iv x4, iv x5] g r := by
  intro d hdd
  refine AM.of (by decide +kernel) (Nat.le_of_ble_eq_true rfl) ?_
  show AW z (RX7, cX7_add, 6, (some .int)) d (QD (some .int) r) 0 [(0, rv z 7), (1, iv x1), (2, iv x2), (3, iv x3), (4, iv x4), (5, iv x5)] [] g
  unfold Trips_add at h
  refine AW.aloadr_n 0 (dcN_0 dcg_223 :) rfl ?_
  refine AW.getI af_X7_39_7 sr_7_8 (dcN_1 dcg_223 :) ?_
  refine AW.bipush (dcN_2 dcg_223 :) (by decide) (by decide) ?_
  refine AW.icmp_lt (tgt := 11) (dcN_3 dcg_223 :) (by decide) (fun c1 => ?_) (fun c1 => ?_)
  · replace h := hT h c1
    refine AW.aloadr_n 0 (dcN_6 dcg_223 :) rfl ?_
    refine AW.getR af_X7_9_7 sr_7_3 (dcN_7 dcg_223 :) ?_
    refine AW.aloadr_n 0 (dcN_8 dcg_223 :) rfl ?_
    refine AW.getI af_X7_39_7 sr_7_8 (dcN_9 dcg_223 :) ?_
    refine AW.iload_n 1 (dcN_10 dcg_223 :) rfl ?_
    obtain ⟨k2, h⟩ := hK h
    obtain ⟨g3, e4, h⟩ := hBe h
    refine AW.iast kc_76 sk_76 k2 (dcN_11 dcg_223 :) e4 ?_
    refine AW.aloadr_n 0 (dcN_12 dcg_223 :) rfl ?_
    refine AW.getR af_X7_15_7 sr_7_4 (dcN_13 dcg_223 :) ?_
    refine AW.aloadr_n 0 (dcN_14 dcg_223 :) rfl ?_
    refine AW.getI af_X7_39_7 sr_7_8 (dcN_15 dcg_223 :) ?_
    refine AW.iload_n 2 (dcN_16 dcg_223 :) rfl ?_
    obtain ⟨k5, h⟩ := hK h
    obtain ⟨g6, e7, h⟩ := hBe h
    refine AW.iast kc_77 sk_77 k5 (dcN_17 dcg_223 :) e7 ?_
    refine AW.aloadr_n 0 (dcN_18 dcg_223 :) rfl ?_
    refine AW.getR af_X7_18_7 sr_7_5 (dcN_0 dcg_224 :) ?_
    refine AW.aloadr_n 0 (dcN_1 dcg_224 :) rfl ?_
    refine AW.getI af_X7_39_7 sr_7_8 (dcN_2 dcg_224 :) ?_
    refine AW.iload_n 3 (dcN_3 dcg_224 :) rfl ?_
    obtain ⟨k8, h⟩ := hK h
    obtain ⟨g9, e10, h⟩ := hBe h
    refine AW.iast kc_78 sk_78 k8 (dcN_4 dcg_224 :) e10 ?_
    refine AW.aloadr_n 0 (dcN_5 dcg_224 :) rfl ?_
    refine AW.getR af_X7_21_7 sr_7_6 (dcN_6 dcg_224 :) ?_
    refine AW.aloadr_n 0 (dcN_7 dcg_224 :) rfl ?_
    refine AW.getI af_X7_39_7 sr_7_8 (dcN_8 dcg_224 :) ?_
    refine AW.iload 4 (dcN_9 dcg_224 :) rfl ?_
    obtain ⟨k11, h⟩ := hK h
    obtain ⟨g12, e13, h⟩ := hBe h
    refine AW.iast kc_79 sk_79 k11 (dcN_10 dcg_224 :) e13 ?_
    refine AW.aloadr_n 0 (dcN_11 dcg_224 :) rfl ?_
    refine AW.getR af_X7_24_7 sr_7_7 (dcN_12 dcg_224 :) ?_
    refine AW.aloadr_n 0 (dcN_13 dcg_224 :) rfl ?_
    refine AW.getI af_X7_39_7 sr_7_8 (dcN_14 dcg_224 :) ?_
    refine AW.iload 5 (dcN_15 dcg_224 :) rfl ?_
    obtain ⟨k14, h⟩ := hK h
    obtain ⟨g15, e16, h⟩ := hBe h
    refine AW.iast kc_80 sk_80 k14 (dcN_16 dcg_224 :) e16 ?_
    refine AW.aloadr_n 0 (dcN_17 dcg_224 :) rfl ?_
    refine AW.duprr (dcN_0 dcg_225 :) ?_
    refine AW.getI af_X7_39_7 sr_7_8 (dcN_1 dcg_225 :) ?_
    refine AW.iconst (dcN_2 dcg_225 :) ?_
    refine AW.iadd (dcN_3 dcg_225 :) ?_
    obtain ⟨g17, e18, h⟩ := hBe h
    refine AW.putI ap_X7_39_7 sr_7_8 (dcN_4 dcg_225 :) e18 ?_
    refine AW.aloadr_n 0 (dcN_5 dcg_225 :) rfl ?_
    refine AW.getI af_X7_39_7 sr_7_8 (dcN_6 dcg_225 :) ?_
    refine AW.iconst (dcN_7 dcg_225 :) ?_
    refine AW.isub (dcN_8 dcg_225 :) ?_
    exact AW.iret1 rfl (dcN_9 dcg_225 :) h rfl
  · replace h := hF h c1
    refine AW.iconst (dcN_4 dcg_223 :) ?_
    exact AW.iret1 rfl (dcN_5 dcg_223 :) h rfl
theorem X_trip_ok {z : AZ} {x1 : Int} {x2 : Int} {x3 : Int} {x4 : Int} {x5 : Int} {g : AG} {r : Int × AG} (h : X_trip x1 x2 x3 x4 x5 g = some r) : AMf z yX11_trip cX11_trip 6 (some .int) 3 [rv z 0, iv x1, iv x2, iv x3, iv x4, iv x5] g r := by
  intro d hdd
  refine AM.of (by decide +kernel) (Nat.le_of_ble_eq_true rfl) ?_
  show AW z (RX11, cX11_trip, 6, (some .int)) d (QD (some .int) r) 0 [(0, rv z 0), (1, iv x1), (2, iv x2), (3, iv x3), (4, iv x4), (5, iv x5)] [] g
  unfold X_trip at h
  refine AW.aloadr_n 0 (dcN_0 dcg_393 :) rfl ?_
  refine AW.iload_n 1 (dcN_1 dcg_393 :) rfl ?_
  refine AW.iload_n 2 (dcN_2 dcg_393 :) rfl ?_
  refine AW.iload_n 3 (dcN_3 dcg_393 :) rfl ?_
  refine AW.iload 4 (dcN_4 dcg_393 :) rfl ?_
  refine AW.callVi (As := [iv x1, iv x2, iv x3, iv x4]) (st := []) X_isWay_ok cq_X11_176 cr_0_X11_isWay (Nat.le_trans (by decide) hdd) rfl (dcN_5 dcg_393 :) rfl (Nat.le_of_ble_eq_true rfl) ?_
  refine AW.if_eq (tgt := 20) (dcN_6 dcg_393 :) (by decide) (fun c1 => ?_) (fun c1 => ?_)
  · replace h := hT h c1
    refine AW.iconst (dcN_10 dcg_393 :) ?_
    exact AW.iret1 rfl (dcN_11 dcg_393 :) h rfl
  · replace h := hF h c1
    refine AW.iload 5 (dcN_7 dcg_393 :) rfl ?_
    refine AW.callSi (As := [iv x5]) (st := []) X_isTime_ok cq_X11_114 st_X11_isTime (Nat.le_trans (by decide) hdd) rfl (dcN_8 dcg_393 :) rfl (Nat.le_of_ble_eq_true rfl) ?_
    refine AW.if_ne (tgt := 22) (dcN_9 dcg_393 :) (by decide) (fun c2 => ?_) (fun c2 => ?_)
    · replace h := hF h c2
      refine AW.aloadr_n 0 (dcN_0 dcg_394 :) rfl ?_
      refine AW.getR af_X11_58_0 sr_0_6 (dcN_1 dcg_394 :) ?_
      refine AW.iload_n 1 (dcN_2 dcg_394 :) rfl ?_
      refine AW.iload_n 2 (dcN_3 dcg_394 :) rfl ?_
      refine AW.iload_n 3 (dcN_4 dcg_394 :) rfl ?_
      refine AW.iload 4 (dcN_5 dcg_394 :) rfl ?_
      refine AW.iload 5 (dcN_6 dcg_394 :) rfl ?_
      obtain ⟨r3, e4, h⟩ := hC h
      refine AW.callVi (As := [iv x1, iv x2, iv x3, iv x4, iv x5]) (st := []) (Trips_add_ok e4) cq_X11_219 cr_7_X7_add (Nat.le_trans (by decide) hdd) rfl (dcN_7 dcg_394 :) rfl (Nat.le_of_ble_eq_true rfl) ?_
      exact AW.iret1 rfl (dcN_8 dcg_394 :) h rfl
    · replace h := hT h c2
      refine AW.iconst (dcN_10 dcg_393 :) ?_
      exact AW.iret1 rfl (dcN_11 dcg_393 :) h rfl
set_option synthInstance.maxHeartbeats 2000000 in
theorem Trips_howManyLate_b_ok {z : AZ} {d : Nat} (hdd : 6 ≤ d) : ∀ (x1 : Int) (x2 : Int) (g : AG) (r : Int × AG), Trips_howManyLate_b x1 x2 g = some r → AW z (RX7, cX7_howManyLate, 3, (some .int)) d (QD (some .int) r) 4 [(0, rv z 7), (1, iv x1), (2, iv x2)] [] g := by
  refine Trips_howManyLate_b.partial_correctness (fun x1 x2 g r => AW z (RX7, cX7_howManyLate, 3, (some .int)) d (QD (some .int) r) 4 [(0, rv z 7), (1, iv x1), (2, iv x2)] [] g) ?_
  intro fb9 ih x1 x2 g r h
  refine AW.iload_n 2 (dcN_4 dcg_229 :) rfl ?_
  refine AW.aloadr_n 0 (dcN_5 dcg_229 :) rfl ?_
  refine AW.getI af_X7_39_7 sr_7_8 (dcN_6 dcg_229 :) ?_
  refine AW.icmp_ge (tgt := 30) (dcN_7 dcg_229 :) (by decide) (fun c1 => ?_) (fun c1 => ?_)
  · replace h := hT h c1
    refine AW.iload_n 1 (dcN_4 dcg_230 :) rfl ?_
    exact AW.iret1 rfl (dcN_5 dcg_230 :) h rfl
  · replace h := hF h c1
    refine AW.aloadr_n 0 (dcN_8 dcg_229 :) rfl ?_
    refine AW.iload_n 2 (dcN_9 dcg_229 :) rfl ?_
    refine AW.iconst (dcN_10 dcg_229 :) ?_
    obtain ⟨r2, e3, h⟩ := hC h
    refine AW.callVi (As := [iv x2, iv 1]) (st := []) (Trips_lateBy_ok e3) cq_X7_60 cr_7_X7_lateBy (Nat.le_trans (by decide) hdd) rfl (dcN_11 dcg_229 :) rfl (Nat.le_of_ble_eq_true rfl) ?_
    obtain ⟨r5, e6, h⟩ := hC h
    refine AW.join (tgt := 24) (lv1 := [(0, rv z 7), (1, iv r5.1), (2, iv x2)]) (st1 := []) (g1 := r5.2) ?_ (fun J18 => ?_)
    · refine AW.iinc (lv1 := [(2, iv (x2 + 1)), (0, rv z 7), (1, iv r5.1)]) 2 (dcN_2 dcg_230 :) rfl (by decide) rfl ?_
      refine AW.goto (tgt := 4) (dcN_3 dcg_230 :) (by decide) ?_
      refine AW.sub (lv1 := [(0, rv z 7), (1, iv r5.1), (2, iv (x2 + 1))]) [1, 2, 0] rfl ?_
      exact ih _ _ _ _ h
    replace h := e6
    refine AW.if_le (tgt := 24) (dcN_0 dcg_230 :) (by decide) (fun c4 => ?_) (fun c4 => ?_)
    · replace h := hT h c4
      cases h
      exact J18
    · replace h := hF h c4
      refine AW.iinc (lv1 := [(1, iv (x1 + 1)), (0, rv z 7), (2, iv x2)]) 1 (dcN_1 dcg_230 :) rfl (by decide) rfl ?_
      refine AW.sub (lv1 := [(0, rv z 7), (1, iv (x1 + 1)), (2, iv x2)]) [1, 0, 2] rfl ?_
      cases h
      exact J18
theorem Trips_howManyLate_ok {z : AZ} {g : AG} {r : Int × AG} (h : Trips_howManyLate g = some r) : AMf z yX7_howManyLate cX7_howManyLate 3 (some .int) 6 [rv z 7] g r := by
  intro d hdd
  refine AM.of (by decide +kernel) (Nat.le_of_ble_eq_true rfl) ?_
  show AW z (RX7, cX7_howManyLate, 3, (some .int)) d (QD (some .int) r) 0 [(0, rv z 7)] [] g
  unfold Trips_howManyLate at h
  refine AW.iconst (dcN_0 dcg_229 :) ?_
  refine AW.istore_n (lv1 := [(1, iv 0), (0, rv z 7)]) (dcN_1 dcg_229 :) (by decide) rfl ?_
  refine AW.iconst (dcN_2 dcg_229 :) ?_
  refine AW.istore_n (lv1 := [(2, iv 0), (1, iv 0), (0, rv z 7)]) (dcN_3 dcg_229 :) (by decide) rfl ?_
  refine AW.sub (lv1 := [(0, rv z 7), (1, iv 0), (2, iv 0)]) [2, 1, 0] rfl ?_
  exact Trips_howManyLate_b_ok hdd _ _ _ _ h
theorem X_late_ok {z : AZ} {x1 : Int} {g : AG} {r : Int × AG} (h : X_late x1 g = some r) : AMf z yX11_late cX11_late 2 (some .int) 7 [rv z 0, iv x1] g r := by
  intro d hdd
  refine AM.of (by decide +kernel) (Nat.le_of_ble_eq_true rfl) ?_
  show AW z (RX11, cX11_late, 2, (some .int)) d (QD (some .int) r) 0 [(0, rv z 0), (1, iv x1)] [] g
  unfold X_late at h
  refine AW.iload_n 1 (dcN_0 dcg_395 :) rfl ?_
  refine AW.iconst (dcN_1 dcg_395 :) ?_
  refine AW.icmp_ne (tgt := 13) (dcN_2 dcg_395 :) (by decide) (fun c1 => ?_) (fun c1 => ?_)
  · replace h := hF h c1
    refine AW.iload_n 1 (dcN_7 dcg_395 :) rfl ?_
    refine AW.iconst (dcN_8 dcg_395 :) ?_
    refine AW.aloadr_n 0 (dcN_9 dcg_395 :) rfl ?_
    refine AW.getR af_X11_58_0 sr_0_6 (dcN_10 dcg_395 :) ?_
    refine AW.getI af_X11_197_7 sr_7_8 (dcN_11 dcg_395 :) ?_
    refine AW.iconst (dcN_0 dcg_396 :) ?_
    refine AW.isub (dcN_1 dcg_396 :) ?_
    refine AW.callSi (As := [iv x1, iv 0, iv ((g 7 8) - 1)]) (st := []) X_within_ok cq_X11_99 st_X11_within (Nat.le_trans (by decide) hdd) rfl (dcN_2 dcg_396 :) rfl (Nat.le_of_ble_eq_true rfl) ?_
    obtain ⟨r5, e6, h⟩ := hC h
    refine AW.join (tgt := 43) (lv1 := []) (st1 := [iv r5.1]) (g1 := r5.2) ?_ (fun J27 => ?_)
    · exact AW.iret1 rfl (dcN_11 dcg_396 :) h rfl
    replace h := e6
    refine AW.if_eq (tgt := 42) (dcN_3 dcg_396 :) (by decide) (fun c2 => ?_) (fun c2 => ?_)
    · replace h := hT h c2
      refine AW.iconst (dcN_10 dcg_396 :) ?_
      refine AW.sub (lv1 := []) [] rfl ?_
      cases h
      exact J27
    · replace h := hF h c2
      refine AW.aloadr_n 0 (dcN_4 dcg_396 :) rfl ?_
      refine AW.getR af_X11_58_0 sr_0_6 (dcN_5 dcg_396 :) ?_
      refine AW.iload_n 1 (dcN_6 dcg_396 :) rfl ?_
      refine AW.iconst (dcN_7 dcg_396 :) ?_
      obtain ⟨r3, e4, h⟩ := hC h
      refine AW.callVi (As := [iv x1, iv 1]) (st := []) (Trips_lateBy_ok e4) cq_X11_205 cr_7_X7_lateBy (Nat.le_trans (by decide) hdd) rfl (dcN_8 dcg_396 :) rfl (Nat.le_of_ble_eq_true rfl) ?_
      refine AW.goto (tgt := 43) (dcN_9 dcg_396 :) (by decide) ?_
      refine AW.sub (lv1 := []) [] rfl ?_
      cases h
      exact J27
  · replace h := hT h c1
    refine AW.aloadr_n 0 (dcN_3 dcg_395 :) rfl ?_
    refine AW.getR af_X11_58_0 sr_0_6 (dcN_4 dcg_395 :) ?_
    obtain ⟨r7, e8, h⟩ := hC h
    refine AW.callVi (As := []) (st := []) (Trips_howManyLate_ok e8) cq_X11_222 cr_7_X7_howManyLate (Nat.le_trans (by decide) hdd) rfl (dcN_5 dcg_395 :) rfl (Nat.le_of_ble_eq_true rfl) ?_
    exact AW.iret1 rfl (dcN_6 dcg_395 :) h rfl
set_option synthInstance.maxHeartbeats 2000000 in
theorem Boats_addLog_b_ok {z : AZ} {d : Nat} (hdd : 0 ≤ d) {x1 : Int} {x2 : Int} {x3 : Int} {x4 : Int} {g : AG} : ∀ (r : Int × AG), Boats_addLog_b x1 x2 x3 x4 g = some r → AW z (RX0, cX0_addLog, 5, (some .int)) d (QD (some .int) r) 37 [(0, rv z 6), (1, iv x1), (2, iv x2), (3, iv x3), (4, iv x4)] [] g := by
  intro r h
  unfold Boats_addLog_b at h
  refine AW.aloadr_n 0 (dcN_3 dcg_7 :) rfl ?_
  refine AW.getR af_X0_26_6 sr_6_8 (dcN_4 dcg_7 :) ?_
  refine AW.iload_n 1 (dcN_5 dcg_7 :) rfl ?_
  obtain ⟨k1, h⟩ := hK h
  refine AW.aald (b := 53) kc_52 sk_52 sb_52 k1 (dcN_6 dcg_7 :) ?_
  refine AW.iload 4 (dcN_7 dcg_7 :) rfl ?_
  refine AW.iload_n 2 (dcN_8 dcg_7 :) rfl ?_
  obtain ⟨k2, h⟩ := hK h
  obtain ⟨g3, e4, h⟩ := hBe h
  refine AW.iast (s2_53 _ (ix_lt k1)).1 (s2_53 _ (ix_lt k1)).2 k2 (dcN_9 dcg_7 :) e4 ?_
  refine AW.aloadr_n 0 (dcN_10 dcg_7 :) rfl ?_
  refine AW.getR af_X0_29_6 sr_6_9 (dcN_11 dcg_7 :) ?_
  refine AW.iload_n 1 (dcN_12 dcg_7 :) rfl ?_
  refine AW.aald (b := 64) kc_63 sk_63 sb_63 k1 (dcN_13 dcg_7 :) ?_
  refine AW.iload 4 (dcN_14 dcg_7 :) rfl ?_
  refine AW.iload_n 3 (dcN_15 dcg_7 :) rfl ?_
  obtain ⟨g5, e6, h⟩ := hBe h
  refine AW.iast (s2_64 _ (ix_lt k1)).1 (s2_64 _ (ix_lt k1)).2 k2 (dcN_16 dcg_7 :) e6 ?_
  refine AW.aloadr_n 0 (dcN_17 dcg_7 :) rfl ?_
  refine AW.getR af_X0_32_6 sr_6_10 (dcN_18 dcg_7 :) ?_
  refine AW.iload_n 1 (dcN_19 dcg_7 :) rfl ?_
  refine AW.iload 4 (dcN_20 dcg_7 :) rfl ?_
  refine AW.iconst (dcN_0 dcg_8 :) ?_
  refine AW.iadd (dcN_1 dcg_8 :) ?_
  obtain ⟨g7, e8, h⟩ := hBe h
  refine AW.iast kc_74 sk_74 k1 (dcN_2 dcg_8 :) e8 ?_
  refine AW.iload 4 (dcN_3 dcg_8 :) rfl ?_
  refine AW.iconst (dcN_4 dcg_8 :) ?_
  refine AW.iadd (dcN_5 dcg_8 :) ?_
  exact AW.iret1 rfl (dcN_6 dcg_8 :) h rfl
theorem Boats_addLog_ok {z : AZ} {x1 : Int} {x2 : Int} {x3 : Int} {g : AG} {r : Int × AG} (h : Boats_addLog x1 x2 x3 g = some r) : AMf z yX0_addLog cX0_addLog 5 (some .int) 0 [rv z 6, iv x1, iv x2, iv x3] g r := by
  intro d hdd
  refine AM.of (by decide +kernel) (Nat.le_of_ble_eq_true rfl) ?_
  show AW z (RX0, cX0_addLog, 5, (some .int)) d (QD (some .int) r) 0 [(0, rv z 6), (1, iv x1), (2, iv x2), (3, iv x3)] [] g
  unfold Boats_addLog at h
  refine AW.aloadr_n 0 (dcN_0 dcg_6 :) rfl ?_
  refine AW.getR af_X0_32_6 sr_6_10 (dcN_1 dcg_6 :) ?_
  refine AW.iload_n 1 (dcN_2 dcg_6 :) rfl ?_
  obtain ⟨k1, h⟩ := hK h
  refine AW.iald kc_74 sk_74 k1 (dcN_3 dcg_6 :) ?_
  refine AW.istore (lv1 := [(4, iv (g 74 (ix x1))), (0, rv z 6), (1, iv x1), (2, iv x2), (3, iv x3)]) (dcN_4 dcg_6 :) (by decide) rfl ?_
  refine AW.iload 0 (dcN_5 dcg_6 :) rfl ?_
  refine AW.bipush (dcN_6 dcg_6 :) (by decide) (by decide) ?_
  refine AW.icmp_ge (tgt := 35) (dcN_7 dcg_6 :) (by decide) (fun c2 => ?_) (fun c2 => ?_)
  · replace h := hT h c2
    refine AW.iconst (dcN_1 dcg_7 :) ?_
    exact AW.iret1 rfl (dcN_2 dcg_7 :) h rfl
  · replace h := hF h c2
    refine AW.iload 0 (dcN_8 dcg_6 :) rfl ?_
    refine AW.if_le (tgt := 37) (dcN_9 dcg_6 :) (by decide) (fun c3 => ?_) (fun c3 => ?_)
    · replace h := hT h c3
      refine AW.sub (lv1 := [(0, rv z 6), (1, iv x1), (2, iv x2), (3, iv x3), (4, iv (g 74 (ix x1)))]) [1, 2, 3, 4, 0] rfl ?_
      exact Boats_addLog_b_ok hdd _ h
    · replace h := hF h c3
      refine AW.iload_n 4 (dcN_10 dcg_6 :) rfl ?_
      refine AW.aloadr_n 1 (dcN_11 dcg_6 :) rfl ?_
      refine AW.getR af_X0_29_6 sr_6_9 (dcN_12 dcg_6 :) ?_
      refine AW.iload_n 2 (dcN_13 dcg_6 :) rfl ?_
      refine AW.aald (b := 64) kc_63 sk_63 sb_63 k1 (dcN_14 dcg_6 :) ?_
      refine AW.iload 0 (dcN_15 dcg_6 :) rfl ?_
      refine AW.iconst (dcN_16 dcg_6 :) ?_
      refine AW.isub (dcN_17 dcg_6 :) ?_
      obtain ⟨k4, h⟩ := hK h
      refine AW.iald (s2_64 _ (ix_lt k1)).1 (s2_64 _ (ix_lt k1)).2 k4 (dcN_18 dcg_6 :) ?_
      refine AW.icmp_gt (tgt := 37) (dcN_0 dcg_7 :) (by decide) (fun c5 => ?_) (fun c5 => ?_)
      · replace h := hT h c5
        refine AW.sub (lv1 := [(0, rv z 6), (1, iv x1), (2, iv x2), (3, iv x3), (4, iv (g 74 (ix x1)))]) [1, 2, 3, 4, 0] rfl ?_
        exact Boats_addLog_b_ok hdd _ h
      · replace h := hF h c5
        refine AW.iconst (dcN_1 dcg_7 :) ?_
        exact AW.iret1 rfl (dcN_2 dcg_7 :) h rfl
theorem X_log_ok {z : AZ} {x1 : Int} {x2 : Int} {x3 : Int} {g : AG} {r : Int × AG} (h : X_log x1 x2 x3 g = some r) : AMf z yX11_log cX11_log 4 (some .int) 3 [rv z 0, iv x1, iv x2, iv x3] g r := by
  intro d hdd
  refine AM.of (by decide +kernel) (Nat.le_of_ble_eq_true rfl) ?_
  show AW z (RX11, cX11_log, 4, (some .int)) d (QD (some .int) r) 0 [(0, rv z 0), (1, iv x1), (2, iv x2), (3, iv x3)] [] g
  unfold X_log at h
  refine AW.aloadr_n 0 (dcN_0 dcg_397 :) rfl ?_
  refine AW.iload_n 1 (dcN_1 dcg_397 :) rfl ?_
  refine AW.iload_n 2 (dcN_2 dcg_397 :) rfl ?_
  refine AW.iload_n 2 (dcN_3 dcg_397 :) rfl ?_
  refine AW.iload_n 3 (dcN_4 dcg_397 :) rfl ?_
  refine AW.callVi (As := [iv x1, iv x2, iv x2, iv x3]) (st := []) X_isWay_ok cq_X11_176 cr_0_X11_isWay (Nat.le_trans (by decide) hdd) rfl (dcN_5 dcg_397 :) rfl (Nat.le_of_ble_eq_true rfl) ?_
  refine AW.if_ne (tgt := 13) (dcN_6 dcg_397 :) (by decide) (fun c1 => ?_) (fun c1 => ?_)
  · replace h := hF h c1
    refine AW.aloadr_n 0 (dcN_9 dcg_397 :) rfl ?_
    refine AW.getR af_X11_49_0 sr_0_5 (dcN_10 dcg_397 :) ?_
    refine AW.iload_n 1 (dcN_11 dcg_397 :) rfl ?_
    refine AW.iload_n 2 (dcN_0 dcg_398 :) rfl ?_
    refine AW.iload_n 3 (dcN_1 dcg_398 :) rfl ?_
    obtain ⟨r2, e3, h⟩ := hC h
    refine AW.callVi (As := [iv x1, iv x2, iv x3]) (st := []) (Boats_addLog_ok e3) cq_X11_225 cr_6_X0_addLog (Nat.le_trans (by decide) hdd) rfl (dcN_2 dcg_398 :) rfl (Nat.le_of_ble_eq_true rfl) ?_
    exact AW.iret1 rfl (dcN_3 dcg_398 :) h rfl
  · replace h := hT h c1
    refine AW.iconst (dcN_7 dcg_397 :) ?_
    exact AW.iret1 rfl (dcN_8 dcg_397 :) h rfl
theorem Boats_placeOf_ok {z : AZ} {x1 : Int} {x2 : Int} {g : AG} {r : Int} (h : Boats_placeOf x1 x2 g = some r) : AMf z yX0_placeOf cX0_placeOf 3 (some .int) 0 [rv z 6, iv x1, iv x2] g (r, g) := by
  intro d hdd
  refine AM.of (by decide +kernel) (Nat.le_of_ble_eq_true rfl) ?_
  show AW z (RX0, cX0_placeOf, 3, (some .int)) d (QD (some .int) (r, g)) 0 [(0, rv z 6), (1, iv x1), (2, iv x2)] [] g
  unfold Boats_placeOf at h
  refine AW.iload_n 2 (dcN_0 dcg_9 :) rfl ?_
  obtain ⟨r5, e6, h⟩ := hC h
  refine AW.join (tgt := 21) (lv1 := []) (st1 := [iv r5]) (g1 := g) ?_ (fun J1 => ?_)
  · exact AW.iret2 rfl (dcN_1 dcg_10 :) h rfl
  replace h := e6
  refine AW.if_ge (tgt := 13) (dcN_1 dcg_9 :) (by decide) (fun c1 => ?_) (fun c1 => ?_)
  · replace h := hT h c1
    refine AW.aloadr_n 0 (dcN_7 dcg_9 :) rfl ?_
    refine AW.getR af_X0_26_6 sr_6_8 (dcN_8 dcg_9 :) ?_
    refine AW.iload_n 1 (dcN_9 dcg_9 :) rfl ?_
    obtain ⟨k2, h⟩ := hK h
    refine AW.aald (b := 53) kc_52 sk_52 sb_52 k2 (dcN_10 dcg_9 :) ?_
    refine AW.iload_n 2 (dcN_11 dcg_9 :) rfl ?_
    obtain ⟨k3, h⟩ := hK h
    refine AW.iald (s2_53 _ (ix_lt k2)).1 (s2_53 _ (ix_lt k2)).2 k3 (dcN_0 dcg_10 :) ?_
    refine AW.sub (lv1 := []) [] rfl ?_
    cases h
    exact J1
  · replace h := hF h c1
    refine AW.aloadr_n 0 (dcN_2 dcg_9 :) rfl ?_
    refine AW.getR af_X0_18_6 sr_6_5 (dcN_3 dcg_9 :) ?_
    refine AW.iload_n 1 (dcN_4 dcg_9 :) rfl ?_
    obtain ⟨k4, h⟩ := hK h
    refine AW.iald kc_50 sk_50 k4 (dcN_5 dcg_9 :) ?_
    refine AW.goto (tgt := 21) (dcN_6 dcg_9 :) (by decide) ?_
    refine AW.sub (lv1 := []) [] rfl ?_
    cases h
    exact J1
theorem Boats_timeOf_ok {z : AZ} {x1 : Int} {x2 : Int} {g : AG} {r : Int} (h : Boats_timeOf x1 x2 g = some r) : AMf z yX0_timeOf cX0_timeOf 3 (some .int) 0 [rv z 6, iv x1, iv x2] g (r, g) := by
  intro d hdd
  refine AM.of (by decide +kernel) (Nat.le_of_ble_eq_true rfl) ?_
  show AW z (RX0, cX0_timeOf, 3, (some .int)) d (QD (some .int) (r, g)) 0 [(0, rv z 6), (1, iv x1), (2, iv x2)] [] g
  unfold Boats_timeOf at h
  refine AW.iload_n 2 (dcN_0 dcg_11 :) rfl ?_
  obtain ⟨r4, e5, h⟩ := hC h
  refine AW.join (tgt := 16) (lv1 := []) (st1 := [iv r4]) (g1 := g) ?_ (fun J1 => ?_)
  · exact AW.iret2 rfl (dcN_10 dcg_11 :) h rfl
  replace h := e5
  refine AW.if_ge (tgt := 8) (dcN_1 dcg_11 :) (by decide) (fun c1 => ?_) (fun c1 => ?_)
  · replace h := hT h c1
    refine AW.aloadr_n 0 (dcN_4 dcg_11 :) rfl ?_
    refine AW.getR af_X0_29_6 sr_6_9 (dcN_5 dcg_11 :) ?_
    refine AW.iload_n 1 (dcN_6 dcg_11 :) rfl ?_
    obtain ⟨k2, h⟩ := hK h
    refine AW.aald (b := 64) kc_63 sk_63 sb_63 k2 (dcN_7 dcg_11 :) ?_
    refine AW.iload_n 2 (dcN_8 dcg_11 :) rfl ?_
    obtain ⟨k3, h⟩ := hK h
    refine AW.iald (s2_64 _ (ix_lt k2)).1 (s2_64 _ (ix_lt k2)).2 k3 (dcN_9 dcg_11 :) ?_
    refine AW.sub (lv1 := []) [] rfl ?_
    cases h
    exact J1
  · replace h := hF h c1
    refine AW.iconst (dcN_2 dcg_11 :) ?_
    refine AW.goto (tgt := 16) (dcN_3 dcg_11 :) (by decide) ?_
    refine AW.sub (lv1 := []) [] rfl ?_
    cases h
    exact J1
theorem Boats_canBetween_ok {z : AZ} {x1 : Int} {x2 : Int} {x3 : Int} {x4 : Int} {x5 : Int} {g : AG} {r : Int × AG} (h : Boats_canBetween x1 x2 x3 x4 x5 g = some r) : AMf z yX0_canBetween cX0_canBetween 12 (some .boolean) 5 [rv z 6, iv x1, iv x2, iv x3, iv x4, iv x5] g r := by
  intro d hdd
  refine AM.of (by decide +kernel) (Nat.le_of_ble_eq_true rfl) ?_
  show AW z (RX0, cX0_canBetween, 12, (some .boolean)) d (QD (some .boolean) r) 0 [(0, rv z 6), (1, iv x1), (2, iv x2), (3, iv x3), (4, iv x4), (5, iv x5)] [] g
  unfold Boats_canBetween at h
  refine AW.iload_n 2 (dcN_0 dcg_14 :) rfl ?_
  refine AW.iconst (dcN_1 dcg_14 :) ?_
  refine AW.iadd (dcN_2 dcg_14 :) ?_
  refine AW.istore (lv1 := [(6, iv (x2 + 1)), (0, rv z 6), (1, iv x1), (2, iv x2), (3, iv x3), (4, iv x4), (5, iv x5)]) (dcN_3 dcg_14 :) (by decide) rfl ?_
  refine AW.iload 0 (dcN_4 dcg_14 :) rfl ?_
  refine AW.aloadr_n 1 (dcN_5 dcg_14 :) rfl ?_
  refine AW.getR af_X0_32_6 sr_6_10 (dcN_6 dcg_14 :) ?_
  refine AW.iload_n 2 (dcN_7 dcg_14 :) rfl ?_
  obtain ⟨k1, h⟩ := hK h
  refine AW.iald kc_74 sk_74 k1 (dcN_8 dcg_14 :) ?_
  obtain ⟨t2, e3, h⟩ := hBe h
  refine AW.join (tgt := 21) (lv1 := [(6, iv (x2 + 1)), (0, rv z 6), (1, iv x1), (2, iv x2), (3, iv x3), (4, iv x4), (5, iv x5)]) (st1 := [iv t2]) (g1 := g) ?_ (fun J13 => ?_)
  · refine AW.istore (lv1 := [(7, iv t2), (6, iv (x2 + 1)), (0, rv z 6), (1, iv x1), (2, iv x2), (3, iv x3), (4, iv x4), (5, iv x5)]) (dcN_13 dcg_14 :) (by decide) rfl ?_
    refine AW.iload 0 (dcN_14 dcg_14 :) rfl ?_
    obtain ⟨r6, e7, h⟩ := hC h
    refine AW.join (tgt := 43) (lv1 := [(0, rv z 6), (1, iv x1), (2, iv x2), (3, iv x3), (4, iv x4), (5, iv x5), (6, iv (x2 + 1)), (7, iv t2)]) (st1 := [iv r6.1]) (g1 := r6.2) ?_ (fun J25 => ?_)
    · refine AW.istore (lv1 := [(8, iv r6.1), (0, rv z 6), (1, iv x1), (2, iv x2), (3, iv x3), (4, iv x4), (5, iv x5), (6, iv (x2 + 1)), (7, iv t2)]) (dcN_6 dcg_15 :) (by decide) rfl ?_
      refine AW.aloadr_n 1 (dcN_7 dcg_15 :) rfl ?_
      refine AW.getR af_X0_46_6 sr_6_2 (dcN_8 dcg_15 :) ?_
      refine AW.aloadr_n 1 (dcN_9 dcg_15 :) rfl ?_
      refine AW.getR af_X0_21_6 sr_6_6 (dcN_10 dcg_15 :) ?_
      refine AW.iload_n 2 (dcN_11 dcg_15 :) rfl ?_
      refine AW.iald kc_51 sk_51 k1 (dcN_12 dcg_15 :) ?_
      refine AW.aloadr_n 1 (dcN_13 dcg_15 :) rfl ?_
      refine AW.iload_n 2 (dcN_14 dcg_15 :) rfl ?_
      refine AW.iload_n 3 (dcN_15 dcg_15 :) rfl ?_
      obtain ⟨r8, e9, h⟩ := hC h
      refine AW.callVi (As := [iv x1, iv x2]) (st := [iv (r6.2 51 (ix x1)), rv z 5]) (Boats_placeOf_ok e9) cq_X0_58 cr_6_X0_placeOf (Nat.le_trans (by decide) hdd) rfl (dcN_16 dcg_15 :) rfl (Nat.le_of_ble_eq_true rfl) ?_
      refine AW.iload_n 4 (dcN_17 dcg_15 :) rfl ?_
      refine AW.aloadr_n 1 (dcN_18 dcg_15 :) rfl ?_
      refine AW.iload_n 2 (dcN_19 dcg_15 :) rfl ?_
      refine AW.iload_n 3 (dcN_0 dcg_16 :) rfl ?_
      obtain ⟨r10, e11, h⟩ := hC h
      refine AW.callVi (As := [iv x1, iv x2]) (st := [iv x3, iv r8, iv (r6.2 51 (ix x1)), rv z 5]) (Boats_timeOf_ok e11) cq_X0_62 cr_6_X0_timeOf (Nat.le_trans (by decide) hdd) rfl (dcN_1 dcg_16 :) rfl (Nat.le_of_ble_eq_true rfl) ?_
      refine AW.iconst (dcN_2 dcg_16 :) ?_
      obtain ⟨r12, e13, h⟩ := hC h
      refine AW.callVi (As := [iv (r6.2 51 (ix x1)), iv r8, iv x3, iv r10, iv 1]) (st := []) (Voyage_comesTo_ok e13) cq_X0_65 cr_5_X9_comesTo (Nat.le_trans (by decide) hdd) rfl (dcN_3 dcg_16 :) rfl (Nat.le_of_ble_eq_true rfl) ?_
      refine AW.istore (lv1 := [(9, iv r12.1), (8, iv r6.1), (0, rv z 6), (1, iv x1), (2, iv x2), (3, iv x3), (4, iv x4), (5, iv x5), (6, iv (x2 + 1)), (7, iv t2)]) (dcN_4 dcg_16 :) (by decide) rfl ?_
      refine AW.iload 0 (dcN_5 dcg_16 :) rfl ?_
      refine AW.iload 6 (dcN_6 dcg_16 :) rfl ?_
      refine AW.mmax (st := []) cm_X0_71 mst_max mini mcd_max (Nat.le_trans (by decide) hdd) (Nat.le_of_ble_eq_true rfl) (dcN_7 dcg_16 :) ?_
      refine AW.istore (lv1 := [(10, iv (mxI r12.1 x4)), (9, iv r12.1), (8, iv r6.1), (0, rv z 6), (1, iv x1), (2, iv x2), (3, iv x3), (4, iv x4), (5, iv x5), (6, iv (x2 + 1)), (7, iv t2)]) (dcN_8 dcg_16 :) (by decide) rfl ?_
      refine AW.iload 1 (dcN_9 dcg_16 :) rfl ?_
      refine AW.iconst (dcN_10 dcg_16 :) ?_
      refine AW.icmp_eq (tgt := 103) (dcN_11 dcg_16 :) (by decide) (fun c14 => ?_) (fun c14 => ?_)
      · replace h := hT h c14
        refine AW.iconst (dcN_3 dcg_17 :) ?_
        exact AW.zret1 rfl (Or.inl rfl) (dcN_4 dcg_17 :) h rfl
      · replace h := hF h c14
        refine AW.iload 0 (dcN_12 dcg_16 :) rfl ?_
        refine AW.iload 8 (dcN_13 dcg_16 :) rfl ?_
        refine AW.icmp_gt (tgt := 103) (dcN_14 dcg_16 :) (by decide) (fun c15 => ?_) (fun c15 => ?_)
        · replace h := hT h c15
          refine AW.iconst (dcN_3 dcg_17 :) ?_
          exact AW.zret1 rfl (Or.inl rfl) (dcN_4 dcg_17 :) h rfl
        · replace h := hF h c15
          refine AW.iload 0 (dcN_0 dcg_17 :) rfl ?_
          refine AW.iload 2 (dcN_1 dcg_17 :) rfl ?_
          refine AW.icmp_lt (tgt := 105) (dcN_2 dcg_17 :) (by decide) (fun c16 => ?_) (fun c16 => ?_)
          · replace h := hT h c16
            refine AW.iload 10 (dcN_5 dcg_17 :) rfl ?_
            refine AW.if_eq (tgt := 112) (dcN_6 dcg_17 :) (by decide) (fun c17 => ?_) (fun c17 => ?_)
            · replace h := hT h c17
              refine AW.aloadr_n 3 (dcN_9 dcg_17 :) rfl ?_
              refine AW.getR af_X0_46_6 sr_6_2 (dcN_10 dcg_17 :) ?_
              refine AW.aloadr_n 3 (dcN_11 dcg_17 :) rfl ?_
              refine AW.getR af_X0_21_6 sr_6_6 (dcN_12 dcg_17 :) ?_
              refine AW.iload_n 4 (dcN_13 dcg_17 :) rfl ?_
              refine AW.iald kc_51 sk_51 k1 (dcN_14 dcg_17 :) ?_
              refine AW.iload_n 6 (dcN_15 dcg_17 :) rfl ?_
              refine AW.aloadr_n 3 (dcN_16 dcg_17 :) rfl ?_
              refine AW.getR af_X0_26_6 sr_6_8 (dcN_17 dcg_17 :) ?_
              refine AW.iload_n 4 (dcN_18 dcg_17 :) rfl ?_
              refine AW.aald (b := 53) kc_52 sk_52 sb_52 k1 (dcN_0 dcg_18 :) ?_
              refine AW.iload 9 (dcN_1 dcg_18 :) rfl ?_
              obtain ⟨k18, h⟩ := hK h
              refine AW.iald (s2_53 _ (ix_lt k1)).1 (s2_53 _ (ix_lt k1)).2 k18 (dcN_2 dcg_18 :) ?_
              refine AW.iload 0 (dcN_3 dcg_18 :) rfl ?_
              refine AW.iconst (dcN_4 dcg_18 :) ?_
              obtain ⟨r19, e20, h⟩ := hC h
              refine AW.callVi (As := [iv (r12.2 51 (ix x1)), iv x3, iv (r12.2 (53 + ix x1) (ix (x2 + 1))), iv (mxI r12.1 x4), iv 1]) (st := []) (Voyage_comesTo_ok e20) cq_X0_65 cr_5_X9_comesTo (Nat.le_trans (by decide) hdd) rfl (dcN_5 dcg_18 :) rfl (Nat.le_of_ble_eq_true rfl) ?_
              refine AW.istore (lv1 := [(11, iv r19.1), (10, iv (mxI r12.1 x4)), (9, iv r12.1), (8, iv r6.1), (0, rv z 6), (1, iv x1), (2, iv x2), (3, iv x3), (4, iv x4), (5, iv x5), (6, iv (x2 + 1)), (7, iv t2)]) (dcN_6 dcg_18 :) (by decide) rfl ?_
              refine AW.iload 0 (dcN_7 dcg_18 :) rfl ?_
              refine AW.iconst (dcN_8 dcg_18 :) ?_
              obtain ⟨t21, e22, h⟩ := hBe h
              refine AW.join (tgt := 158) (lv1 := [(11, iv r19.1), (10, iv (mxI r12.1 x4)), (9, iv r12.1), (8, iv r6.1), (0, rv z 6), (1, iv x1), (2, iv x2), (3, iv x3), (4, iv x4), (5, iv x5), (6, iv (x2 + 1)), (7, iv t2)]) (st1 := [iv t21]) (g1 := r19.2) ?_ (fun J143 => ?_)
              · exact AW.zret1 rfl (by rw [e22]; (repeat' split) <;> first | exact Or.inl rfl | exact Or.inr rfl) (dcN_16 dcg_18 :) h rfl
              refine AW.icmp_eq (tgt := 157) (dcN_9 dcg_18 :) (by decide) (fun c23 => ?_) (fun c23 => ?_)
              · refine AW.iconst (dcN_15 dcg_18 :) ?_
                exact AW.val (e22.trans (if_pos c23)) J143
              · refine AW.iload 0 (dcN_10 dcg_18 :) rfl ?_
                refine AW.iload 3 (dcN_11 dcg_18 :) rfl ?_
                refine AW.icmp_gt (tgt := 157) (dcN_12 dcg_18 :) (by decide) (fun c24 => ?_) (fun c24 => ?_)
                · refine AW.iconst (dcN_15 dcg_18 :) ?_
                  exact AW.val (e22.trans ((if_neg c23).trans (if_pos c24))) J143
                · refine AW.iconst (dcN_13 dcg_18 :) ?_
                  refine AW.goto (tgt := 158) (dcN_14 dcg_18 :) (by decide) ?_
                  exact AW.val (e22.trans ((if_neg c23).trans (if_neg c24))) J143
            · replace h := hF h c17
              refine AW.iconst (dcN_7 dcg_17 :) ?_
              exact AW.zret1 rfl (Or.inr rfl) (dcN_8 dcg_17 :) h rfl
          · replace h := hF h c16
            refine AW.iconst (dcN_3 dcg_17 :) ?_
            exact AW.zret1 rfl (Or.inl rfl) (dcN_4 dcg_17 :) h rfl
    replace h := e7
    refine AW.if_eq (tgt := 34) (dcN_15 dcg_14 :) (by decide) (fun c4 => ?_) (fun c4 => ?_)
    · replace h := hT h c4
      refine AW.aloadr_n 2 (dcN_0 dcg_15 :) rfl ?_
      refine AW.getR af_X0_29_6 sr_6_9 (dcN_1 dcg_15 :) ?_
      refine AW.iload_n 3 (dcN_2 dcg_15 :) rfl ?_
      refine AW.aald (b := 64) kc_63 sk_63 sb_63 k1 (dcN_3 dcg_15 :) ?_
      refine AW.iload 1 (dcN_4 dcg_15 :) rfl ?_
      obtain ⟨k5, h⟩ := hK h
      refine AW.iald (s2_64 _ (ix_lt k1)).1 (s2_64 _ (ix_lt k1)).2 k5 (dcN_5 dcg_15 :) ?_
      refine AW.sub (lv1 := [(0, rv z 6), (1, iv x1), (2, iv x2), (3, iv x3), (4, iv x4), (5, iv x5), (6, iv (x2 + 1)), (7, iv t2)]) [2, 3, 4, 5, 6, 7, 1, 0] rfl ?_
      cases h
      exact J25
    · replace h := hF h c4
      refine AW.sipush (dcN_16 dcg_14 :) (by decide) (by decide) ?_
      refine AW.goto (tgt := 43) (dcN_17 dcg_14 :) (by decide) ?_
      refine AW.sub (lv1 := [(0, rv z 6), (1, iv x1), (2, iv x2), (3, iv x3), (4, iv x4), (5, iv x5), (6, iv (x2 + 1)), (7, iv t2)]) [2, 3, 4, 5, 6, 7, 1, 0] rfl ?_
      cases h
      exact J25
  refine AW.icmp_lt (tgt := 20) (dcN_9 dcg_14 :) (by decide) (fun c25 => ?_) (fun c25 => ?_)
  · refine AW.iconst (dcN_12 dcg_14 :) ?_
    exact AW.val (e3.trans (if_pos c25)) J13
  · refine AW.iconst (dcN_10 dcg_14 :) ?_
    refine AW.goto (tgt := 21) (dcN_11 dcg_14 :) (by decide) ?_
    exact AW.val (e3.trans (if_neg c25)) J13
set_option synthInstance.maxHeartbeats 2000000 in
theorem Boats_canHaveBeen_b_ok {z : AZ} {d : Nat} (hdd : 6 ≤ d) {x1 : Int} {x2 : Int} {x3 : Int} {x4 : Int} : ∀ (x5 : Int) (g : AG) (r : Int × AG), Boats_canHaveBeen_b x1 x2 x3 x4 x5 g = some r → AW z (RX0, cX0_canHaveBeen, 6, (some .boolean)) d (QD (some .boolean) r) 3 [(0, rv z 6), (1, iv x1), (2, iv x2), (3, iv x3), (4, iv x4), (5, iv x5)] [] g := by
  refine Boats_canHaveBeen_b.partial_correctness x1 x2 x3 x4 (fun x5 g r => AW z (RX0, cX0_canHaveBeen, 6, (some .boolean)) d (QD (some .boolean) r) 3 [(0, rv z 6), (1, iv x1), (2, iv x2), (3, iv x3), (4, iv x4), (5, iv x5)] [] g) ?_
  intro fb9 ih x5 g r h
  refine AW.iload 5 (dcN_2 dcg_12 :) rfl ?_
  refine AW.aloadr_n 0 (dcN_3 dcg_12 :) rfl ?_
  refine AW.getR af_X0_32_6 sr_6_10 (dcN_4 dcg_12 :) ?_
  refine AW.iload_n 1 (dcN_5 dcg_12 :) rfl ?_
  obtain ⟨k1, h⟩ := hK h
  refine AW.iald kc_74 sk_74 k1 (dcN_6 dcg_12 :) ?_
  refine AW.icmp_ge (tgt := 36) (dcN_7 dcg_12 :) (by decide) (fun c2 => ?_) (fun c2 => ?_)
  · replace h := hT h c2
    refine AW.iconst (dcN_8 dcg_13 :) ?_
    exact AW.zret1 rfl (Or.inl rfl) (dcN_9 dcg_13 :) h rfl
  · replace h := hF h c2
    refine AW.aloadr_n 0 (dcN_8 dcg_12 :) rfl ?_
    refine AW.iload_n 1 (dcN_9 dcg_12 :) rfl ?_
    refine AW.iload 5 (dcN_10 dcg_12 :) rfl ?_
    refine AW.iload_n 2 (dcN_11 dcg_12 :) rfl ?_
    refine AW.iload_n 3 (dcN_0 dcg_13 :) rfl ?_
    refine AW.iload 4 (dcN_1 dcg_13 :) rfl ?_
    obtain ⟨r3, e4, h⟩ := hC h
    refine AW.callVi (As := [iv x1, iv x5, iv x2, iv x3, iv x4]) (st := []) (Boats_canBetween_ok e4) cq_X0_54 cr_6_X0_canBetween (Nat.le_trans (by decide) hdd) rfl (dcN_2 dcg_13 :) rfl (Nat.le_of_ble_eq_true rfl) ?_
    refine AW.if_eq (tgt := 30) (dcN_3 dcg_13 :) (by decide) (fun c5 => ?_) (fun c5 => ?_)
    · replace h := hT h c5
      refine AW.iinc (lv1 := [(5, iv (x5 + 1)), (0, rv z 6), (1, iv x1), (2, iv x2), (3, iv x3), (4, iv x4)]) 5 (dcN_6 dcg_13 :) rfl (by decide) rfl ?_
      refine AW.goto (tgt := 3) (dcN_7 dcg_13 :) (by decide) ?_
      refine AW.sub (lv1 := [(0, rv z 6), (1, iv x1), (2, iv x2), (3, iv x3), (4, iv x4), (5, iv (x5 + 1))]) [1, 2, 3, 4, 5, 0] rfl ?_
      exact ih _ _ _ h
    · replace h := hF h c5
      refine AW.iconst (dcN_4 dcg_13 :) ?_
      exact AW.zret1 rfl (Or.inr rfl) (dcN_5 dcg_13 :) h rfl
theorem Boats_canHaveBeen_ok {z : AZ} {x1 : Int} {x2 : Int} {x3 : Int} {x4 : Int} {g : AG} {r : Int × AG} (h : Boats_canHaveBeen x1 x2 x3 x4 g = some r) : AMf z yX0_canHaveBeen cX0_canHaveBeen 6 (some .boolean) 6 [rv z 6, iv x1, iv x2, iv x3, iv x4] g r := by
  intro d hdd
  refine AM.of (by decide +kernel) (Nat.le_of_ble_eq_true rfl) ?_
  show AW z (RX0, cX0_canHaveBeen, 6, (some .boolean)) d (QD (some .boolean) r) 0 [(0, rv z 6), (1, iv x1), (2, iv x2), (3, iv x3), (4, iv x4)] [] g
  unfold Boats_canHaveBeen at h
  refine AW.iconst (dcN_0 dcg_12 :) ?_
  refine AW.istore (lv1 := [(5, iv (-1)), (0, rv z 6), (1, iv x1), (2, iv x2), (3, iv x3), (4, iv x4)]) (dcN_1 dcg_12 :) (by decide) rfl ?_
  refine AW.sub (lv1 := [(0, rv z 6), (1, iv x1), (2, iv x2), (3, iv x3), (4, iv x4), (5, iv (-1))]) [1, 2, 3, 4, 5, 0] rfl ?_
  exact Boats_canHaveBeen_b_ok hdd _ _ _ h
theorem X_could_ok {z : AZ} {x1 : Int} {x2 : Int} {x3 : Int} {x4 : Int} {g : AG} {r : Int × AG} (h : X_could x1 x2 x3 x4 g = some r) : AMf z yX11_could cX11_could 5 (some .int) 7 [rv z 0, iv x1, iv x2, iv x3, iv x4] g r := by
  intro d hdd
  refine AM.of (by decide +kernel) (Nat.le_of_ble_eq_true rfl) ?_
  show AW z (RX11, cX11_could, 5, (some .int)) d (QD (some .int) r) 0 [(0, rv z 0), (1, iv x1), (2, iv x2), (3, iv x3), (4, iv x4)] [] g
  unfold X_could at h
  refine AW.aloadr_n 0 (dcN_0 dcg_399 :) rfl ?_
  refine AW.iload_n 1 (dcN_1 dcg_399 :) rfl ?_
  refine AW.iload_n 2 (dcN_2 dcg_399 :) rfl ?_
  refine AW.iload_n 2 (dcN_3 dcg_399 :) rfl ?_
  refine AW.iload_n 3 (dcN_4 dcg_399 :) rfl ?_
  refine AW.callVi (As := [iv x1, iv x2, iv x2, iv x3]) (st := []) X_isWay_ok cq_X11_176 cr_0_X11_isWay (Nat.le_trans (by decide) hdd) rfl (dcN_5 dcg_399 :) rfl (Nat.le_of_ble_eq_true rfl) ?_
  refine AW.if_eq (tgt := 25) (dcN_6 dcg_399 :) (by decide) (fun c1 => ?_) (fun c1 => ?_)
  · replace h := hT h c1
    refine AW.iconst (dcN_1 dcg_400 :) ?_
    exact AW.iret1 rfl (dcN_2 dcg_400 :) h rfl
  · replace h := hF h c1
    refine AW.iload 4 (dcN_7 dcg_399 :) rfl ?_
    refine AW.callSi (As := [iv x4]) (st := []) X_isTime_ok cq_X11_114 st_X11_isTime (Nat.le_trans (by decide) hdd) rfl (dcN_8 dcg_399 :) rfl (Nat.le_of_ble_eq_true rfl) ?_
    refine AW.if_eq (tgt := 25) (dcN_9 dcg_399 :) (by decide) (fun c2 => ?_) (fun c2 => ?_)
    · replace h := hT h c2
      refine AW.iconst (dcN_1 dcg_400 :) ?_
      exact AW.iret1 rfl (dcN_2 dcg_400 :) h rfl
    · replace h := hF h c2
      refine AW.iload_n 3 (dcN_10 dcg_399 :) rfl ?_
      refine AW.iload 4 (dcN_11 dcg_399 :) rfl ?_
      refine AW.icmp_le (tgt := 27) (dcN_0 dcg_400 :) (by decide) (fun c3 => ?_) (fun c3 => ?_)
      · replace h := hT h c3
        refine AW.aloadr_n 0 (dcN_3 dcg_400 :) rfl ?_
        refine AW.getR af_X11_49_0 sr_0_5 (dcN_4 dcg_400 :) ?_
        refine AW.iload_n 1 (dcN_5 dcg_400 :) rfl ?_
        refine AW.iload_n 2 (dcN_6 dcg_400 :) rfl ?_
        refine AW.iload_n 3 (dcN_7 dcg_400 :) rfl ?_
        refine AW.iload 4 (dcN_8 dcg_400 :) rfl ?_
        obtain ⟨r4, e5, h⟩ := hC h
        refine AW.callVi (As := [iv x1, iv x2, iv x3, iv x4]) (st := []) (Boats_canHaveBeen_ok e5) cq_X11_229 cr_6_X0_canHaveBeen (Nat.le_trans (by decide) hdd) rfl (dcN_9 dcg_400 :) rfl (Nat.le_of_ble_eq_true rfl) ?_
        obtain ⟨t6, e7, h⟩ := hBe h
        refine AW.join (tgt := 47) (lv1 := [(0, rv z 0), (1, iv x1), (2, iv x2), (3, iv x3), (4, iv x4)]) (st1 := [iv t6]) (g1 := r4.2) ?_ (fun J39 => ?_)
        · exact AW.iret1 rfl (dcN_2 dcg_401 :) h rfl
        refine AW.if_eq (tgt := 46) (dcN_10 dcg_400 :) (by decide) (fun c8 => ?_) (fun c8 => ?_)
        · refine AW.iconst (dcN_1 dcg_401 :) ?_
          exact AW.val (e7.trans (if_pos c8)) J39
        · refine AW.iconst (dcN_11 dcg_400 :) ?_
          refine AW.goto (tgt := 47) (dcN_0 dcg_401 :) (by decide) ?_
          exact AW.val (e7.trans (if_neg c8)) J39
      · replace h := hF h c3
        refine AW.iconst (dcN_1 dcg_400 :) ?_
        exact AW.iret1 rfl (dcN_2 dcg_400 :) h rfl
set_option synthInstance.maxHeartbeats 2000000 in
theorem X_whose_b_ok {z : AZ} {d : Nat} (hdd : 7 ≤ d) {x1 : Int} {x2 : Int} {x3 : Int} {x4 : Int} : ∀ (x5 : Int) (x6 : Int) (x7 : Int) (g : AG) (r : Int × AG), X_whose_b x1 x2 x3 x4 x5 x6 x7 g = some r → AW z (RX11, cX11_whose, 8, (some .int)) d (QD (some .int) r) 49 [(0, rv z 0), (1, iv x1), (2, iv x2), (3, iv x3), (4, iv x4), (5, iv x5), (6, iv x6), (7, iv x7)] [] g := by
  refine X_whose_b.partial_correctness x1 x2 x3 x4 (fun x5 x6 x7 g r => AW z (RX11, cX11_whose, 8, (some .int)) d (QD (some .int) r) 49 [(0, rv z 0), (1, iv x1), (2, iv x2), (3, iv x3), (4, iv x4), (5, iv x5), (6, iv x6), (7, iv x7)] [] g) ?_
  intro fb9 ih x5 x6 x7 g r h
  refine AW.iload 7 (dcN_10 dcg_403 :) rfl ?_
  refine AW.aloadr_n 0 (dcN_11 dcg_403 :) rfl ?_
  refine AW.getR af_X11_49_0 sr_0_5 (dcN_12 dcg_403 :) ?_
  refine AW.getI af_X11_103_6 sr_6_7 (dcN_13 dcg_403 :) ?_
  refine AW.icmp_ge (tgt := 95) (dcN_14 dcg_403 :) (by decide) (fun c1 => ?_) (fun c1 => ?_)
  · replace h := hT h c1
    refine AW.iload 4 (dcN_16 dcg_404 :) rfl ?_
    refine AW.if_ne (tgt := 103) (dcN_0 dcg_405 :) (by decide) (fun c2 => ?_) (fun c2 => ?_)
    · replace h := hF h c2
      refine AW.iload 5 (dcN_3 dcg_405 :) rfl ?_
      obtain ⟨r3, e4, h⟩ := hC h
      refine AW.callSi (As := [iv x5]) (st := []) (Integer_bitCount_ok e4) cq_X11_232 st_J6_bitCount_0f7a4 (Nat.le_trans (by decide) hdd) rfl (dcN_4 dcg_405 :) rfl (Nat.le_of_ble_eq_true rfl) ?_
      refine AW.iconst (dcN_5 dcg_405 :) ?_
      obtain ⟨t5, e6, h⟩ := hBe h
      refine AW.join (tgt := 118) (lv1 := [(0, rv z 0), (1, iv x1), (2, iv x2), (3, iv x3), (4, iv x4), (5, iv x5), (6, iv x6), (7, iv x7)]) (st1 := [iv t5]) (g1 := g) ?_ (fun J109 => ?_)
      · exact AW.iret1 rfl (dcN_10 dcg_405 :) h rfl
      refine AW.icmp_ne (tgt := 117) (dcN_6 dcg_405 :) (by decide) (fun c7 => ?_) (fun c7 => ?_)
      · refine AW.iconst (dcN_9 dcg_405 :) ?_
        exact AW.val (e6.trans (if_neg c7)) J109
      · refine AW.iload 6 (dcN_7 dcg_405 :) rfl ?_
        refine AW.goto (tgt := 118) (dcN_8 dcg_405 :) (by decide) ?_
        exact AW.val (e6.trans (if_pos c7)) J109
    · replace h := hT h c2
      refine AW.iload 5 (dcN_1 dcg_405 :) rfl ?_
      exact AW.iret1 rfl (dcN_2 dcg_405 :) h rfl
  · replace h := hF h c1
    refine AW.aloadr_n 0 (dcN_15 dcg_403 :) rfl ?_
    refine AW.getR af_X11_49_0 sr_0_5 (dcN_16 dcg_403 :) ?_
    refine AW.iload 7 (dcN_0 dcg_404 :) rfl ?_
    refine AW.iload_n 1 (dcN_1 dcg_404 :) rfl ?_
    refine AW.iload_n 2 (dcN_2 dcg_404 :) rfl ?_
    refine AW.iload_n 3 (dcN_3 dcg_404 :) rfl ?_
    obtain ⟨r8, e9, h⟩ := hC h
    refine AW.callVi (As := [iv x7, iv x1, iv x2, iv x3]) (st := []) (Boats_canHaveBeen_ok e9) cq_X11_229 cr_6_X0_canHaveBeen (Nat.le_trans (by decide) hdd) rfl (dcN_4 dcg_404 :) rfl (Nat.le_of_ble_eq_true rfl) ?_
    obtain ⟨r11, e12, h⟩ := hC h
    refine AW.join (tgt := 89) (lv1 := [(0, rv z 0), (1, iv x1), (2, iv x2), (3, iv x3), (4, iv x4), (5, iv r11.1), (6, iv r11.2.1), (7, iv x7)]) (st1 := []) (g1 := r11.2.2) ?_ (fun J73 => ?_)
    · refine AW.iinc (lv1 := [(7, iv (x7 + 1)), (0, rv z 0), (1, iv x1), (2, iv x2), (3, iv x3), (4, iv x4), (5, iv r11.1), (6, iv r11.2.1)]) 7 (dcN_14 dcg_404 :) rfl (by decide) rfl ?_
      refine AW.goto (tgt := 49) (dcN_15 dcg_404 :) (by decide) ?_
      refine AW.sub (lv1 := [(0, rv z 0), (1, iv x1), (2, iv x2), (3, iv x3), (4, iv x4), (5, iv r11.1), (6, iv r11.2.1), (7, iv (x7 + 1))]) [1, 2, 3, 4, 5, 6, 7, 0] rfl ?_
      exact ih _ _ _ _ _ h
    replace h := e12
    refine AW.if_eq (tgt := 89) (dcN_5 dcg_404 :) (by decide) (fun c10 => ?_) (fun c10 => ?_)
    · replace h := hT h c10
      cases h
      exact J73
    · replace h := hF h c10
      refine AW.iload 5 (dcN_6 dcg_404 :) rfl ?_
      refine AW.iconst (dcN_7 dcg_404 :) ?_
      refine AW.iload 7 (dcN_8 dcg_404 :) rfl ?_
      refine AW.ishl (dcN_9 dcg_404 :) ?_
      refine AW.ior (dcN_10 dcg_404 :) ?_
      refine AW.istore (lv1 := [(5, iv (orI x5 (shlI 1 x7))), (0, rv z 0), (1, iv x1), (2, iv x2), (3, iv x3), (4, iv x4), (6, iv x6), (7, iv x7)]) (dcN_11 dcg_404 :) (by decide) rfl ?_
      refine AW.iload 7 (dcN_12 dcg_404 :) rfl ?_
      refine AW.istore (lv1 := [(6, iv x7), (5, iv (orI x5 (shlI 1 x7))), (0, rv z 0), (1, iv x1), (2, iv x2), (3, iv x3), (4, iv x4), (7, iv x7)]) (dcN_13 dcg_404 :) (by decide) rfl ?_
      refine AW.sub (lv1 := [(0, rv z 0), (1, iv x1), (2, iv x2), (3, iv x3), (4, iv x4), (5, iv (orI x5 (shlI 1 x7))), (6, iv x7), (7, iv x7)]) [2, 3, 4, 5, 6, 1, 0, 7] rfl ?_
      cases h
      exact J73
theorem X_whose_ok {z : AZ} {x1 : Int} {x2 : Int} {x3 : Int} {x4 : Int} {g : AG} {r : Int × AG} (h : X_whose x1 x2 x3 x4 g = some r) : AMf z yX11_whose cX11_whose 8 (some .int) 7 [rv z 0, iv x1, iv x2, iv x3, iv x4] g r := by
  intro d hdd
  refine AM.of (by decide +kernel) (Nat.le_of_ble_eq_true rfl) ?_
  show AW z (RX11, cX11_whose, 8, (some .int)) d (QD (some .int) r) 0 [(0, rv z 0), (1, iv x1), (2, iv x2), (3, iv x3), (4, iv x4)] [] g
  unfold X_whose at h
  refine AW.iload_n 1 (dcN_0 dcg_402 :) rfl ?_
  refine AW.callSi (As := [iv x1]) (st := []) X_isPoint_ok cq_X11_111 st_X11_isPoint (Nat.le_trans (by decide) hdd) rfl (dcN_1 dcg_402 :) rfl (Nat.le_of_ble_eq_true rfl) ?_
  refine AW.if_eq (tgt := 26) (dcN_2 dcg_402 :) (by decide) (fun c1 => ?_) (fun c1 => ?_)
  · replace h := hT h c1
    refine AW.iconst (dcN_12 dcg_402 :) ?_
    exact AW.iret1 rfl (dcN_13 dcg_402 :) h rfl
  · replace h := hF h c1
    refine AW.iload_n 2 (dcN_3 dcg_402 :) rfl ?_
    refine AW.callSi (As := [iv x2]) (st := []) X_isTime_ok cq_X11_114 st_X11_isTime (Nat.le_trans (by decide) hdd) rfl (dcN_4 dcg_402 :) rfl (Nat.le_of_ble_eq_true rfl) ?_
    refine AW.if_eq (tgt := 26) (dcN_5 dcg_402 :) (by decide) (fun c2 => ?_) (fun c2 => ?_)
    · replace h := hT h c2
      refine AW.iconst (dcN_12 dcg_402 :) ?_
      exact AW.iret1 rfl (dcN_13 dcg_402 :) h rfl
    · replace h := hF h c2
      refine AW.iload_n 3 (dcN_6 dcg_402 :) rfl ?_
      refine AW.callSi (As := [iv x3]) (st := []) X_isTime_ok cq_X11_114 st_X11_isTime (Nat.le_trans (by decide) hdd) rfl (dcN_7 dcg_402 :) rfl (Nat.le_of_ble_eq_true rfl) ?_
      refine AW.if_eq (tgt := 26) (dcN_8 dcg_402 :) (by decide) (fun c3 => ?_) (fun c3 => ?_)
      · replace h := hT h c3
        refine AW.iconst (dcN_12 dcg_402 :) ?_
        exact AW.iret1 rfl (dcN_13 dcg_402 :) h rfl
      · replace h := hF h c3
        refine AW.iload_n 2 (dcN_9 dcg_402 :) rfl ?_
        refine AW.iload_n 3 (dcN_10 dcg_402 :) rfl ?_
        refine AW.icmp_le (tgt := 28) (dcN_11 dcg_402 :) (by decide) (fun c4 => ?_) (fun c4 => ?_)
        · replace h := hT h c4
          refine AW.iload 4 (dcN_14 dcg_402 :) rfl ?_
          refine AW.iconst (dcN_15 dcg_402 :) ?_
          refine AW.iconst (dcN_16 dcg_402 :) ?_
          refine AW.callSi (As := [iv x4, iv 0, iv 1]) (st := []) X_within_ok cq_X11_99 st_X11_within (Nat.le_trans (by decide) hdd) rfl (dcN_0 dcg_403 :) rfl (Nat.le_of_ble_eq_true rfl) ?_
          refine AW.if_ne (tgt := 40) (dcN_1 dcg_403 :) (by decide) (fun c5 => ?_) (fun c5 => ?_)
          · replace h := hF h c5
            refine AW.iconst (dcN_4 dcg_403 :) ?_
            refine AW.istore (lv1 := [(5, iv 0), (0, rv z 0), (1, iv x1), (2, iv x2), (3, iv x3), (4, iv x4)]) (dcN_5 dcg_403 :) (by decide) rfl ?_
            refine AW.iconst (dcN_6 dcg_403 :) ?_
            refine AW.istore (lv1 := [(6, iv (-1)), (5, iv 0), (0, rv z 0), (1, iv x1), (2, iv x2), (3, iv x3), (4, iv x4)]) (dcN_7 dcg_403 :) (by decide) rfl ?_
            refine AW.iconst (dcN_8 dcg_403 :) ?_
            refine AW.istore (lv1 := [(7, iv 0), (6, iv (-1)), (5, iv 0), (0, rv z 0), (1, iv x1), (2, iv x2), (3, iv x3), (4, iv x4)]) (dcN_9 dcg_403 :) (by decide) rfl ?_
            refine AW.sub (lv1 := [(0, rv z 0), (1, iv x1), (2, iv x2), (3, iv x3), (4, iv x4), (5, iv 0), (6, iv (-1)), (7, iv 0)]) [3, 4, 5, 6, 7, 2, 1, 0] rfl ?_
            exact X_whose_b_ok hdd _ _ _ _ _ h
          · replace h := hT h c5
            refine AW.iconst (dcN_2 dcg_403 :) ?_
            exact AW.iret1 rfl (dcN_3 dcg_403 :) h rfl
        · replace h := hF h c4
          refine AW.iconst (dcN_12 dcg_402 :) ?_
          exact AW.iret1 rfl (dcN_13 dcg_402 :) h rfl
end
section
set_option synthInstance.maxHeartbeats 2000000 in
theorem Boats_lastLog_b_ok {z : AZ} {d : Nat} (hdd : 0 ≤ d) {x1 : Int} {x2 : Int} {g : AG} : ∀ (x3 : Int) (x4 : Int) (r : Int), Boats_lastLog_b x1 x2 g x3 x4 = some r → AW z (RX0, cX0_lastLog, 5, (some .int)) d (QD (some .int) (r, g)) 5 [(0, rv z 6), (1, iv x1), (2, iv x2), (3, iv x3), (4, iv x4)] [] g := by
  refine Boats_lastLog_b.partial_correctness x1 x2 g (fun x3 x4 r => AW z (RX0, cX0_lastLog, 5, (some .int)) d (QD (some .int) (r, g)) 5 [(0, rv z 6), (1, iv x1), (2, iv x2), (3, iv x3), (4, iv x4)] [] g) ?_
  intro fb9 ih x3 x4 r h
  refine AW.iload 4 (dcN_4 dcg_23 :) rfl ?_
  refine AW.aloadr_n 0 (dcN_5 dcg_23 :) rfl ?_
  refine AW.getR af_X0_32_6 sr_6_10 (dcN_6 dcg_23 :) ?_
  refine AW.iload_n 1 (dcN_7 dcg_23 :) rfl ?_
  obtain ⟨k1, h⟩ := hK h
  refine AW.iald kc_74 sk_74 k1 (dcN_8 dcg_23 :) ?_
  refine AW.icmp_ge (tgt := 38) (dcN_9 dcg_23 :) (by decide) (fun c2 => ?_) (fun c2 => ?_)
  · replace h := hT h c2
    refine AW.iload_n 3 (dcN_10 dcg_24 :) rfl ?_
    exact AW.iret2 rfl (dcN_11 dcg_24 :) h rfl
  · replace h := hF h c2
    refine AW.aloadr_n 0 (dcN_10 dcg_23 :) rfl ?_
    refine AW.getR af_X0_29_6 sr_6_9 (dcN_11 dcg_23 :) ?_
    refine AW.iload_n 1 (dcN_0 dcg_24 :) rfl ?_
    refine AW.aald (b := 64) kc_63 sk_63 sb_63 k1 (dcN_1 dcg_24 :) ?_
    refine AW.iload 4 (dcN_2 dcg_24 :) rfl ?_
    obtain ⟨k3, h⟩ := hK h
    refine AW.iald (s2_64 _ (ix_lt k1)).1 (s2_64 _ (ix_lt k1)).2 k3 (dcN_3 dcg_24 :) ?_
    refine AW.iload_n 2 (dcN_4 dcg_24 :) rfl ?_
    refine AW.icmp_gt (tgt := 38) (dcN_5 dcg_24 :) (by decide) (fun c4 => ?_) (fun c4 => ?_)
    · replace h := hT h c4
      refine AW.iload_n 3 (dcN_10 dcg_24 :) rfl ?_
      exact AW.iret2 rfl (dcN_11 dcg_24 :) h rfl
    · replace h := hF h c4
      refine AW.iload 4 (dcN_6 dcg_24 :) rfl ?_
      refine AW.istore_n (lv1 := [(3, iv x4), (0, rv z 6), (1, iv x1), (2, iv x2), (4, iv x4)]) (dcN_7 dcg_24 :) (by decide) rfl ?_
      refine AW.iinc (lv1 := [(4, iv (x4 + 1)), (3, iv x4), (0, rv z 6), (1, iv x1), (2, iv x2)]) 4 (dcN_8 dcg_24 :) rfl (by decide) rfl ?_
      refine AW.goto (tgt := 5) (dcN_9 dcg_24 :) (by decide) ?_
      refine AW.sub (lv1 := [(0, rv z 6), (1, iv x1), (2, iv x2), (3, iv x4), (4, iv (x4 + 1))]) [2, 3, 4, 1, 0] rfl ?_
      exact ih _ _ _ h
theorem Boats_lastLog_ok {z : AZ} {x1 : Int} {x2 : Int} {g : AG} {r : Int} (h : Boats_lastLog x1 x2 g = some r) : AMf z yX0_lastLog cX0_lastLog 5 (some .int) 0 [rv z 6, iv x1, iv x2] g (r, g) := by
  intro d hdd
  refine AM.of (by decide +kernel) (Nat.le_of_ble_eq_true rfl) ?_
  show AW z (RX0, cX0_lastLog, 5, (some .int)) d (QD (some .int) (r, g)) 0 [(0, rv z 6), (1, iv x1), (2, iv x2)] [] g
  unfold Boats_lastLog at h
  refine AW.iconst (dcN_0 dcg_23 :) ?_
  refine AW.istore_n (lv1 := [(3, iv (-1)), (0, rv z 6), (1, iv x1), (2, iv x2)]) (dcN_1 dcg_23 :) (by decide) rfl ?_
  refine AW.iconst (dcN_2 dcg_23 :) ?_
  refine AW.istore (lv1 := [(4, iv 0), (3, iv (-1)), (0, rv z 6), (1, iv x1), (2, iv x2)]) (dcN_3 dcg_23 :) (by decide) rfl ?_
  refine AW.sub (lv1 := [(0, rv z 6), (1, iv x1), (2, iv x2), (3, iv (-1)), (4, iv 0)]) [2, 3, 4, 1, 0] rfl ?_
  exact Boats_lastLog_b_ok hdd _ _ _ h
set_option synthInstance.maxHeartbeats 2000000 in
theorem Boats_settleTonight_b_ok {z : AZ} {d : Nat} (hdd : 5 ≤ d) {x1 : Int} : ∀ (tag : Nat) (x2 : Int) (x4 : Int) (x5 : Int) (g : AG) (r : Int × AG), Boats_settleTonight_b x1 tag x2 x4 x5 g = some r → (tag = 1 → AW z (RX0, cX0_settleTonight, 6, none) d (QD none r) 10 [(0, rv z 6), (1, iv x1), (2, iv x2)] [] g) ∧ (tag = 2 → AW z (RX0, cX0_settleTonight, 6, none) d (QD none r) 63 [(0, rv z 6), (1, iv x1), (2, iv x2), (4, iv x4), (5, iv x5)] [] g) := by
  refine Boats_settleTonight_b.partial_correctness x1 (fun tag x2 x4 x5 g r => (tag = 1 → AW z (RX0, cX0_settleTonight, 6, none) d (QD none r) 10 [(0, rv z 6), (1, iv x1), (2, iv x2)] [] g) ∧ (tag = 2 → AW z (RX0, cX0_settleTonight, 6, none) d (QD none r) 63 [(0, rv z 6), (1, iv x1), (2, iv x2), (4, iv x4), (5, iv x5)] [] g)) ?_
  intro fb9 ih tag x2 x4 x5 g r h
  refine ⟨fun h9 => ?_, fun h9 => ?_⟩
  · subst h9
    replace h := hT h rfl
    refine AW.iload_n 2 (dcN_6 dcg_19 :) rfl ?_
    refine AW.aloadr_n 0 (dcN_7 dcg_19 :) rfl ?_
    refine AW.getI af_X0_50_6 sr_6_7 (dcN_8 dcg_19 :) ?_
    refine AW.icmp_ge (tgt := 101) (dcN_9 dcg_19 :) (by decide) (fun c1 => ?_) (fun c1 => ?_)
    · replace h := hT h c1
      exact AW.vret1 rfl (dcN_1 dcg_22 :) h rfl
    · replace h := hF h c1
      refine AW.aloadr_n 0 (dcN_10 dcg_19 :) rfl ?_
      refine AW.iload_n 2 (dcN_11 dcg_19 :) rfl ?_
      refine AW.iload_n 1 (dcN_12 dcg_19 :) rfl ?_
      obtain ⟨r2, e3, h⟩ := hC h
      refine AW.callVi (As := [iv x2, iv x1]) (st := []) (Boats_lastLog_ok e3) cq_X0_82 cr_6_X0_lastLog (Nat.le_trans (by decide) hdd) rfl (dcN_13 dcg_19 :) rfl (Nat.le_of_ble_eq_true rfl) ?_
      refine AW.istore_n (lv1 := [(3, iv r2), (0, rv z 6), (1, iv x1), (2, iv x2)]) (dcN_14 dcg_19 :) (by decide) rfl ?_
      refine AW.aloadr_n 1 (dcN_15 dcg_19 :) rfl ?_
      refine AW.getR af_X0_46_6 sr_6_2 (dcN_16 dcg_19 :) ?_
      refine AW.aloadr_n 1 (dcN_17 dcg_19 :) rfl ?_
      refine AW.getR af_X0_21_6 sr_6_6 (dcN_18 dcg_19 :) ?_
      refine AW.iload_n 3 (dcN_0 dcg_20 :) rfl ?_
      obtain ⟨k4, h⟩ := hK h
      refine AW.iald kc_51 sk_51 k4 (dcN_1 dcg_20 :) ?_
      refine AW.aloadr_n 1 (dcN_2 dcg_20 :) rfl ?_
      refine AW.iload_n 3 (dcN_3 dcg_20 :) rfl ?_
      refine AW.iload_n 0 (dcN_4 dcg_20 :) rfl ?_
      obtain ⟨r5, e6, h⟩ := hC h
      refine AW.callVi (As := [iv x2, iv r2]) (st := [iv (g 51 (ix x2)), rv z 5]) (Boats_placeOf_ok e6) cq_X0_58 cr_6_X0_placeOf (Nat.le_trans (by decide) hdd) rfl (dcN_5 dcg_20 :) rfl (Nat.le_of_ble_eq_true rfl) ?_
      refine AW.aloadr_n 1 (dcN_6 dcg_20 :) rfl ?_
      refine AW.iload_n 3 (dcN_7 dcg_20 :) rfl ?_
      refine AW.iload_n 0 (dcN_8 dcg_20 :) rfl ?_
      obtain ⟨r7, e8, h⟩ := hC h
      refine AW.callVi (As := [iv x2, iv r2]) (st := [iv r5, iv (g 51 (ix x2)), rv z 5]) (Boats_timeOf_ok e8) cq_X0_62 cr_6_X0_timeOf (Nat.le_trans (by decide) hdd) rfl (dcN_9 dcg_20 :) rfl (Nat.le_of_ble_eq_true rfl) ?_
      obtain ⟨r9, e10, h⟩ := hC h
      refine AW.callVv (As := [iv (g 51 (ix x2)), iv r5, iv r7]) (st := []) (Voyage_reach_ok e10) cq_X0_85 cr_5_X9_reach (Nat.le_trans (by decide) hdd) rfl (dcN_10 dcg_20 :) rfl (Nat.le_of_ble_eq_true rfl) ?_
      refine AW.aloadr_n 1 (dcN_11 dcg_20 :) rfl ?_
      refine AW.getR af_X0_46_6 sr_6_2 (dcN_12 dcg_20 :) ?_
      refine AW.iload_n 2 (dcN_13 dcg_20 :) rfl ?_
      obtain ⟨r11, e12, h⟩ := hC h
      refine AW.callVi (As := [iv x1]) (st := []) (Voyage_reached_ok e12) cq_X0_89 cr_5_X9_reached (Nat.le_trans (by decide) hdd) rfl (dcN_14 dcg_20 :) rfl (Nat.le_of_ble_eq_true rfl) ?_
      refine AW.istore (lv1 := [(4, iv r11), (3, iv r2), (0, rv z 6), (1, iv x1), (2, iv x2)]) (dcN_15 dcg_20 :) (by decide) rfl ?_
      refine AW.iconst (dcN_16 dcg_20 :) ?_
      refine AW.istore (lv1 := [(5, iv 0), (4, iv r11), (3, iv r2), (0, rv z 6), (1, iv x1), (2, iv x2)]) (dcN_17 dcg_20 :) (by decide) rfl ?_
      refine AW.sub (lv1 := [(0, rv z 6), (1, iv x1), (2, iv x2), (4, iv r11), (5, iv 0)]) [3, 4, 5, 1, 0] rfl ?_
      exact (ih _ _ _ _ _ _ h).2 rfl
  · subst h9
    replace h := hF h (by decide)
    replace h := hT h rfl
    refine AW.iload 4 (dcN_18 dcg_20 :) rfl ?_
    refine AW.bipush (dcN_0 dcg_21 :) (by decide) (by decide) ?_
    refine AW.icmp_ge (tgt := 95) (dcN_1 dcg_21 :) (by decide) (fun c1 => ?_) (fun c1 => ?_)
    · replace h := hT h c1
      refine AW.iinc (lv1 := [(2, iv (x2 + 1)), (0, rv z 6), (1, iv x1), (4, iv x4), (5, iv x5)]) 2 (dcN_18 dcg_21 :) rfl (by decide) rfl ?_
      refine AW.goto (tgt := 10) (dcN_0 dcg_22 :) (by decide) ?_
      refine AW.sub (lv1 := [(0, rv z 6), (1, iv x1), (2, iv (x2 + 1))]) [1, 2, 0] rfl ?_
      exact (ih _ _ _ _ _ _ h).1 rfl
    · replace h := hF h c1
      refine AW.aloadr_n 0 (dcN_2 dcg_21 :) rfl ?_
      refine AW.getR af_X0_35_6 sr_6_11 (dcN_3 dcg_21 :) ?_
      refine AW.iload 4 (dcN_4 dcg_21 :) rfl ?_
      refine AW.dup2r (dcN_5 dcg_21 :) ?_
      obtain ⟨k2, h⟩ := hK h
      refine AW.iald kc_75 sk_75 k2 (dcN_6 dcg_21 :) ?_
      refine AW.iload 3 (dcN_7 dcg_21 :) rfl ?_
      refine AW.iload 4 (dcN_8 dcg_21 :) rfl ?_
      refine AW.ishr (dcN_9 dcg_21 :) ?_
      refine AW.iconst (dcN_10 dcg_21 :) ?_
      refine AW.iand (dcN_11 dcg_21 :) ?_
      refine AW.iload_n 2 (dcN_12 dcg_21 :) rfl ?_
      refine AW.ishl (dcN_13 dcg_21 :) ?_
      refine AW.ior (dcN_14 dcg_21 :) ?_
      obtain ⟨g3, e4, h⟩ := hBe h
      refine AW.iast kc_75 sk_75 k2 (dcN_15 dcg_21 :) e4 ?_
      refine AW.iinc (lv1 := [(5, iv (x5 + 1)), (0, rv z 6), (1, iv x1), (2, iv x2), (4, iv x4)]) 4 (dcN_16 dcg_21 :) rfl (by decide) rfl ?_
      refine AW.goto (tgt := 63) (dcN_17 dcg_21 :) (by decide) ?_
      refine AW.sub (lv1 := [(0, rv z 6), (1, iv x1), (2, iv x2), (4, iv x4), (5, iv (x5 + 1))]) [1, 2, 3, 4, 0] rfl ?_
      exact (ih _ _ _ _ _ _ h).2 rfl
theorem Boats_settleTonight_ok {z : AZ} {x1 : Int} {g : AG} {r : Int × AG} (h : Boats_settleTonight x1 g = some r) : AMf z yX0_settleTonight cX0_settleTonight 6 none 5 [rv z 6, iv x1] g r := by
  intro d hdd
  refine AM.of (by decide +kernel) (Nat.le_of_ble_eq_true rfl) ?_
  show AW z (RX0, cX0_settleTonight, 6, none) d (QD none r) 0 [(0, rv z 6), (1, iv x1)] [] g
  unfold Boats_settleTonight at h
  refine AW.aloadr_n 0 (dcN_0 dcg_19 :) rfl ?_
  refine AW.getR af_X0_35_6 sr_6_11 (dcN_1 dcg_19 :) ?_
  refine AW.iconst (dcN_2 dcg_19 :) ?_
  obtain ⟨g1, e2, h⟩ := hBe h
  refine AW.callSv (st := []) (fill_ok kc_75 sk_75 (by decide)) cf_X0_76 st_fill (Nat.le_trans (by decide) hdd) rfl (dcN_3 dcg_19 :) rfl (Nat.le_of_ble_eq_true rfl) ?_
  rw [← e2]
  refine AW.iconst (dcN_4 dcg_19 :) ?_
  refine AW.istore_n (lv1 := [(2, iv 0), (0, rv z 6), (1, iv x1)]) (dcN_5 dcg_19 :) (by decide) rfl ?_
  refine AW.sub (lv1 := [(0, rv z 6), (1, iv x1), (2, iv 0)]) [1, 2, 0] rfl ?_
  exact (Boats_settleTonight_b_ok hdd _ _ _ _ _ _ h).1 rfl
set_option synthInstance.maxHeartbeats 2000000 in
theorem Boats_crowd_b_ok {z : AZ} {d : Nat} (hdd : 1 ≤ d) {g : AG} : ∀ (x1 : Int) (x2 : Int) (r : Int), Boats_crowd_b g x1 x2 = some r → AW z (RX0, cX0_crowd, 3, (some .int)) d (QD (some .int) (r, g)) 4 [(0, rv z 6), (1, iv x1), (2, iv x2)] [] g := by
  refine Boats_crowd_b.partial_correctness g (fun x1 x2 r => AW z (RX0, cX0_crowd, 3, (some .int)) d (QD (some .int) (r, g)) 4 [(0, rv z 6), (1, iv x1), (2, iv x2)] [] g) ?_
  intro fb9 ih x1 x2 r h
  refine AW.iload_n 2 (dcN_4 dcg_25 :) rfl ?_
  refine AW.bipush (dcN_5 dcg_25 :) (by decide) (by decide) ?_
  refine AW.icmp_ge (tgt := 39) (dcN_6 dcg_25 :) (by decide) (fun c1 => ?_) (fun c1 => ?_)
  · replace h := hT h c1
    refine AW.iload_n 1 (dcN_10 dcg_26 :) rfl ?_
    exact AW.iret2 rfl (dcN_11 dcg_26 :) h rfl
  · replace h := hF h c1
    refine AW.aloadr_n 0 (dcN_7 dcg_25 :) rfl ?_
    refine AW.getR af_X0_35_6 sr_6_11 (dcN_8 dcg_25 :) ?_
    refine AW.iload_n 2 (dcN_9 dcg_25 :) rfl ?_
    obtain ⟨k2, h⟩ := hK h
    refine AW.iald kc_75 sk_75 k2 (dcN_10 dcg_25 :) ?_
    obtain ⟨r3, e4, h⟩ := hC h
    refine AW.callSi (As := [iv (g 75 (ix x2))]) (st := []) (Integer_bitCount_ok e4) cq_X0_93 st_J6_bitCount_0f7a4 (Nat.le_trans (by decide) hdd) rfl (dcN_11 dcg_25 :) rfl (Nat.le_of_ble_eq_true rfl) ?_
    refine AW.aloadr_n 0 (dcN_0 dcg_26 :) rfl ?_
    refine AW.getR af_X0_35_6 sr_6_11 (dcN_1 dcg_26 :) ?_
    refine AW.iload_n 1 (dcN_2 dcg_26 :) rfl ?_
    obtain ⟨k5, h⟩ := hK h
    refine AW.iald kc_75 sk_75 k5 (dcN_3 dcg_26 :) ?_
    obtain ⟨r6, e7, h⟩ := hC h
    refine AW.callSi (As := [iv (g 75 (ix x1))]) (st := [iv r3]) (Integer_bitCount_ok e7) cq_X0_93 st_J6_bitCount_0f7a4 (Nat.le_trans (by decide) hdd) rfl (dcN_4 dcg_26 :) rfl (Nat.le_of_ble_eq_true rfl) ?_
    obtain ⟨r9, e10, h⟩ := hC h
    refine AW.join (tgt := 33) (lv1 := [(0, rv z 6), (1, iv r9), (2, iv x2)]) (st1 := []) (g1 := g) ?_ (fun J28 => ?_)
    · refine AW.iinc (lv1 := [(2, iv (x2 + 1)), (0, rv z 6), (1, iv r9)]) 2 (dcN_8 dcg_26 :) rfl (by decide) rfl ?_
      refine AW.goto (tgt := 4) (dcN_9 dcg_26 :) (by decide) ?_
      refine AW.sub (lv1 := [(0, rv z 6), (1, iv r9), (2, iv (x2 + 1))]) [1, 2, 0] rfl ?_
      exact ih _ _ _ h
    replace h := e10
    refine AW.icmp_le (tgt := 33) (dcN_5 dcg_26 :) (by decide) (fun c8 => ?_) (fun c8 => ?_)
    · replace h := hT h c8
      cases h
      exact J28
    · replace h := hF h c8
      refine AW.iload_n 2 (dcN_6 dcg_26 :) rfl ?_
      refine AW.istore_n (lv1 := [(1, iv x2), (0, rv z 6), (2, iv x2)]) (dcN_7 dcg_26 :) (by decide) rfl ?_
      refine AW.sub (lv1 := [(0, rv z 6), (1, iv x2), (2, iv x2)]) [1, 0, 2] rfl ?_
      cases h
      exact J28
theorem Boats_crowd_ok {z : AZ} {g : AG} {r : Int} (h : Boats_crowd g = some r) : AMf z yX0_crowd cX0_crowd 3 (some .int) 1 [rv z 6] g (r, g) := by
  intro d hdd
  refine AM.of (by decide +kernel) (Nat.le_of_ble_eq_true rfl) ?_
  show AW z (RX0, cX0_crowd, 3, (some .int)) d (QD (some .int) (r, g)) 0 [(0, rv z 6)] [] g
  unfold Boats_crowd at h
  refine AW.iconst (dcN_0 dcg_25 :) ?_
  refine AW.istore_n (lv1 := [(1, iv 0), (0, rv z 6)]) (dcN_1 dcg_25 :) (by decide) rfl ?_
  refine AW.iconst (dcN_2 dcg_25 :) ?_
  refine AW.istore_n (lv1 := [(2, iv 1), (1, iv 0), (0, rv z 6)]) (dcN_3 dcg_25 :) (by decide) rfl ?_
  refine AW.sub (lv1 := [(0, rv z 6), (1, iv 0), (2, iv 1)]) [2, 1, 0] rfl ?_
  exact Boats_crowd_b_ok hdd _ _ _ h
theorem X_tonight_ok {z : AZ} {x1 : Int} {x2 : Int} {g : AG} {r : Int × AG} (h : X_tonight x1 x2 g = some r) : AMf z yX11_tonight cX11_tonight 4 (some .int) 6 [rv z 0, iv x1, iv x2] g r := by
  intro d hdd
  refine AM.of (by decide +kernel) (Nat.le_of_ble_eq_true rfl) ?_
  show AW z (RX11, cX11_tonight, 4, (some .int)) d (QD (some .int) r) 0 [(0, rv z 0), (1, iv x1), (2, iv x2)] [] g
  unfold X_tonight at h
  refine AW.iload_n 1 (dcN_0 dcg_406 :) rfl ?_
  refine AW.callSi (As := [iv x1]) (st := []) X_isTime_ok cq_X11_114 st_X11_isTime (Nat.le_trans (by decide) hdd) rfl (dcN_1 dcg_406 :) rfl (Nat.le_of_ble_eq_true rfl) ?_
  refine AW.if_eq (tgt := 17) (dcN_2 dcg_406 :) (by decide) (fun c1 => ?_) (fun c1 => ?_)
  · replace h := hT h c1
    refine AW.iconst (dcN_8 dcg_406 :) ?_
    exact AW.iret1 rfl (dcN_9 dcg_406 :) h rfl
  · replace h := hF h c1
    refine AW.iload_n 2 (dcN_3 dcg_406 :) rfl ?_
    refine AW.iconst (dcN_4 dcg_406 :) ?_
    refine AW.bipush (dcN_5 dcg_406 :) (by decide) (by decide) ?_
    refine AW.callSi (As := [iv x2, iv 0, iv 17]) (st := []) X_within_ok cq_X11_99 st_X11_within (Nat.le_trans (by decide) hdd) rfl (dcN_6 dcg_406 :) rfl (Nat.le_of_ble_eq_true rfl) ?_
    refine AW.if_ne (tgt := 19) (dcN_7 dcg_406 :) (by decide) (fun c2 => ?_) (fun c2 => ?_)
    · replace h := hF h c2
      refine AW.aloadr_n 0 (dcN_10 dcg_406 :) rfl ?_
      refine AW.getR af_X11_49_0 sr_0_5 (dcN_11 dcg_406 :) ?_
      refine AW.iload_n 1 (dcN_12 dcg_406 :) rfl ?_
      obtain ⟨r3, e4, h⟩ := hC h
      refine AW.callVv (As := [iv x1]) (st := []) (Boats_settleTonight_ok e4) cq_X11_237 cr_6_X0_settleTonight (Nat.le_trans (by decide) hdd) rfl (dcN_13 dcg_406 :) rfl (Nat.le_of_ble_eq_true rfl) ?_
      refine AW.iload_n 2 (dcN_14 dcg_406 :) rfl ?_
      refine AW.bipush (dcN_15 dcg_406 :) (by decide) (by decide) ?_
      refine AW.icmp_ge (tgt := 43) (dcN_16 dcg_406 :) (by decide) (fun c5 => ?_) (fun c5 => ?_)
      · replace h := hT h c5
        refine AW.aloadr_n 0 (dcN_6 dcg_407 :) rfl ?_
        refine AW.getR af_X11_49_0 sr_0_5 (dcN_7 dcg_407 :) ?_
        obtain ⟨r6, e7, h⟩ := hC h
        refine AW.callVi (As := []) (st := []) (Boats_crowd_ok e7) cq_X11_243 cr_6_X0_crowd (Nat.le_trans (by decide) hdd) rfl (dcN_8 dcg_407 :) rfl (Nat.le_of_ble_eq_true rfl) ?_
        refine AW.istore_n (lv1 := [(3, iv r6), (0, rv z 0), (1, iv x1), (2, iv x2)]) (dcN_9 dcg_407 :) (by decide) rfl ?_
        refine AW.iload_n 3 (dcN_10 dcg_407 :) rfl ?_
        refine AW.bipush (dcN_11 dcg_407 :) (by decide) (by decide) ?_
        obtain ⟨r12, e13, h⟩ := hC h
        refine AW.join (tgt := 73) (lv1 := []) (st1 := [iv r12.1]) (g1 := r12.2) ?_ (fun J54 => ?_)
        · exact AW.iret1 rfl (dcN_4 dcg_408 :) h rfl
        replace h := e13
        refine AW.icmp_ne (tgt := 61) (dcN_12 dcg_407 :) (by decide) (fun c8 => ?_) (fun c8 => ?_)
        · replace h := hF h c8
          refine AW.aloadr_n 1 (dcN_15 dcg_407 :) rfl ?_
          refine AW.getR af_X11_49_0 sr_0_5 (dcN_16 dcg_407 :) ?_
          refine AW.getR af_X11_240_6 sr_6_11 (dcN_0 dcg_408 :) ?_
          refine AW.iload_n 0 (dcN_1 dcg_408 :) rfl ?_
          obtain ⟨k9, h⟩ := hK h
          refine AW.iald kc_75 sk_75 k9 (dcN_2 dcg_408 :) ?_
          obtain ⟨r10, e11, h⟩ := hC h
          refine AW.callSi (As := [iv (r3.2 75 (ix r6))]) (st := []) (Integer_bitCount_ok e11) cq_X11_232 st_J6_bitCount_0f7a4 (Nat.le_trans (by decide) hdd) rfl (dcN_3 dcg_408 :) rfl (Nat.le_of_ble_eq_true rfl) ?_
          refine AW.sub (lv1 := []) [] rfl ?_
          cases h
          exact J54
        · replace h := hT h c8
          refine AW.iload_n 0 (dcN_13 dcg_407 :) rfl ?_
          refine AW.goto (tgt := 73) (dcN_14 dcg_407 :) (by decide) ?_
          refine AW.sub (lv1 := []) [] rfl ?_
          cases h
          exact J54
      · replace h := hF h c5
        refine AW.aloadr_n 0 (dcN_0 dcg_407 :) rfl ?_
        refine AW.getR af_X11_49_0 sr_0_5 (dcN_1 dcg_407 :) ?_
        refine AW.getR af_X11_240_6 sr_6_11 (dcN_2 dcg_407 :) ?_
        refine AW.iload_n 2 (dcN_3 dcg_407 :) rfl ?_
        obtain ⟨k14, h⟩ := hK h
        refine AW.iald kc_75 sk_75 k14 (dcN_4 dcg_407 :) ?_
        exact AW.iret1 rfl (dcN_5 dcg_407 :) h rfl
    · replace h := hT h c2
      refine AW.iconst (dcN_8 dcg_406 :) ?_
      exact AW.iret1 rfl (dcN_9 dcg_406 :) h rfl
theorem LockQueue_minutesOf_8_84_ok {z : AZ} {x2 : Int} {g : AG} {r : Int} (h : LockQueue_minutesOf_8_84 x2 g = some r) : AMf z yX3_minutesOf cX3_minutesOf 3 (some .int) 0 [rv z 8, rv z 84, iv x2] g (r, g) := by
  intro d hdd
  refine AM.of (by decide +kernel) (Nat.le_of_ble_eq_true rfl) ?_
  show AW z (RX3, cX3_minutesOf, 3, (some .int)) d (QD (some .int) (r, g)) 0 [(0, rv z 8), (1, rv z 84), (2, iv x2)] [] g
  unfold LockQueue_minutesOf_8_84 at h
  refine AW.iload_n 2 (dcN_0 dcg_90 :) rfl ?_
  obtain ⟨r9, e10, h⟩ := hC h
  refine AW.join (tgt := 32) (lv1 := []) (st1 := [iv r9]) (g1 := g) ?_ (fun J1 => ?_)
  · exact AW.iret2 rfl (dcN_8 dcg_91 :) h rfl
  replace h := e10
  refine AW.if_le (tgt := 30) (dcN_1 dcg_90 :) (by decide) (fun c1 => ?_) (fun c1 => ?_)
  · replace h := hT h c1
    refine AW.bipush (dcN_7 dcg_91 :) (by decide) (by decide) ?_
    refine AW.sub (lv1 := []) [] rfl ?_
    cases h
    exact J1
  · replace h := hF h c1
    refine AW.aloadr_n 0 (dcN_2 dcg_90 :) rfl ?_
    refine AW.getR af_X3_15_8 sr_8_1 (dcN_3 dcg_90 :) ?_
    refine AW.aloadr_n 1 (dcN_4 dcg_90 :) rfl ?_
    refine AW.iload_n 2 (dcN_5 dcg_90 :) rfl ?_
    obtain ⟨k2, h⟩ := hK h
    refine AW.iald kc_84 sk_84 k2 (dcN_6 dcg_90 :) ?_
    obtain ⟨k3, h⟩ := hK h
    refine AW.iald kc_82 sk_82 k3 (dcN_7 dcg_90 :) ?_
    refine AW.aloadr_n 0 (dcN_8 dcg_90 :) rfl ?_
    refine AW.getR af_X3_15_8 sr_8_1 (dcN_9 dcg_90 :) ?_
    refine AW.aloadr_n 1 (dcN_10 dcg_90 :) rfl ?_
    refine AW.iload_n 2 (dcN_11 dcg_90 :) rfl ?_
    refine AW.iconst (dcN_0 dcg_91 :) ?_
    refine AW.isub (dcN_1 dcg_91 :) ?_
    obtain ⟨k4, h⟩ := hK h
    refine AW.iald kc_84 sk_84 k4 (dcN_2 dcg_91 :) ?_
    obtain ⟨k5, h⟩ := hK h
    refine AW.iald kc_82 sk_82 k5 (dcN_3 dcg_91 :) ?_
    obtain ⟨t6, e7, h⟩ := hBe h
    refine AW.join (tgt := 32) (lv1 := [(0, rv z 8), (1, rv z 84), (2, iv x2)]) (st1 := [iv t6]) (g1 := g) ?_ (fun J22 => ?_)
    · refine AW.sub (lv1 := []) [] rfl ?_
      cases h
      exact J1
    refine AW.icmp_ne (tgt := 30) (dcN_4 dcg_91 :) (by decide) (fun c8 => ?_) (fun c8 => ?_)
    · refine AW.bipush (dcN_7 dcg_91 :) (by decide) (by decide) ?_
      exact AW.val (e7.trans (if_neg c8)) J22
    · refine AW.bipush (dcN_5 dcg_91 :) (by decide) (by decide) ?_
      refine AW.goto (tgt := 32) (dcN_6 dcg_91 :) (by decide) ?_
      exact AW.val (e7.trans (if_pos c8)) J22
set_option synthInstance.maxHeartbeats 2000000 in
theorem LockQueue_waitOf_b_ok {z : AZ} {d : Nat} (hdd : 1 ≤ d) {g : AG} : ∀ (x2 : Int) (x3 : Int) (x4 : Int) (r : Int), LockQueue_waitOf_b g x2 x3 x4 = some r → AW z (RX3, cX3_waitOf, 6, (some .int)) d (QD (some .int) (r, g)) 7 [(0, rv z 8), (1, rv z 84), (2, iv x2), (3, iv x3), (4, iv x4)] [] g := by
  refine LockQueue_waitOf_b.partial_correctness g (fun x2 x3 x4 r => AW z (RX3, cX3_waitOf, 6, (some .int)) d (QD (some .int) (r, g)) 7 [(0, rv z 8), (1, rv z 84), (2, iv x2), (3, iv x3), (4, iv x4)] [] g) ?_
  intro fb9 ih x2 x3 x4 r h
  refine AW.iload 4 (dcN_6 dcg_87 :) rfl ?_
  refine AW.aloadr_n 0 (dcN_7 dcg_87 :) rfl ?_
  refine AW.getI af_X3_24_8 sr_8_2 (dcN_8 dcg_87 :) ?_
  refine AW.icmp_ge (tgt := 63) (dcN_9 dcg_87 :) (by decide) (fun c1 => ?_) (fun c1 => ?_)
  · replace h := hT h c1
    refine AW.iload_n 2 (dcN_19 dcg_88 :) rfl ?_
    exact AW.iret2 rfl (dcN_0 dcg_89 :) h rfl
  · replace h := hF h c1
    refine AW.aloadr_n 0 (dcN_10 dcg_87 :) rfl ?_
    refine AW.getR af_X3_9_8 sr_8_0 (dcN_11 dcg_87 :) ?_
    refine AW.aloadr_n 1 (dcN_12 dcg_87 :) rfl ?_
    refine AW.iload 4 (dcN_13 dcg_87 :) rfl ?_
    obtain ⟨k2, h⟩ := hK h
    refine AW.iald kc_84 sk_84 k2 (dcN_14 dcg_87 :) ?_
    obtain ⟨k3, h⟩ := hK h
    refine AW.iald kc_81 sk_81 k3 (dcN_15 dcg_87 :) ?_
    refine AW.iload_n 3 (dcN_16 dcg_87 :) rfl ?_
    refine AW.mmax (st := []) cm_X3_45 mst_max mini mcd_max (Nat.le_trans (by decide) hdd) (Nat.le_of_ble_eq_true rfl) (dcN_17 dcg_87 :) ?_
    refine AW.istore (lv1 := [(5, iv (mxI (g 81 (ix (g 84 (ix x4)))) x3)), (0, rv z 8), (1, rv z 84), (2, iv x2), (3, iv x3), (4, iv x4)]) (dcN_18 dcg_87 :) (by decide) rfl ?_
    refine AW.iload_n 3 (dcN_19 dcg_87 :) rfl ?_
    refine AW.iload 0 (dcN_0 dcg_88 :) rfl ?_
    refine AW.aloadr_n 1 (dcN_1 dcg_88 :) rfl ?_
    refine AW.getR af_X3_9_8 sr_8_0 (dcN_2 dcg_88 :) ?_
    refine AW.aloadr_n 2 (dcN_3 dcg_88 :) rfl ?_
    refine AW.iload 5 (dcN_4 dcg_88 :) rfl ?_
    refine AW.iald kc_84 sk_84 k2 (dcN_5 dcg_88 :) ?_
    refine AW.iald kc_81 sk_81 k3 (dcN_6 dcg_88 :) ?_
    refine AW.isub (dcN_7 dcg_88 :) ?_
    refine AW.iadd (dcN_8 dcg_88 :) ?_
    obtain ⟨t4, e5, h⟩ := hBe h
    refine AW.val e5 ?_
    refine AW.istore_n (lv1 := [(2, iv t4), (5, iv (mxI (g 81 (ix (g 84 (ix x4)))) x3)), (0, rv z 8), (1, rv z 84), (3, iv x3), (4, iv x4)]) (dcN_9 dcg_88 :) (by decide) rfl ?_
    refine AW.iload 1 (dcN_10 dcg_88 :) rfl ?_
    refine AW.aloadr_n 2 (dcN_11 dcg_88 :) rfl ?_
    refine AW.aloadr_n 3 (dcN_12 dcg_88 :) rfl ?_
    refine AW.iload 5 (dcN_13 dcg_88 :) rfl ?_
    obtain ⟨r6, e7, h⟩ := hC h
    refine AW.callVi (As := [rv z 84, iv x4]) (st := [iv (mxI (g 81 (ix (g 84 (ix x4)))) x3)]) (LockQueue_minutesOf_8_84_ok e7) cq_X3_51 cr_8_X3_minutesOf (Nat.le_trans (by decide) hdd) rfl (dcN_14 dcg_88 :) rfl (Nat.le_of_ble_eq_true rfl) ?_
    refine AW.iadd (dcN_15 dcg_88 :) ?_
    refine AW.istore_n (lv1 := [(3, iv ((mxI (g 81 (ix (g 84 (ix x4)))) x3) + r6)), (2, iv t4), (5, iv (mxI (g 81 (ix (g 84 (ix x4)))) x3)), (0, rv z 8), (1, rv z 84), (4, iv x4)]) (dcN_16 dcg_88 :) (by decide) rfl ?_
    refine AW.iinc (lv1 := [(4, iv (x4 + 1)), (3, iv ((mxI (g 81 (ix (g 84 (ix x4)))) x3) + r6)), (2, iv t4), (5, iv (mxI (g 81 (ix (g 84 (ix x4)))) x3)), (0, rv z 8), (1, rv z 84)]) 5 (dcN_17 dcg_88 :) rfl (by decide) rfl ?_
    refine AW.goto (tgt := 7) (dcN_18 dcg_88 :) (by decide) ?_
    refine AW.sub (lv1 := [(0, rv z 8), (1, rv z 84), (2, iv t4), (3, iv ((mxI (g 81 (ix (g 84 (ix x4)))) x3) + r6)), (4, iv (x4 + 1))]) [4, 5, 2, 1, 0] rfl ?_
    exact ih _ _ _ _ h
theorem LockQueue_waitOf_ok {z : AZ} {g : AG} {r : Int} (h : LockQueue_waitOf g = some r) : AMf z yX3_waitOf cX3_waitOf 6 (some .int) 1 [rv z 8, rv z 84] g (r, g) := by
  intro d hdd
  refine AM.of (by decide +kernel) (Nat.le_of_ble_eq_true rfl) ?_
  show AW z (RX3, cX3_waitOf, 6, (some .int)) d (QD (some .int) (r, g)) 0 [(0, rv z 8), (1, rv z 84)] [] g
  unfold LockQueue_waitOf at h
  refine AW.iconst (dcN_0 dcg_87 :) ?_
  refine AW.istore_n (lv1 := [(2, iv 0), (0, rv z 8), (1, rv z 84)]) (dcN_1 dcg_87 :) (by decide) rfl ?_
  refine AW.iconst (dcN_2 dcg_87 :) ?_
  refine AW.istore_n (lv1 := [(3, iv 0), (2, iv 0), (0, rv z 8), (1, rv z 84)]) (dcN_3 dcg_87 :) (by decide) rfl ?_
  refine AW.iconst (dcN_4 dcg_87 :) ?_
  refine AW.istore (lv1 := [(4, iv 0), (3, iv 0), (2, iv 0), (0, rv z 8), (1, rv z 84)]) (dcN_5 dcg_87 :) (by decide) rfl ?_
  refine AW.sub (lv1 := [(0, rv z 8), (1, rv z 84), (2, iv 0), (3, iv 0), (4, iv 0)]) [3, 4, 2, 1, 0] rfl ?_
  exact LockQueue_waitOf_b_ok hdd _ _ _ _ h
theorem LockQueue_minutesOf_8_83_ok {z : AZ} {x2 : Int} {g : AG} {r : Int} (h : LockQueue_minutesOf_8_83 x2 g = some r) : AMf z yX3_minutesOf cX3_minutesOf 3 (some .int) 0 [rv z 8, rv z 83, iv x2] g (r, g) := by
  intro d hdd
  refine AM.of (by decide +kernel) (Nat.le_of_ble_eq_true rfl) ?_
  show AW z (RX3, cX3_minutesOf, 3, (some .int)) d (QD (some .int) (r, g)) 0 [(0, rv z 8), (1, rv z 83), (2, iv x2)] [] g
  unfold LockQueue_minutesOf_8_83 at h
  refine AW.iload_n 2 (dcN_0 dcg_90 :) rfl ?_
  obtain ⟨r9, e10, h⟩ := hC h
  refine AW.join (tgt := 32) (lv1 := []) (st1 := [iv r9]) (g1 := g) ?_ (fun J1 => ?_)
  · exact AW.iret2 rfl (dcN_8 dcg_91 :) h rfl
  replace h := e10
  refine AW.if_le (tgt := 30) (dcN_1 dcg_90 :) (by decide) (fun c1 => ?_) (fun c1 => ?_)
  · replace h := hT h c1
    refine AW.bipush (dcN_7 dcg_91 :) (by decide) (by decide) ?_
    refine AW.sub (lv1 := []) [] rfl ?_
    cases h
    exact J1
  · replace h := hF h c1
    refine AW.aloadr_n 0 (dcN_2 dcg_90 :) rfl ?_
    refine AW.getR af_X3_15_8 sr_8_1 (dcN_3 dcg_90 :) ?_
    refine AW.aloadr_n 1 (dcN_4 dcg_90 :) rfl ?_
    refine AW.iload_n 2 (dcN_5 dcg_90 :) rfl ?_
    obtain ⟨k2, h⟩ := hK h
    refine AW.iald kc_83 sk_83 k2 (dcN_6 dcg_90 :) ?_
    obtain ⟨k3, h⟩ := hK h
    refine AW.iald kc_82 sk_82 k3 (dcN_7 dcg_90 :) ?_
    refine AW.aloadr_n 0 (dcN_8 dcg_90 :) rfl ?_
    refine AW.getR af_X3_15_8 sr_8_1 (dcN_9 dcg_90 :) ?_
    refine AW.aloadr_n 1 (dcN_10 dcg_90 :) rfl ?_
    refine AW.iload_n 2 (dcN_11 dcg_90 :) rfl ?_
    refine AW.iconst (dcN_0 dcg_91 :) ?_
    refine AW.isub (dcN_1 dcg_91 :) ?_
    obtain ⟨k4, h⟩ := hK h
    refine AW.iald kc_83 sk_83 k4 (dcN_2 dcg_91 :) ?_
    obtain ⟨k5, h⟩ := hK h
    refine AW.iald kc_82 sk_82 k5 (dcN_3 dcg_91 :) ?_
    obtain ⟨t6, e7, h⟩ := hBe h
    refine AW.join (tgt := 32) (lv1 := [(0, rv z 8), (1, rv z 83), (2, iv x2)]) (st1 := [iv t6]) (g1 := g) ?_ (fun J22 => ?_)
    · refine AW.sub (lv1 := []) [] rfl ?_
      cases h
      exact J1
    refine AW.icmp_ne (tgt := 30) (dcN_4 dcg_91 :) (by decide) (fun c8 => ?_) (fun c8 => ?_)
    · refine AW.bipush (dcN_7 dcg_91 :) (by decide) (by decide) ?_
      exact AW.val (e7.trans (if_neg c8)) J22
    · refine AW.bipush (dcN_5 dcg_91 :) (by decide) (by decide) ?_
      refine AW.goto (tgt := 32) (dcN_6 dcg_91 :) (by decide) ?_
      exact AW.val (e7.trans (if_pos c8)) J22
set_option synthInstance.maxHeartbeats 2000000 in
theorem LockQueue_putNext_b_ok {z : AZ} {rec : Int → Int → Int → Int → AG → Option (Int × AG)} {Dr : Nat} (hC9 : 1 ≤ Dr) (hrec : ∀ (x1 : Int) (x2 : Int) (x3 : Int) (x4 : Int) (g : AG) (r : Int × AG), rec x1 x2 x3 x4 g = some r → AMf z yX3_putNext cX3_putNext 8 none Dr [rv z 8, iv x1, iv x2, iv x3, iv x4] g r) {d : Nat} (hdd : Dr + 1 ≤ d) {x1 : Int} {x2 : Int} {x3 : Int} {x4 : Int} : ∀ (x5 : Int) (g : AG) (r : Int × AG), LockQueue_putNext_b rec x1 x2 x3 x4 x5 g = some r → AW z (RX3, cX3_putNext, 8, none) d (QD none r) 35 [(0, rv z 8), (1, iv x1), (2, iv x2), (3, iv x3), (4, iv x4), (5, iv x5)] [] g := by
  refine LockQueue_putNext_b.partial_correctness rec x1 x2 x3 x4 (fun x5 g r => AW z (RX3, cX3_putNext, 8, none) d (QD none r) 35 [(0, rv z 8), (1, iv x1), (2, iv x2), (3, iv x3), (4, iv x4), (5, iv x5)] [] g) ?_
  intro fb9 ih x5 g r h
  refine AW.iload 5 (dcN_2 dcg_93 :) rfl ?_
  refine AW.aloadr_n 0 (dcN_3 dcg_93 :) rfl ?_
  refine AW.getI af_X3_24_8 sr_8_2 (dcN_4 dcg_93 :) ?_
  refine AW.icmp_ge (tgt := 131) (dcN_5 dcg_93 :) (by decide) (fun c1 => ?_) (fun c1 => ?_)
  · replace h := hT h c1
    exact AW.vret1 rfl (dcN_1 dcg_96 :) h rfl
  · replace h := hF h c1
    refine AW.aloadr_n 0 (dcN_6 dcg_93 :) rfl ?_
    refine AW.getR af_X3_9_8 sr_8_0 (dcN_7 dcg_93 :) ?_
    refine AW.iload 5 (dcN_8 dcg_93 :) rfl ?_
    obtain ⟨k2, h⟩ := hK h
    refine AW.iald kc_81 sk_81 k2 (dcN_9 dcg_93 :) ?_
    refine AW.iload_n 3 (dcN_10 dcg_93 :) rfl ?_
    refine AW.mmax (st := []) cm_X3_45 mst_max mini mcd_max (by omega) (Nat.le_of_ble_eq_true rfl) (dcN_11 dcg_93 :) ?_
    refine AW.istore (lv1 := [(6, iv (mxI (g 81 (ix x5)) x3)), (0, rv z 8), (1, iv x1), (2, iv x2), (3, iv x3), (4, iv x4), (5, iv x5)]) (dcN_12 dcg_93 :) (by decide) rfl ?_
    refine AW.iload 5 (dcN_13 dcg_93 :) rfl ?_
    refine AW.iload 0 (dcN_14 dcg_93 :) rfl ?_
    refine AW.iadd (dcN_15 dcg_93 :) ?_
    refine AW.aloadr_n 1 (dcN_16 dcg_93 :) rfl ?_
    refine AW.getR af_X3_9_8 sr_8_0 (dcN_17 dcg_93 :) ?_
    refine AW.iload 6 (dcN_0 dcg_94 :) rfl ?_
    refine AW.iald kc_81 sk_81 k2 (dcN_1 dcg_94 :) ?_
    refine AW.isub (dcN_2 dcg_94 :) ?_
    refine AW.istore (lv1 := [(7, iv ((x4 + (mxI (g 81 (ix x5)) x3)) - (g 81 (ix x5)))), (6, iv (mxI (g 81 (ix x5)) x3)), (0, rv z 8), (1, iv x1), (2, iv x2), (3, iv x3), (4, iv x4), (5, iv x5)]) (dcN_3 dcg_94 :) (by decide) rfl ?_
    refine AW.iload_n 4 (dcN_4 dcg_94 :) rfl ?_
    refine AW.iload 7 (dcN_5 dcg_94 :) rfl ?_
    refine AW.ishr (dcN_6 dcg_94 :) ?_
    refine AW.iconst (dcN_7 dcg_94 :) ?_
    refine AW.iand (dcN_8 dcg_94 :) ?_
    obtain ⟨r12, e13, h⟩ := hC h
    refine AW.join (tgt := 125) (lv1 := [(0, rv z 8), (1, iv x1), (2, iv x2), (3, iv x3), (4, iv x4), (5, iv x5)]) (st1 := []) (g1 := r12) ?_ (fun J78 => ?_)
    · refine AW.iinc (lv1 := [(5, iv (x5 + 1)), (0, rv z 8), (1, iv x1), (2, iv x2), (3, iv x3), (4, iv x4)]) 5 (dcN_19 dcg_95 :) rfl (by decide) rfl ?_
      refine AW.goto (tgt := 35) (dcN_0 dcg_96 :) (by decide) ?_
      refine AW.sub (lv1 := [(0, rv z 8), (1, iv x1), (2, iv x2), (3, iv x3), (4, iv x4), (5, iv (x5 + 1))]) [1, 2, 3, 4, 5, 0] rfl ?_
      exact ih _ _ _ h
    replace h := e13
    refine AW.if_ne (tgt := 125) (dcN_9 dcg_94 :) (by decide) (fun c3 => ?_) (fun c3 => ?_)
    · replace h := hF h c3
      refine AW.sub (lv1 := [(0, rv z 8), (1, iv x1), (2, iv x2), (3, iv x3), (4, iv x4), (5, iv x5)]) [2, 3, 4, 5, 6, 7] rfl ?_
      cases h
      exact J78
    · replace h := hT h c3
      refine AW.iload 0 (dcN_10 dcg_94 :) rfl ?_
      refine AW.aloadr_n 2 (dcN_11 dcg_94 :) rfl ?_
      refine AW.getI af_X3_31_8 sr_8_4 (dcN_12 dcg_94 :) ?_
      refine AW.icmp_ge (tgt := 125) (dcN_13 dcg_94 :) (by decide) (fun c4 => ?_) (fun c4 => ?_)
      · replace h := hT h c4
        refine AW.sub (lv1 := [(0, rv z 8), (1, iv x1), (2, iv x2), (3, iv x3), (4, iv x4), (5, iv x5)]) [2, 3, 4, 5, 6, 7] rfl ?_
        cases h
        exact J78
      · replace h := hF h c4
        refine AW.aloadr_n 2 (dcN_14 dcg_94 :) rfl ?_
        refine AW.getR af_X3_18_8 sr_8_5 (dcN_15 dcg_94 :) ?_
        refine AW.iload_n 3 (dcN_16 dcg_94 :) rfl ?_
        refine AW.iload 7 (dcN_17 dcg_94 :) rfl ?_
        obtain ⟨k5, h⟩ := hK h
        obtain ⟨g6, e7, h⟩ := hBe h
        refine AW.iast kc_83 sk_83 k5 (dcN_0 dcg_95 :) e7 ?_
        refine AW.aloadr_n 2 (dcN_1 dcg_95 :) rfl ?_
        refine AW.iload_n 3 (dcN_2 dcg_95 :) rfl ?_
        refine AW.iconst (dcN_3 dcg_95 :) ?_
        refine AW.iadd (dcN_4 dcg_95 :) ?_
        refine AW.iload_n 4 (dcN_5 dcg_95 :) rfl ?_
        refine AW.iconst (dcN_6 dcg_95 :) ?_
        refine AW.iload 7 (dcN_7 dcg_95 :) rfl ?_
        refine AW.ishl (dcN_8 dcg_95 :) ?_
        refine AW.ior (dcN_9 dcg_95 :) ?_
        refine AW.iload 1 (dcN_10 dcg_95 :) rfl ?_
        refine AW.aloadr_n 2 (dcN_11 dcg_95 :) rfl ?_
        refine AW.aloadr_n 2 (dcN_12 dcg_95 :) rfl ?_
        refine AW.getR af_X3_18_8 sr_8_5 (dcN_13 dcg_95 :) ?_
        refine AW.iload_n 3 (dcN_14 dcg_95 :) rfl ?_
        obtain ⟨r8, e9, h⟩ := hC h
        refine AW.callVi (As := [rv z 83, iv x1]) (st := [iv (mxI (g 81 (ix x5)) x3), iv (orI x2 (shlI 1 x5)), iv (x1 + 1), rv z 8]) (LockQueue_minutesOf_8_83_ok e9) cq_X3_51 cr_8_X3_minutesOf (by omega) rfl (dcN_15 dcg_95 :) rfl (Nat.le_of_ble_eq_true rfl) ?_
        refine AW.iadd (dcN_16 dcg_95 :) ?_
        refine AW.iload 0 (dcN_17 dcg_95 :) rfl ?_
        obtain ⟨r10, e11, h⟩ := hC h
        refine AW.callSv (As := [rv z 8, iv (x1 + 1), iv (orI x2 (shlI 1 x5)), iv ((mxI (g 81 (ix x5)) x3) + r8), iv ((x4 + (mxI (g 81 (ix x5)) x3)) - (g 81 (ix x5)))]) (st := []) (hrec _ _ _ _ _ _ e11) cq_X3_41 st_X3_putNext (by omega) rfl (dcN_18 dcg_95 :) rfl (Nat.le_of_ble_eq_true rfl) ?_
        refine AW.sub (lv1 := [(0, rv z 8), (1, iv x1), (2, iv x2), (3, iv x3), (4, iv x4), (5, iv x5)]) [2, 3, 4, 5, 6, 7] rfl ?_
        cases h
        exact J78
theorem LockQueue_putNext_s_ok {z : AZ} {rec : Int → Int → Int → Int → AG → Option (Int × AG)} {Dr : Nat} (hC9 : 1 ≤ Dr) (hrec : ∀ (x1 : Int) (x2 : Int) (x3 : Int) (x4 : Int) (g : AG) (r : Int × AG), rec x1 x2 x3 x4 g = some r → AMf z yX3_putNext cX3_putNext 8 none Dr [rv z 8, iv x1, iv x2, iv x3, iv x4] g r) {x1 : Int} {x2 : Int} {x3 : Int} {x4 : Int} {g : AG} {r : Int × AG} (h : LockQueue_putNext_s rec x1 x2 x3 x4 g = some r) : AMf z yX3_putNext cX3_putNext 8 none (Dr + 1) [rv z 8, iv x1, iv x2, iv x3, iv x4] g r := by
  intro d hdd
  refine AM.of (by decide +kernel) (Nat.le_of_ble_eq_true rfl) ?_
  show AW z (RX3, cX3_putNext, 8, none) d (QD none r) 0 [(0, rv z 8), (1, iv x1), (2, iv x2), (3, iv x3), (4, iv x4)] [] g
  unfold LockQueue_putNext_s at h
  refine AW.iload_n 1 (dcN_0 dcg_92 :) rfl ?_
  refine AW.aloadr_n 0 (dcN_1 dcg_92 :) rfl ?_
  refine AW.getI af_X3_24_8 sr_8_2 (dcN_2 dcg_92 :) ?_
  refine AW.icmp_lt (tgt := 32) (dcN_3 dcg_92 :) (by decide) (fun c1 => ?_) (fun c1 => ?_)
  · replace h := hT h c1
    refine AW.iconst (dcN_0 dcg_93 :) ?_
    refine AW.istore (lv1 := [(5, iv 0), (0, rv z 8), (1, iv x1), (2, iv x2), (3, iv x3), (4, iv x4)]) (dcN_1 dcg_93 :) (by decide) rfl ?_
    refine AW.sub (lv1 := [(0, rv z 8), (1, iv x1), (2, iv x2), (3, iv x3), (4, iv x4), (5, iv 0)]) [1, 2, 3, 4, 5, 0] rfl ?_
    exact LockQueue_putNext_b_ok hC9 hrec hdd _ _ _ h
  · replace h := hF h c1
    refine AW.aloadr_n 0 (dcN_4 dcg_92 :) rfl ?_
    refine AW.iload 4 (dcN_5 dcg_92 :) rfl ?_
    obtain ⟨g2, e3, h⟩ := hBe h
    refine AW.putI ap_X3_31_8 sr_8_4 (dcN_6 dcg_92 :) e3 ?_
    refine AW.aloadr_n 0 (dcN_7 dcg_92 :) rfl ?_
    refine AW.getR af_X3_18_8 sr_8_5 (dcN_8 dcg_92 :) ?_
    refine AW.iconst (dcN_9 dcg_92 :) ?_
    refine AW.aloadr_n 0 (dcN_10 dcg_92 :) rfl ?_
    refine AW.getR af_X3_21_8 sr_8_6 (dcN_11 dcg_92 :) ?_
    refine AW.iconst (dcN_12 dcg_92 :) ?_
    refine AW.aloadr_n 0 (dcN_13 dcg_92 :) rfl ?_
    refine AW.getI af_X3_24_8 sr_8_2 (dcN_14 dcg_92 :) ?_
    obtain ⟨k4, h⟩ := hK h
    obtain ⟨g5, e6, h⟩ := hBe h
    refine AW.copyi cc_X3_55 ac_n ac_s ac_i kc_83 sk_83 kc_84 sk_84 ⟨by decide, by decide, k4.2.2.1, k4.2.2.2.1, k4.2.2.2.2⟩ (Nat.le_of_ble_eq_true rfl) (by omega) (dcN_15 dcg_92 :) e6 ?_
    exact AW.vret1 rfl (dcN_16 dcg_92 :) h rfl
theorem LockQueue_putNext_ok {z : AZ} {n : Nat} {x1 : Int} {x2 : Int} {x3 : Int} {x4 : Int} {g : AG} {r : Int × AG} (h : LockQueue_putNext n x1 x2 x3 x4 g = some r) : AMf z yX3_putNext cX3_putNext 8 none (1 + n * 1) [rv z 8, iv x1, iv x2, iv x3, iv x4] g r := by
  induction n generalizing x1 x2 x3 x4 g r with
  | zero => cases h
  | succ n ih =>
    have q := LockQueue_putNext_s_ok (z := z) (Dr := 1 + n * 1) (Nat.le_add_right _ _) (fun x1 x2 x3 x4 g r h9 => ih h9) h
    rw [show 1 + (n + 1) * 1 = 1 + n * 1 + 1 by rw [Nat.add_mul]; omega]
    exact q
set_option synthInstance.maxHeartbeats 2000000 in
theorem LockQueue_findBest_b_ok {z : AZ} {d : Nat} (hdd : 11 ≤ d) : ∀ (x1 : Int) (g : AG) (r : Int × AG), LockQueue_findBest_b x1 g = some r → AW z (RX3, cX3_findBest, 2, none) d (QD none r) 2 [(0, rv z 8), (1, iv x1)] [] g := by
  refine LockQueue_findBest_b.partial_correctness (fun x1 g r => AW z (RX3, cX3_findBest, 2, none) d (QD none r) 2 [(0, rv z 8), (1, iv x1)] [] g) ?_
  intro fb9 ih x1 g r h
  refine AW.iload_n 1 (dcN_2 dcg_85 :) rfl ?_
  refine AW.aloadr_n 0 (dcN_3 dcg_85 :) rfl ?_
  refine AW.getI af_X3_24_8 sr_8_2 (dcN_4 dcg_85 :) ?_
  refine AW.icmp_ge (tgt := 23) (dcN_5 dcg_85 :) (by decide) (fun c1 => ?_) (fun c1 => ?_)
  · replace h := hT h c1
    refine AW.aloadr_n 0 (dcN_13 dcg_85 :) rfl ?_
    refine AW.aloadr_n 0 (dcN_14 dcg_85 :) rfl ?_
    refine AW.aloadr_n 0 (dcN_15 dcg_85 :) rfl ?_
    refine AW.getR af_X3_21_8 sr_8_6 (dcN_16 dcg_85 :) ?_
    obtain ⟨r2, e3, h⟩ := hC h
    refine AW.callVi (As := [rv z 84]) (st := [rv z 8]) (LockQueue_waitOf_ok e3) cq_X3_37 cr_8_X3_waitOf (Nat.le_trans (by decide) hdd) rfl (dcN_17 dcg_85 :) rfl (Nat.le_of_ble_eq_true rfl) ?_
    obtain ⟨g4, e5, h⟩ := hBe h
    refine AW.putI ap_X3_28_8 sr_8_3 (dcN_0 dcg_86 :) e5 ?_
    refine AW.aloadr_n 0 (dcN_1 dcg_86 :) rfl ?_
    refine AW.aloadr_n 0 (dcN_2 dcg_86 :) rfl ?_
    refine AW.getI af_X3_28_8 sr_8_3 (dcN_3 dcg_86 :) ?_
    obtain ⟨g6, e7, h⟩ := hBe h
    refine AW.putI ap_X3_31_8 sr_8_4 (dcN_4 dcg_86 :) e7 ?_
    refine AW.aloadr_n 0 (dcN_5 dcg_86 :) rfl ?_
    refine AW.iconst (dcN_6 dcg_86 :) ?_
    refine AW.iconst (dcN_7 dcg_86 :) ?_
    refine AW.iconst (dcN_8 dcg_86 :) ?_
    refine AW.iconst (dcN_9 dcg_86 :) ?_
    obtain ⟨r8, e9, h⟩ := hC h
    refine AW.callSv (As := [rv z 8, iv 0, iv 0, iv 0, iv 0]) (st := []) ((LockQueue_putNext_ok (n := 9)) e9) cq_X3_41 st_X3_putNext (Nat.le_trans (by decide) hdd) rfl (dcN_10 dcg_86 :) rfl (Nat.le_of_ble_eq_true rfl) ?_
    exact AW.vret1 rfl (dcN_11 dcg_86 :) h rfl
  · replace h := hF h c1
    refine AW.aloadr_n 0 (dcN_6 dcg_85 :) rfl ?_
    refine AW.getR af_X3_21_8 sr_8_6 (dcN_7 dcg_85 :) ?_
    refine AW.iload_n 1 (dcN_8 dcg_85 :) rfl ?_
    refine AW.iload_n 1 (dcN_9 dcg_85 :) rfl ?_
    obtain ⟨k10, h⟩ := hK h
    obtain ⟨g11, e12, h⟩ := hBe h
    refine AW.iast kc_84 sk_84 k10 (dcN_10 dcg_85 :) e12 ?_
    refine AW.iinc (lv1 := [(1, iv (x1 + 1)), (0, rv z 8)]) 1 (dcN_11 dcg_85 :) rfl (by decide) rfl ?_
    refine AW.goto (tgt := 2) (dcN_12 dcg_85 :) (by decide) ?_
    refine AW.sub (lv1 := [(0, rv z 8), (1, iv (x1 + 1))]) [1, 0] rfl ?_
    exact ih _ _ _ h
theorem LockQueue_findBest_ok {z : AZ} {g : AG} {r : Int × AG} (h : LockQueue_findBest g = some r) : AMf z yX3_findBest cX3_findBest 2 none 11 [rv z 8] g r := by
  intro d hdd
  refine AM.of (by decide +kernel) (Nat.le_of_ble_eq_true rfl) ?_
  show AW z (RX3, cX3_findBest, 2, none) d (QD none r) 0 [(0, rv z 8)] [] g
  unfold LockQueue_findBest at h
  refine AW.iconst (dcN_0 dcg_85 :) ?_
  refine AW.istore_n (lv1 := [(1, iv 0), (0, rv z 8)]) (dcN_1 dcg_85 :) (by decide) rfl ?_
  refine AW.sub (lv1 := [(0, rv z 8), (1, iv 0)]) [1, 0] rfl ?_
  exact LockQueue_findBest_b_ok hdd _ _ _ h
set_option synthInstance.maxHeartbeats 2000000 in
theorem LockQueue_add_b_ok {z : AZ} {d : Nat} (hdd : 12 ≤ d) {x1 : Int} {x2 : Int} {g : AG} : ∀ (r : Int × AG), LockQueue_add_b x1 x2 g = some r → AW z (RX3, cX3_add, 3, (some .int)) d (QD (some .int) r) 33 [(0, rv z 8), (1, iv x1), (2, iv x2)] [] g := by
  intro r h
  unfold LockQueue_add_b at h
  refine AW.aloadr_n 0 (dcN_1 dcg_83 :) rfl ?_
  refine AW.getR af_X3_9_8 sr_8_0 (dcN_2 dcg_83 :) ?_
  refine AW.aloadr_n 0 (dcN_3 dcg_83 :) rfl ?_
  refine AW.getI af_X3_24_8 sr_8_2 (dcN_4 dcg_83 :) ?_
  refine AW.iload_n 1 (dcN_5 dcg_83 :) rfl ?_
  obtain ⟨k1, h⟩ := hK h
  obtain ⟨g2, e3, h⟩ := hBe h
  refine AW.iast kc_81 sk_81 k1 (dcN_6 dcg_83 :) e3 ?_
  refine AW.aloadr_n 0 (dcN_7 dcg_83 :) rfl ?_
  refine AW.getR af_X3_15_8 sr_8_1 (dcN_8 dcg_83 :) ?_
  refine AW.aloadr_n 0 (dcN_9 dcg_83 :) rfl ?_
  refine AW.getI af_X3_24_8 sr_8_2 (dcN_10 dcg_83 :) ?_
  refine AW.iload_n 2 (dcN_11 dcg_83 :) rfl ?_
  obtain ⟨k4, h⟩ := hK h
  obtain ⟨g5, e6, h⟩ := hBe h
  refine AW.iast kc_82 sk_82 k4 (dcN_12 dcg_83 :) e6 ?_
  refine AW.aloadr_n 0 (dcN_13 dcg_83 :) rfl ?_
  refine AW.duprr (dcN_14 dcg_83 :) ?_
  refine AW.getI af_X3_24_8 sr_8_2 (dcN_15 dcg_83 :) ?_
  refine AW.iconst (dcN_16 dcg_83 :) ?_
  refine AW.iadd (dcN_17 dcg_83 :) ?_
  obtain ⟨g7, e8, h⟩ := hBe h
  refine AW.putI ap_X3_24_8 sr_8_2 (dcN_18 dcg_83 :) e8 ?_
  refine AW.aloadr_n 0 (dcN_19 dcg_83 :) rfl ?_
  obtain ⟨r9, e10, h⟩ := hC h
  refine AW.callVv (As := []) (st := []) (LockQueue_findBest_ok e10) cq_X3_34 cr_8_X3_findBest (Nat.le_trans (by decide) hdd) rfl (dcN_0 dcg_84 :) rfl (Nat.le_of_ble_eq_true rfl) ?_
  refine AW.aloadr_n 0 (dcN_1 dcg_84 :) rfl ?_
  refine AW.getI af_X3_24_8 sr_8_2 (dcN_2 dcg_84 :) ?_
  exact AW.iret1 rfl (dcN_3 dcg_84 :) h rfl
theorem LockQueue_add_ok {z : AZ} {x1 : Int} {x2 : Int} {g : AG} {r : Int × AG} (h : LockQueue_add x1 x2 g = some r) : AMf z yX3_add cX3_add 3 (some .int) 12 [rv z 8, iv x1, iv x2] g r := by
  intro d hdd
  refine AM.of (by decide +kernel) (Nat.le_of_ble_eq_true rfl) ?_
  show AW z (RX3, cX3_add, 3, (some .int)) d (QD (some .int) r) 0 [(0, rv z 8), (1, iv x1), (2, iv x2)] [] g
  unfold LockQueue_add at h
  refine AW.aloadr_n 0 (dcN_0 dcg_82 :) rfl ?_
  refine AW.getI af_X3_24_8 sr_8_2 (dcN_1 dcg_82 :) ?_
  refine AW.bipush (dcN_2 dcg_82 :) (by decide) (by decide) ?_
  refine AW.icmp_ge (tgt := 31) (dcN_3 dcg_82 :) (by decide) (fun c1 => ?_) (fun c1 => ?_)
  · replace h := hT h c1
    refine AW.iconst (dcN_16 dcg_82 :) ?_
    exact AW.iret1 rfl (dcN_0 dcg_83 :) h rfl
  · replace h := hF h c1
    refine AW.aloadr_n 0 (dcN_4 dcg_82 :) rfl ?_
    refine AW.getI af_X3_24_8 sr_8_2 (dcN_5 dcg_82 :) ?_
    refine AW.if_le (tgt := 33) (dcN_6 dcg_82 :) (by decide) (fun c2 => ?_) (fun c2 => ?_)
    · replace h := hT h c2
      exact LockQueue_add_b_ok hdd _ h
    · replace h := hF h c2
      refine AW.iload_n 1 (dcN_7 dcg_82 :) rfl ?_
      refine AW.aloadr_n 0 (dcN_8 dcg_82 :) rfl ?_
      refine AW.getR af_X3_9_8 sr_8_0 (dcN_9 dcg_82 :) ?_
      refine AW.aloadr_n 0 (dcN_10 dcg_82 :) rfl ?_
      refine AW.getI af_X3_24_8 sr_8_2 (dcN_11 dcg_82 :) ?_
      refine AW.iconst (dcN_12 dcg_82 :) ?_
      refine AW.isub (dcN_13 dcg_82 :) ?_
      obtain ⟨k3, h⟩ := hK h
      refine AW.iald kc_81 sk_81 k3 (dcN_14 dcg_82 :) ?_
      refine AW.icmp_ge (tgt := 33) (dcN_15 dcg_82 :) (by decide) (fun c4 => ?_) (fun c4 => ?_)
      · replace h := hT h c4
        exact LockQueue_add_b_ok hdd _ h
      · replace h := hF h c4
        refine AW.iconst (dcN_16 dcg_82 :) ?_
        exact AW.iret1 rfl (dcN_0 dcg_83 :) h rfl
theorem LockQueue_clear_ok {z : AZ} {g : AG} {r : Int × AG} (h : LockQueue_clear g = some r) : AMf z yX3_clear cX3_clear 1 none 0 [rv z 8] g r := by
  intro d hdd
  refine AM.of (by decide +kernel) (Nat.le_of_ble_eq_true rfl) ?_
  show AW z (RX3, cX3_clear, 1, none) d (QD none r) 0 [(0, rv z 8)] [] g
  unfold LockQueue_clear at h
  refine AW.aloadr_n 0 (dcN_0 dcg_81 :) rfl ?_
  refine AW.iconst (dcN_1 dcg_81 :) ?_
  obtain ⟨g1, e2, h⟩ := hBe h
  refine AW.putI ap_X3_24_8 sr_8_2 (dcN_2 dcg_81 :) e2 ?_
  refine AW.aloadr_n 0 (dcN_3 dcg_81 :) rfl ?_
  refine AW.iconst (dcN_4 dcg_81 :) ?_
  obtain ⟨g3, e4, h⟩ := hBe h
  refine AW.putI ap_X3_28_8 sr_8_3 (dcN_5 dcg_81 :) e4 ?_
  refine AW.aloadr_n 0 (dcN_6 dcg_81 :) rfl ?_
  refine AW.iconst (dcN_7 dcg_81 :) ?_
  obtain ⟨g5, e6, h⟩ := hBe h
  refine AW.putI ap_X3_31_8 sr_8_4 (dcN_8 dcg_81 :) e6 ?_
  exact AW.vret1 rfl (dcN_9 dcg_81 :) h rfl
theorem X_queue_ok {z : AZ} {x1 : Int} {x2 : Int} {g : AG} {r : Int × AG} (h : X_queue x1 x2 g = some r) : AMf z yX11_queue cX11_queue 3 (some .int) 13 [rv z 0, iv x1, iv x2] g r := by
  intro d hdd
  refine AM.of (by decide +kernel) (Nat.le_of_ble_eq_true rfl) ?_
  show AW z (RX11, cX11_queue, 3, (some .int)) d (QD (some .int) r) 0 [(0, rv z 0), (1, iv x1), (2, iv x2)] [] g
  unfold X_queue at h
  refine AW.iload_n 2 (dcN_0 dcg_409 :) rfl ?_
  refine AW.iconst (dcN_1 dcg_409 :) ?_
  refine AW.icmp_ne (tgt := 14) (dcN_2 dcg_409 :) (by decide) (fun c1 => ?_) (fun c1 => ?_)
  · replace h := hF h c1
    refine AW.iload_n 2 (dcN_8 dcg_409 :) rfl ?_
    refine AW.iconst (dcN_9 dcg_409 :) ?_
    refine AW.iconst (dcN_10 dcg_409 :) ?_
    refine AW.callSi (As := [iv x2, iv 0, iv 1]) (st := []) X_within_ok cq_X11_99 st_X11_within (Nat.le_trans (by decide) hdd) rfl (dcN_11 dcg_409 :) rfl (Nat.le_of_ble_eq_true rfl) ?_
    refine AW.if_eq (tgt := 34) (dcN_0 dcg_410 :) (by decide) (fun c2 => ?_) (fun c2 => ?_)
    · replace h := hT h c2
      refine AW.iconst (dcN_6 dcg_410 :) ?_
      exact AW.iret1 rfl (dcN_7 dcg_410 :) h rfl
    · replace h := hF h c2
      refine AW.iload_n 1 (dcN_1 dcg_410 :) rfl ?_
      refine AW.iconst (dcN_2 dcg_410 :) ?_
      refine AW.sipush (dcN_3 dcg_410 :) (by decide) (by decide) ?_
      refine AW.callSi (As := [iv x1, iv 0, iv 9999]) (st := []) X_within_ok cq_X11_99 st_X11_within (Nat.le_trans (by decide) hdd) rfl (dcN_4 dcg_410 :) rfl (Nat.le_of_ble_eq_true rfl) ?_
      refine AW.if_ne (tgt := 36) (dcN_5 dcg_410 :) (by decide) (fun c3 => ?_) (fun c3 => ?_)
      · replace h := hF h c3
        refine AW.aloadr_n 0 (dcN_8 dcg_410 :) rfl ?_
        refine AW.getR af_X11_65_0 sr_0_7 (dcN_9 dcg_410 :) ?_
        refine AW.iload_n 1 (dcN_10 dcg_410 :) rfl ?_
        refine AW.iload_n 2 (dcN_11 dcg_410 :) rfl ?_
        obtain ⟨r4, e5, h⟩ := hC h
        refine AW.callVi (As := [iv x1, iv x2]) (st := []) (LockQueue_add_ok e5) cq_X11_249 cr_8_X3_add (Nat.le_trans (by decide) hdd) rfl (dcN_0 dcg_411 :) rfl (Nat.le_of_ble_eq_true rfl) ?_
        exact AW.iret1 rfl (dcN_1 dcg_411 :) h rfl
      · replace h := hT h c3
        refine AW.iconst (dcN_6 dcg_410 :) ?_
        exact AW.iret1 rfl (dcN_7 dcg_410 :) h rfl
  · replace h := hT h c1
    refine AW.aloadr_n 0 (dcN_3 dcg_409 :) rfl ?_
    refine AW.getR af_X11_65_0 sr_0_7 (dcN_4 dcg_409 :) ?_
    obtain ⟨r6, e7, h⟩ := hC h
    refine AW.callVv (As := []) (st := []) (LockQueue_clear_ok e7) cq_X11_246 cr_8_X3_clear (Nat.le_trans (by decide) hdd) rfl (dcN_5 dcg_409 :) rfl (Nat.le_of_ble_eq_true rfl) ?_
    refine AW.iconst (dcN_6 dcg_409 :) ?_
    exact AW.iret1 rfl (dcN_7 dcg_409 :) h rfl
set_option synthInstance.maxHeartbeats 2000000 in
theorem LockQueue_lockfulsAsCome_b_ok {z : AZ} {d : Nat} (hdd : 0 ≤ d) {g : AG} : ∀ (x1 : Int) (x2 : Int) (r : Int), LockQueue_lockfulsAsCome_b g x1 x2 = some r → AW z (RX3, cX3_lockfulsAsCome, 3, (some .int)) d (QD (some .int) (r, g)) 7 [(0, rv z 8), (1, iv x1), (2, iv x2)] [] g := by
  refine LockQueue_lockfulsAsCome_b.partial_correctness g (fun x1 x2 r => AW z (RX3, cX3_lockfulsAsCome, 3, (some .int)) d (QD (some .int) (r, g)) 7 [(0, rv z 8), (1, iv x1), (2, iv x2)] [] g) ?_
  intro fb9 ih x1 x2 r h
  refine AW.iload_n 2 (dcN_5 dcg_97 :) rfl ?_
  refine AW.aloadr_n 0 (dcN_6 dcg_97 :) rfl ?_
  refine AW.getI af_X3_24_8 sr_8_2 (dcN_7 dcg_97 :) ?_
  refine AW.icmp_ge (tgt := 46) (dcN_8 dcg_97 :) (by decide) (fun c1 => ?_) (fun c1 => ?_)
  · replace h := hT h c1
    refine AW.iload_n 1 (dcN_4 dcg_99 :) rfl ?_
    exact AW.iret2 rfl (dcN_5 dcg_99 :) h rfl
  · replace h := hF h c1
    refine AW.iload_n 1 (dcN_9 dcg_97 :) rfl ?_
    refine AW.aloadr_n 0 (dcN_10 dcg_97 :) rfl ?_
    refine AW.getR af_X3_15_8 sr_8_1 (dcN_11 dcg_97 :) ?_
    refine AW.iload_n 2 (dcN_0 dcg_98 :) rfl ?_
    obtain ⟨k2, h⟩ := hK h
    refine AW.iald kc_82 sk_82 k2 (dcN_1 dcg_98 :) ?_
    refine AW.aloadr_n 0 (dcN_2 dcg_98 :) rfl ?_
    refine AW.getR af_X3_15_8 sr_8_1 (dcN_3 dcg_98 :) ?_
    refine AW.iload_n 2 (dcN_4 dcg_98 :) rfl ?_
    refine AW.iconst (dcN_5 dcg_98 :) ?_
    refine AW.isub (dcN_6 dcg_98 :) ?_
    obtain ⟨k3, h⟩ := hK h
    refine AW.iald kc_82 sk_82 k3 (dcN_7 dcg_98 :) ?_
    obtain ⟨t4, e5, h⟩ := hBe h
    refine AW.join (tgt := 38) (lv1 := [(0, rv z 8), (1, iv x1), (2, iv x2)]) (st1 := [iv t4, iv x1]) (g1 := g) ?_ (fun J30 => ?_)
    · refine AW.isub (dcN_0 dcg_99 :) ?_
      refine AW.istore_n (lv1 := [(1, iv (x1 - t4)), (0, rv z 8), (2, iv x2)]) (dcN_1 dcg_99 :) (by decide) rfl ?_
      refine AW.iinc (lv1 := [(2, iv (x2 + 1)), (1, iv (x1 - t4)), (0, rv z 8)]) 2 (dcN_2 dcg_99 :) rfl (by decide) rfl ?_
      refine AW.goto (tgt := 7) (dcN_3 dcg_99 :) (by decide) ?_
      refine AW.sub (lv1 := [(0, rv z 8), (1, iv (x1 - t4)), (2, iv (x2 + 1))]) [2, 1, 0] rfl ?_
      exact ih _ _ _ h
    refine AW.icmp_ne (tgt := 37) (dcN_8 dcg_98 :) (by decide) (fun c6 => ?_) (fun c6 => ?_)
    · refine AW.iconst (dcN_11 dcg_98 :) ?_
      exact AW.val (e5.trans (if_neg c6)) J30
    · refine AW.iconst (dcN_9 dcg_98 :) ?_
      refine AW.goto (tgt := 38) (dcN_10 dcg_98 :) (by decide) ?_
      exact AW.val (e5.trans (if_pos c6)) J30
theorem LockQueue_lockfulsAsCome_ok {z : AZ} {g : AG} {r : Int} (h : LockQueue_lockfulsAsCome g = some r) : AMf z yX3_lockfulsAsCome cX3_lockfulsAsCome 3 (some .int) 0 [rv z 8] g (r, g) := by
  intro d hdd
  refine AM.of (by decide +kernel) (Nat.le_of_ble_eq_true rfl) ?_
  show AW z (RX3, cX3_lockfulsAsCome, 3, (some .int)) d (QD (some .int) (r, g)) 0 [(0, rv z 8)] [] g
  unfold LockQueue_lockfulsAsCome at h
  refine AW.aloadr_n 0 (dcN_0 dcg_97 :) rfl ?_
  refine AW.getI af_X3_24_8 sr_8_2 (dcN_1 dcg_97 :) ?_
  refine AW.istore_n (lv1 := [(1, iv (g 8 2)), (0, rv z 8)]) (dcN_2 dcg_97 :) (by decide) rfl ?_
  refine AW.iconst (dcN_3 dcg_97 :) ?_
  refine AW.istore_n (lv1 := [(2, iv 1), (1, iv (g 8 2)), (0, rv z 8)]) (dcN_4 dcg_97 :) (by decide) rfl ?_
  refine AW.sub (lv1 := [(0, rv z 8), (1, iv (g 8 2)), (2, iv 1)]) [2, 1, 0] rfl ?_
  exact LockQueue_lockfulsAsCome_b_ok hdd _ _ _ h
set_option synthInstance.maxHeartbeats 2000000 in
theorem LockQueue_lockfulsAtBest_b_ok {z : AZ} {d : Nat} (hdd : 0 ≤ d) {g : AG} : ∀ (x1 : Int) (x2 : Int) (r : Int), LockQueue_lockfulsAtBest_b g x1 x2 = some r → AW z (RX3, cX3_lockfulsAtBest, 3, (some .int)) d (QD (some .int) (r, g)) 7 [(0, rv z 8), (1, iv x1), (2, iv x2)] [] g := by
  refine LockQueue_lockfulsAtBest_b.partial_correctness g (fun x1 x2 r => AW z (RX3, cX3_lockfulsAtBest, 3, (some .int)) d (QD (some .int) (r, g)) 7 [(0, rv z 8), (1, iv x1), (2, iv x2)] [] g) ?_
  intro fb9 ih x1 x2 r h
  refine AW.iload_n 2 (dcN_5 dcg_100 :) rfl ?_
  refine AW.aloadr_n 0 (dcN_6 dcg_100 :) rfl ?_
  refine AW.getI af_X3_24_8 sr_8_2 (dcN_7 dcg_100 :) ?_
  refine AW.icmp_ge (tgt := 56) (dcN_8 dcg_100 :) (by decide) (fun c1 => ?_) (fun c1 => ?_)
  · replace h := hT h c1
    refine AW.iload_n 1 (dcN_14 dcg_101 :) rfl ?_
    exact AW.iret2 rfl (dcN_15 dcg_101 :) h rfl
  · replace h := hF h c1
    refine AW.iload_n 1 (dcN_9 dcg_100 :) rfl ?_
    refine AW.aloadr_n 0 (dcN_10 dcg_100 :) rfl ?_
    refine AW.getR af_X3_15_8 sr_8_1 (dcN_11 dcg_100 :) ?_
    refine AW.aloadr_n 0 (dcN_12 dcg_100 :) rfl ?_
    refine AW.getR af_X3_21_8 sr_8_6 (dcN_13 dcg_100 :) ?_
    refine AW.iload_n 2 (dcN_14 dcg_100 :) rfl ?_
    obtain ⟨k2, h⟩ := hK h
    refine AW.iald kc_84 sk_84 k2 (dcN_15 dcg_100 :) ?_
    obtain ⟨k3, h⟩ := hK h
    refine AW.iald kc_82 sk_82 k3 (dcN_16 dcg_100 :) ?_
    refine AW.aloadr_n 0 (dcN_17 dcg_100 :) rfl ?_
    refine AW.getR af_X3_15_8 sr_8_1 (dcN_18 dcg_100 :) ?_
    refine AW.aloadr_n 0 (dcN_19 dcg_100 :) rfl ?_
    refine AW.getR af_X3_21_8 sr_8_6 (dcN_0 dcg_101 :) ?_
    refine AW.iload_n 2 (dcN_1 dcg_101 :) rfl ?_
    refine AW.iconst (dcN_2 dcg_101 :) ?_
    refine AW.isub (dcN_3 dcg_101 :) ?_
    obtain ⟨k4, h⟩ := hK h
    refine AW.iald kc_84 sk_84 k4 (dcN_4 dcg_101 :) ?_
    obtain ⟨k5, h⟩ := hK h
    refine AW.iald kc_82 sk_82 k5 (dcN_5 dcg_101 :) ?_
    obtain ⟨t6, e7, h⟩ := hBe h
    refine AW.join (tgt := 48) (lv1 := [(0, rv z 8), (1, iv x1), (2, iv x2)]) (st1 := [iv t6, iv x1]) (g1 := g) ?_ (fun J40 => ?_)
    · refine AW.isub (dcN_10 dcg_101 :) ?_
      refine AW.istore_n (lv1 := [(1, iv (x1 - t6)), (0, rv z 8), (2, iv x2)]) (dcN_11 dcg_101 :) (by decide) rfl ?_
      refine AW.iinc (lv1 := [(2, iv (x2 + 1)), (1, iv (x1 - t6)), (0, rv z 8)]) 2 (dcN_12 dcg_101 :) rfl (by decide) rfl ?_
      refine AW.goto (tgt := 7) (dcN_13 dcg_101 :) (by decide) ?_
      refine AW.sub (lv1 := [(0, rv z 8), (1, iv (x1 - t6)), (2, iv (x2 + 1))]) [2, 1, 0] rfl ?_
      exact ih _ _ _ h
    refine AW.icmp_ne (tgt := 47) (dcN_6 dcg_101 :) (by decide) (fun c8 => ?_) (fun c8 => ?_)
    · refine AW.iconst (dcN_9 dcg_101 :) ?_
      exact AW.val (e7.trans (if_neg c8)) J40
    · refine AW.iconst (dcN_7 dcg_101 :) ?_
      refine AW.goto (tgt := 48) (dcN_8 dcg_101 :) (by decide) ?_
      exact AW.val (e7.trans (if_pos c8)) J40
theorem LockQueue_lockfulsAtBest_ok {z : AZ} {g : AG} {r : Int} (h : LockQueue_lockfulsAtBest g = some r) : AMf z yX3_lockfulsAtBest cX3_lockfulsAtBest 3 (some .int) 0 [rv z 8] g (r, g) := by
  intro d hdd
  refine AM.of (by decide +kernel) (Nat.le_of_ble_eq_true rfl) ?_
  show AW z (RX3, cX3_lockfulsAtBest, 3, (some .int)) d (QD (some .int) (r, g)) 0 [(0, rv z 8)] [] g
  unfold LockQueue_lockfulsAtBest at h
  refine AW.aloadr_n 0 (dcN_0 dcg_100 :) rfl ?_
  refine AW.getI af_X3_24_8 sr_8_2 (dcN_1 dcg_100 :) ?_
  refine AW.istore_n (lv1 := [(1, iv (g 8 2)), (0, rv z 8)]) (dcN_2 dcg_100 :) (by decide) rfl ?_
  refine AW.iconst (dcN_3 dcg_100 :) ?_
  refine AW.istore_n (lv1 := [(2, iv 1), (1, iv (g 8 2)), (0, rv z 8)]) (dcN_4 dcg_100 :) (by decide) rfl ?_
  refine AW.sub (lv1 := [(0, rv z 8), (1, iv (g 8 2)), (2, iv 1)]) [2, 1, 0] rfl ?_
  exact LockQueue_lockfulsAtBest_b_ok hdd _ _ _ h
theorem LockQueue_atBest_ok {z : AZ} {x1 : Int} {g : AG} {r : Int} (h : LockQueue_atBest x1 g = some r) : AMf z yX3_atBest cX3_atBest 2 (some .int) 1 [rv z 8, iv x1] g (r, g) := by
  intro d hdd
  refine AM.of (by decide +kernel) (Nat.le_of_ble_eq_true rfl) ?_
  show AW z (RX3, cX3_atBest, 2, (some .int)) d (QD (some .int) (r, g)) 0 [(0, rv z 8), (1, iv x1)] [] g
  unfold LockQueue_atBest at h
  refine AW.iload_n 1 (dcN_0 dcg_102 :) rfl ?_
  refine AW.bipush (dcN_1 dcg_102 :) (by decide) (by decide) ?_
  refine AW.isub (dcN_2 dcg_102 :) ?_
  refine AW.iconst (dcN_3 dcg_102 :) ?_
  refine AW.aloadr_n 0 (dcN_4 dcg_102 :) rfl ?_
  refine AW.getI af_X3_24_8 sr_8_2 (dcN_5 dcg_102 :) ?_
  refine AW.iconst (dcN_6 dcg_102 :) ?_
  refine AW.isub (dcN_7 dcg_102 :) ?_
  refine AW.callN0 (As := [iv (x1 - 10), iv 0, iv ((g 8 2) - 1)]) (st := []) X_within_ok ns_X3_61 in_X11 cd_X11_within st_X11_within (by decide) (Nat.le_trans (by decide) hdd) rfl (Nat.le_of_ble_eq_true rfl) (dcN_8 dcg_102 :) rfl ?_
  obtain ⟨r3, e4, h⟩ := hC h
  refine AW.join (tgt := 30) (lv1 := []) (st1 := [iv r3]) (g1 := g) ?_ (fun J14 => ?_)
  · exact AW.iret2 rfl (dcN_6 dcg_103 :) h rfl
  replace h := e4
  refine AW.if_eq (tgt := 29) (dcN_9 dcg_102 :) (by decide) (fun c1 => ?_) (fun c1 => ?_)
  · replace h := hT h c1
    refine AW.iconst (dcN_5 dcg_103 :) ?_
    refine AW.sub (lv1 := []) [] rfl ?_
    cases h
    exact J14
  · replace h := hF h c1
    refine AW.aloadr_n 0 (dcN_10 dcg_102 :) rfl ?_
    refine AW.getR af_X3_21_8 sr_8_6 (dcN_11 dcg_102 :) ?_
    refine AW.iload_n 1 (dcN_0 dcg_103 :) rfl ?_
    refine AW.bipush (dcN_1 dcg_103 :) (by decide) (by decide) ?_
    refine AW.isub (dcN_2 dcg_103 :) ?_
    obtain ⟨k2, h⟩ := hK h
    refine AW.iald kc_84 sk_84 k2 (dcN_3 dcg_103 :) ?_
    refine AW.goto (tgt := 30) (dcN_4 dcg_103 :) (by decide) ?_
    refine AW.sub (lv1 := []) [] rfl ?_
    cases h
    exact J14
theorem X_lock_ok {z : AZ} {x1 : Int} {g : AG} {r : Int} (h : X_lock x1 g = some r) : AMf z yX11_lock cX11_lock 2 (some .int) 2 [rv z 0, iv x1] g (r, g) := by
  intro d hdd
  refine AM.of (by decide +kernel) (Nat.le_of_ble_eq_true rfl) ?_
  show AW z (RX11, cX11_lock, 2, (some .int)) d (QD (some .int) (r, g)) 0 [(0, rv z 0), (1, iv x1)] [] g
  unfold X_lock at h
  refine AW.iload_n 1 (dcN_0 dcg_412 :) rfl ?_
  by_cases c1 : nw x1 = 0
  · replace h := hT h c1
    refine AW.tsIn (tgt := 32) 0 dX11_lock_1 c1 (by decide) (by decide) (by rfl) (by decide) ?_
    refine AW.aloadr_n 0 (dcN_0 dcg_413 :) rfl ?_
    refine AW.getR af_X11_65_0 sr_0_7 (dcN_1 dcg_413 :) ?_
    refine AW.getI af_X11_252_8 sr_8_3 (dcN_2 dcg_413 :) ?_
    exact AW.iret2 rfl (dcN_3 dcg_413 :) h rfl
  · replace h := hF h c1
    by_cases c2 : nw x1 = 1
    · replace h := hT h c2
      refine AW.tsIn (tgt := 40) 1 dX11_lock_1 c2 (by decide) (by decide) (by rfl) (by decide) ?_
      refine AW.aloadr_n 0 (dcN_4 dcg_413 :) rfl ?_
      refine AW.getR af_X11_65_0 sr_0_7 (dcN_5 dcg_413 :) ?_
      refine AW.getI af_X11_255_8 sr_8_4 (dcN_6 dcg_413 :) ?_
      exact AW.iret2 rfl (dcN_7 dcg_413 :) h rfl
    · replace h := hF h c2
      by_cases c3 : nw x1 = 2
      · replace h := hT h c3
        refine AW.tsIn (tgt := 48) 2 dX11_lock_1 c3 (by decide) (by decide) (by rfl) (by decide) ?_
        refine AW.aloadr_n 0 (dcN_8 dcg_413 :) rfl ?_
        refine AW.getR af_X11_65_0 sr_0_7 (dcN_9 dcg_413 :) ?_
        obtain ⟨r4, e5, h⟩ := hC h
        refine AW.callVi (As := []) (st := []) (LockQueue_lockfulsAsCome_ok e5) cq_X11_258 cr_8_X3_lockfulsAsCome (Nat.le_trans (by decide) hdd) rfl (dcN_10 dcg_413 :) rfl (Nat.le_of_ble_eq_true rfl) ?_
        exact AW.iret2 rfl (dcN_11 dcg_413 :) h rfl
      · replace h := hF h c3
        by_cases c6 : nw x1 = 3
        · replace h := hT h c6
          refine AW.tsIn (tgt := 56) 3 dX11_lock_1 c6 (by decide) (by decide) (by rfl) (by decide) ?_
          refine AW.aloadr_n 0 (dcN_12 dcg_413 :) rfl ?_
          refine AW.getR af_X11_65_0 sr_0_7 (dcN_13 dcg_413 :) ?_
          obtain ⟨r7, e8, h⟩ := hC h
          refine AW.callVi (As := []) (st := []) (LockQueue_lockfulsAtBest_ok e8) cq_X11_261 cr_8_X3_lockfulsAtBest (Nat.le_trans (by decide) hdd) rfl (dcN_14 dcg_413 :) rfl (Nat.le_of_ble_eq_true rfl) ?_
          exact AW.iret2 rfl (dcN_15 dcg_413 :) h rfl
        · replace h := hF h c6
          refine AW.tsOut (tgt := 64) dX11_lock_1 (by omega) (by decide) ?_
          refine AW.aloadr_n 0 (dcN_0 dcg_414 :) rfl ?_
          refine AW.getR af_X11_65_0 sr_0_7 (dcN_1 dcg_414 :) ?_
          refine AW.iload_n 1 (dcN_2 dcg_414 :) rfl ?_
          obtain ⟨r9, e10, h⟩ := hC h
          refine AW.callVi (As := [iv x1]) (st := []) (LockQueue_atBest_ok e10) cq_X11_264 cr_8_X3_atBest (Nat.le_trans (by decide) hdd) rfl (dcN_3 dcg_414 :) rfl (Nat.le_of_ble_eq_true rfl) ?_
          exact AW.iret2 rfl (dcN_4 dcg_414 :) h rfl
theorem X_isWeek_ok {z : AZ} {x0 : Int} {g : AG} : AMf z yX11_isWeek cX11_isWeek 1 (some .boolean) 1 [iv x0] g ((X_isWeek x0), g) := by
  intro d hdd
  refine AM.of (by decide +kernel) (Nat.le_of_ble_eq_true rfl) ?_
  show AW z (RX11, cX11_isWeek, 1, (some .boolean)) d (QD (some .boolean) ((X_isWeek x0), g)) 0 [(0, iv x0)] [] g
  refine AW.iload_n 0 (dcN_0 dcg_348 :) rfl ?_
  refine AW.iconst (dcN_1 dcg_348 :) ?_
  refine AW.bipush (dcN_2 dcg_348 :) (by decide) (by decide) ?_
  refine AW.callSi (As := [iv x0, iv 0, iv 9]) (st := []) X_within_ok cq_X11_99 st_X11_within (Nat.le_trans (by decide) hdd) rfl (dcN_3 dcg_348 :) rfl (Nat.le_of_ble_eq_true rfl) ?_
  exact AW.zret rfl X_within_01 (dcN_4 dcg_348 :) ⟨congrArg (fun v => some (iv v)) (show X_isWeek x0  = (X_within x0 0 9) from rfl).symm, rfl⟩
set_option synthInstance.maxHeartbeats 2000000 in
theorem Bookings_putInOrder_b_ok {z : AZ} {d : Nat} (hdd : 0 ≤ d) : ∀ (tag : Nat) (x1 : Int) (x2 : Int) (x3 : Int) (g : AG) (r : Int × AG), Bookings_putInOrder_b tag x1 x2 x3 g = some r → (tag = 1 → AW z (RX1, cX1_putInOrder, 4, none) d (QD none r) 4 [(0, rv z 9), (1, iv x1), (2, iv x2)] [] g) ∧ (tag = 2 → AW z (RX1, cX1_putInOrder, 4, none) d (QD none r) 12 [(0, rv z 9), (1, iv x1), (2, iv x2), (3, iv x3)] [] g) := by
  refine Bookings_putInOrder_b.partial_correctness (fun tag x1 x2 x3 g r => (tag = 1 → AW z (RX1, cX1_putInOrder, 4, none) d (QD none r) 4 [(0, rv z 9), (1, iv x1), (2, iv x2)] [] g) ∧ (tag = 2 → AW z (RX1, cX1_putInOrder, 4, none) d (QD none r) 12 [(0, rv z 9), (1, iv x1), (2, iv x2), (3, iv x3)] [] g)) ?_
  intro fb9 ih tag x1 x2 x3 g r h
  refine ⟨fun h9 => ?_, fun h9 => ?_⟩
  · subst h9
    replace h := hT h rfl
    refine AW.iload_n 2 (dcN_4 dcg_45 :) rfl ?_
    refine AW.bipush (dcN_5 dcg_45 :) (by decide) (by decide) ?_
    refine AW.icmp_ge (tgt := 52) (dcN_6 dcg_45 :) (by decide) (fun c1 => ?_) (fun c1 => ?_)
    · replace h := hT h c1
      exact AW.vret1 rfl (dcN_8 dcg_46 :) h rfl
    · replace h := hF h c1
      refine AW.iconst (dcN_7 dcg_45 :) ?_
      refine AW.istore_n (lv1 := [(3, iv 0), (0, rv z 9), (1, iv x1), (2, iv x2)]) (dcN_8 dcg_45 :) (by decide) rfl ?_
      refine AW.sub (lv1 := [(0, rv z 9), (1, iv x1), (2, iv x2), (3, iv 0)]) [1, 2, 3, 0] rfl ?_
      exact (ih _ _ _ _ _ _ h).2 rfl
  · subst h9
    replace h := hF h (by decide)
    replace h := hT h rfl
    refine AW.iload_n 3 (dcN_9 dcg_45 :) rfl ?_
    refine AW.aloadr_n 0 (dcN_10 dcg_45 :) rfl ?_
    refine AW.getI af_X1_48_9 sr_9_4 (dcN_11 dcg_45 :) ?_
    refine AW.icmp_ge (tgt := 46) (dcN_12 dcg_45 :) (by decide) (fun c1 => ?_) (fun c1 => ?_)
    · replace h := hT h c1
      refine AW.iinc (lv1 := [(2, iv (x2 + 1)), (0, rv z 9), (1, iv x1), (3, iv x3)]) 2 (dcN_6 dcg_46 :) rfl (by decide) rfl ?_
      refine AW.goto (tgt := 4) (dcN_7 dcg_46 :) (by decide) ?_
      refine AW.sub (lv1 := [(0, rv z 9), (1, iv x1), (2, iv (x2 + 1))]) [1, 2, 0] rfl ?_
      exact (ih _ _ _ _ _ _ h).1 rfl
    · replace h := hF h c1
      refine AW.aloadr_n 0 (dcN_13 dcg_45 :) rfl ?_
      refine AW.getR af_X1_18_9 sr_9_2 (dcN_14 dcg_45 :) ?_
      refine AW.iload_n 3 (dcN_15 dcg_45 :) rfl ?_
      obtain ⟨k2, h⟩ := hK h
      refine AW.iald kc_87 sk_87 k2 (dcN_16 dcg_45 :) ?_
      refine AW.iload_n 2 (dcN_17 dcg_45 :) rfl ?_
      obtain ⟨r7, e8, h⟩ := hC h
      refine AW.join (tgt := 40) (lv1 := [(0, rv z 9), (1, iv r7.1), (2, iv x2), (3, iv x3)]) (st1 := []) (g1 := r7.2) ?_ (fun J27 => ?_)
      · refine AW.iinc (lv1 := [(3, iv (x3 + 1)), (0, rv z 9), (1, iv r7.1), (2, iv x2)]) 3 (dcN_4 dcg_46 :) rfl (by decide) rfl ?_
        refine AW.goto (tgt := 12) (dcN_5 dcg_46 :) (by decide) ?_
        refine AW.sub (lv1 := [(0, rv z 9), (1, iv r7.1), (2, iv x2), (3, iv (x3 + 1))]) [1, 2, 3, 0] rfl ?_
        exact (ih _ _ _ _ _ _ h).2 rfl
      replace h := e8
      refine AW.icmp_ne (tgt := 40) (dcN_18 dcg_45 :) (by decide) (fun c3 => ?_) (fun c3 => ?_)
      · replace h := hF h c3
        cases h
        exact J27
      · replace h := hT h c3
        refine AW.aloadr_n 0 (dcN_19 dcg_45 :) rfl ?_
        refine AW.getR af_X1_24_9 sr_9_5 (dcN_20 dcg_45 :) ?_
        refine AW.iload_n 1 (dcN_0 dcg_46 :) rfl ?_
        refine AW.iload_n 3 (dcN_1 dcg_46 :) rfl ?_
        obtain ⟨k4, h⟩ := hK h
        obtain ⟨g5, e6, h⟩ := hBe h
        refine AW.iast kc_89 sk_89 k4 (dcN_2 dcg_46 :) e6 ?_
        refine AW.iinc (lv1 := [(1, iv (x1 + 1)), (0, rv z 9), (2, iv x2), (3, iv x3)]) 1 (dcN_3 dcg_46 :) rfl (by decide) rfl ?_
        refine AW.sub (lv1 := [(0, rv z 9), (1, iv (x1 + 1)), (2, iv x2), (3, iv x3)]) [1, 0, 2, 3] rfl ?_
        cases h
        exact J27
theorem Bookings_putInOrder_ok {z : AZ} {g : AG} {r : Int × AG} (h : Bookings_putInOrder g = some r) : AMf z yX1_putInOrder cX1_putInOrder 4 none 0 [rv z 9] g r := by
  intro d hdd
  refine AM.of (by decide +kernel) (Nat.le_of_ble_eq_true rfl) ?_
  show AW z (RX1, cX1_putInOrder, 4, none) d (QD none r) 0 [(0, rv z 9)] [] g
  unfold Bookings_putInOrder at h
  refine AW.iconst (dcN_0 dcg_45 :) ?_
  refine AW.istore_n (lv1 := [(1, iv 0), (0, rv z 9)]) (dcN_1 dcg_45 :) (by decide) rfl ?_
  refine AW.iconst (dcN_2 dcg_45 :) ?_
  refine AW.istore_n (lv1 := [(2, iv 0), (1, iv 0), (0, rv z 9)]) (dcN_3 dcg_45 :) (by decide) rfl ?_
  refine AW.sub (lv1 := [(0, rv z 9), (1, iv 0), (2, iv 0)]) [2, 1, 0] rfl ?_
  exact (Bookings_putInOrder_b_ok hdd _ _ _ _ _ _ h).1 rfl
theorem Bookings_add_ok {z : AZ} {x1 : Int} {x2 : Int} {x3 : Int} {x4 : Int} {g : AG} {r : Int × AG} (h : Bookings_add x1 x2 x3 x4 g = some r) : AMf z yX1_add cX1_add 5 (some .int) 1 [rv z 9, iv x1, iv x2, iv x3, iv x4] g r := by
  intro d hdd
  refine AM.of (by decide +kernel) (Nat.le_of_ble_eq_true rfl) ?_
  show AW z (RX1, cX1_add, 5, (some .int)) d (QD (some .int) r) 0 [(0, rv z 9), (1, iv x1), (2, iv x2), (3, iv x3), (4, iv x4)] [] g
  unfold Bookings_add at h
  refine AW.aloadr_n 0 (dcN_0 dcg_42 :) rfl ?_
  refine AW.getI af_X1_48_9 sr_9_4 (dcN_1 dcg_42 :) ?_
  refine AW.bipush (dcN_2 dcg_42 :) (by decide) (by decide) ?_
  refine AW.icmp_lt (tgt := 11) (dcN_3 dcg_42 :) (by decide) (fun c1 => ?_) (fun c1 => ?_)
  · replace h := hT h c1
    refine AW.aloadr_n 0 (dcN_6 dcg_42 :) rfl ?_
    refine AW.getR af_X1_9_9 sr_9_0 (dcN_7 dcg_42 :) ?_
    refine AW.aloadr_n 0 (dcN_8 dcg_42 :) rfl ?_
    refine AW.getI af_X1_48_9 sr_9_4 (dcN_9 dcg_42 :) ?_
    refine AW.iload_n 1 (dcN_10 dcg_42 :) rfl ?_
    obtain ⟨k2, h⟩ := hK h
    obtain ⟨g3, e4, h⟩ := hBe h
    refine AW.iast kc_85 sk_85 k2 (dcN_11 dcg_42 :) e4 ?_
    refine AW.aloadr_n 0 (dcN_12 dcg_42 :) rfl ?_
    refine AW.getR af_X1_15_9 sr_9_1 (dcN_13 dcg_42 :) ?_
    refine AW.aloadr_n 0 (dcN_14 dcg_42 :) rfl ?_
    refine AW.getI af_X1_48_9 sr_9_4 (dcN_15 dcg_42 :) ?_
    refine AW.iload_n 2 (dcN_16 dcg_42 :) rfl ?_
    obtain ⟨k5, h⟩ := hK h
    obtain ⟨g6, e7, h⟩ := hBe h
    refine AW.iast kc_86 sk_86 k5 (dcN_17 dcg_42 :) e7 ?_
    refine AW.aloadr_n 0 (dcN_18 dcg_42 :) rfl ?_
    refine AW.getR af_X1_18_9 sr_9_2 (dcN_0 dcg_43 :) ?_
    refine AW.aloadr_n 0 (dcN_1 dcg_43 :) rfl ?_
    refine AW.getI af_X1_48_9 sr_9_4 (dcN_2 dcg_43 :) ?_
    refine AW.iload_n 3 (dcN_3 dcg_43 :) rfl ?_
    obtain ⟨k8, h⟩ := hK h
    obtain ⟨g9, e10, h⟩ := hBe h
    refine AW.iast kc_87 sk_87 k8 (dcN_4 dcg_43 :) e10 ?_
    refine AW.aloadr_n 0 (dcN_5 dcg_43 :) rfl ?_
    refine AW.getR af_X1_21_9 sr_9_3 (dcN_6 dcg_43 :) ?_
    refine AW.aloadr_n 0 (dcN_7 dcg_43 :) rfl ?_
    refine AW.getI af_X1_48_9 sr_9_4 (dcN_8 dcg_43 :) ?_
    refine AW.iload 4 (dcN_9 dcg_43 :) rfl ?_
    obtain ⟨k11, h⟩ := hK h
    obtain ⟨g12, e13, h⟩ := hBe h
    refine AW.iast kc_88 sk_88 k11 (dcN_10 dcg_43 :) e13 ?_
    refine AW.aloadr_n 0 (dcN_11 dcg_43 :) rfl ?_
    refine AW.duprr (dcN_12 dcg_43 :) ?_
    refine AW.getI af_X1_48_9 sr_9_4 (dcN_13 dcg_43 :) ?_
    refine AW.iconst (dcN_14 dcg_43 :) ?_
    refine AW.iadd (dcN_15 dcg_43 :) ?_
    obtain ⟨g14, e15, h⟩ := hBe h
    refine AW.putI ap_X1_48_9 sr_9_4 (dcN_16 dcg_43 :) e15 ?_
    refine AW.aloadr_n 0 (dcN_17 dcg_43 :) rfl ?_
    refine AW.iconst (dcN_18 dcg_43 :) ?_
    obtain ⟨g16, e17, h⟩ := hBe h
    refine AW.putI ap_X1_52_9 sr_9_11 (dcN_0 dcg_44 :) e17 ?_
    refine AW.aloadr_n 0 (dcN_1 dcg_44 :) rfl ?_
    obtain ⟨r18, e19, h⟩ := hC h
    refine AW.callVv (As := []) (st := []) (Bookings_putInOrder_ok e19) cq_X1_55 cr_9_X1_putInOrder (Nat.le_trans (by decide) hdd) rfl (dcN_2 dcg_44 :) rfl (Nat.le_of_ble_eq_true rfl) ?_
    refine AW.aloadr_n 0 (dcN_3 dcg_44 :) rfl ?_
    refine AW.getI af_X1_48_9 sr_9_4 (dcN_4 dcg_44 :) ?_
    refine AW.iconst (dcN_5 dcg_44 :) ?_
    refine AW.isub (dcN_6 dcg_44 :) ?_
    exact AW.iret1 rfl (dcN_7 dcg_44 :) h rfl
  · replace h := hF h c1
    refine AW.iconst (dcN_4 dcg_42 :) ?_
    exact AW.iret1 rfl (dcN_5 dcg_42 :) h rfl
theorem X_booking_ok {z : AZ} {x1 : Int} {x2 : Int} {x3 : Int} {x4 : Int} {g : AG} {r : Int × AG} (h : X_booking x1 x2 x3 x4 g = some r) : AMf z yX11_booking cX11_booking 5 (some .int) 2 [rv z 0, iv x1, iv x2, iv x3, iv x4] g r := by
  intro d hdd
  refine AM.of (by decide +kernel) (Nat.le_of_ble_eq_true rfl) ?_
  show AW z (RX11, cX11_booking, 5, (some .int)) d (QD (some .int) r) 0 [(0, rv z 0), (1, iv x1), (2, iv x2), (3, iv x3), (4, iv x4)] [] g
  unfold X_booking at h
  refine AW.iload_n 1 (dcN_0 dcg_415 :) rfl ?_
  refine AW.callSi (As := [iv x1]) (st := []) X_isPoint_ok cq_X11_111 st_X11_isPoint (Nat.le_trans (by decide) hdd) rfl (dcN_1 dcg_415 :) rfl (Nat.le_of_ble_eq_true rfl) ?_
  refine AW.if_eq (tgt := 29) (dcN_2 dcg_415 :) (by decide) (fun c1 => ?_) (fun c1 => ?_)
  · replace h := hT h c1
    refine AW.iconst (dcN_0 dcg_416 :) ?_
    exact AW.iret1 rfl (dcN_1 dcg_416 :) h rfl
  · replace h := hF h c1
    refine AW.iload_n 2 (dcN_3 dcg_415 :) rfl ?_
    refine AW.callSi (As := [iv x2]) (st := []) X_isPoint_ok cq_X11_111 st_X11_isPoint (Nat.le_trans (by decide) hdd) rfl (dcN_4 dcg_415 :) rfl (Nat.le_of_ble_eq_true rfl) ?_
    refine AW.if_eq (tgt := 29) (dcN_5 dcg_415 :) (by decide) (fun c2 => ?_) (fun c2 => ?_)
    · replace h := hT h c2
      refine AW.iconst (dcN_0 dcg_416 :) ?_
      exact AW.iret1 rfl (dcN_1 dcg_416 :) h rfl
    · replace h := hF h c2
      refine AW.iload_n 3 (dcN_6 dcg_415 :) rfl ?_
      refine AW.callSi (As := [iv x3]) (st := []) X_isWeek_ok cq_X11_267 st_X11_isWeek (Nat.le_trans (by decide) hdd) rfl (dcN_7 dcg_415 :) rfl (Nat.le_of_ble_eq_true rfl) ?_
      refine AW.if_eq (tgt := 29) (dcN_8 dcg_415 :) (by decide) (fun c3 => ?_) (fun c3 => ?_)
      · replace h := hT h c3
        refine AW.iconst (dcN_0 dcg_416 :) ?_
        exact AW.iret1 rfl (dcN_1 dcg_416 :) h rfl
      · replace h := hF h c3
        refine AW.iload 4 (dcN_9 dcg_415 :) rfl ?_
        refine AW.callSi (As := [iv x4]) (st := []) X_isBerths_ok cq_X11_143 st_X11_isBerths (Nat.le_trans (by decide) hdd) rfl (dcN_10 dcg_415 :) rfl (Nat.le_of_ble_eq_true rfl) ?_
        refine AW.if_ne (tgt := 31) (dcN_11 dcg_415 :) (by decide) (fun c4 => ?_) (fun c4 => ?_)
        · replace h := hF h c4
          refine AW.aloadr_n 0 (dcN_2 dcg_416 :) rfl ?_
          refine AW.getR af_X11_72_0 sr_0_8 (dcN_3 dcg_416 :) ?_
          refine AW.iload_n 1 (dcN_4 dcg_416 :) rfl ?_
          refine AW.iload_n 2 (dcN_5 dcg_416 :) rfl ?_
          refine AW.iload_n 3 (dcN_6 dcg_416 :) rfl ?_
          refine AW.iload 4 (dcN_7 dcg_416 :) rfl ?_
          obtain ⟨r5, e6, h⟩ := hC h
          refine AW.callVi (As := [iv x1, iv x2, iv x3, iv x4]) (st := []) (Bookings_add_ok e6) cq_X11_270 cr_9_X1_add (Nat.le_trans (by decide) hdd) rfl (dcN_8 dcg_416 :) rfl (Nat.le_of_ble_eq_true rfl) ?_
          exact AW.iret1 rfl (dcN_9 dcg_416 :) h rfl
        · replace h := hT h c4
          refine AW.iconst (dcN_0 dcg_416 :) ?_
          exact AW.iret1 rfl (dcN_1 dcg_416 :) h rfl
theorem Bookings_hire_ok {z : AZ} {x1 : Int} {x2 : Int} {x3 : Int} {g : AG} {r : Int × AG} (h : Bookings_hire x1 x2 x3 g = some r) : AMf z yX1_hire cX1_hire 4 none 0 [rv z 9, iv x1, iv x2, iv x3] g r := by
  intro d hdd
  refine AM.of (by decide +kernel) (Nat.le_of_ble_eq_true rfl) ?_
  show AW z (RX1, cX1_hire, 4, none) d (QD none r) 0 [(0, rv z 9), (1, iv x1), (2, iv x2), (3, iv x3)] [] g
  unfold Bookings_hire at h
  refine AW.aloadr_n 0 (dcN_0 dcg_47 :) rfl ?_
  refine AW.getR af_X1_27_9 sr_9_6 (dcN_1 dcg_47 :) ?_
  refine AW.iload_n 1 (dcN_2 dcg_47 :) rfl ?_
  obtain ⟨k1, h⟩ := hK h
  refine AW.iald kc_90 sk_90 k1 (dcN_3 dcg_47 :) ?_
  refine AW.iload_n 2 (dcN_4 dcg_47 :) rfl ?_
  obtain ⟨r8, e9, h⟩ := hC h
  refine AW.join (tgt := 25) (lv1 := [(0, rv z 9), (1, iv x1), (2, iv x2), (3, iv x3)]) (st1 := []) (g1 := r8) ?_ (fun J7 => ?_)
  · refine AW.aloadr_n 0 (dcN_3 dcg_48 :) rfl ?_
    refine AW.getR af_X1_27_9 sr_9_6 (dcN_4 dcg_48 :) ?_
    refine AW.iload_n 1 (dcN_5 dcg_48 :) rfl ?_
    refine AW.iload_n 2 (dcN_6 dcg_48 :) rfl ?_
    obtain ⟨g10, e11, h⟩ := hBe h
    refine AW.iast kc_90 sk_90 k1 (dcN_7 dcg_48 :) e11 ?_
    refine AW.aloadr_n 0 (dcN_8 dcg_48 :) rfl ?_
    refine AW.getR af_X1_30_9 sr_9_7 (dcN_9 dcg_48 :) ?_
    refine AW.iload_n 1 (dcN_10 dcg_48 :) rfl ?_
    refine AW.iload_n 3 (dcN_11 dcg_48 :) rfl ?_
    obtain ⟨g12, e13, h⟩ := hBe h
    refine AW.iast kc_91 sk_91 k1 (dcN_0 dcg_49 :) e13 ?_
    exact AW.vret1 rfl (dcN_1 dcg_49 :) h rfl
  replace h := e9
  refine AW.icmp_ne (tgt := 20) (dcN_5 dcg_47 :) (by decide) (fun c2 => ?_) (fun c2 => ?_)
  · replace h := hF h c2
    refine AW.aloadr_n 0 (dcN_0 dcg_48 :) rfl ?_
    refine AW.iconst (dcN_1 dcg_48 :) ?_
    obtain ⟨g3, e4, h⟩ := hBe h
    refine AW.putI ap_X1_52_9 sr_9_11 (dcN_2 dcg_48 :) e4 ?_
    cases h
    exact J7
  · replace h := hT h c2
    refine AW.aloadr_n 0 (dcN_6 dcg_47 :) rfl ?_
    refine AW.getR af_X1_30_9 sr_9_7 (dcN_7 dcg_47 :) ?_
    refine AW.iload_n 1 (dcN_8 dcg_47 :) rfl ?_
    refine AW.iald kc_91 sk_91 k1 (dcN_9 dcg_47 :) ?_
    refine AW.iload_n 3 (dcN_10 dcg_47 :) rfl ?_
    refine AW.icmp_eq (tgt := 25) (dcN_11 dcg_47 :) (by decide) (fun c5 => ?_) (fun c5 => ?_)
    · replace h := hT h c5
      cases h
      exact J7
    · replace h := hF h c5
      refine AW.aloadr_n 0 (dcN_0 dcg_48 :) rfl ?_
      refine AW.iconst (dcN_1 dcg_48 :) ?_
      obtain ⟨g6, e7, h⟩ := hBe h
      refine AW.putI ap_X1_52_9 sr_9_11 (dcN_2 dcg_48 :) e7 ?_
      cases h
      exact J7
set_option synthInstance.maxHeartbeats 2000000 in
theorem X_hireFirst_b_ok {z : AZ} {d : Nat} (hdd : 1 ≤ d) {x1 : Int} : ∀ (x2 : Int) (g : AG) (r : Int × AG), X_hireFirst_b x1 x2 g = some r → AW z (RX11, cX11_hireFirst, 3, none) d (QD none r) 2 [(0, rv z 0), (1, iv x1), (2, iv x2)] [] g := by
  refine X_hireFirst_b.partial_correctness x1 (fun x2 g r => AW z (RX11, cX11_hireFirst, 3, none) d (QD none r) 2 [(0, rv z 0), (1, iv x1), (2, iv x2)] [] g) ?_
  intro fb9 ih x2 g r h
  refine AW.iload_n 2 (dcN_2 dcg_420 :) rfl ?_
  refine AW.iload_n 1 (dcN_3 dcg_420 :) rfl ?_
  refine AW.icmp_ge (tgt := 39) (dcN_4 dcg_420 :) (by decide) (fun c1 => ?_) (fun c1 => ?_)
  · replace h := hT h c1
    exact AW.vret1 rfl (dcN_9 dcg_421 :) h rfl
  · replace h := hF h c1
    refine AW.aloadr_n 0 (dcN_5 dcg_420 :) rfl ?_
    refine AW.getR af_X11_72_0 sr_0_8 (dcN_6 dcg_420 :) ?_
    refine AW.iload_n 2 (dcN_7 dcg_420 :) rfl ?_
    refine AW.aloadr_n 0 (dcN_8 dcg_420 :) rfl ?_
    refine AW.getR af_X11_49_0 sr_0_5 (dcN_9 dcg_420 :) ?_
    refine AW.getR af_X11_287_6 sr_6_3 (dcN_10 dcg_420 :) ?_
    refine AW.iload_n 2 (dcN_11 dcg_420 :) rfl ?_
    obtain ⟨k2, h⟩ := hK h
    refine AW.iald kc_48 sk_48 k2 (dcN_0 dcg_421 :) ?_
    refine AW.aloadr_n 0 (dcN_1 dcg_421 :) rfl ?_
    refine AW.getR af_X11_49_0 sr_0_5 (dcN_2 dcg_421 :) ?_
    refine AW.getR af_X11_290_6 sr_6_5 (dcN_3 dcg_421 :) ?_
    refine AW.iload_n 2 (dcN_4 dcg_421 :) rfl ?_
    refine AW.iald kc_50 sk_50 k2 (dcN_5 dcg_421 :) ?_
    obtain ⟨r3, e4, h⟩ := hC h
    refine AW.callVv (As := [iv x2, iv (g 48 (ix x2)), iv (g 50 (ix x2))]) (st := []) (Bookings_hire_ok e4) cq_X11_293 cr_9_X1_hire (Nat.le_trans (by decide) hdd) rfl (dcN_6 dcg_421 :) rfl (Nat.le_of_ble_eq_true rfl) ?_
    refine AW.iinc (lv1 := [(2, iv (x2 + 1)), (0, rv z 0), (1, iv x1)]) 2 (dcN_7 dcg_421 :) rfl (by decide) rfl ?_
    refine AW.goto (tgt := 2) (dcN_8 dcg_421 :) (by decide) ?_
    refine AW.sub (lv1 := [(0, rv z 0), (1, iv x1), (2, iv (x2 + 1))]) [1, 2, 0] rfl ?_
    exact ih _ _ _ h
theorem X_hireFirst_ok {z : AZ} {x1 : Int} {g : AG} {r : Int × AG} (h : X_hireFirst x1 g = some r) : AMf z yX11_hireFirst cX11_hireFirst 3 none 1 [rv z 0, iv x1] g r := by
  intro d hdd
  refine AM.of (by decide +kernel) (Nat.le_of_ble_eq_true rfl) ?_
  show AW z (RX11, cX11_hireFirst, 3, none) d (QD none r) 0 [(0, rv z 0), (1, iv x1)] [] g
  unfold X_hireFirst at h
  refine AW.iconst (dcN_0 dcg_420 :) ?_
  refine AW.istore_n (lv1 := [(2, iv 0), (0, rv z 0), (1, iv x1)]) (dcN_1 dcg_420 :) (by decide) rfl ?_
  refine AW.sub (lv1 := [(0, rv z 0), (1, iv x1), (2, iv 0)]) [1, 2, 0] rfl ?_
  exact X_hireFirst_b_ok hdd _ _ _ h
set_option synthInstance.maxHeartbeats 2000000 in
theorem Bookings_canCome_b_ok {z : AZ} {d : Nat} (hdd : 0 ≤ d) {x2 : Int} {g : AG} : ∀ (tag : Nat) (x3 : Int) (r : Int), Bookings_canCome_b x2 g tag x3 = some r → (tag = 1 → AW z (RX1, cX1_canCome, 4, (some .boolean)) d (QD (some .boolean) (r, g)) 19 [(0, rv z 9), (2, iv x2), (3, iv x3)] [] g) ∧ (tag = 2 → AW z (RX1, cX1_canCome, 4, (some .boolean)) d (QD (some .boolean) (r, g)) 59 [(0, rv z 9), (2, iv x2), (3, iv x3)] [] g) := by
  refine Bookings_canCome_b.partial_correctness x2 g (fun tag x3 r => (tag = 1 → AW z (RX1, cX1_canCome, 4, (some .boolean)) d (QD (some .boolean) (r, g)) 19 [(0, rv z 9), (2, iv x2), (3, iv x3)] [] g) ∧ (tag = 2 → AW z (RX1, cX1_canCome, 4, (some .boolean)) d (QD (some .boolean) (r, g)) 59 [(0, rv z 9), (2, iv x2), (3, iv x3)] [] g)) ?_
  intro fb9 ih tag x3 r h
  refine ⟨fun h9 => ?_, fun h9 => ?_⟩
  · subst h9
    replace h := hT h rfl
    refine AW.iload_n 2 (dcN_13 dcg_58 :) rfl ?_
    refine AW.aloadr_n 0 (dcN_14 dcg_58 :) rfl ?_
    refine AW.getI af_X1_48_9 sr_9_4 (dcN_15 dcg_58 :) ?_
    refine AW.icmp_ge (tgt := 65) (dcN_16 dcg_58 :) (by decide) (fun c1 => ?_) (fun c1 => ?_)
    · replace h := hT h c1
      refine AW.iconst (dcN_0 dcg_60 :) ?_
      exact AW.zret2 rfl (Or.inl rfl) (dcN_1 dcg_60 :) h rfl
    · replace h := hF h c1
      refine AW.aloadr_n 0 (dcN_17 dcg_58 :) rfl ?_
      refine AW.getR af_X1_18_9 sr_9_2 (dcN_18 dcg_58 :) ?_
      refine AW.iload_n 2 (dcN_19 dcg_58 :) rfl ?_
      obtain ⟨k2, h⟩ := hK h
      refine AW.iald kc_87 sk_87 k2 (dcN_0 dcg_59 :) ?_
      refine AW.aloadr_n 0 (dcN_1 dcg_59 :) rfl ?_
      refine AW.getR af_X1_18_9 sr_9_2 (dcN_2 dcg_59 :) ?_
      refine AW.iload_n 1 (dcN_3 dcg_59 :) rfl ?_
      obtain ⟨k3, h⟩ := hK h
      refine AW.iald kc_87 sk_87 k3 (dcN_4 dcg_59 :) ?_
      refine AW.icmp_ge (tgt := 59) (dcN_5 dcg_59 :) (by decide) (fun c4 => ?_) (fun c4 => ?_)
      · replace h := hT h c4
        exact (ih _ _ _ h).2 rfl
      · replace h := hF h c4
        refine AW.aloadr_n 0 (dcN_6 dcg_59 :) rfl ?_
        refine AW.getR af_X1_15_9 sr_9_1 (dcN_7 dcg_59 :) ?_
        refine AW.iload_n 2 (dcN_8 dcg_59 :) rfl ?_
        refine AW.iald kc_86 sk_86 k2 (dcN_9 dcg_59 :) ?_
        refine AW.aloadr_n 0 (dcN_10 dcg_59 :) rfl ?_
        refine AW.getR af_X1_9_9 sr_9_0 (dcN_11 dcg_59 :) ?_
        refine AW.iload_n 1 (dcN_12 dcg_59 :) rfl ?_
        refine AW.iald kc_85 sk_85 k3 (dcN_13 dcg_59 :) ?_
        refine AW.icmp_ne (tgt := 59) (dcN_14 dcg_59 :) (by decide) (fun c5 => ?_) (fun c5 => ?_)
        · replace h := hF h c5
          exact (ih _ _ _ h).2 rfl
        · replace h := hT h c5
          refine AW.iconst (dcN_15 dcg_59 :) ?_
          exact AW.zret2 rfl (Or.inr rfl) (dcN_16 dcg_59 :) h rfl
  · subst h9
    replace h := hF h (by decide)
    replace h := hT h rfl
    refine AW.iinc (lv1 := [(3, iv (x3 + 1)), (0, rv z 9), (2, iv x2)]) 2 (dcN_17 dcg_59 :) rfl (by decide) rfl ?_
    refine AW.goto (tgt := 19) (dcN_18 dcg_59 :) (by decide) ?_
    refine AW.sub (lv1 := [(0, rv z 9), (2, iv x2), (3, iv (x3 + 1))]) [1, 2, 0] rfl ?_
    exact (ih _ _ _ h).1 rfl
theorem Bookings_canCome_ok {z : AZ} {x1 : Int} {x2 : Int} {g : AG} {r : Int} (h : Bookings_canCome x1 x2 g = some r) : AMf z yX1_canCome cX1_canCome 4 (some .boolean) 0 [rv z 9, iv x1, iv x2] g (r, g) := by
  intro d hdd
  refine AM.of (by decide +kernel) (Nat.le_of_ble_eq_true rfl) ?_
  show AW z (RX1, cX1_canCome, 4, (some .boolean)) d (QD (some .boolean) (r, g)) 0 [(0, rv z 9), (1, iv x1), (2, iv x2)] [] g
  unfold Bookings_canCome at h
  refine AW.aloadr_n 0 (dcN_0 dcg_58 :) rfl ?_
  refine AW.getR af_X1_30_9 sr_9_7 (dcN_1 dcg_58 :) ?_
  refine AW.iload_n 1 (dcN_2 dcg_58 :) rfl ?_
  obtain ⟨k1, h⟩ := hK h
  refine AW.iald kc_91 sk_91 k1 (dcN_3 dcg_58 :) ?_
  refine AW.aloadr_n 0 (dcN_4 dcg_58 :) rfl ?_
  refine AW.getR af_X1_9_9 sr_9_0 (dcN_5 dcg_58 :) ?_
  refine AW.iload_n 2 (dcN_6 dcg_58 :) rfl ?_
  obtain ⟨k2, h⟩ := hK h
  refine AW.iald kc_85 sk_85 k2 (dcN_7 dcg_58 :) ?_
  refine AW.icmp_ne (tgt := 17) (dcN_8 dcg_58 :) (by decide) (fun c3 => ?_) (fun c3 => ?_)
  · replace h := hF h c3
    refine AW.iconst (dcN_11 dcg_58 :) ?_
    refine AW.istore_n (lv1 := [(3, iv 0), (0, rv z 9), (1, iv x1), (2, iv x2)]) (dcN_12 dcg_58 :) (by decide) rfl ?_
    refine AW.sub (lv1 := [(0, rv z 9), (2, iv x2), (3, iv 0)]) [1, 3, 0] rfl ?_
    exact (Bookings_canCome_b_ok hdd _ _ _ h).1 rfl
  · replace h := hT h c3
    refine AW.iconst (dcN_9 dcg_58 :) ?_
    exact AW.zret2 rfl (Or.inr rfl) (dcN_10 dcg_58 :) h rfl
set_option synthInstance.maxHeartbeats 2000000 in
theorem Bookings_canEverBeGiven_b_ok {z : AZ} {d : Nat} (hdd : 1 ≤ d) {x1 : Int} {g : AG} : ∀ (tag : Nat) (x2 : Int) (r : Int), Bookings_canEverBeGiven_b x1 g tag x2 = some r → (tag = 1 → AW z (RX1, cX1_canEverBeGiven, 3, (some .boolean)) d (QD (some .boolean) (r, g)) 2 [(0, rv z 9), (1, iv x1), (2, iv x2)] [] g) ∧ (tag = 2 → AW z (RX1, cX1_canEverBeGiven, 3, (some .boolean)) d (QD (some .boolean) (r, g)) 36 [(0, rv z 9), (1, iv x1), (2, iv x2)] [] g) := by
  refine Bookings_canEverBeGiven_b.partial_correctness x1 g (fun tag x2 r => (tag = 1 → AW z (RX1, cX1_canEverBeGiven, 3, (some .boolean)) d (QD (some .boolean) (r, g)) 2 [(0, rv z 9), (1, iv x1), (2, iv x2)] [] g) ∧ (tag = 2 → AW z (RX1, cX1_canEverBeGiven, 3, (some .boolean)) d (QD (some .boolean) (r, g)) 36 [(0, rv z 9), (1, iv x1), (2, iv x2)] [] g)) ?_
  intro fb9 ih tag x2 r h
  refine ⟨fun h9 => ?_, fun h9 => ?_⟩
  · subst h9
    replace h := hT h rfl
    refine AW.iload_n 2 (dcN_2 dcg_55 :) rfl ?_
    refine AW.aloadr_n 0 (dcN_3 dcg_55 :) rfl ?_
    refine AW.getI af_X1_64_9 sr_9_10 (dcN_4 dcg_55 :) ?_
    refine AW.icmp_ge (tgt := 42) (dcN_5 dcg_55 :) (by decide) (fun c1 => ?_) (fun c1 => ?_)
    · replace h := hT h c1
      refine AW.iconst (dcN_0 dcg_57 :) ?_
      exact AW.zret2 rfl (Or.inl rfl) (dcN_1 dcg_57 :) h rfl
    · replace h := hF h c1
      refine AW.aloadr_n 0 (dcN_6 dcg_55 :) rfl ?_
      refine AW.getR af_X1_27_9 sr_9_6 (dcN_7 dcg_55 :) ?_
      refine AW.iload_n 2 (dcN_8 dcg_55 :) rfl ?_
      obtain ⟨k2, h⟩ := hK h
      refine AW.iald kc_90 sk_90 k2 (dcN_9 dcg_55 :) ?_
      refine AW.aloadr_n 0 (dcN_10 dcg_55 :) rfl ?_
      refine AW.getR af_X1_21_9 sr_9_3 (dcN_11 dcg_55 :) ?_
      refine AW.iload_n 1 (dcN_0 dcg_56 :) rfl ?_
      obtain ⟨k3, h⟩ := hK h
      refine AW.iald kc_88 sk_88 k3 (dcN_1 dcg_56 :) ?_
      refine AW.icmp_lt (tgt := 36) (dcN_2 dcg_56 :) (by decide) (fun c4 => ?_) (fun c4 => ?_)
      · replace h := hT h c4
        exact (ih _ _ _ h).2 rfl
      · replace h := hF h c4
        refine AW.aloadr_n 0 (dcN_3 dcg_56 :) rfl ?_
        refine AW.iload_n 2 (dcN_4 dcg_56 :) rfl ?_
        refine AW.iload_n 1 (dcN_5 dcg_56 :) rfl ?_
        obtain ⟨r5, e6, h⟩ := hC h
        refine AW.callVi (As := [iv x2, iv x1]) (st := []) (Bookings_canCome_ok e6) cq_X1_81 cr_9_X1_canCome (Nat.le_trans (by decide) hdd) rfl (dcN_6 dcg_56 :) rfl (Nat.le_of_ble_eq_true rfl) ?_
        refine AW.if_eq (tgt := 36) (dcN_7 dcg_56 :) (by decide) (fun c7 => ?_) (fun c7 => ?_)
        · replace h := hT h c7
          exact (ih _ _ _ h).2 rfl
        · replace h := hF h c7
          refine AW.iconst (dcN_8 dcg_56 :) ?_
          exact AW.zret2 rfl (Or.inr rfl) (dcN_9 dcg_56 :) h rfl
  · subst h9
    replace h := hF h (by decide)
    replace h := hT h rfl
    refine AW.iinc (lv1 := [(2, iv (x2 + 1)), (0, rv z 9), (1, iv x1)]) 2 (dcN_10 dcg_56 :) rfl (by decide) rfl ?_
    refine AW.goto (tgt := 2) (dcN_11 dcg_56 :) (by decide) ?_
    refine AW.sub (lv1 := [(0, rv z 9), (1, iv x1), (2, iv (x2 + 1))]) [1, 2, 0] rfl ?_
    exact (ih _ _ _ h).1 rfl
theorem Bookings_canEverBeGiven_ok {z : AZ} {x1 : Int} {g : AG} {r : Int} (h : Bookings_canEverBeGiven x1 g = some r) : AMf z yX1_canEverBeGiven cX1_canEverBeGiven 3 (some .boolean) 1 [rv z 9, iv x1] g (r, g) := by
  intro d hdd
  refine AM.of (by decide +kernel) (Nat.le_of_ble_eq_true rfl) ?_
  show AW z (RX1, cX1_canEverBeGiven, 3, (some .boolean)) d (QD (some .boolean) (r, g)) 0 [(0, rv z 9), (1, iv x1)] [] g
  unfold Bookings_canEverBeGiven at h
  refine AW.iconst (dcN_0 dcg_55 :) ?_
  refine AW.istore_n (lv1 := [(2, iv 0), (0, rv z 9), (1, iv x1)]) (dcN_1 dcg_55 :) (by decide) rfl ?_
  refine AW.sub (lv1 := [(0, rv z 9), (1, iv x1), (2, iv 0)]) [1, 2, 0] rfl ?_
  exact (Bookings_canEverBeGiven_b_ok hdd _ _ _ h).1 rfl
set_option synthInstance.maxHeartbeats 2000000 in
theorem Bookings_compare_b_ok {z : AZ} {d : Nat} (hdd : 1 ≤ d) {x1 : Int} {g : AG} : ∀ (x2 : Int) (x3 : Int) (r : Int × AG), Bookings_compare_b x1 g x2 x3 = some r → AW z (RX1, cX1_compare, 4, none) d (QD none r) 4 [(0, rv z 9), (1, iv x1), (2, iv x2), (3, iv x3)] [] g := by
  refine Bookings_compare_b.partial_correctness x1 g (fun x2 x3 r => AW z (RX1, cX1_compare, 4, none) d (QD none r) 4 [(0, rv z 9), (1, iv x1), (2, iv x2), (3, iv x3)] [] g) ?_
  intro fb9 ih x2 x3 r h
  refine AW.iload_n 3 (dcN_4 dcg_69 :) rfl ?_
  refine AW.aloadr_n 0 (dcN_5 dcg_69 :) rfl ?_
  refine AW.getI af_X1_64_9 sr_9_10 (dcN_6 dcg_69 :) ?_
  refine AW.icmp_ge (tgt := 41) (dcN_7 dcg_69 :) (by decide) (fun c1 => ?_) (fun c1 => ?_)
  · replace h := hT h c1
    refine AW.iload_n 1 (dcN_5 dcg_70 :) rfl ?_
    refine AW.aloadr_n 0 (dcN_6 dcg_70 :) rfl ?_
    refine AW.getI af_X1_67_9 sr_9_15 (dcN_7 dcg_70 :) ?_
    obtain ⟨r19, e20, h⟩ := hC h
    refine AW.join (tgt := 92) (lv1 := []) (st1 := []) (g1 := r19) ?_ (fun J46 => ?_)
    · exact AW.vret1 rfl (dcN_15 dcg_71 :) h rfl
    replace h := e20
    refine AW.icmp_gt (tgt := 65) (dcN_8 dcg_70 :) (by decide) (fun c2 => ?_) (fun c2 => ?_)
    · replace h := hT h c2
      refine AW.aloadr_n 0 (dcN_0 dcg_71 :) rfl ?_
      refine AW.iload_n 1 (dcN_1 dcg_71 :) rfl ?_
      obtain ⟨g3, e4, h⟩ := hBe h
      refine AW.putI ap_X1_67_9 sr_9_15 (dcN_2 dcg_71 :) e4 ?_
      refine AW.aloadr_n 0 (dcN_3 dcg_71 :) rfl ?_
      refine AW.iload_n 2 (dcN_4 dcg_71 :) rfl ?_
      obtain ⟨g5, e6, h⟩ := hBe h
      refine AW.putI ap_X1_70_9 sr_9_16 (dcN_5 dcg_71 :) e6 ?_
      refine AW.aloadr_n 0 (dcN_6 dcg_71 :) rfl ?_
      refine AW.getR af_X1_42_9 sr_9_13 (dcN_7 dcg_71 :) ?_
      refine AW.iconst (dcN_8 dcg_71 :) ?_
      refine AW.aloadr_n 0 (dcN_9 dcg_71 :) rfl ?_
      refine AW.getR af_X1_45_9 sr_9_14 (dcN_10 dcg_71 :) ?_
      refine AW.iconst (dcN_11 dcg_71 :) ?_
      refine AW.aloadr_n 0 (dcN_12 dcg_71 :) rfl ?_
      refine AW.getI af_X1_48_9 sr_9_4 (dcN_13 dcg_71 :) ?_
      obtain ⟨k7, h⟩ := hK h
      obtain ⟨g8, e9, h⟩ := hBe h
      refine AW.copyi cc_X1_92 ac_n ac_s ac_i kc_95 sk_95 kc_96 sk_96 ⟨by decide, by decide, k7.2.2.1, k7.2.2.2.1, k7.2.2.2.2⟩ (Nat.le_of_ble_eq_true rfl) (Nat.le_trans (by decide) hdd) (dcN_14 dcg_71 :) e9 ?_
      refine AW.sub (lv1 := []) [] rfl ?_
      cases h
      exact J46
    · replace h := hF h c2
      refine AW.iload_n 1 (dcN_9 dcg_70 :) rfl ?_
      refine AW.aloadr_n 0 (dcN_10 dcg_70 :) rfl ?_
      refine AW.getI af_X1_67_9 sr_9_15 (dcN_11 dcg_70 :) ?_
      refine AW.icmp_ne (tgt := 92) (dcN_12 dcg_70 :) (by decide) (fun c10 => ?_) (fun c10 => ?_)
      · replace h := hF h c10
        refine AW.sub (lv1 := []) [] rfl ?_
        cases h
        exact J46
      · replace h := hT h c10
        refine AW.iload_n 2 (dcN_13 dcg_70 :) rfl ?_
        refine AW.aloadr_n 0 (dcN_14 dcg_70 :) rfl ?_
        refine AW.getI af_X1_70_9 sr_9_16 (dcN_15 dcg_70 :) ?_
        refine AW.icmp_le (tgt := 92) (dcN_16 dcg_70 :) (by decide) (fun c11 => ?_) (fun c11 => ?_)
        · replace h := hT h c11
          refine AW.sub (lv1 := []) [] rfl ?_
          cases h
          exact J46
        · replace h := hF h c11
          refine AW.aloadr_n 0 (dcN_0 dcg_71 :) rfl ?_
          refine AW.iload_n 1 (dcN_1 dcg_71 :) rfl ?_
          obtain ⟨g12, e13, h⟩ := hBe h
          refine AW.putI ap_X1_67_9 sr_9_15 (dcN_2 dcg_71 :) e13 ?_
          refine AW.aloadr_n 0 (dcN_3 dcg_71 :) rfl ?_
          refine AW.iload_n 2 (dcN_4 dcg_71 :) rfl ?_
          obtain ⟨g14, e15, h⟩ := hBe h
          refine AW.putI ap_X1_70_9 sr_9_16 (dcN_5 dcg_71 :) e15 ?_
          refine AW.aloadr_n 0 (dcN_6 dcg_71 :) rfl ?_
          refine AW.getR af_X1_42_9 sr_9_13 (dcN_7 dcg_71 :) ?_
          refine AW.iconst (dcN_8 dcg_71 :) ?_
          refine AW.aloadr_n 0 (dcN_9 dcg_71 :) rfl ?_
          refine AW.getR af_X1_45_9 sr_9_14 (dcN_10 dcg_71 :) ?_
          refine AW.iconst (dcN_11 dcg_71 :) ?_
          refine AW.aloadr_n 0 (dcN_12 dcg_71 :) rfl ?_
          refine AW.getI af_X1_48_9 sr_9_4 (dcN_13 dcg_71 :) ?_
          obtain ⟨k16, h⟩ := hK h
          obtain ⟨g17, e18, h⟩ := hBe h
          refine AW.copyi cc_X1_92 ac_n ac_s ac_i kc_95 sk_95 kc_96 sk_96 ⟨by decide, by decide, k16.2.2.1, k16.2.2.2.1, k16.2.2.2.2⟩ (Nat.le_of_ble_eq_true rfl) (Nat.le_trans (by decide) hdd) (dcN_14 dcg_71 :) e18 ?_
          refine AW.sub (lv1 := []) [] rfl ?_
          cases h
          exact J46
  · replace h := hF h c1
    refine AW.iload_n 2 (dcN_8 dcg_69 :) rfl ?_
    refine AW.aloadr_n 0 (dcN_9 dcg_69 :) rfl ?_
    refine AW.getR af_X1_33_9 sr_9_8 (dcN_10 dcg_69 :) ?_
    refine AW.iload_n 3 (dcN_11 dcg_69 :) rfl ?_
    obtain ⟨k21, h⟩ := hK h
    refine AW.iald kc_92 sk_92 k21 (dcN_12 dcg_69 :) ?_
    refine AW.aloadr_n 0 (dcN_13 dcg_69 :) rfl ?_
    refine AW.getR af_X1_30_9 sr_9_7 (dcN_14 dcg_69 :) ?_
    refine AW.iload_n 3 (dcN_15 dcg_69 :) rfl ?_
    refine AW.iald kc_91 sk_91 k21 (dcN_16 dcg_69 :) ?_
    obtain ⟨t22, e23, h⟩ := hBe h
    refine AW.join (tgt := 33) (lv1 := [(0, rv z 9), (1, iv x1), (2, iv x2), (3, iv x3)]) (st1 := [iv t22, iv x2]) (g1 := g) ?_ (fun J25 => ?_)
    · refine AW.iadd (dcN_1 dcg_70 :) ?_
      refine AW.istore_n (lv1 := [(2, iv (x2 + t22)), (0, rv z 9), (1, iv x1), (3, iv x3)]) (dcN_2 dcg_70 :) (by decide) rfl ?_
      refine AW.iinc (lv1 := [(3, iv (x3 + 1)), (2, iv (x2 + t22)), (0, rv z 9), (1, iv x1)]) 3 (dcN_3 dcg_70 :) rfl (by decide) rfl ?_
      refine AW.goto (tgt := 4) (dcN_4 dcg_70 :) (by decide) ?_
      refine AW.sub (lv1 := [(0, rv z 9), (1, iv x1), (2, iv (x2 + t22)), (3, iv (x3 + 1))]) [2, 3, 1, 0] rfl ?_
      exact ih _ _ _ h
    refine AW.icmp_ne (tgt := 32) (dcN_17 dcg_69 :) (by decide) (fun c24 => ?_) (fun c24 => ?_)
    · refine AW.iconst (dcN_0 dcg_70 :) ?_
      exact AW.val (e23.trans (if_neg c24)) J25
    · refine AW.iconst (dcN_18 dcg_69 :) ?_
      refine AW.goto (tgt := 33) (dcN_19 dcg_69 :) (by decide) ?_
      exact AW.val (e23.trans (if_pos c24)) J25
theorem Bookings_compare_ok {z : AZ} {x1 : Int} {g : AG} {r : Int × AG} (h : Bookings_compare x1 g = some r) : AMf z yX1_compare cX1_compare 4 none 1 [rv z 9, iv x1] g r := by
  intro d hdd
  refine AM.of (by decide +kernel) (Nat.le_of_ble_eq_true rfl) ?_
  show AW z (RX1, cX1_compare, 4, none) d (QD none r) 0 [(0, rv z 9), (1, iv x1)] [] g
  unfold Bookings_compare at h
  refine AW.iconst (dcN_0 dcg_69 :) ?_
  refine AW.istore_n (lv1 := [(2, iv 0), (0, rv z 9), (1, iv x1)]) (dcN_1 dcg_69 :) (by decide) rfl ?_
  refine AW.iconst (dcN_2 dcg_69 :) ?_
  refine AW.istore_n (lv1 := [(3, iv 0), (2, iv 0), (0, rv z 9), (1, iv x1)]) (dcN_3 dcg_69 :) (by decide) rfl ?_
  refine AW.sub (lv1 := [(0, rv z 9), (1, iv x1), (2, iv 0), (3, iv 0)]) [2, 3, 1, 0] rfl ?_
  exact Bookings_compare_b_ok hdd _ _ _ h
end
