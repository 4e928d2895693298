set_option synthInstance.maxHeartbeats 2000000 in
theorem Boats_lastLog_b_ok {z : AZ} {d : Nat} (hdd : 0 ≤ d) {x1 : Int} {x2 : Int} {g : AG} : ∀ (x3 : Int) (x4 : Int) (r : Int), Boats_lastLog_b x1 x2 g x3 x4 = some r → AW z (RX0, cX0_lastLog, 5, (some .int)) d (QD (some .int) (r, g)) 5 [(0, rv z 6), (1, iv x1), (2, iv x2), (3, iv x3), (4, iv x4)] [] g := by
  refine Boats_lastLog_b.partial_correctness x1 x2 g (fun x3 x4 r => AW z (RX0, cX0_lastLog, 5, (some .int)) d (QD (some .int) (r, g)) 5 [(0, rv z 6), (1, iv x1), (2, iv x2), (3, iv x3), (4, iv x4)] [] g) ?_
  intro fb9 ih x3 x4 r h
  refine AW.iload 4 (dcN_4 dcg_23 :) rfl ?_
  refine AW.aloadr_n 0 (dcN_5 dcg_23 :) rfl ?_
  refine AW.getR af_X0_32_6 sr_6_10 (dcN_6 dcg_23 :) ?_
  refine AW.iload_n 1 (dcN_7 dcg_23 :) rfl ?_
  obtain ⟨k1, h⟩ := hK h
  refine AW.iald kc_74 sk_74 k1 (dcN_8 dcg_23 :) ?_
  refine AW.icmp_ge (tgt := 38) (dcN_9 dcg_23 :) (by decide) (fun c2 => ?_) (fun c2 => ?_)
  · replace h := hT h c2
    refine AW.iload_n 3 (dcN_10 dcg_24 :) rfl ?_
    exact AW.iret2 rfl (dcN_11 dcg_24 :) h rfl
  · replace h := hF h c2
    refine AW.aloadr_n 0 (dcN_10 dcg_23 :) rfl ?_
    refine AW.getR af_X0_29_6 sr_6_9 (dcN_11 dcg_23 :) ?_
    refine AW.iload_n 1 (dcN_0 dcg_24 :) rfl ?_
    refine AW.aald (b := 64) kc_63 sk_63 sb_63 k1 (dcN_1 dcg_24 :) ?_
    refine AW.iload 4 (dcN_2 dcg_24 :) rfl ?_
    obtain ⟨k3, h⟩ := hK h
    refine AW.iald (s2_64 _ (ix_lt k1)).1 (s2_64 _ (ix_lt k1)).2 k3 (dcN_3 dcg_24 :) ?_
    refine AW.iload_n 2 (dcN_4 dcg_24 :) rfl ?_
    refine AW.icmp_gt (tgt := 38) (dcN_5 dcg_24 :) (by decide) (fun c4 => ?_) (fun c4 => ?_)
    · replace h := hT h c4
      refine AW.iload_n 3 (dcN_10 dcg_24 :) rfl ?_
      exact AW.iret2 rfl (dcN_11 dcg_24 :) h rfl
    · replace h := hF h c4
      refine AW.iload 4 (dcN_6 dcg_24 :) rfl ?_
      refine AW.istore_n (lv1 := [(3, iv x4), (0, rv z 6), (1, iv x1), (2, iv x2), (4, iv x4)]) (dcN_7 dcg_24 :) (by decide) rfl ?_
      refine AW.iinc (lv1 := [(4, iv (x4 + 1)), (3, iv x4), (0, rv z 6), (1, iv x1), (2, iv x2)]) 4 (dcN_8 dcg_24 :) rfl (by decide) rfl ?_
      refine AW.goto (tgt := 5) (dcN_9 dcg_24 :) (by decide) ?_
      refine AW.sub (lv1 := [(0, rv z 6), (1, iv x1), (2, iv x2), (3, iv x4), (4, iv (x4 + 1))]) [2, 3, 4, 1, 0] rfl ?_
      exact ih _ _ _ h
theorem Boats_lastLog_ok {z : AZ} {x1 : Int} {x2 : Int} {g : AG} {r : Int} (h : Boats_lastLog x1 x2 g = some r) : AMf z yX0_lastLog cX0_lastLog 5 (some .int) 0 [rv z 6, iv x1, iv x2] g (r, g) := by
  intro d hdd
  refine AM.of (by decide +kernel) (Nat.le_of_ble_eq_true rfl) ?_
  show AW z (RX0, cX0_lastLog, 5, (some .int)) d (QD (some .int) (r, g)) 0 [(0, rv z 6), (1, iv x1), (2, iv x2)] [] g
  unfold Boats_lastLog at h
  refine AW.iconst (dcN_0 dcg_23 :) ?_
  refine AW.istore_n (lv1 := [(3, iv (-1)), (0, rv z 6), (1, iv x1), (2, iv x2)]) (dcN_1 dcg_23 :) (by decide) rfl ?_
  refine AW.iconst (dcN_2 dcg_23 :) ?_
  refine AW.istore (lv1 := [(4, iv 0), (3, iv (-1)), (0, rv z 6), (1, iv x1), (2, iv x2)]) (dcN_3 dcg_23 :) (by decide) rfl ?_
  refine AW.sub (lv1 := [(0, rv z 6), (1, iv x1), (2, iv x2), (3, iv (-1)), (4, iv 0)]) [2, 3, 4, 1, 0] rfl ?_
  exact Boats_lastLog_b_ok hdd _ _ _ h
set_option synthInstance.maxHeartbeats 2000000 in
theorem Boats_settleTonight_b_ok {z : AZ} {d : Nat} (hdd : 5 ≤ d) {x1 : Int} : ∀ (tag : Nat) (x2 : Int) (x4 : Int) (x5 : Int) (g : AG) (r : Int × AG), Boats_settleTonight_b x1 tag x2 x4 x5 g = some r → (tag = 1 → AW z (RX0, cX0_settleTonight, 6, none) d (QD none r) 10 [(0, rv z 6), (1, iv x1), (2, iv x2)] [] g) ∧ (tag = 2 → AW z (RX0, cX0_settleTonight, 6, none) d (QD none r) 63 [(0, rv z 6), (1, iv x1), (2, iv x2), (4, iv x4), (5, iv x5)] [] g) := by
  refine Boats_settleTonight_b.partial_correctness x1 (fun tag x2 x4 x5 g r => (tag = 1 → AW z (RX0, cX0_settleTonight, 6, none) d (QD none r) 10 [(0, rv z 6), (1, iv x1), (2, iv x2)] [] g) ∧ (tag = 2 → AW z (RX0, cX0_settleTonight, 6, none) d (QD none r) 63 [(0, rv z 6), (1, iv x1), (2, iv x2), (4, iv x4), (5, iv x5)] [] g)) ?_
  intro fb9 ih tag x2 x4 x5 g r h
  refine ⟨fun h9 => ?_, fun h9 => ?_⟩
  · subst h9
    replace h := hT h rfl
    refine AW.iload_n 2 (dcN_6 dcg_19 :) rfl ?_
    refine AW.aloadr_n 0 (dcN_7 dcg_19 :) rfl ?_
    refine AW.getI af_X0_50_6 sr_6_7 (dcN_8 dcg_19 :) ?_
    refine AW.icmp_ge (tgt := 101) (dcN_9 dcg_19 :) (by decide) (fun c1 => ?_) (fun c1 => ?_)
    · replace h := hT h c1
      exact AW.vret1 rfl (dcN_1 dcg_22 :) h rfl
    · replace h := hF h c1
      refine AW.aloadr_n 0 (dcN_10 dcg_19 :) rfl ?_
      refine AW.iload_n 2 (dcN_11 dcg_19 :) rfl ?_
      refine AW.iload_n 1 (dcN_12 dcg_19 :) rfl ?_
      obtain ⟨r2, e3, h⟩ := hC h
      refine AW.callVi (As := [iv x2, iv x1]) (st := []) (Boats_lastLog_ok e3) cq_X0_82 cr_6_X0_lastLog (Nat.le_trans (by decide) hdd) rfl (dcN_13 dcg_19 :) rfl (Nat.le_of_ble_eq_true rfl) ?_
      refine AW.istore_n (lv1 := [(3, iv r2), (0, rv z 6), (1, iv x1), (2, iv x2)]) (dcN_14 dcg_19 :) (by decide) rfl ?_
      refine AW.aloadr_n 1 (dcN_15 dcg_19 :) rfl ?_
      refine AW.getR af_X0_46_6 sr_6_2 (dcN_16 dcg_19 :) ?_
      refine AW.aloadr_n 1 (dcN_17 dcg_19 :) rfl ?_
      refine AW.getR af_X0_21_6 sr_6_6 (dcN_18 dcg_19 :) ?_
      refine AW.iload_n 3 (dcN_0 dcg_20 :) rfl ?_
      obtain ⟨k4, h⟩ := hK h
      refine AW.iald kc_51 sk_51 k4 (dcN_1 dcg_20 :) ?_
      refine AW.aloadr_n 1 (dcN_2 dcg_20 :) rfl ?_
      refine AW.iload_n 3 (dcN_3 dcg_20 :) rfl ?_
      refine AW.iload_n 0 (dcN_4 dcg_20 :) rfl ?_
      obtain ⟨r5, e6, h⟩ := hC h
      refine AW.callVi (As := [iv x2, iv r2]) (st := [iv (g 51 (ix x2)), rv z 5]) (Boats_placeOf_ok e6) cq_X0_58 cr_6_X0_placeOf (Nat.le_trans (by decide) hdd) rfl (dcN_5 dcg_20 :) rfl (Nat.le_of_ble_eq_true rfl) ?_
      refine AW.aloadr_n 1 (dcN_6 dcg_20 :) rfl ?_
      refine AW.iload_n 3 (dcN_7 dcg_20 :) rfl ?_
      refine AW.iload_n 0 (dcN_8 dcg_20 :) rfl ?_
      obtain ⟨r7, e8, h⟩ := hC h
      refine AW.callVi (As := [iv x2, iv r2]) (st := [iv r5, iv (g 51 (ix x2)), rv z 5]) (Boats_timeOf_ok e8) cq_X0_62 cr_6_X0_timeOf (Nat.le_trans (by decide) hdd) rfl (dcN_9 dcg_20 :) rfl (Nat.le_of_ble_eq_true rfl) ?_
      obtain ⟨r9, e10, h⟩ := hC h
      refine AW.callVv (As := [iv (g 51 (ix x2)), iv r5, iv r7]) (st := []) (Voyage_reach_ok e10) cq_X0_85 cr_5_X9_reach (Nat.le_trans (by decide) hdd) rfl (dcN_10 dcg_20 :) rfl (Nat.le_of_ble_eq_true rfl) ?_
      refine AW.aloadr_n 1 (dcN_11 dcg_20 :) rfl ?_
      refine AW.getR af_X0_46_6 sr_6_2 (dcN_12 dcg_20 :) ?_
      refine AW.iload_n 2 (dcN_13 dcg_20 :) rfl ?_
      obtain ⟨r11, e12, h⟩ := hC h
      refine AW.callVi (As := [iv x1]) (st := []) (Voyage_reached_ok e12) cq_X0_89 cr_5_X9_reached (Nat.le_trans (by decide) hdd) rfl (dcN_14 dcg_20 :) rfl (Nat.le_of_ble_eq_true rfl) ?_
      refine AW.istore (lv1 := [(4, iv r11), (3, iv r2), (0, rv z 6), (1, iv x1), (2, iv x2)]) (dcN_15 dcg_20 :) (by decide) rfl ?_
      refine AW.iconst (dcN_16 dcg_20 :) ?_
      refine AW.istore (lv1 := [(5, iv 0), (4, iv r11), (3, iv r2), (0, rv z 6), (1, iv x1), (2, iv x2)]) (dcN_17 dcg_20 :) (by decide) rfl ?_
      refine AW.sub (lv1 := [(0, rv z 6), (1, iv x1), (2, iv x2), (4, iv r11), (5, iv 0)]) [3, 4, 5, 1, 0] rfl ?_
      exact (ih _ _ _ _ _ _ h).2 rfl
  · subst h9
    replace h := hF h (by decide)
    replace h := hT h rfl
    refine AW.iload 4 (dcN_18 dcg_20 :) rfl ?_
    refine AW.bipush (dcN_0 dcg_21 :) (by decide) (by decide) ?_
    refine AW.icmp_ge (tgt := 95) (dcN_1 dcg_21 :) (by decide) (fun c1 => ?_) (fun c1 => ?_)
    · replace h := hT h c1
      refine AW.iinc (lv1 := [(2, iv (x2 + 1)), (0, rv z 6), (1, iv x1), (4, iv x4), (5, iv x5)]) 2 (dcN_18 dcg_21 :) rfl (by decide) rfl ?_
      refine AW.goto (tgt := 10) (dcN_0 dcg_22 :) (by decide) ?_
      refine AW.sub (lv1 := [(0, rv z 6), (1, iv x1), (2, iv (x2 + 1))]) [1, 2, 0] rfl ?_
      exact (ih _ _ _ _ _ _ h).1 rfl
    · replace h := hF h c1
      refine AW.aloadr_n 0 (dcN_2 dcg_21 :) rfl ?_
      refine AW.getR af_X0_35_6 sr_6_11 (dcN_3 dcg_21 :) ?_
      refine AW.iload 4 (dcN_4 dcg_21 :) rfl ?_
      refine AW.dup2r (dcN_5 dcg_21 :) ?_
      obtain ⟨k2, h⟩ := hK h
      refine AW.iald kc_75 sk_75 k2 (dcN_6 dcg_21 :) ?_
      refine AW.iload 3 (dcN_7 dcg_21 :) rfl ?_
      refine AW.iload 4 (dcN_8 dcg_21 :) rfl ?_
      refine AW.ishr (dcN_9 dcg_21 :) ?_
      refine AW.iconst (dcN_10 dcg_21 :) ?_
      refine AW.iand (dcN_11 dcg_21 :) ?_
      refine AW.iload_n 2 (dcN_12 dcg_21 :) rfl ?_
      refine AW.ishl (dcN_13 dcg_21 :) ?_
      refine AW.ior (dcN_14 dcg_21 :) ?_
      obtain ⟨g3, e4, h⟩ := hBe h
      refine AW.iast kc_75 sk_75 k2 (dcN_15 dcg_21 :) e4 ?_
      refine AW.iinc (lv1 := [(5, iv (x5 + 1)), (0, rv z 6), (1, iv x1), (2, iv x2), (4, iv x4)]) 4 (dcN_16 dcg_21 :) rfl (by decide) rfl ?_
      refine AW.goto (tgt := 63) (dcN_17 dcg_21 :) (by decide) ?_
      refine AW.sub (lv1 := [(0, rv z 6), (1, iv x1), (2, iv x2), (4, iv x4), (5, iv (x5 + 1))]) [1, 2, 3, 4, 0] rfl ?_
      exact (ih _ _ _ _ _ _ h).2 rfl
theorem Boats_settleTonight_ok {z : AZ} {x1 : Int} {g : AG} {r : Int × AG} (h : Boats_settleTonight x1 g = some r) : AMf z yX0_settleTonight cX0_settleTonight 6 none 5 [rv z 6, iv x1] g r := by
  intro d hdd
  refine AM.of (by decide +kernel) (Nat.le_of_ble_eq_true rfl) ?_
  show AW z (RX0, cX0_settleTonight, 6, none) d (QD none r) 0 [(0, rv z 6), (1, iv x1)] [] g
  unfold Boats_settleTonight at h
  refine AW.aloadr_n 0 (dcN_0 dcg_19 :) rfl ?_
  refine AW.getR af_X0_35_6 sr_6_11 (dcN_1 dcg_19 :) ?_
  refine AW.iconst (dcN_2 dcg_19 :) ?_
  obtain ⟨g1, e2, h⟩ := hBe h
  refine AW.callSv (st := []) (fill_ok kc_75 sk_75 (by decide)) cf_X0_76 st_fill (Nat.le_trans (by decide) hdd) rfl (dcN_3 dcg_19 :) rfl (Nat.le_of_ble_eq_true rfl) ?_
  rw [← e2]
  refine AW.iconst (dcN_4 dcg_19 :) ?_
  refine AW.istore_n (lv1 := [(2, iv 0), (0, rv z 6), (1, iv x1)]) (dcN_5 dcg_19 :) (by decide) rfl ?_
  refine AW.sub (lv1 := [(0, rv z 6), (1, iv x1), (2, iv 0)]) [1, 2, 0] rfl ?_
  exact (Boats_settleTonight_b_ok hdd _ _ _ _ _ _ h).1 rfl
set_option synthInstance.maxHeartbeats 2000000 in
theorem Boats_crowd_b_ok {z : AZ} {d : Nat} (hdd : 1 ≤ d) {g : AG} : ∀ (x1 : Int) (x2 : Int) (r : Int), Boats_crowd_b g x1 x2 = some r → AW z (RX0, cX0_crowd, 3, (some .int)) d (QD (some .int) (r, g)) 4 [(0, rv z 6), (1, iv x1), (2, iv x2)] [] g := by
  refine Boats_crowd_b.partial_correctness g (fun x1 x2 r => AW z (RX0, cX0_crowd, 3, (some .int)) d (QD (some .int) (r, g)) 4 [(0, rv z 6), (1, iv x1), (2, iv x2)] [] g) ?_
  intro fb9 ih x1 x2 r h
  refine AW.iload_n 2 (dcN_4 dcg_25 :) rfl ?_
  refine AW.bipush (dcN_5 dcg_25 :) (by decide) (by decide) ?_
  refine AW.icmp_ge (tgt := 39) (dcN_6 dcg_25 :) (by decide) (fun c1 => ?_) (fun c1 => ?_)
  · replace h := hT h c1
    refine AW.iload_n 1 (dcN_10 dcg_26 :) rfl ?_
    exact AW.iret2 rfl (dcN_11 dcg_26 :) h rfl
  · replace h := hF h c1
    refine AW.aloadr_n 0 (dcN_7 dcg_25 :) rfl ?_
    refine AW.getR af_X0_35_6 sr_6_11 (dcN_8 dcg_25 :) ?_
    refine AW.iload_n 2 (dcN_9 dcg_25 :) rfl ?_
    obtain ⟨k2, h⟩ := hK h
    refine AW.iald kc_75 sk_75 k2 (dcN_10 dcg_25 :) ?_
    obtain ⟨r3, e4, h⟩ := hC h
    refine AW.callSi (As := [iv (g 75 (ix x2))]) (st := []) (Integer_bitCount_ok e4) cq_X0_93 st_J6_bitCount_0f7a4 (Nat.le_trans (by decide) hdd) rfl (dcN_11 dcg_25 :) rfl (Nat.le_of_ble_eq_true rfl) ?_
    refine AW.aloadr_n 0 (dcN_0 dcg_26 :) rfl ?_
    refine AW.getR af_X0_35_6 sr_6_11 (dcN_1 dcg_26 :) ?_
    refine AW.iload_n 1 (dcN_2 dcg_26 :) rfl ?_
    obtain ⟨k5, h⟩ := hK h
    refine AW.iald kc_75 sk_75 k5 (dcN_3 dcg_26 :) ?_
    obtain ⟨r6, e7, h⟩ := hC h
    refine AW.callSi (As := [iv (g 75 (ix x1))]) (st := [iv r3]) (Integer_bitCount_ok e7) cq_X0_93 st_J6_bitCount_0f7a4 (Nat.le_trans (by decide) hdd) rfl (dcN_4 dcg_26 :) rfl (Nat.le_of_ble_eq_true rfl) ?_
    obtain ⟨r9, e10, h⟩ := hC h
    refine AW.join (tgt := 33) (lv1 := [(0, rv z 6), (1, iv r9), (2, iv x2)]) (st1 := []) (g1 := g) ?_ (fun J28 => ?_)
    · refine AW.iinc (lv1 := [(2, iv (x2 + 1)), (0, rv z 6), (1, iv r9)]) 2 (dcN_8 dcg_26 :) rfl (by decide) rfl ?_
      refine AW.goto (tgt := 4) (dcN_9 dcg_26 :) (by decide) ?_
      refine AW.sub (lv1 := [(0, rv z 6), (1, iv r9), (2, iv (x2 + 1))]) [1, 2, 0] rfl ?_
      exact ih _ _ _ h
    replace h := e10
    refine AW.icmp_le (tgt := 33) (dcN_5 dcg_26 :) (by decide) (fun c8 => ?_) (fun c8 => ?_)
    · replace h := hT h c8
      cases h
      exact J28
    · replace h := hF h c8
      refine AW.iload_n 2 (dcN_6 dcg_26 :) rfl ?_
      refine AW.istore_n (lv1 := [(1, iv x2), (0, rv z 6), (2, iv x2)]) (dcN_7 dcg_26 :) (by decide) rfl ?_
      refine AW.sub (lv1 := [(0, rv z 6), (1, iv x2), (2, iv x2)]) [1, 0, 2] rfl ?_
      cases h
      exact J28
theorem Boats_crowd_ok {z : AZ} {g : AG} {r : Int} (h : Boats_crowd g = some r) : AMf z yX0_crowd cX0_crowd 3 (some .int) 1 [rv z 6] g (r, g) := by
  intro d hdd
  refine AM.of (by decide +kernel) (Nat.le_of_ble_eq_true rfl) ?_
  show AW z (RX0, cX0_crowd, 3, (some .int)) d (QD (some .int) (r, g)) 0 [(0, rv z 6)] [] g
  unfold Boats_crowd at h
  refine AW.iconst (dcN_0 dcg_25 :) ?_
  refine AW.istore_n (lv1 := [(1, iv 0), (0, rv z 6)]) (dcN_1 dcg_25 :) (by decide) rfl ?_
  refine AW.iconst (dcN_2 dcg_25 :) ?_
  refine AW.istore_n (lv1 := [(2, iv 1), (1, iv 0), (0, rv z 6)]) (dcN_3 dcg_25 :) (by decide) rfl ?_
  refine AW.sub (lv1 := [(0, rv z 6), (1, iv 0), (2, iv 1)]) [2, 1, 0] rfl ?_
  exact Boats_crowd_b_ok hdd _ _ _ h
theorem X_tonight_ok {z : AZ} {x1 : Int} {x2 : Int} {g : AG} {r : Int × AG} (h : X_tonight x1 x2 g = some r) : AMf z yX11_tonight cX11_tonight 4 (some .int) 6 [rv z 0, iv x1, iv x2] g r := by
  intro d hdd
  refine AM.of (by decide +kernel) (Nat.le_of_ble_eq_true rfl) ?_
  show AW z (RX11, cX11_tonight, 4, (some .int)) d (QD (some .int) r) 0 [(0, rv z 0), (1, iv x1), (2, iv x2)] [] g
  unfold X_tonight at h
  refine AW.iload_n 1 (dcN_0 dcg_406 :) rfl ?_
  refine AW.callSi (As := [iv x1]) (st := []) X_isTime_ok cq_X11_114 st_X11_isTime (Nat.le_trans (by decide) hdd) rfl (dcN_1 dcg_406 :) rfl (Nat.le_of_ble_eq_true rfl) ?_
  refine AW.if_eq (tgt := 17) (dcN_2 dcg_406 :) (by decide) (fun c1 => ?_) (fun c1 => ?_)
  · replace h := hT h c1
    refine AW.iconst (dcN_8 dcg_406 :) ?_
    exact AW.iret1 rfl (dcN_9 dcg_406 :) h rfl
  · replace h := hF h c1
    refine AW.iload_n 2 (dcN_3 dcg_406 :) rfl ?_
    refine AW.iconst (dcN_4 dcg_406 :) ?_
    refine AW.bipush (dcN_5 dcg_406 :) (by decide) (by decide) ?_
    refine AW.callSi (As := [iv x2, iv 0, iv 17]) (st := []) X_within_ok cq_X11_99 st_X11_within (Nat.le_trans (by decide) hdd) rfl (dcN_6 dcg_406 :) rfl (Nat.le_of_ble_eq_true rfl) ?_
    refine AW.if_ne (tgt := 19) (dcN_7 dcg_406 :) (by decide) (fun c2 => ?_) (fun c2 => ?_)
    · replace h := hF h c2
      refine AW.aloadr_n 0 (dcN_10 dcg_406 :) rfl ?_
      refine AW.getR af_X11_49_0 sr_0_5 (dcN_11 dcg_406 :) ?_
      refine AW.iload_n 1 (dcN_12 dcg_406 :) rfl ?_
      obtain ⟨r3, e4, h⟩ := hC h
      refine AW.callVv (As := [iv x1]) (st := []) (Boats_settleTonight_ok e4) cq_X11_237 cr_6_X0_settleTonight (Nat.le_trans (by decide) hdd) rfl (dcN_13 dcg_406 :) rfl (Nat.le_of_ble_eq_true rfl) ?_
      refine AW.iload_n 2 (dcN_14 dcg_406 :) rfl ?_
      refine AW.bipush (dcN_15 dcg_406 :) (by decide) (by decide) ?_
      refine AW.icmp_ge (tgt := 43) (dcN_16 dcg_406 :) (by decide) (fun c5 => ?_) (fun c5 => ?_)
      · replace h := hT h c5
        refine AW.aloadr_n 0 (dcN_6 dcg_407 :) rfl ?_
        refine AW.getR af_X11_49_0 sr_0_5 (dcN_7 dcg_407 :) ?_
        obtain ⟨r6, e7, h⟩ := hC h
        refine AW.callVi (As := []) (st := []) (Boats_crowd_ok e7) cq_X11_243 cr_6_X0_crowd (Nat.le_trans (by decide) hdd) rfl (dcN_8 dcg_407 :) rfl (Nat.le_of_ble_eq_true rfl) ?_
        refine AW.istore_n (lv1 := [(3, iv r6), (0, rv z 0), (1, iv x1), (2, iv x2)]) (dcN_9 dcg_407 :) (by decide) rfl ?_
        refine AW.iload_n 3 (dcN_10 dcg_407 :) rfl ?_
        refine AW.bipush (dcN_11 dcg_407 :) (by decide) (by decide) ?_
        obtain ⟨r12, e13, h⟩ := hC h
        refine AW.join (tgt := 73) (lv1 := []) (st1 := [iv r12.1]) (g1 := r12.2) ?_ (fun J54 => ?_)
        · exact AW.iret1 rfl (dcN_4 dcg_408 :) h rfl
        replace h := e13
        refine AW.icmp_ne (tgt := 61) (dcN_12 dcg_407 :) (by decide) (fun c8 => ?_) (fun c8 => ?_)
        · replace h := hF h c8
          refine AW.aloadr_n 1 (dcN_15 dcg_407 :) rfl ?_
          refine AW.getR af_X11_49_0 sr_0_5 (dcN_16 dcg_407 :) ?_
          refine AW.getR af_X11_240_6 sr_6_11 (dcN_0 dcg_408 :) ?_
          refine AW.iload_n 0 (dcN_1 dcg_408 :) rfl ?_
          obtain ⟨k9, h⟩ := hK h
          refine AW.iald kc_75 sk_75 k9 (dcN_2 dcg_408 :) ?_
          obtain ⟨r10, e11, h⟩ := hC h
          refine AW.callSi (As := [iv (r3.2 75 (ix r6))]) (st := []) (Integer_bitCount_ok e11) cq_X11_232 st_J6_bitCount_0f7a4 (Nat.le_trans (by decide) hdd) rfl (dcN_3 dcg_408 :) rfl (Nat.le_of_ble_eq_true rfl) ?_
          refine AW.sub (lv1 := []) [] rfl ?_
          cases h
          exact J54
        · replace h := hT h c8
          refine AW.iload_n 0 (dcN_13 dcg_407 :) rfl ?_
          refine AW.goto (tgt := 73) (dcN_14 dcg_407 :) (by decide) ?_
          refine AW.sub (lv1 := []) [] rfl ?_
          cases h
          exact J54
      · replace h := hF h c5
        refine AW.aloadr_n 0 (dcN_0 dcg_407 :) rfl ?_
        refine AW.getR af_X11_49_0 sr_0_5 (dcN_1 dcg_407 :) ?_
        refine AW.getR af_X11_240_6 sr_6_11 (dcN_2 dcg_407 :) ?_
        refine AW.iload_n 2 (dcN_3 dcg_407 :) rfl ?_
        obtain ⟨k14, h⟩ := hK h
        refine AW.iald kc_75 sk_75 k14 (dcN_4 dcg_407 :) ?_
        exact AW.iret1 rfl (dcN_5 dcg_407 :) h rfl
    · replace h := hT h c2
      refine AW.iconst (dcN_8 dcg_406 :) ?_
      exact AW.iret1 rfl (dcN_9 dcg_406 :) h rfl
theorem LockQueue_minutesOf_8_84_ok {z : AZ} {x2 : Int} {g : AG} {r : Int} (h : LockQueue_minutesOf_8_84 x2 g = some r) : AMf z yX3_minutesOf cX3_minutesOf 3 (some .int) 0 [rv z 8, rv z 84, iv x2] g (r, g) := by
  intro d hdd
  refine AM.of (by decide +kernel) (Nat.le_of_ble_eq_true rfl) ?_
  show AW z (RX3, cX3_minutesOf, 3, (some .int)) d (QD (some .int) (r, g)) 0 [(0, rv z 8), (1, rv z 84), (2, iv x2)] [] g
  unfold LockQueue_minutesOf_8_84 at h
  refine AW.iload_n 2 (dcN_0 dcg_90 :) rfl ?_
  obtain ⟨r9, e10, h⟩ := hC h
  refine AW.join (tgt := 32) (lv1 := []) (st1 := [iv r9]) (g1 := g) ?_ (fun J1 => ?_)
  · exact AW.iret2 rfl (dcN_8 dcg_91 :) h rfl
  replace h := e10
  refine AW.if_le (tgt := 30) (dcN_1 dcg_90 :) (by decide) (fun c1 => ?_) (fun c1 => ?_)
  · replace h := hT h c1
    refine AW.bipush (dcN_7 dcg_91 :) (by decide) (by decide) ?_
    refine AW.sub (lv1 := []) [] rfl ?_
    cases h
    exact J1
  · replace h := hF h c1
    refine AW.aloadr_n 0 (dcN_2 dcg_90 :) rfl ?_
    refine AW.getR af_X3_15_8 sr_8_1 (dcN_3 dcg_90 :) ?_
    refine AW.aloadr_n 1 (dcN_4 dcg_90 :) rfl ?_
    refine AW.iload_n 2 (dcN_5 dcg_90 :) rfl ?_
    obtain ⟨k2, h⟩ := hK h
    refine AW.iald kc_84 sk_84 k2 (dcN_6 dcg_90 :) ?_
    obtain ⟨k3, h⟩ := hK h
    refine AW.iald kc_82 sk_82 k3 (dcN_7 dcg_90 :) ?_
    refine AW.aloadr_n 0 (dcN_8 dcg_90 :) rfl ?_
    refine AW.getR af_X3_15_8 sr_8_1 (dcN_9 dcg_90 :) ?_
    refine AW.aloadr_n 1 (dcN_10 dcg_90 :) rfl ?_
    refine AW.iload_n 2 (dcN_11 dcg_90 :) rfl ?_
    refine AW.iconst (dcN_0 dcg_91 :) ?_
    refine AW.isub (dcN_1 dcg_91 :) ?_
    obtain ⟨k4, h⟩ := hK h
    refine AW.iald kc_84 sk_84 k4 (dcN_2 dcg_91 :) ?_
    obtain ⟨k5, h⟩ := hK h
    refine AW.iald kc_82 sk_82 k5 (dcN_3 dcg_91 :) ?_
    obtain ⟨t6, e7, h⟩ := hBe h
    refine AW.join (tgt := 32) (lv1 := [(0, rv z 8), (1, rv z 84), (2, iv x2)]) (st1 := [iv t6]) (g1 := g) ?_ (fun J22 => ?_)
    · refine AW.sub (lv1 := []) [] rfl ?_
      cases h
      exact J1
    refine AW.icmp_ne (tgt := 30) (dcN_4 dcg_91 :) (by decide) (fun c8 => ?_) (fun c8 => ?_)
    · refine AW.bipush (dcN_7 dcg_91 :) (by decide) (by decide) ?_
      exact AW.val (e7.trans (if_neg c8)) J22
    · refine AW.bipush (dcN_5 dcg_91 :) (by decide) (by decide) ?_
      refine AW.goto (tgt := 32) (dcN_6 dcg_91 :) (by decide) ?_
      exact AW.val (e7.trans (if_pos c8)) J22
set_option synthInstance.maxHeartbeats 2000000 in
theorem LockQueue_waitOf_b_ok {z : AZ} {d : Nat} (hdd : 1 ≤ d) {g : AG} : ∀ (x2 : Int) (x3 : Int) (x4 : Int) (r : Int), LockQueue_waitOf_b g x2 x3 x4 = some r → AW z (RX3, cX3_waitOf, 6, (some .int)) d (QD (some .int) (r, g)) 7 [(0, rv z 8), (1, rv z 84), (2, iv x2), (3, iv x3), (4, iv x4)] [] g := by
  refine LockQueue_waitOf_b.partial_correctness g (fun x2 x3 x4 r => AW z (RX3, cX3_waitOf, 6, (some .int)) d (QD (some .int) (r, g)) 7 [(0, rv z 8), (1, rv z 84), (2, iv x2), (3, iv x3), (4, iv x4)] [] g) ?_
  intro fb9 ih x2 x3 x4 r h
  refine AW.iload 4 (dcN_6 dcg_87 :) rfl ?_
  refine AW.aloadr_n 0 (dcN_7 dcg_87 :) rfl ?_
  refine AW.getI af_X3_24_8 sr_8_2 (dcN_8 dcg_87 :) ?_
  refine AW.icmp_ge (tgt := 63) (dcN_9 dcg_87 :) (by decide) (fun c1 => ?_) (fun c1 => ?_)
  · replace h := hT h c1
    refine AW.iload_n 2 (dcN_19 dcg_88 :) rfl ?_
    exact AW.iret2 rfl (dcN_0 dcg_89 :) h rfl
  · replace h := hF h c1
    refine AW.aloadr_n 0 (dcN_10 dcg_87 :) rfl ?_
    refine AW.getR af_X3_9_8 sr_8_0 (dcN_11 dcg_87 :) ?_
    refine AW.aloadr_n 1 (dcN_12 dcg_87 :) rfl ?_
    refine AW.iload 4 (dcN_13 dcg_87 :) rfl ?_
    obtain ⟨k2, h⟩ := hK h
    refine AW.iald kc_84 sk_84 k2 (dcN_14 dcg_87 :) ?_
    obtain ⟨k3, h⟩ := hK h
    refine AW.iald kc_81 sk_81 k3 (dcN_15 dcg_87 :) ?_
    refine AW.iload_n 3 (dcN_16 dcg_87 :) rfl ?_
    refine AW.mmax (st := []) cm_X3_45 mst_max mini mcd_max (Nat.le_trans (by decide) hdd) (Nat.le_of_ble_eq_true rfl) (dcN_17 dcg_87 :) ?_
    refine AW.istore (lv1 := [(5, iv (mxI (g 81 (ix (g 84 (ix x4)))) x3)), (0, rv z 8), (1, rv z 84), (2, iv x2), (3, iv x3), (4, iv x4)]) (dcN_18 dcg_87 :) (by decide) rfl ?_
    refine AW.iload_n 3 (dcN_19 dcg_87 :) rfl ?_
    refine AW.iload 0 (dcN_0 dcg_88 :) rfl ?_
    refine AW.aloadr_n 1 (dcN_1 dcg_88 :) rfl ?_
    refine AW.getR af_X3_9_8 sr_8_0 (dcN_2 dcg_88 :) ?_
    refine AW.aloadr_n 2 (dcN_3 dcg_88 :) rfl ?_
    refine AW.iload 5 (dcN_4 dcg_88 :) rfl ?_
    refine AW.iald kc_84 sk_84 k2 (dcN_5 dcg_88 :) ?_
    refine AW.iald kc_81 sk_81 k3 (dcN_6 dcg_88 :) ?_
    refine AW.isub (dcN_7 dcg_88 :) ?_
    refine AW.iadd (dcN_8 dcg_88 :) ?_
    obtain ⟨t4, e5, h⟩ := hBe h
    refine AW.val e5 ?_
    refine AW.istore_n (lv1 := [(2, iv t4), (5, iv (mxI (g 81 (ix (g 84 (ix x4)))) x3)), (0, rv z 8), (1, rv z 84), (3, iv x3), (4, iv x4)]) (dcN_9 dcg_88 :) (by decide) rfl ?_
    refine AW.iload 1 (dcN_10 dcg_88 :) rfl ?_
    refine AW.aloadr_n 2 (dcN_11 dcg_88 :) rfl ?_
    refine AW.aloadr_n 3 (dcN_12 dcg_88 :) rfl ?_
    refine AW.iload 5 (dcN_13 dcg_88 :) rfl ?_
    obtain ⟨r6, e7, h⟩ := hC h
    refine AW.callVi (As := [rv z 84, iv x4]) (st := [iv (mxI (g 81 (ix (g 84 (ix x4)))) x3)]) (LockQueue_minutesOf_8_84_ok e7) cq_X3_51 cr_8_X3_minutesOf (Nat.le_trans (by decide) hdd) rfl (dcN_14 dcg_88 :) rfl (Nat.le_of_ble_eq_true rfl) ?_
    refine AW.iadd (dcN_15 dcg_88 :) ?_
    refine AW.istore_n (lv1 := [(3, iv ((mxI (g 81 (ix (g 84 (ix x4)))) x3) + r6)), (2, iv t4), (5, iv (mxI (g 81 (ix (g 84 (ix x4)))) x3)), (0, rv z 8), (1, rv z 84), (4, iv x4)]) (dcN_16 dcg_88 :) (by decide) rfl ?_
    refine AW.iinc (lv1 := [(4, iv (x4 + 1)), (3, iv ((mxI (g 81 (ix (g 84 (ix x4)))) x3) + r6)), (2, iv t4), (5, iv (mxI (g 81 (ix (g 84 (ix x4)))) x3)), (0, rv z 8), (1, rv z 84)]) 5 (dcN_17 dcg_88 :) rfl (by decide) rfl ?_
    refine AW.goto (tgt := 7) (dcN_18 dcg_88 :) (by decide) ?_
    refine AW.sub (lv1 := [(0, rv z 8), (1, rv z 84), (2, iv t4), (3, iv ((mxI (g 81 (ix (g 84 (ix x4)))) x3) + r6)), (4, iv (x4 + 1))]) [4, 5, 2, 1, 0] rfl ?_
    exact ih _ _ _ _ h
theorem LockQueue_waitOf_ok {z : AZ} {g : AG} {r : Int} (h : LockQueue_waitOf g = some r) : AMf z yX3_waitOf cX3_waitOf 6 (some .int) 1 [rv z 8, rv z 84] g (r, g) := by
  intro d hdd
  refine AM.of (by decide +kernel) (Nat.le_of_ble_eq_true rfl) ?_
  show AW z (RX3, cX3_waitOf, 6, (some .int)) d (QD (some .int) (r, g)) 0 [(0, rv z 8), (1, rv z 84)] [] g
  unfold LockQueue_waitOf at h
  refine AW.iconst (dcN_0 dcg_87 :) ?_
  refine AW.istore_n (lv1 := [(2, iv 0), (0, rv z 8), (1, rv z 84)]) (dcN_1 dcg_87 :) (by decide) rfl ?_
  refine AW.iconst (dcN_2 dcg_87 :) ?_
  refine AW.istore_n (lv1 := [(3, iv 0), (2, iv 0), (0, rv z 8), (1, rv z 84)]) (dcN_3 dcg_87 :) (by decide) rfl ?_
  refine AW.iconst (dcN_4 dcg_87 :) ?_
  refine AW.istore (lv1 := [(4, iv 0), (3, iv 0), (2, iv 0), (0, rv z 8), (1, rv z 84)]) (dcN_5 dcg_87 :) (by decide) rfl ?_
  refine AW.sub (lv1 := [(0, rv z 8), (1, rv z 84), (2, iv 0), (3, iv 0), (4, iv 0)]) [3, 4, 2, 1, 0] rfl ?_
  exact LockQueue_waitOf_b_ok hdd _ _ _ _ h
theorem LockQueue_minutesOf_8_83_ok {z : AZ} {x2 : Int} {g : AG} {r : Int} (h : LockQueue_minutesOf_8_83 x2 g = some r) : AMf z yX3_minutesOf cX3_minutesOf 3 (some .int) 0 [rv z 8, rv z 83, iv x2] g (r, g) := by
  intro d hdd
  refine AM.of (by decide +kernel) (Nat.le_of_ble_eq_true rfl) ?_
  show AW z (RX3, cX3_minutesOf, 3, (some .int)) d (QD (some .int) (r, g)) 0 [(0, rv z 8), (1, rv z 83), (2, iv x2)] [] g
  unfold LockQueue_minutesOf_8_83 at h
  refine AW.iload_n 2 (dcN_0 dcg_90 :) rfl ?_
  obtain ⟨r9, e10, h⟩ := hC h
  refine AW.join (tgt := 32) (lv1 := []) (st1 := [iv r9]) (g1 := g) ?_ (fun J1 => ?_)
  · exact AW.iret2 rfl (dcN_8 dcg_91 :) h rfl
  replace h := e10
  refine AW.if_le (tgt := 30) (dcN_1 dcg_90 :) (by decide) (fun c1 => ?_) (fun c1 => ?_)
  · replace h := hT h c1
    refine AW.bipush (dcN_7 dcg_91 :) (by decide) (by decide) ?_
    refine AW.sub (lv1 := []) [] rfl ?_
    cases h
    exact J1
  · replace h := hF h c1
    refine AW.aloadr_n 0 (dcN_2 dcg_90 :) rfl ?_
    refine AW.getR af_X3_15_8 sr_8_1 (dcN_3 dcg_90 :) ?_
    refine AW.aloadr_n 1 (dcN_4 dcg_90 :) rfl ?_
    refine AW.iload_n 2 (dcN_5 dcg_90 :) rfl ?_
    obtain ⟨k2, h⟩ := hK h
    refine AW.iald kc_83 sk_83 k2 (dcN_6 dcg_90 :) ?_
    obtain ⟨k3, h⟩ := hK h
    refine AW.iald kc_82 sk_82 k3 (dcN_7 dcg_90 :) ?_
    refine AW.aloadr_n 0 (dcN_8 dcg_90 :) rfl ?_
    refine AW.getR af_X3_15_8 sr_8_1 (dcN_9 dcg_90 :) ?_
    refine AW.aloadr_n 1 (dcN_10 dcg_90 :) rfl ?_
    refine AW.iload_n 2 (dcN_11 dcg_90 :) rfl ?_
    refine AW.iconst (dcN_0 dcg_91 :) ?_
    refine AW.isub (dcN_1 dcg_91 :) ?_
    obtain ⟨k4, h⟩ := hK h
    refine AW.iald kc_83 sk_83 k4 (dcN_2 dcg_91 :) ?_
    obtain ⟨k5, h⟩ := hK h
    refine AW.iald kc_82 sk_82 k5 (dcN_3 dcg_91 :) ?_
    obtain ⟨t6, e7, h⟩ := hBe h
    refine AW.join (tgt := 32) (lv1 := [(0, rv z 8), (1, rv z 83), (2, iv x2)]) (st1 := [iv t6]) (g1 := g) ?_ (fun J22 => ?_)
    · refine AW.sub (lv1 := []) [] rfl ?_
      cases h
      exact J1
    refine AW.icmp_ne (tgt := 30) (dcN_4 dcg_91 :) (by decide) (fun c8 => ?_) (fun c8 => ?_)
    · refine AW.bipush (dcN_7 dcg_91 :) (by decide) (by decide) ?_
      exact AW.val (e7.trans (if_neg c8)) J22
    · refine AW.bipush (dcN_5 dcg_91 :) (by decide) (by decide) ?_
      refine AW.goto (tgt := 32) (dcN_6 dcg_91 :) (by decide) ?_
      exact AW.val (e7.trans (if_pos c8)) J22
set_option synthInstance.maxHeartbeats 2000000 in
theorem LockQueue_putNext_b_ok {z : AZ} {rec : Int → Int → Int → Int → AG → Option (Int × AG)} {Dr : Nat} (hC9 : 1 ≤ Dr) (hrec : ∀ (x1 : Int) (x2 : Int) (x3 : Int) (x4 : Int) (g : AG) (r : Int × AG), rec x1 x2 x3 x4 g = some r → AMf z yX3_putNext cX3_putNext 8 none Dr [rv z 8, iv x1, iv x2, iv x3, iv x4] g r) {d : Nat} (hdd : Dr + 1 ≤ d) {x1 : Int} {x2 : Int} {x3 : Int} {x4 : Int} : ∀ (x5 : Int) (g : AG) (r : Int × AG), LockQueue_putNext_b rec x1 x2 x3 x4 x5 g = some r → AW z (RX3, cX3_putNext, 8, none) d (QD none r) 35 [(0, rv z 8), (1, iv x1), (2, iv x2), (3, iv x3), (4, iv x4), (5, iv x5)] [] g := by
  refine LockQueue_putNext_b.partial_correctness rec x1 x2 x3 x4 (fun x5 g r => AW z (RX3, cX3_putNext, 8, none) d (QD none r) 35 [(0, rv z 8), (1, iv x1), (2, iv x2), (3, iv x3), (4, iv x4), (5, iv x5)] [] g) ?_
  intro fb9 ih x5 g r h
  refine AW.iload 5 (dcN_2 dcg_93 :) rfl ?_
  refine AW.aloadr_n 0 (dcN_3 dcg_93 :) rfl ?_
  refine AW.getI af_X3_24_8 sr_8_2 (dcN_4 dcg_93 :) ?_
  refine AW.icmp_ge (tgt := 131) (dcN_5 dcg_93 :) (by decide) (fun c1 => ?_) (fun c1 => ?_)
  · replace h := hT h c1
    exact AW.vret1 rfl (dcN_1 dcg_96 :) h rfl
  · replace h := hF h c1
    refine AW.aloadr_n 0 (dcN_6 dcg_93 :) rfl ?_
    refine AW.getR af_X3_9_8 sr_8_0 (dcN_7 dcg_93 :) ?_
    refine AW.iload 5 (dcN_8 dcg_93 :) rfl ?_
    obtain ⟨k2, h⟩ := hK h
    refine AW.iald kc_81 sk_81 k2 (dcN_9 dcg_93 :) ?_
    refine AW.iload_n 3 (dcN_10 dcg_93 :) rfl ?_
    refine AW.mmax (st := []) cm_X3_45 mst_max mini mcd_max (by omega) (Nat.le_of_ble_eq_true rfl) (dcN_11 dcg_93 :) ?_
    refine AW.istore (lv1 := [(6, iv (mxI (g 81 (ix x5)) x3)), (0, rv z 8), (1, iv x1), (2, iv x2), (3, iv x3), (4, iv x4), (5, iv x5)]) (dcN_12 dcg_93 :) (by decide) rfl ?_
    refine AW.iload 5 (dcN_13 dcg_93 :) rfl ?_
    refine AW.iload 0 (dcN_14 dcg_93 :) rfl ?_
    refine AW.iadd (dcN_15 dcg_93 :) ?_
    refine AW.aloadr_n 1 (dcN_16 dcg_93 :) rfl ?_
    refine AW.getR af_X3_9_8 sr_8_0 (dcN_17 dcg_93 :) ?_
    refine AW.iload 6 (dcN_0 dcg_94 :) rfl ?_
    refine AW.iald kc_81 sk_81 k2 (dcN_1 dcg_94 :) ?_
    refine AW.isub (dcN_2 dcg_94 :) ?_
    refine AW.istore (lv1 := [(7, iv ((x4 + (mxI (g 81 (ix x5)) x3)) - (g 81 (ix x5)))), (6, iv (mxI (g 81 (ix x5)) x3)), (0, rv z 8), (1, iv x1), (2, iv x2), (3, iv x3), (4, iv x4), (5, iv x5)]) (dcN_3 dcg_94 :) (by decide) rfl ?_
    refine AW.iload_n 4 (dcN_4 dcg_94 :) rfl ?_
    refine AW.iload 7 (dcN_5 dcg_94 :) rfl ?_
    refine AW.ishr (dcN_6 dcg_94 :) ?_
    refine AW.iconst (dcN_7 dcg_94 :) ?_
    refine AW.iand (dcN_8 dcg_94 :) ?_
    obtain ⟨r12, e13, h⟩ := hC h
    refine AW.join (tgt := 125) (lv1 := [(0, rv z 8), (1, iv x1), (2, iv x2), (3, iv x3), (4, iv x4), (5, iv x5)]) (st1 := []) (g1 := r12) ?_ (fun J78 => ?_)
    · refine AW.iinc (lv1 := [(5, iv (x5 + 1)), (0, rv z 8), (1, iv x1), (2, iv x2), (3, iv x3), (4, iv x4)]) 5 (dcN_19 dcg_95 :) rfl (by decide) rfl ?_
      refine AW.goto (tgt := 35) (dcN_0 dcg_96 :) (by decide) ?_
      refine AW.sub (lv1 := [(0, rv z 8), (1, iv x1), (2, iv x2), (3, iv x3), (4, iv x4), (5, iv (x5 + 1))]) [1, 2, 3, 4, 5, 0] rfl ?_
      exact ih _ _ _ h
    replace h := e13
    refine AW.if_ne (tgt := 125) (dcN_9 dcg_94 :) (by decide) (fun c3 => ?_) (fun c3 => ?_)
    · replace h := hF h c3
      refine AW.sub (lv1 := [(0, rv z 8), (1, iv x1), (2, iv x2), (3, iv x3), (4, iv x4), (5, iv x5)]) [2, 3, 4, 5, 6, 7] rfl ?_
      cases h
      exact J78
    · replace h := hT h c3
      refine AW.iload 0 (dcN_10 dcg_94 :) rfl ?_
      refine AW.aloadr_n 2 (dcN_11 dcg_94 :) rfl ?_
      refine AW.getI af_X3_31_8 sr_8_4 (dcN_12 dcg_94 :) ?_
      refine AW.icmp_ge (tgt := 125) (dcN_13 dcg_94 :) (by decide) (fun c4 => ?_) (fun c4 => ?_)
      · replace h := hT h c4
        refine AW.sub (lv1 := [(0, rv z 8), (1, iv x1), (2, iv x2), (3, iv x3), (4, iv x4), (5, iv x5)]) [2, 3, 4, 5, 6, 7] rfl ?_
        cases h
        exact J78
      · replace h := hF h c4
        refine AW.aloadr_n 2 (dcN_14 dcg_94 :) rfl ?_
        refine AW.getR af_X3_18_8 sr_8_5 (dcN_15 dcg_94 :) ?_
        refine AW.iload_n 3 (dcN_16 dcg_94 :) rfl ?_
        refine AW.iload 7 (dcN_17 dcg_94 :) rfl ?_
        obtain ⟨k5, h⟩ := hK h
        obtain ⟨g6, e7, h⟩ := hBe h
        refine AW.iast kc_83 sk_83 k5 (dcN_0 dcg_95 :) e7 ?_
        refine AW.aloadr_n 2 (dcN_1 dcg_95 :) rfl ?_
        refine AW.iload_n 3 (dcN_2 dcg_95 :) rfl ?_
        refine AW.iconst (dcN_3 dcg_95 :) ?_
        refine AW.iadd (dcN_4 dcg_95 :) ?_
        refine AW.iload_n 4 (dcN_5 dcg_95 :) rfl ?_
        refine AW.iconst (dcN_6 dcg_95 :) ?_
        refine AW.iload 7 (dcN_7 dcg_95 :) rfl ?_
        refine AW.ishl (dcN_8 dcg_95 :) ?_
        refine AW.ior (dcN_9 dcg_95 :) ?_
        refine AW.iload 1 (dcN_10 dcg_95 :) rfl ?_
        refine AW.aloadr_n 2 (dcN_11 dcg_95 :) rfl ?_
        refine AW.aloadr_n 2 (dcN_12 dcg_95 :) rfl ?_
        refine AW.getR af_X3_18_8 sr_8_5 (dcN_13 dcg_95 :) ?_
        refine AW.iload_n 3 (dcN_14 dcg_95 :) rfl ?_
        obtain ⟨r8, e9, h⟩ := hC h
        refine AW.callVi (As := [rv z 83, iv x1]) (st := [iv (mxI (g 81 (ix x5)) x3), iv (orI x2 (shlI 1 x5)), iv (x1 + 1), rv z 8]) (LockQueue_minutesOf_8_83_ok e9) cq_X3_51 cr_8_X3_minutesOf (by omega) rfl (dcN_15 dcg_95 :) rfl (Nat.le_of_ble_eq_true rfl) ?_
        refine AW.iadd (dcN_16 dcg_95 :) ?_
        refine AW.iload 0 (dcN_17 dcg_95 :) rfl ?_
        obtain ⟨r10, e11, h⟩ := hC h
        refine AW.callSv (As := [rv z 8, iv (x1 + 1), iv (orI x2 (shlI 1 x5)), iv ((mxI (g 81 (ix x5)) x3) + r8), iv ((x4 + (mxI (g 81 (ix x5)) x3)) - (g 81 (ix x5)))]) (st := []) (hrec _ _ _ _ _ _ e11) cq_X3_41 st_X3_putNext (by omega) rfl (dcN_18 dcg_95 :) rfl (Nat.le_of_ble_eq_true rfl) ?_
        refine AW.sub (lv1 := [(0, rv z 8), (1, iv x1), (2, iv x2), (3, iv x3), (4, iv x4), (5, iv x5)]) [2, 3, 4, 5, 6, 7] rfl ?_
        cases h
        exact J78
theorem LockQueue_putNext_s_ok {z : AZ} {rec : Int → Int → Int → Int → AG → Option (Int × AG)} {Dr : Nat} (hC9 : 1 ≤ Dr) (hrec : ∀ (x1 : Int) (x2 : Int) (x3 : Int) (x4 : Int) (g : AG) (r : Int × AG), rec x1 x2 x3 x4 g = some r → AMf z yX3_putNext cX3_putNext 8 none Dr [rv z 8, iv x1, iv x2, iv x3, iv x4] g r) {x1 : Int} {x2 : Int} {x3 : Int} {x4 : Int} {g : AG} {r : Int × AG} (h : LockQueue_putNext_s rec x1 x2 x3 x4 g = some r) : AMf z yX3_putNext cX3_putNext 8 none (Dr + 1) [rv z 8, iv x1, iv x2, iv x3, iv x4] g r := by
  intro d hdd
  refine AM.of (by decide +kernel) (Nat.le_of_ble_eq_true rfl) ?_
  show AW z (RX3, cX3_putNext, 8, none) d (QD none r) 0 [(0, rv z 8), (1, iv x1), (2, iv x2), (3, iv x3), (4, iv x4)] [] g
  unfold LockQueue_putNext_s at h
  refine AW.iload_n 1 (dcN_0 dcg_92 :) rfl ?_
  refine AW.aloadr_n 0 (dcN_1 dcg_92 :) rfl ?_
  refine AW.getI af_X3_24_8 sr_8_2 (dcN_2 dcg_92 :) ?_
  refine AW.icmp_lt (tgt := 32) (dcN_3 dcg_92 :) (by decide) (fun c1 => ?_) (fun c1 => ?_)
  · replace h := hT h c1
    refine AW.iconst (dcN_0 dcg_93 :) ?_
    refine AW.istore (lv1 := [(5, iv 0), (0, rv z 8), (1, iv x1), (2, iv x2), (3, iv x3), (4, iv x4)]) (dcN_1 dcg_93 :) (by decide) rfl ?_
    refine AW.sub (lv1 := [(0, rv z 8), (1, iv x1), (2, iv x2), (3, iv x3), (4, iv x4), (5, iv 0)]) [1, 2, 3, 4, 5, 0] rfl ?_
    exact LockQueue_putNext_b_ok hC9 hrec hdd _ _ _ h
  · replace h := hF h c1
    refine AW.aloadr_n 0 (dcN_4 dcg_92 :) rfl ?_
    refine AW.iload 4 (dcN_5 dcg_92 :) rfl ?_
    obtain ⟨g2, e3, h⟩ := hBe h
    refine AW.putI ap_X3_31_8 sr_8_4 (dcN_6 dcg_92 :) e3 ?_
    refine AW.aloadr_n 0 (dcN_7 dcg_92 :) rfl ?_
    refine AW.getR af_X3_18_8 sr_8_5 (dcN_8 dcg_92 :) ?_
    refine AW.iconst (dcN_9 dcg_92 :) ?_
    refine AW.aloadr_n 0 (dcN_10 dcg_92 :) rfl ?_
    refine AW.getR af_X3_21_8 sr_8_6 (dcN_11 dcg_92 :) ?_
    refine AW.iconst (dcN_12 dcg_92 :) ?_
    refine AW.aloadr_n 0 (dcN_13 dcg_92 :) rfl ?_
    refine AW.getI af_X3_24_8 sr_8_2 (dcN_14 dcg_92 :) ?_
    obtain ⟨k4, h⟩ := hK h
    obtain ⟨g5, e6, h⟩ := hBe h
    refine AW.copyi cc_X3_55 ac_n ac_s ac_i kc_83 sk_83 kc_84 sk_84 ⟨by decide, by decide, k4.2.2.1, k4.2.2.2.1, k4.2.2.2.2⟩ (Nat.le_of_ble_eq_true rfl) (by omega) (dcN_15 dcg_92 :) e6 ?_
    exact AW.vret1 rfl (dcN_16 dcg_92 :) h rfl
theorem LockQueue_putNext_ok {z : AZ} {n : Nat} {x1 : Int} {x2 : Int} {x3 : Int} {x4 : Int} {g : AG} {r : Int × AG} (h : LockQueue_putNext n x1 x2 x3 x4 g = some r) : AMf z yX3_putNext cX3_putNext 8 none (1 + n * 1) [rv z 8, iv x1, iv x2, iv x3, iv x4] g r := by
  induction n generalizing x1 x2 x3 x4 g r with
  | zero => cases h
  | succ n ih =>
    have q := LockQueue_putNext_s_ok (z := z) (Dr := 1 + n * 1) (Nat.le_add_right _ _) (fun x1 x2 x3 x4 g r h9 => ih h9) h
    rw [show 1 + (n + 1) * 1 = 1 + n * 1 + 1 by rw [Nat.add_mul]; omega]
    exact q
set_option synthInstance.maxHeartbeats 2000000 in
theorem LockQueue_findBest_b_ok {z : AZ} {d : Nat} (hdd : 11 ≤ d) : ∀ (x1 : Int) (g : AG) (r : Int × AG), LockQueue_findBest_b x1 g = some r → AW z (RX3, cX3_findBest, 2, none) d (QD none r) 2 [(0, rv z 8), (1, iv x1)] [] g := by
  refine LockQueue_findBest_b.partial_correctness (fun x1 g r => AW z (RX3, cX3_findBest, 2, none) d (QD none r) 2 [(0, rv z 8), (1, iv x1)] [] g) ?_
  intro fb9 ih x1 g r h
  refine AW.iload_n 1 (dcN_2 dcg_85 :) rfl ?_
  refine AW.aloadr_n 0 (dcN_3 dcg_85 :) rfl ?_
  refine AW.getI af_X3_24_8 sr_8_2 (dcN_4 dcg_85 :) ?_
  refine AW.icmp_ge (tgt := 23) (dcN_5 dcg_85 :) (by decide) (fun c1 => ?_) (fun c1 => ?_)
  · replace h := hT h c1
    refine AW.aloadr_n 0 (dcN_13 dcg_85 :) rfl ?_
    refine AW.aloadr_n 0 (dcN_14 dcg_85 :) rfl ?_
    refine AW.aloadr_n 0 (dcN_15 dcg_85 :) rfl ?_
    refine AW.getR af_X3_21_8 sr_8_6 (dcN_16 dcg_85 :) ?_
    obtain ⟨r2, e3, h⟩ := hC h
    refine AW.callVi (As := [rv z 84]) (st := [rv z 8]) (LockQueue_waitOf_ok e3) cq_X3_37 cr_8_X3_waitOf (Nat.le_trans (by decide) hdd) rfl (dcN_17 dcg_85 :) rfl (Nat.le_of_ble_eq_true rfl) ?_
    obtain ⟨g4, e5, h⟩ := hBe h
    refine AW.putI ap_X3_28_8 sr_8_3 (dcN_0 dcg_86 :) e5 ?_
    refine AW.aloadr_n 0 (dcN_1 dcg_86 :) rfl ?_
    refine AW.aloadr_n 0 (dcN_2 dcg_86 :) rfl ?_
    refine AW.getI af_X3_28_8 sr_8_3 (dcN_3 dcg_86 :) ?_
    obtain ⟨g6, e7, h⟩ := hBe h
    refine AW.putI ap_X3_31_8 sr_8_4 (dcN_4 dcg_86 :) e7 ?_
    refine AW.aloadr_n 0 (dcN_5 dcg_86 :) rfl ?_
    refine AW.iconst (dcN_6 dcg_86 :) ?_
    refine AW.iconst (dcN_7 dcg_86 :) ?_
    refine AW.iconst (dcN_8 dcg_86 :) ?_
    refine AW.iconst (dcN_9 dcg_86 :) ?_
    obtain ⟨r8, e9, h⟩ := hC h
    refine AW.callSv (As := [rv z 8, iv 0, iv 0, iv 0, iv 0]) (st := []) ((LockQueue_putNext_ok (n := 9)) e9) cq_X3_41 st_X3_putNext (Nat.le_trans (by decide) hdd) rfl (dcN_10 dcg_86 :) rfl (Nat.le_of_ble_eq_true rfl) ?_
    exact AW.vret1 rfl (dcN_11 dcg_86 :) h rfl
  · replace h := hF h c1
    refine AW.aloadr_n 0 (dcN_6 dcg_85 :) rfl ?_
    refine AW.getR af_X3_21_8 sr_8_6 (dcN_7 dcg_85 :) ?_
    refine AW.iload_n 1 (dcN_8 dcg_85 :) rfl ?_
    refine AW.iload_n 1 (dcN_9 dcg_85 :) rfl ?_
    obtain ⟨k10, h⟩ := hK h
    obtain ⟨g11, e12, h⟩ := hBe h
    refine AW.iast kc_84 sk_84 k10 (dcN_10 dcg_85 :) e12 ?_
    refine AW.iinc (lv1 := [(1, iv (x1 + 1)), (0, rv z 8)]) 1 (dcN_11 dcg_85 :) rfl (by decide) rfl ?_
    refine AW.goto (tgt := 2) (dcN_12 dcg_85 :) (by decide) ?_
    refine AW.sub (lv1 := [(0, rv z 8), (1, iv (x1 + 1))]) [1, 0] rfl ?_
    exact ih _ _ _ h
theorem LockQueue_findBest_ok {z : AZ} {g : AG} {r : Int × AG} (h : LockQueue_findBest g = some r) : AMf z yX3_findBest cX3_findBest 2 none 11 [rv z 8] g r := by
  intro d hdd
  refine AM.of (by decide +kernel) (Nat.le_of_ble_eq_true rfl) ?_
  show AW z (RX3, cX3_findBest, 2, none) d (QD none r) 0 [(0, rv z 8)] [] g
  unfold LockQueue_findBest at h
  refine AW.iconst (dcN_0 dcg_85 :) ?_
  refine AW.istore_n (lv1 := [(1, iv 0), (0, rv z 8)]) (dcN_1 dcg_85 :) (by decide) rfl ?_
  refine AW.sub (lv1 := [(0, rv z 8), (1, iv 0)]) [1, 0] rfl ?_
  exact LockQueue_findBest_b_ok hdd _ _ _ h
set_option synthInstance.maxHeartbeats 2000000 in
theorem LockQueue_add_b_ok {z : AZ} {d : Nat} (hdd : 12 ≤ d) {x1 : Int} {x2 : Int} {g : AG} : ∀ (r : Int × AG), LockQueue_add_b x1 x2 g = some r → AW z (RX3, cX3_add, 3, (some .int)) d (QD (some .int) r) 33 [(0, rv z 8), (1, iv x1), (2, iv x2)] [] g := by
  intro r h
  unfold LockQueue_add_b at h
  refine AW.aloadr_n 0 (dcN_1 dcg_83 :) rfl ?_
  refine AW.getR af_X3_9_8 sr_8_0 (dcN_2 dcg_83 :) ?_
  refine AW.aloadr_n 0 (dcN_3 dcg_83 :) rfl ?_
  refine AW.getI af_X3_24_8 sr_8_2 (dcN_4 dcg_83 :) ?_
  refine AW.iload_n 1 (dcN_5 dcg_83 :) rfl ?_
  obtain ⟨k1, h⟩ := hK h
  obtain ⟨g2, e3, h⟩ := hBe h
  refine AW.iast kc_81 sk_81 k1 (dcN_6 dcg_83 :) e3 ?_
  refine AW.aloadr_n 0 (dcN_7 dcg_83 :) rfl ?_
  refine AW.getR af_X3_15_8 sr_8_1 (dcN_8 dcg_83 :) ?_
  refine AW.aloadr_n 0 (dcN_9 dcg_83 :) rfl ?_
  refine AW.getI af_X3_24_8 sr_8_2 (dcN_10 dcg_83 :) ?_
  refine AW.iload_n 2 (dcN_11 dcg_83 :) rfl ?_
  obtain ⟨k4, h⟩ := hK h
  obtain ⟨g5, e6, h⟩ := hBe h
  refine AW.iast kc_82 sk_82 k4 (dcN_12 dcg_83 :) e6 ?_
  refine AW.aloadr_n 0 (dcN_13 dcg_83 :) rfl ?_
  refine AW.duprr (dcN_14 dcg_83 :) ?_
  refine AW.getI af_X3_24_8 sr_8_2 (dcN_15 dcg_83 :) ?_
  refine AW.iconst (dcN_16 dcg_83 :) ?_
  refine AW.iadd (dcN_17 dcg_83 :) ?_
  obtain ⟨g7, e8, h⟩ := hBe h
  refine AW.putI ap_X3_24_8 sr_8_2 (dcN_18 dcg_83 :) e8 ?_
  refine AW.aloadr_n 0 (dcN_19 dcg_83 :) rfl ?_
  obtain ⟨r9, e10, h⟩ := hC h
  refine AW.callVv (As := []) (st := []) (LockQueue_findBest_ok e10) cq_X3_34 cr_8_X3_findBest (Nat.le_trans (by decide) hdd) rfl (dcN_0 dcg_84 :) rfl (Nat.le_of_ble_eq_true rfl) ?_
  refine AW.aloadr_n 0 (dcN_1 dcg_84 :) rfl ?_
  refine AW.getI af_X3_24_8 sr_8_2 (dcN_2 dcg_84 :) ?_
  exact AW.iret1 rfl (dcN_3 dcg_84 :) h rfl
theorem LockQueue_add_ok {z : AZ} {x1 : Int} {x2 : Int} {g : AG} {r : Int × AG} (h : LockQueue_add x1 x2 g = some r) : AMf z yX3_add cX3_add 3 (some .int) 12 [rv z 8, iv x1, iv x2] g r := by
  intro d hdd
  refine AM.of (by decide +kernel) (Nat.le_of_ble_eq_true rfl) ?_
  show AW z (RX3, cX3_add, 3, (some .int)) d (QD (some .int) r) 0 [(0, rv z 8), (1, iv x1), (2, iv x2)] [] g
  unfold LockQueue_add at h
  refine AW.aloadr_n 0 (dcN_0 dcg_82 :) rfl ?_
  refine AW.getI af_X3_24_8 sr_8_2 (dcN_1 dcg_82 :) ?_
  refine AW.bipush (dcN_2 dcg_82 :) (by decide) (by decide) ?_
  refine AW.icmp_ge (tgt := 31) (dcN_3 dcg_82 :) (by decide) (fun c1 => ?_) (fun c1 => ?_)
  · replace h := hT h c1
    refine AW.iconst (dcN_16 dcg_82 :) ?_
    exact AW.iret1 rfl (dcN_0 dcg_83 :) h rfl
  · replace h := hF h c1
    refine AW.aloadr_n 0 (dcN_4 dcg_82 :) rfl ?_
    refine AW.getI af_X3_24_8 sr_8_2 (dcN_5 dcg_82 :) ?_
    refine AW.if_le (tgt := 33) (dcN_6 dcg_82 :) (by decide) (fun c2 => ?_) (fun c2 => ?_)
    · replace h := hT h c2
      exact LockQueue_add_b_ok hdd _ h
    · replace h := hF h c2
      refine AW.iload_n 1 (dcN_7 dcg_82 :) rfl ?_
      refine AW.aloadr_n 0 (dcN_8 dcg_82 :) rfl ?_
      refine AW.getR af_X3_9_8 sr_8_0 (dcN_9 dcg_82 :) ?_
      refine AW.aloadr_n 0 (dcN_10 dcg_82 :) rfl ?_
      refine AW.getI af_X3_24_8 sr_8_2 (dcN_11 dcg_82 :) ?_
      refine AW.iconst (dcN_12 dcg_82 :) ?_
      refine AW.isub (dcN_13 dcg_82 :) ?_
      obtain ⟨k3, h⟩ := hK h
      refine AW.iald kc_81 sk_81 k3 (dcN_14 dcg_82 :) ?_
      refine AW.icmp_ge (tgt := 33) (dcN_15 dcg_82 :) (by decide) (fun c4 => ?_) (fun c4 => ?_)
      · replace h := hT h c4
        exact LockQueue_add_b_ok hdd _ h
      · replace h := hF h c4
        refine AW.iconst (dcN_16 dcg_82 :) ?_
        exact AW.iret1 rfl (dcN_0 dcg_83 :) h rfl
theorem LockQueue_clear_ok {z : AZ} {g : AG} {r : Int × AG} (h : LockQueue_clear g = some r) : AMf z yX3_clear cX3_clear 1 none 0 [rv z 8] g r := by
  intro d hdd
  refine AM.of (by decide +kernel) (Nat.le_of_ble_eq_true rfl) ?_
  show AW z (RX3, cX3_clear, 1, none) d (QD none r) 0 [(0, rv z 8)] [] g
  unfold LockQueue_clear at h
  refine AW.aloadr_n 0 (dcN_0 dcg_81 :) rfl ?_
  refine AW.iconst (dcN_1 dcg_81 :) ?_
  obtain ⟨g1, e2, h⟩ := hBe h
  refine AW.putI ap_X3_24_8 sr_8_2 (dcN_2 dcg_81 :) e2 ?_
  refine AW.aloadr_n 0 (dcN_3 dcg_81 :) rfl ?_
  refine AW.iconst (dcN_4 dcg_81 :) ?_
  obtain ⟨g3, e4, h⟩ := hBe h
  refine AW.putI ap_X3_28_8 sr_8_3 (dcN_5 dcg_81 :) e4 ?_
  refine AW.aloadr_n 0 (dcN_6 dcg_81 :) rfl ?_
  refine AW.iconst (dcN_7 dcg_81 :) ?_
  obtain ⟨g5, e6, h⟩ := hBe h
  refine AW.putI ap_X3_31_8 sr_8_4 (dcN_8 dcg_81 :) e6 ?_
  exact AW.vret1 rfl (dcN_9 dcg_81 :) h rfl
theorem X_queue_ok {z : AZ} {x1 : Int} {x2 : Int} {g : AG} {r : Int × AG} (h : X_queue x1 x2 g = some r) : AMf z yX11_queue cX11_queue 3 (some .int) 13 [rv z 0, iv x1, iv x2] g r := by
  intro d hdd
  refine AM.of (by decide +kernel) (Nat.le_of_ble_eq_true rfl) ?_
  show AW z (RX11, cX11_queue, 3, (some .int)) d (QD (some .int) r) 0 [(0, rv z 0), (1, iv x1), (2, iv x2)] [] g
  unfold X_queue at h
  refine AW.iload_n 2 (dcN_0 dcg_409 :) rfl ?_
  refine AW.iconst (dcN_1 dcg_409 :) ?_
  refine AW.icmp_ne (tgt := 14) (dcN_2 dcg_409 :) (by decide) (fun c1 => ?_) (fun c1 => ?_)
  · replace h := hF h c1
    refine AW.iload_n 2 (dcN_8 dcg_409 :) rfl ?_
    refine AW.iconst (dcN_9 dcg_409 :) ?_
    refine AW.iconst (dcN_10 dcg_409 :) ?_
    refine AW.callSi (As := [iv x2, iv 0, iv 1]) (st := []) X_within_ok cq_X11_99 st_X11_within (Nat.le_trans (by decide) hdd) rfl (dcN_11 dcg_409 :) rfl (Nat.le_of_ble_eq_true rfl) ?_
    refine AW.if_eq (tgt := 34) (dcN_0 dcg_410 :) (by decide) (fun c2 => ?_) (fun c2 => ?_)
    · replace h := hT h c2
      refine AW.iconst (dcN_6 dcg_410 :) ?_
      exact AW.iret1 rfl (dcN_7 dcg_410 :) h rfl
    · replace h := hF h c2
      refine AW.iload_n 1 (dcN_1 dcg_410 :) rfl ?_
      refine AW.iconst (dcN_2 dcg_410 :) ?_
      refine AW.sipush (dcN_3 dcg_410 :) (by decide) (by decide) ?_
      refine AW.callSi (As := [iv x1, iv 0, iv 9999]) (st := []) X_within_ok cq_X11_99 st_X11_within (Nat.le_trans (by decide) hdd) rfl (dcN_4 dcg_410 :) rfl (Nat.le_of_ble_eq_true rfl) ?_
      refine AW.if_ne (tgt := 36) (dcN_5 dcg_410 :) (by decide) (fun c3 => ?_) (fun c3 => ?_)
      · replace h := hF h c3
        refine AW.aloadr_n 0 (dcN_8 dcg_410 :) rfl ?_
        refine AW.getR af_X11_65_0 sr_0_7 (dcN_9 dcg_410 :) ?_
        refine AW.iload_n 1 (dcN_10 dcg_410 :) rfl ?_
        refine AW.iload_n 2 (dcN_11 dcg_410 :) rfl ?_
        obtain ⟨r4, e5, h⟩ := hC h
        refine AW.callVi (As := [iv x1, iv x2]) (st := []) (LockQueue_add_ok e5) cq_X11_249 cr_8_X3_add (Nat.le_trans (by decide) hdd) rfl (dcN_0 dcg_411 :) rfl (Nat.le_of_ble_eq_true rfl) ?_
        exact AW.iret1 rfl (dcN_1 dcg_411 :) h rfl
      · replace h := hT h c3
        refine AW.iconst (dcN_6 dcg_410 :) ?_
        exact AW.iret1 rfl (dcN_7 dcg_410 :) h rfl
  · replace h := hT h c1
    refine AW.aloadr_n 0 (dcN_3 dcg_409 :) rfl ?_
    refine AW.getR af_X11_65_0 sr_0_7 (dcN_4 dcg_409 :) ?_
    obtain ⟨r6, e7, h⟩ := hC h
    refine AW.callVv (As := []) (st := []) (LockQueue_clear_ok e7) cq_X11_246 cr_8_X3_clear (Nat.le_trans (by decide) hdd) rfl (dcN_5 dcg_409 :) rfl (Nat.le_of_ble_eq_true rfl) ?_
    refine AW.iconst (dcN_6 dcg_409 :) ?_
    exact AW.iret1 rfl (dcN_7 dcg_409 :) h rfl
set_option synthInstance.maxHeartbeats 2000000 in
theorem LockQueue_lockfulsAsCome_b_ok {z : AZ} {d : Nat} (hdd : 0 ≤ d) {g : AG} : ∀ (x1 : Int) (x2 : Int) (r : Int), LockQueue_lockfulsAsCome_b g x1 x2 = some r → AW z (RX3, cX3_lockfulsAsCome, 3, (some .int)) d (QD (some .int) (r, g)) 7 [(0, rv z 8), (1, iv x1), (2, iv x2)] [] g := by
  refine LockQueue_lockfulsAsCome_b.partial_correctness g (fun x1 x2 r => AW z (RX3, cX3_lockfulsAsCome, 3, (some .int)) d (QD (some .int) (r, g)) 7 [(0, rv z 8), (1, iv x1), (2, iv x2)] [] g) ?_
  intro fb9 ih x1 x2 r h
  refine AW.iload_n 2 (dcN_5 dcg_97 :) rfl ?_
  refine AW.aloadr_n 0 (dcN_6 dcg_97 :) rfl ?_
  refine AW.getI af_X3_24_8 sr_8_2 (dcN_7 dcg_97 :) ?_
  refine AW.icmp_ge (tgt := 46) (dcN_8 dcg_97 :) (by decide) (fun c1 => ?_) (fun c1 => ?_)
  · replace h := hT h c1
    refine AW.iload_n 1 (dcN_4 dcg_99 :) rfl ?_
    exact AW.iret2 rfl (dcN_5 dcg_99 :) h rfl
  · replace h := hF h c1
    refine AW.iload_n 1 (dcN_9 dcg_97 :) rfl ?_
    refine AW.aloadr_n 0 (dcN_10 dcg_97 :) rfl ?_
    refine AW.getR af_X3_15_8 sr_8_1 (dcN_11 dcg_97 :) ?_
    refine AW.iload_n 2 (dcN_0 dcg_98 :) rfl ?_
    obtain ⟨k2, h⟩ := hK h
    refine AW.iald kc_82 sk_82 k2 (dcN_1 dcg_98 :) ?_
    refine AW.aloadr_n 0 (dcN_2 dcg_98 :) rfl ?_
    refine AW.getR af_X3_15_8 sr_8_1 (dcN_3 dcg_98 :) ?_
    refine AW.iload_n 2 (dcN_4 dcg_98 :) rfl ?_
    refine AW.iconst (dcN_5 dcg_98 :) ?_
    refine AW.isub (dcN_6 dcg_98 :) ?_
    obtain ⟨k3, h⟩ := hK h
    refine AW.iald kc_82 sk_82 k3 (dcN_7 dcg_98 :) ?_
    obtain ⟨t4, e5, h⟩ := hBe h
    refine AW.join (tgt := 38) (lv1 := [(0, rv z 8), (1, iv x1), (2, iv x2)]) (st1 := [iv t4, iv x1]) (g1 := g) ?_ (fun J30 => ?_)
    · refine AW.isub (dcN_0 dcg_99 :) ?_
      refine AW.istore_n (lv1 := [(1, iv (x1 - t4)), (0, rv z 8), (2, iv x2)]) (dcN_1 dcg_99 :) (by decide) rfl ?_
      refine AW.iinc (lv1 := [(2, iv (x2 + 1)), (1, iv (x1 - t4)), (0, rv z 8)]) 2 (dcN_2 dcg_99 :) rfl (by decide) rfl ?_
      refine AW.goto (tgt := 7) (dcN_3 dcg_99 :) (by decide) ?_
      refine AW.sub (lv1 := [(0, rv z 8), (1, iv (x1 - t4)), (2, iv (x2 + 1))]) [2, 1, 0] rfl ?_
      exact ih _ _ _ h
    refine AW.icmp_ne (tgt := 37) (dcN_8 dcg_98 :) (by decide) (fun c6 => ?_) (fun c6 => ?_)
    · refine AW.iconst (dcN_11 dcg_98 :) ?_
      exact AW.val (e5.trans (if_neg c6)) J30
    · refine AW.iconst (dcN_9 dcg_98 :) ?_
      refine AW.goto (tgt := 38) (dcN_10 dcg_98 :) (by decide) ?_
      exact AW.val (e5.trans (if_pos c6)) J30
theorem LockQueue_lockfulsAsCome_ok {z : AZ} {g : AG} {r : Int} (h : LockQueue_lockfulsAsCome g = some r) : AMf z yX3_lockfulsAsCome cX3_lockfulsAsCome 3 (some .int) 0 [rv z 8] g (r, g) := by
  intro d hdd
  refine AM.of (by decide +kernel) (Nat.le_of_ble_eq_true rfl) ?_
  show AW z (RX3, cX3_lockfulsAsCome, 3, (some .int)) d (QD (some .int) (r, g)) 0 [(0, rv z 8)] [] g
  unfold LockQueue_lockfulsAsCome at h
  refine AW.aloadr_n 0 (dcN_0 dcg_97 :) rfl ?_
  refine AW.getI af_X3_24_8 sr_8_2 (dcN_1 dcg_97 :) ?_
  refine AW.istore_n (lv1 := [(1, iv (g 8 2)), (0, rv z 8)]) (dcN_2 dcg_97 :) (by decide) rfl ?_
  refine AW.iconst (dcN_3 dcg_97 :) ?_
  refine AW.istore_n (lv1 := [(2, iv 1), (1, iv (g 8 2)), (0, rv z 8)]) (dcN_4 dcg_97 :) (by decide) rfl ?_
  refine AW.sub (lv1 := [(0, rv z 8), (1, iv (g 8 2)), (2, iv 1)]) [2, 1, 0] rfl ?_
  exact LockQueue_lockfulsAsCome_b_ok hdd _ _ _ h
set_option synthInstance.maxHeartbeats 2000000 in
theorem LockQueue_lockfulsAtBest_b_ok {z : AZ} {d : Nat} (hdd : 0 ≤ d) {g : AG} : ∀ (x1 : Int) (x2 : Int) (r : Int), LockQueue_lockfulsAtBest_b g x1 x2 = some r → AW z (RX3, cX3_lockfulsAtBest, 3, (some .int)) d (QD (some .int) (r, g)) 7 [(0, rv z 8), (1, iv x1), (2, iv x2)] [] g := by
  refine LockQueue_lockfulsAtBest_b.partial_correctness g (fun x1 x2 r => AW z (RX3, cX3_lockfulsAtBest, 3, (some .int)) d (QD (some .int) (r, g)) 7 [(0, rv z 8), (1, iv x1), (2, iv x2)] [] g) ?_
  intro fb9 ih x1 x2 r h
  refine AW.iload_n 2 (dcN_5 dcg_100 :) rfl ?_
  refine AW.aloadr_n 0 (dcN_6 dcg_100 :) rfl ?_
  refine AW.getI af_X3_24_8 sr_8_2 (dcN_7 dcg_100 :) ?_
  refine AW.icmp_ge (tgt := 56) (dcN_8 dcg_100 :) (by decide) (fun c1 => ?_) (fun c1 => ?_)
  · replace h := hT h c1
    refine AW.iload_n 1 (dcN_14 dcg_101 :) rfl ?_
    exact AW.iret2 rfl (dcN_15 dcg_101 :) h rfl
  · replace h := hF h c1
    refine AW.iload_n 1 (dcN_9 dcg_100 :) rfl ?_
    refine AW.aloadr_n 0 (dcN_10 dcg_100 :) rfl ?_
    refine AW.getR af_X3_15_8 sr_8_1 (dcN_11 dcg_100 :) ?_
    refine AW.aloadr_n 0 (dcN_12 dcg_100 :) rfl ?_
    refine AW.getR af_X3_21_8 sr_8_6 (dcN_13 dcg_100 :) ?_
    refine AW.iload_n 2 (dcN_14 dcg_100 :) rfl ?_
    obtain ⟨k2, h⟩ := hK h
    refine AW.iald kc_84 sk_84 k2 (dcN_15 dcg_100 :) ?_
    obtain ⟨k3, h⟩ := hK h
    refine AW.iald kc_82 sk_82 k3 (dcN_16 dcg_100 :) ?_
    refine AW.aloadr_n 0 (dcN_17 dcg_100 :) rfl ?_
    refine AW.getR af_X3_15_8 sr_8_1 (dcN_18 dcg_100 :) ?_
    refine AW.aloadr_n 0 (dcN_19 dcg_100 :) rfl ?_
    refine AW.getR af_X3_21_8 sr_8_6 (dcN_0 dcg_101 :) ?_
    refine AW.iload_n 2 (dcN_1 dcg_101 :) rfl ?_
    refine AW.iconst (dcN_2 dcg_101 :) ?_
    refine AW.isub (dcN_3 dcg_101 :) ?_
    obtain ⟨k4, h⟩ := hK h
    refine AW.iald kc_84 sk_84 k4 (dcN_4 dcg_101 :) ?_
    obtain ⟨k5, h⟩ := hK h
    refine AW.iald kc_82 sk_82 k5 (dcN_5 dcg_101 :) ?_
    obtain ⟨t6, e7, h⟩ := hBe h
    refine AW.join (tgt := 48) (lv1 := [(0, rv z 8), (1, iv x1), (2, iv x2)]) (st1 := [iv t6, iv x1]) (g1 := g) ?_ (fun J40 => ?_)
    · refine AW.isub (dcN_10 dcg_101 :) ?_
      refine AW.istore_n (lv1 := [(1, iv (x1 - t6)), (0, rv z 8), (2, iv x2)]) (dcN_11 dcg_101 :) (by decide) rfl ?_
      refine AW.iinc (lv1 := [(2, iv (x2 + 1)), (1, iv (x1 - t6)), (0, rv z 8)]) 2 (dcN_12 dcg_101 :) rfl (by decide) rfl ?_
      refine AW.goto (tgt := 7) (dcN_13 dcg_101 :) (by decide) ?_
      refine AW.sub (lv1 := [(0, rv z 8), (1, iv (x1 - t6)), (2, iv (x2 + 1))]) [2, 1, 0] rfl ?_
      exact ih _ _ _ h
    refine AW.icmp_ne (tgt := 47) (dcN_6 dcg_101 :) (by decide) (fun c8 => ?_) (fun c8 => ?_)
    · refine AW.iconst (dcN_9 dcg_101 :) ?_
      exact AW.val (e7.trans (if_neg c8)) J40
    · refine AW.iconst (dcN_7 dcg_101 :) ?_
      refine AW.goto (tgt := 48) (dcN_8 dcg_101 :) (by decide) ?_
      exact AW.val (e7.trans (if_pos c8)) J40
theorem LockQueue_lockfulsAtBest_ok {z : AZ} {g : AG} {r : Int} (h : LockQueue_lockfulsAtBest g = some r) : AMf z yX3_lockfulsAtBest cX3_lockfulsAtBest 3 (some .int) 0 [rv z 8] g (r, g) := by
  intro d hdd
  refine AM.of (by decide +kernel) (Nat.le_of_ble_eq_true rfl) ?_
  show AW z (RX3, cX3_lockfulsAtBest, 3, (some .int)) d (QD (some .int) (r, g)) 0 [(0, rv z 8)] [] g
  unfold LockQueue_lockfulsAtBest at h
  refine AW.aloadr_n 0 (dcN_0 dcg_100 :) rfl ?_
  refine AW.getI af_X3_24_8 sr_8_2 (dcN_1 dcg_100 :) ?_
  refine AW.istore_n (lv1 := [(1, iv (g 8 2)), (0, rv z 8)]) (dcN_2 dcg_100 :) (by decide) rfl ?_
  refine AW.iconst (dcN_3 dcg_100 :) ?_
  refine AW.istore_n (lv1 := [(2, iv 1), (1, iv (g 8 2)), (0, rv z 8)]) (dcN_4 dcg_100 :) (by decide) rfl ?_
  refine AW.sub (lv1 := [(0, rv z 8), (1, iv (g 8 2)), (2, iv 1)]) [2, 1, 0] rfl ?_
  exact LockQueue_lockfulsAtBest_b_ok hdd _ _ _ h
theorem LockQueue_atBest_ok {z : AZ} {x1 : Int} {g : AG} {r : Int} (h : LockQueue_atBest x1 g = some r) : AMf z yX3_atBest cX3_atBest 2 (some .int) 1 [rv z 8, iv x1] g (r, g) := by
  intro d hdd
  refine AM.of (by decide +kernel) (Nat.le_of_ble_eq_true rfl) ?_
  show AW z (RX3, cX3_atBest, 2, (some .int)) d (QD (some .int) (r, g)) 0 [(0, rv z 8), (1, iv x1)] [] g
  unfold LockQueue_atBest at h
  refine AW.iload_n 1 (dcN_0 dcg_102 :) rfl ?_
  refine AW.bipush (dcN_1 dcg_102 :) (by decide) (by decide) ?_
  refine AW.isub (dcN_2 dcg_102 :) ?_
  refine AW.iconst (dcN_3 dcg_102 :) ?_
  refine AW.aloadr_n 0 (dcN_4 dcg_102 :) rfl ?_
  refine AW.getI af_X3_24_8 sr_8_2 (dcN_5 dcg_102 :) ?_
  refine AW.iconst (dcN_6 dcg_102 :) ?_
  refine AW.isub (dcN_7 dcg_102 :) ?_
  refine AW.callN0 (As := [iv (x1 - 10), iv 0, iv ((g 8 2) - 1)]) (st := []) X_within_ok ns_X3_61 in_X11 cd_X11_within st_X11_within (by decide) (Nat.le_trans (by decide) hdd) rfl (Nat.le_of_ble_eq_true rfl) (dcN_8 dcg_102 :) rfl ?_
  obtain ⟨r3, e4, h⟩ := hC h
  refine AW.join (tgt := 30) (lv1 := []) (st1 := [iv r3]) (g1 := g) ?_ (fun J14 => ?_)
  · exact AW.iret2 rfl (dcN_6 dcg_103 :) h rfl
  replace h := e4
  refine AW.if_eq (tgt := 29) (dcN_9 dcg_102 :) (by decide) (fun c1 => ?_) (fun c1 => ?_)
  · replace h := hT h c1
    refine AW.iconst (dcN_5 dcg_103 :) ?_
    refine AW.sub (lv1 := []) [] rfl ?_
    cases h
    exact J14
  · replace h := hF h c1
    refine AW.aloadr_n 0 (dcN_10 dcg_102 :) rfl ?_
    refine AW.getR af_X3_21_8 sr_8_6 (dcN_11 dcg_102 :) ?_
    refine AW.iload_n 1 (dcN_0 dcg_103 :) rfl ?_
    refine AW.bipush (dcN_1 dcg_103 :) (by decide) (by decide) ?_
    refine AW.isub (dcN_2 dcg_103 :) ?_
    obtain ⟨k2, h⟩ := hK h
    refine AW.iald kc_84 sk_84 k2 (dcN_3 dcg_103 :) ?_
    refine AW.goto (tgt := 30) (dcN_4 dcg_103 :) (by decide) ?_
    refine AW.sub (lv1 := []) [] rfl ?_
    cases h
    exact J14
theorem X_lock_ok {z : AZ} {x1 : Int} {g : AG} {r : Int} (h : X_lock x1 g = some r) : AMf z yX11_lock cX11_lock 2 (some .int) 2 [rv z 0, iv x1] g (r, g) := by
  intro d hdd
  refine AM.of (by decide +kernel) (Nat.le_of_ble_eq_true rfl) ?_
  show AW z (RX11, cX11_lock, 2, (some .int)) d (QD (some .int) (r, g)) 0 [(0, rv z 0), (1, iv x1)] [] g
  unfold X_lock at h
  refine AW.iload_n 1 (dcN_0 dcg_412 :) rfl ?_
  by_cases c1 : nw x1 = 0
  · replace h := hT h c1
    refine AW.tsIn (tgt := 32) 0 dX11_lock_1 c1 (by decide) (by decide) (by rfl) (by decide) ?_
    refine AW.aloadr_n 0 (dcN_0 dcg_413 :) rfl ?_
    refine AW.getR af_X11_65_0 sr_0_7 (dcN_1 dcg_413 :) ?_
    refine AW.getI af_X11_252_8 sr_8_3 (dcN_2 dcg_413 :) ?_
    exact AW.iret2 rfl (dcN_3 dcg_413 :) h rfl
  · replace h := hF h c1
    by_cases c2 : nw x1 = 1
    · replace h := hT h c2
      refine AW.tsIn (tgt := 40) 1 dX11_lock_1 c2 (by decide) (by decide) (by rfl) (by decide) ?_
      refine AW.aloadr_n 0 (dcN_4 dcg_413 :) rfl ?_
      refine AW.getR af_X11_65_0 sr_0_7 (dcN_5 dcg_413 :) ?_
      refine AW.getI af_X11_255_8 sr_8_4 (dcN_6 dcg_413 :) ?_
      exact AW.iret2 rfl (dcN_7 dcg_413 :) h rfl
    · replace h := hF h c2
      by_cases c3 : nw x1 = 2
      · replace h := hT h c3
        refine AW.tsIn (tgt := 48) 2 dX11_lock_1 c3 (by decide) (by decide) (by rfl) (by decide) ?_
        refine AW.aloadr_n 0 (dcN_8 dcg_413 :) rfl ?_
        refine AW.getR af_X11_65_0 sr_0_7 (dcN_9 dcg_413 :) ?_
        obtain ⟨r4, e5, h⟩ := hC h
        refine AW.callVi (As := []) (st := []) (LockQueue_lockfulsAsCome_ok e5) cq_X11_258 cr_8_X3_lockfulsAsCome (Nat.le_trans (by decide) hdd) rfl (dcN_10 dcg_413 :) rfl (Nat.le_of_ble_eq_true rfl) ?_
        exact AW.iret2 rfl (dcN_11 dcg_413 :) h rfl
      · replace h := hF h c3
        by_cases c6 : nw x1 = 3
        · replace h := hT h c6
          refine AW.tsIn (tgt := 56) 3 dX11_lock_1 c6 (by decide) (by decide) (by rfl) (by decide) ?_
          refine AW.aloadr_n 0 (dcN_12 dcg_413 :) rfl ?_
          refine AW.getR af_X11_65_0 sr_0_7 (dcN_13 dcg_413 :) ?_
          obtain ⟨r7, e8, h⟩ := hC h
          refine AW.callVi (As := []) (st := []) (LockQueue_lockfulsAtBest_ok e8) cq_X11_261 cr_8_X3_lockfulsAtBest (Nat.le_trans (by decide) hdd) rfl (dcN_14 dcg_413 :) rfl (Nat.le_of_ble_eq_true rfl) ?_
          exact AW.iret2 rfl (dcN_15 dcg_413 :) h rfl
        · replace h := hF h c6
          refine AW.tsOut (tgt := 64) dX11_lock_1 (by omega) (by decide) ?_
          refine AW.aloadr_n 0 (dcN_0 dcg_414 :) rfl ?_
          refine AW.getR af_X11_65_0 sr_0_7 (dcN_1 dcg_414 :) ?_
          refine AW.iload_n 1 (dcN_2 dcg_414 :) rfl ?_
          obtain ⟨r9, e10, h⟩ := hC h
          refine AW.callVi (As := [iv x1]) (st := []) (LockQueue_atBest_ok e10) cq_X11_264 cr_8_X3_atBest (Nat.le_trans (by decide) hdd) rfl (dcN_3 dcg_414 :) rfl (Nat.le_of_ble_eq_true rfl) ?_
          exact AW.iret2 rfl (dcN_4 dcg_414 :) h rfl
theorem X_isWeek_ok {z : AZ} {x0 : Int} {g : AG} : AMf z yX11_isWeek cX11_isWeek 1 (some .boolean) 1 [iv x0] g ((X_isWeek x0), g) := by
  intro d hdd
  refine AM.of (by decide +kernel) (Nat.le_of_ble_eq_true rfl) ?_
  show AW z (RX11, cX11_isWeek, 1, (some .boolean)) d (QD (some .boolean) ((X_isWeek x0), g)) 0 [(0, iv x0)] [] g
  refine AW.iload_n 0 (dcN_0 dcg_348 :) rfl ?_
  refine AW.iconst (dcN_1 dcg_348 :) ?_
  refine AW.bipush (dcN_2 dcg_348 :) (by decide) (by decide) ?_
  refine AW.callSi (As := [iv x0, iv 0, iv 9]) (st := []) X_within_ok cq_X11_99 st_X11_within (Nat.le_trans (by decide) hdd) rfl (dcN_3 dcg_348 :) rfl (Nat.le_of_ble_eq_true rfl) ?_
  exact AW.zret rfl X_within_01 (dcN_4 dcg_348 :) ⟨congrArg (fun v => some (iv v)) (show X_isWeek x0  = (X_within x0 0 9) from rfl).symm, rfl⟩
set_option synthInstance.maxHeartbeats 2000000 in
theorem Bookings_putInOrder_b_ok {z : AZ} {d : Nat} (hdd : 0 ≤ d) : ∀ (tag : Nat) (x1 : Int) (x2 : Int) (x3 : Int) (g : AG) (r : Int × AG), Bookings_putInOrder_b tag x1 x2 x3 g = some r → (tag = 1 → AW z (RX1, cX1_putInOrder, 4, none) d (QD none r) 4 [(0, rv z 9), (1, iv x1), (2, iv x2)] [] g) ∧ (tag = 2 → AW z (RX1, cX1_putInOrder, 4, none) d (QD none r) 12 [(0, rv z 9), (1, iv x1), (2, iv x2), (3, iv x3)] [] g) := by
  refine Bookings_putInOrder_b.partial_correctness (fun tag x1 x2 x3 g r => (tag = 1 → AW z (RX1, cX1_putInOrder, 4, none) d (QD none r) 4 [(0, rv z 9), (1, iv x1), (2, iv x2)] [] g) ∧ (tag = 2 → AW z (RX1, cX1_putInOrder, 4, none) d (QD none r) 12 [(0, rv z 9), (1, iv x1), (2, iv x2), (3, iv x3)] [] g)) ?_
  intro fb9 ih tag x1 x2 x3 g r h
  refine ⟨fun h9 => ?_, fun h9 => ?_⟩
  · subst h9
    replace h := hT h rfl
    refine AW.iload_n 2 (dcN_4 dcg_45 :) rfl ?_
    refine AW.bipush (dcN_5 dcg_45 :) (by decide) (by decide) ?_
    refine AW.icmp_ge (tgt := 52) (dcN_6 dcg_45 :) (by decide) (fun c1 => ?_) (fun c1 => ?_)
    · replace h := hT h c1
      exact AW.vret1 rfl (dcN_8 dcg_46 :) h rfl
    · replace h := hF h c1
      refine AW.iconst (dcN_7 dcg_45 :) ?_
      refine AW.istore_n (lv1 := [(3, iv 0), (0, rv z 9), (1, iv x1), (2, iv x2)]) (dcN_8 dcg_45 :) (by decide) rfl ?_
      refine AW.sub (lv1 := [(0, rv z 9), (1, iv x1), (2, iv x2), (3, iv 0)]) [1, 2, 3, 0] rfl ?_
      exact (ih _ _ _ _ _ _ h).2 rfl
  · subst h9
    replace h := hF h (by decide)
    replace h := hT h rfl
    refine AW.iload_n 3 (dcN_9 dcg_45 :) rfl ?_
    refine AW.aloadr_n 0 (dcN_10 dcg_45 :) rfl ?_
    refine AW.getI af_X1_48_9 sr_9_4 (dcN_11 dcg_45 :) ?_
    refine AW.icmp_ge (tgt := 46) (dcN_12 dcg_45 :) (by decide) (fun c1 => ?_) (fun c1 => ?_)
    · replace h := hT h c1
      refine AW.iinc (lv1 := [(2, iv (x2 + 1)), (0, rv z 9), (1, iv x1), (3, iv x3)]) 2 (dcN_6 dcg_46 :) rfl (by decide) rfl ?_
      refine AW.goto (tgt := 4) (dcN_7 dcg_46 :) (by decide) ?_
      refine AW.sub (lv1 := [(0, rv z 9), (1, iv x1), (2, iv (x2 + 1))]) [1, 2, 0] rfl ?_
      exact (ih _ _ _ _ _ _ h).1 rfl
    · replace h := hF h c1
      refine AW.aloadr_n 0 (dcN_13 dcg_45 :) rfl ?_
      refine AW.getR af_X1_18_9 sr_9_2 (dcN_14 dcg_45 :) ?_
      refine AW.iload_n 3 (dcN_15 dcg_45 :) rfl ?_
      obtain ⟨k2, h⟩ := hK h
      refine AW.iald kc_87 sk_87 k2 (dcN_16 dcg_45 :) ?_
      refine AW.iload_n 2 (dcN_17 dcg_45 :) rfl ?_
      obtain ⟨r7, e8, h⟩ := hC h
      refine AW.join (tgt := 40) (lv1 := [(0, rv z 9), (1, iv r7.1), (2, iv x2), (3, iv x3)]) (st1 := []) (g1 := r7.2) ?_ (fun J27 => ?_)
      · refine AW.iinc (lv1 := [(3, iv (x3 + 1)), (0, rv z 9), (1, iv r7.1), (2, iv x2)]) 3 (dcN_4 dcg_46 :) rfl (by decide) rfl ?_
        refine AW.goto (tgt := 12) (dcN_5 dcg_46 :) (by decide) ?_
        refine AW.sub (lv1 := [(0, rv z 9), (1, iv r7.1), (2, iv x2), (3, iv (x3 + 1))]) [1, 2, 3, 0] rfl ?_
        exact (ih _ _ _ _ _ _ h).2 rfl
      replace h := e8
      refine AW.icmp_ne (tgt := 40) (dcN_18 dcg_45 :) (by decide) (fun c3 => ?_) (fun c3 => ?_)
      · replace h := hF h c3
        cases h
        exact J27
      · replace h := hT h c3
        refine AW.aloadr_n 0 (dcN_19 dcg_45 :) rfl ?_
        refine AW.getR af_X1_24_9 sr_9_5 (dcN_20 dcg_45 :) ?_
        refine AW.iload_n 1 (dcN_0 dcg_46 :) rfl ?_
        refine AW.iload_n 3 (dcN_1 dcg_46 :) rfl ?_
        obtain ⟨k4, h⟩ := hK h
        obtain ⟨g5, e6, h⟩ := hBe h
        refine AW.iast kc_89 sk_89 k4 (dcN_2 dcg_46 :) e6 ?_
        refine AW.iinc (lv1 := [(1, iv (x1 + 1)), (0, rv z 9), (2, iv x2), (3, iv x3)]) 1 (dcN_3 dcg_46 :) rfl (by decide) rfl ?_
        refine AW.sub (lv1 := [(0, rv z 9), (1, iv (x1 + 1)), (2, iv x2), (3, iv x3)]) [1, 0, 2, 3] rfl ?_
        cases h
        exact J27
theorem Bookings_putInOrder_ok {z : AZ} {g : AG} {r : Int × AG} (h : Bookings_putInOrder g = some r) : AMf z yX1_putInOrder cX1_putInOrder 4 none 0 [rv z 9] g r := by
  intro d hdd
  refine AM.of (by decide +kernel) (Nat.le_of_ble_eq_true rfl) ?_
  show AW z (RX1, cX1_putInOrder, 4, none) d (QD none r) 0 [(0, rv z 9)] [] g
  unfold Bookings_putInOrder at h
  refine AW.iconst (dcN_0 dcg_45 :) ?_
  refine AW.istore_n (lv1 := [(1, iv 0), (0, rv z 9)]) (dcN_1 dcg_45 :) (by decide) rfl ?_
  refine AW.iconst (dcN_2 dcg_45 :) ?_
  refine AW.istore_n (lv1 := [(2, iv 0), (1, iv 0), (0, rv z 9)]) (dcN_3 dcg_45 :) (by decide) rfl ?_
  refine AW.sub (lv1 := [(0, rv z 9), (1, iv 0), (2, iv 0)]) [2, 1, 0] rfl ?_
  exact (Bookings_putInOrder_b_ok hdd _ _ _ _ _ _ h).1 rfl
theorem Bookings_add_ok {z : AZ} {x1 : Int} {x2 : Int} {x3 : Int} {x4 : Int} {g : AG} {r : Int × AG} (h : Bookings_add x1 x2 x3 x4 g = some r) : AMf z yX1_add cX1_add 5 (some .int) 1 [rv z 9, iv x1, iv x2, iv x3, iv x4] g r := by
  intro d hdd
  refine AM.of (by decide +kernel) (Nat.le_of_ble_eq_true rfl) ?_
  show AW z (RX1, cX1_add, 5, (some .int)) d (QD (some .int) r) 0 [(0, rv z 9), (1, iv x1), (2, iv x2), (3, iv x3), (4, iv x4)] [] g
  unfold Bookings_add at h
  refine AW.aloadr_n 0 (dcN_0 dcg_42 :) rfl ?_
  refine AW.getI af_X1_48_9 sr_9_4 (dcN_1 dcg_42 :) ?_
  refine AW.bipush (dcN_2 dcg_42 :) (by decide) (by decide) ?_
  refine AW.icmp_lt (tgt := 11) (dcN_3 dcg_42 :) (by decide) (fun c1 => ?_) (fun c1 => ?_)
  · replace h := hT h c1
    refine AW.aloadr_n 0 (dcN_6 dcg_42 :) rfl ?_
    refine AW.getR af_X1_9_9 sr_9_0 (dcN_7 dcg_42 :) ?_
    refine AW.aloadr_n 0 (dcN_8 dcg_42 :) rfl ?_
    refine AW.getI af_X1_48_9 sr_9_4 (dcN_9 dcg_42 :) ?_
    refine AW.iload_n 1 (dcN_10 dcg_42 :) rfl ?_
    obtain ⟨k2, h⟩ := hK h
    obtain ⟨g3, e4, h⟩ := hBe h
    refine AW.iast kc_85 sk_85 k2 (dcN_11 dcg_42 :) e4 ?_
    refine AW.aloadr_n 0 (dcN_12 dcg_42 :) rfl ?_
    refine AW.getR af_X1_15_9 sr_9_1 (dcN_13 dcg_42 :) ?_
    refine AW.aloadr_n 0 (dcN_14 dcg_42 :) rfl ?_
    refine AW.getI af_X1_48_9 sr_9_4 (dcN_15 dcg_42 :) ?_
    refine AW.iload_n 2 (dcN_16 dcg_42 :) rfl ?_
    obtain ⟨k5, h⟩ := hK h
    obtain ⟨g6, e7, h⟩ := hBe h
    refine AW.iast kc_86 sk_86 k5 (dcN_17 dcg_42 :) e7 ?_
    refine AW.aloadr_n 0 (dcN_18 dcg_42 :) rfl ?_
    refine AW.getR af_X1_18_9 sr_9_2 (dcN_0 dcg_43 :) ?_
    refine AW.aloadr_n 0 (dcN_1 dcg_43 :) rfl ?_
    refine AW.getI af_X1_48_9 sr_9_4 (dcN_2 dcg_43 :) ?_
    refine AW.iload_n 3 (dcN_3 dcg_43 :) rfl ?_
    obtain ⟨k8, h⟩ := hK h
    obtain ⟨g9, e10, h⟩ := hBe h
    refine AW.iast kc_87 sk_87 k8 (dcN_4 dcg_43 :) e10 ?_
    refine AW.aloadr_n 0 (dcN_5 dcg_43 :) rfl ?_
    refine AW.getR af_X1_21_9 sr_9_3 (dcN_6 dcg_43 :) ?_
    refine AW.aloadr_n 0 (dcN_7 dcg_43 :) rfl ?_
    refine AW.getI af_X1_48_9 sr_9_4 (dcN_8 dcg_43 :) ?_
    refine AW.iload 4 (dcN_9 dcg_43 :) rfl ?_
    obtain ⟨k11, h⟩ := hK h
    obtain ⟨g12, e13, h⟩ := hBe h
    refine AW.iast kc_88 sk_88 k11 (dcN_10 dcg_43 :) e13 ?_
    refine AW.aloadr_n 0 (dcN_11 dcg_43 :) rfl ?_
    refine AW.duprr (dcN_12 dcg_43 :) ?_
    refine AW.getI af_X1_48_9 sr_9_4 (dcN_13 dcg_43 :) ?_
    refine AW.iconst (dcN_14 dcg_43 :) ?_
    refine AW.iadd (dcN_15 dcg_43 :) ?_
    obtain ⟨g14, e15, h⟩ := hBe h
    refine AW.putI ap_X1_48_9 sr_9_4 (dcN_16 dcg_43 :) e15 ?_
    refine AW.aloadr_n 0 (dcN_17 dcg_43 :) rfl ?_
    refine AW.iconst (dcN_18 dcg_43 :) ?_
    obtain ⟨g16, e17, h⟩ := hBe h
    refine AW.putI ap_X1_52_9 sr_9_11 (dcN_0 dcg_44 :) e17 ?_
    refine AW.aloadr_n 0 (dcN_1 dcg_44 :) rfl ?_
    obtain ⟨r18, e19, h⟩ := hC h
    refine AW.callVv (As := []) (st := []) (Bookings_putInOrder_ok e19) cq_X1_55 cr_9_X1_putInOrder (Nat.le_trans (by decide) hdd) rfl (dcN_2 dcg_44 :) rfl (Nat.le_of_ble_eq_true rfl) ?_
    refine AW.aloadr_n 0 (dcN_3 dcg_44 :) rfl ?_
    refine AW.getI af_X1_48_9 sr_9_4 (dcN_4 dcg_44 :) ?_
    refine AW.iconst (dcN_5 dcg_44 :) ?_
    refine AW.isub (dcN_6 dcg_44 :) ?_
    exact AW.iret1 rfl (dcN_7 dcg_44 :) h rfl
  · replace h := hF h c1
    refine AW.iconst (dcN_4 dcg_42 :) ?_
    exact AW.iret1 rfl (dcN_5 dcg_42 :) h rfl
theorem X_booking_ok {z : AZ} {x1 : Int} {x2 : Int} {x3 : Int} {x4 : Int} {g : AG} {r : Int × AG} (h : X_booking x1 x2 x3 x4 g = some r) : AMf z yX11_booking cX11_booking 5 (some .int) 2 [rv z 0, iv x1, iv x2, iv x3, iv x4] g r := by
  intro d hdd
  refine AM.of (by decide +kernel) (Nat.le_of_ble_eq_true rfl) ?_
  show AW z (RX11, cX11_booking, 5, (some .int)) d (QD (some .int) r) 0 [(0, rv z 0), (1, iv x1), (2, iv x2), (3, iv x3), (4, iv x4)] [] g
  unfold X_booking at h
  refine AW.iload_n 1 (dcN_0 dcg_415 :) rfl ?_
  refine AW.callSi (As := [iv x1]) (st := []) X_isPoint_ok cq_X11_111 st_X11_isPoint (Nat.le_trans (by decide) hdd) rfl (dcN_1 dcg_415 :) rfl (Nat.le_of_ble_eq_true rfl) ?_
  refine AW.if_eq (tgt := 29) (dcN_2 dcg_415 :) (by decide) (fun c1 => ?_) (fun c1 => ?_)
  · replace h := hT h c1
    refine AW.iconst (dcN_0 dcg_416 :) ?_
    exact AW.iret1 rfl (dcN_1 dcg_416 :) h rfl
  · replace h := hF h c1
    refine AW.iload_n 2 (dcN_3 dcg_415 :) rfl ?_
    refine AW.callSi (As := [iv x2]) (st := []) X_isPoint_ok cq_X11_111 st_X11_isPoint (Nat.le_trans (by decide) hdd) rfl (dcN_4 dcg_415 :) rfl (Nat.le_of_ble_eq_true rfl) ?_
    refine AW.if_eq (tgt := 29) (dcN_5 dcg_415 :) (by decide) (fun c2 => ?_) (fun c2 => ?_)
    · replace h := hT h c2
      refine AW.iconst (dcN_0 dcg_416 :) ?_
      exact AW.iret1 rfl (dcN_1 dcg_416 :) h rfl
    · replace h := hF h c2
      refine AW.iload_n 3 (dcN_6 dcg_415 :) rfl ?_
      refine AW.callSi (As := [iv x3]) (st := []) X_isWeek_ok cq_X11_267 st_X11_isWeek (Nat.le_trans (by decide) hdd) rfl (dcN_7 dcg_415 :) rfl (Nat.le_of_ble_eq_true rfl) ?_
      refine AW.if_eq (tgt := 29) (dcN_8 dcg_415 :) (by decide) (fun c3 => ?_) (fun c3 => ?_)
      · replace h := hT h c3
        refine AW.iconst (dcN_0 dcg_416 :) ?_
        exact AW.iret1 rfl (dcN_1 dcg_416 :) h rfl
      · replace h := hF h c3
        refine AW.iload 4 (dcN_9 dcg_415 :) rfl ?_
        refine AW.callSi (As := [iv x4]) (st := []) X_isBerths_ok cq_X11_143 st_X11_isBerths (Nat.le_trans (by decide) hdd) rfl (dcN_10 dcg_415 :) rfl (Nat.le_of_ble_eq_true rfl) ?_
        refine AW.if_ne (tgt := 31) (dcN_11 dcg_415 :) (by decide) (fun c4 => ?_) (fun c4 => ?_)
        · replace h := hF h c4
          refine AW.aloadr_n 0 (dcN_2 dcg_416 :) rfl ?_
          refine AW.getR af_X11_72_0 sr_0_8 (dcN_3 dcg_416 :) ?_
          refine AW.iload_n 1 (dcN_4 dcg_416 :) rfl ?_
          refine AW.iload_n 2 (dcN_5 dcg_416 :) rfl ?_
          refine AW.iload_n 3 (dcN_6 dcg_416 :) rfl ?_
          refine AW.iload 4 (dcN_7 dcg_416 :) rfl ?_
          obtain ⟨r5, e6, h⟩ := hC h
          refine AW.callVi (As := [iv x1, iv x2, iv x3, iv x4]) (st := []) (Bookings_add_ok e6) cq_X11_270 cr_9_X1_add (Nat.le_trans (by decide) hdd) rfl (dcN_8 dcg_416 :) rfl (Nat.le_of_ble_eq_true rfl) ?_
          exact AW.iret1 rfl (dcN_9 dcg_416 :) h rfl
        · replace h := hT h c4
          refine AW.iconst (dcN_0 dcg_416 :) ?_
          exact AW.iret1 rfl (dcN_1 dcg_416 :) h rfl
theorem Bookings_hire_ok {z : AZ} {x1 : Int} {x2 : Int} {x3 : Int} {g : AG} {r : Int × AG} (h : Bookings_hire x1 x2 x3 g = some r) : AMf z yX1_hire cX1_hire 4 none 0 [rv z 9, iv x1, iv x2, iv x3] g r := by
  intro d hdd
  refine AM.of (by decide +kernel) (Nat.le_of_ble_eq_true rfl) ?_
  show AW z (RX1, cX1_hire, 4, none) d (QD none r) 0 [(0, rv z 9), (1, iv x1), (2, iv x2), (3, iv x3)] [] g
  unfold Bookings_hire at h
  refine AW.aloadr_n 0 (dcN_0 dcg_47 :) rfl ?_
  refine AW.getR af_X1_27_9 sr_9_6 (dcN_1 dcg_47 :) ?_
  refine AW.iload_n 1 (dcN_2 dcg_47 :) rfl ?_
  obtain ⟨k1, h⟩ := hK h
  refine AW.iald kc_90 sk_90 k1 (dcN_3 dcg_47 :) ?_
  refine AW.iload_n 2 (dcN_4 dcg_47 :) rfl ?_
  obtain ⟨r8, e9, h⟩ := hC h
  refine AW.join (tgt := 25) (lv1 := [(0, rv z 9), (1, iv x1), (2, iv x2), (3, iv x3)]) (st1 := []) (g1 := r8) ?_ (fun J7 => ?_)
  · refine AW.aloadr_n 0 (dcN_3 dcg_48 :) rfl ?_
    refine AW.getR af_X1_27_9 sr_9_6 (dcN_4 dcg_48 :) ?_
    refine AW.iload_n 1 (dcN_5 dcg_48 :) rfl ?_
    refine AW.iload_n 2 (dcN_6 dcg_48 :) rfl ?_
    obtain ⟨g10, e11, h⟩ := hBe h
    refine AW.iast kc_90 sk_90 k1 (dcN_7 dcg_48 :) e11 ?_
    refine AW.aloadr_n 0 (dcN_8 dcg_48 :) rfl ?_
    refine AW.getR af_X1_30_9 sr_9_7 (dcN_9 dcg_48 :) ?_
    refine AW.iload_n 1 (dcN_10 dcg_48 :) rfl ?_
    refine AW.iload_n 3 (dcN_11 dcg_48 :) rfl ?_
    obtain ⟨g12, e13, h⟩ := hBe h
    refine AW.iast kc_91 sk_91 k1 (dcN_0 dcg_49 :) e13 ?_
    exact AW.vret1 rfl (dcN_1 dcg_49 :) h rfl
  replace h := e9
  refine AW.icmp_ne (tgt := 20) (dcN_5 dcg_47 :) (by decide) (fun c2 => ?_) (fun c2 => ?_)
  · replace h := hF h c2
    refine AW.aloadr_n 0 (dcN_0 dcg_48 :) rfl ?_
    refine AW.iconst (dcN_1 dcg_48 :) ?_
    obtain ⟨g3, e4, h⟩ := hBe h
    refine AW.putI ap_X1_52_9 sr_9_11 (dcN_2 dcg_48 :) e4 ?_
    cases h
    exact J7
  · replace h := hT h c2
    refine AW.aloadr_n 0 (dcN_6 dcg_47 :) rfl ?_
    refine AW.getR af_X1_30_9 sr_9_7 (dcN_7 dcg_47 :) ?_
    refine AW.iload_n 1 (dcN_8 dcg_47 :) rfl ?_
    refine AW.iald kc_91 sk_91 k1 (dcN_9 dcg_47 :) ?_
    refine AW.iload_n 3 (dcN_10 dcg_47 :) rfl ?_
    refine AW.icmp_eq (tgt := 25) (dcN_11 dcg_47 :) (by decide) (fun c5 => ?_) (fun c5 => ?_)
    · replace h := hT h c5
      cases h
      exact J7
    · replace h := hF h c5
      refine AW.aloadr_n 0 (dcN_0 dcg_48 :) rfl ?_
      refine AW.iconst (dcN_1 dcg_48 :) ?_
      obtain ⟨g6, e7, h⟩ := hBe h
      refine AW.putI ap_X1_52_9 sr_9_11 (dcN_2 dcg_48 :) e7 ?_
      cases h
      exact J7
set_option synthInstance.maxHeartbeats 2000000 in
theorem X_hireFirst_b_ok {z : AZ} {d : Nat} (hdd : 1 ≤ d) {x1 : Int} : ∀ (x2 : Int) (g : AG) (r : Int × AG), X_hireFirst_b x1 x2 g = some r → AW z (RX11, cX11_hireFirst, 3, none) d (QD none r) 2 [(0, rv z 0), (1, iv x1), (2, iv x2)] [] g := by
  refine X_hireFirst_b.partial_correctness x1 (fun x2 g r => AW z (RX11, cX11_hireFirst, 3, none) d (QD none r) 2 [(0, rv z 0), (1, iv x1), (2, iv x2)] [] g) ?_
  intro fb9 ih x2 g r h
  refine AW.iload_n 2 (dcN_2 dcg_420 :) rfl ?_
  refine AW.iload_n 1 (dcN_3 dcg_420 :) rfl ?_
  refine AW.icmp_ge (tgt := 39) (dcN_4 dcg_420 :) (by decide) (fun c1 => ?_) (fun c1 => ?_)
  · replace h := hT h c1
    exact AW.vret1 rfl (dcN_9 dcg_421 :) h rfl
  · replace h := hF h c1
    refine AW.aloadr_n 0 (dcN_5 dcg_420 :) rfl ?_
    refine AW.getR af_X11_72_0 sr_0_8 (dcN_6 dcg_420 :) ?_
    refine AW.iload_n 2 (dcN_7 dcg_420 :) rfl ?_
    refine AW.aloadr_n 0 (dcN_8 dcg_420 :) rfl ?_
    refine AW.getR af_X11_49_0 sr_0_5 (dcN_9 dcg_420 :) ?_
    refine AW.getR af_X11_287_6 sr_6_3 (dcN_10 dcg_420 :) ?_
    refine AW.iload_n 2 (dcN_11 dcg_420 :) rfl ?_
    obtain ⟨k2, h⟩ := hK h
    refine AW.iald kc_48 sk_48 k2 (dcN_0 dcg_421 :) ?_
    refine AW.aloadr_n 0 (dcN_1 dcg_421 :) rfl ?_
    refine AW.getR af_X11_49_0 sr_0_5 (dcN_2 dcg_421 :) ?_
    refine AW.getR af_X11_290_6 sr_6_5 (dcN_3 dcg_421 :) ?_
    refine AW.iload_n 2 (dcN_4 dcg_421 :) rfl ?_
    refine AW.iald kc_50 sk_50 k2 (dcN_5 dcg_421 :) ?_
    obtain ⟨r3, e4, h⟩ := hC h
    refine AW.callVv (As := [iv x2, iv (g 48 (ix x2)), iv (g 50 (ix x2))]) (st := []) (Bookings_hire_ok e4) cq_X11_293 cr_9_X1_hire (Nat.le_trans (by decide) hdd) rfl (dcN_6 dcg_421 :) rfl (Nat.le_of_ble_eq_true rfl) ?_
    refine AW.iinc (lv1 := [(2, iv (x2 + 1)), (0, rv z 0), (1, iv x1)]) 2 (dcN_7 dcg_421 :) rfl (by decide) rfl ?_
    refine AW.goto (tgt := 2) (dcN_8 dcg_421 :) (by decide) ?_
    refine AW.sub (lv1 := [(0, rv z 0), (1, iv x1), (2, iv (x2 + 1))]) [1, 2, 0] rfl ?_
    exact ih _ _ _ h
theorem X_hireFirst_ok {z : AZ} {x1 : Int} {g : AG} {r : Int × AG} (h : X_hireFirst x1 g = some r) : AMf z yX11_hireFirst cX11_hireFirst 3 none 1 [rv z 0, iv x1] g r := by
  intro d hdd
  refine AM.of (by decide +kernel) (Nat.le_of_ble_eq_true rfl) ?_
  show AW z (RX11, cX11_hireFirst, 3, none) d (QD none r) 0 [(0, rv z 0), (1, iv x1)] [] g
  unfold X_hireFirst at h
  refine AW.iconst (dcN_0 dcg_420 :) ?_
  refine AW.istore_n (lv1 := [(2, iv 0), (0, rv z 0), (1, iv x1)]) (dcN_1 dcg_420 :) (by decide) rfl ?_
  refine AW.sub (lv1 := [(0, rv z 0), (1, iv x1), (2, iv 0)]) [1, 2, 0] rfl ?_
  exact X_hireFirst_b_ok hdd _ _ _ h
set_option synthInstance.maxHeartbeats 2000000 in
theorem Bookings_canCome_b_ok {z : AZ} {d : Nat} (hdd : 0 ≤ d) {x2 : Int} {g : AG} : ∀ (tag : Nat) (x3 : Int) (r : Int), Bookings_canCome_b x2 g tag x3 = some r → (tag = 1 → AW z (RX1, cX1_canCome, 4, (some .boolean)) d (QD (some .boolean) (r, g)) 19 [(0, rv z 9), (2, iv x2), (3, iv x3)] [] g) ∧ (tag = 2 → AW z (RX1, cX1_canCome, 4, (some .boolean)) d (QD (some .boolean) (r, g)) 59 [(0, rv z 9), (2, iv x2), (3, iv x3)] [] g) := by
  refine Bookings_canCome_b.partial_correctness x2 g (fun tag x3 r => (tag = 1 → AW z (RX1, cX1_canCome, 4, (some .boolean)) d (QD (some .boolean) (r, g)) 19 [(0, rv z 9), (2, iv x2), (3, iv x3)] [] g) ∧ (tag = 2 → AW z (RX1, cX1_canCome, 4, (some .boolean)) d (QD (some .boolean) (r, g)) 59 [(0, rv z 9), (2, iv x2), (3, iv x3)] [] g)) ?_
  intro fb9 ih tag x3 r h
  refine ⟨fun h9 => ?_, fun h9 => ?_⟩
  · subst h9
    replace h := hT h rfl
    refine AW.iload_n 2 (dcN_13 dcg_58 :) rfl ?_
    refine AW.aloadr_n 0 (dcN_14 dcg_58 :) rfl ?_
    refine AW.getI af_X1_48_9 sr_9_4 (dcN_15 dcg_58 :) ?_
    refine AW.icmp_ge (tgt := 65) (dcN_16 dcg_58 :) (by decide) (fun c1 => ?_) (fun c1 => ?_)
    · replace h := hT h c1
      refine AW.iconst (dcN_0 dcg_60 :) ?_
      exact AW.zret2 rfl (Or.inl rfl) (dcN_1 dcg_60 :) h rfl
    · replace h := hF h c1
      refine AW.aloadr_n 0 (dcN_17 dcg_58 :) rfl ?_
      refine AW.getR af_X1_18_9 sr_9_2 (dcN_18 dcg_58 :) ?_
      refine AW.iload_n 2 (dcN_19 dcg_58 :) rfl ?_
      obtain ⟨k2, h⟩ := hK h
      refine AW.iald kc_87 sk_87 k2 (dcN_0 dcg_59 :) ?_
      refine AW.aloadr_n 0 (dcN_1 dcg_59 :) rfl ?_
      refine AW.getR af_X1_18_9 sr_9_2 (dcN_2 dcg_59 :) ?_
      refine AW.iload_n 1 (dcN_3 dcg_59 :) rfl ?_
      obtain ⟨k3, h⟩ := hK h
      refine AW.iald kc_87 sk_87 k3 (dcN_4 dcg_59 :) ?_
      refine AW.icmp_ge (tgt := 59) (dcN_5 dcg_59 :) (by decide) (fun c4 => ?_) (fun c4 => ?_)
      · replace h := hT h c4
        exact (ih _ _ _ h).2 rfl
      · replace h := hF h c4
        refine AW.aloadr_n 0 (dcN_6 dcg_59 :) rfl ?_
        refine AW.getR af_X1_15_9 sr_9_1 (dcN_7 dcg_59 :) ?_
        refine AW.iload_n 2 (dcN_8 dcg_59 :) rfl ?_
        refine AW.iald kc_86 sk_86 k2 (dcN_9 dcg_59 :) ?_
        refine AW.aloadr_n 0 (dcN_10 dcg_59 :) rfl ?_
        refine AW.getR af_X1_9_9 sr_9_0 (dcN_11 dcg_59 :) ?_
        refine AW.iload_n 1 (dcN_12 dcg_59 :) rfl ?_
        refine AW.iald kc_85 sk_85 k3 (dcN_13 dcg_59 :) ?_
        refine AW.icmp_ne (tgt := 59) (dcN_14 dcg_59 :) (by decide) (fun c5 => ?_) (fun c5 => ?_)
        · replace h := hF h c5
          exact (ih _ _ _ h).2 rfl
        · replace h := hT h c5
          refine AW.iconst (dcN_15 dcg_59 :) ?_
          exact AW.zret2 rfl (Or.inr rfl) (dcN_16 dcg_59 :) h rfl
  · subst h9
    replace h := hF h (by decide)
    replace h := hT h rfl
    refine AW.iinc (lv1 := [(3, iv (x3 + 1)), (0, rv z 9), (2, iv x2)]) 2 (dcN_17 dcg_59 :) rfl (by decide) rfl ?_
    refine AW.goto (tgt := 19) (dcN_18 dcg_59 :) (by decide) ?_
    refine AW.sub (lv1 := [(0, rv z 9), (2, iv x2), (3, iv (x3 + 1))]) [1, 2, 0] rfl ?_
    exact (ih _ _ _ h).1 rfl
theorem Bookings_canCome_ok {z : AZ} {x1 : Int} {x2 : Int} {g : AG} {r : Int} (h : Bookings_canCome x1 x2 g = some r) : AMf z yX1_canCome cX1_canCome 4 (some .boolean) 0 [rv z 9, iv x1, iv x2] g (r, g) := by
  intro d hdd
  refine AM.of (by decide +kernel) (Nat.le_of_ble_eq_true rfl) ?_
  show AW z (RX1, cX1_canCome, 4, (some .boolean)) d (QD (some .boolean) (r, g)) 0 [(0, rv z 9), (1, iv x1), (2, iv x2)] [] g
  unfold Bookings_canCome at h
  refine AW.aloadr_n 0 (dcN_0 dcg_58 :) rfl ?_
  refine AW.getR af_X1_30_9 sr_9_7 (dcN_1 dcg_58 :) ?_
  refine AW.iload_n 1 (dcN_2 dcg_58 :) rfl ?_
  obtain ⟨k1, h⟩ := hK h
  refine AW.iald kc_91 sk_91 k1 (dcN_3 dcg_58 :) ?_
  refine AW.aloadr_n 0 (dcN_4 dcg_58 :) rfl ?_
  refine AW.getR af_X1_9_9 sr_9_0 (dcN_5 dcg_58 :) ?_
  refine AW.iload_n 2 (dcN_6 dcg_58 :) rfl ?_
  obtain ⟨k2, h⟩ := hK h
  refine AW.iald kc_85 sk_85 k2 (dcN_7 dcg_58 :) ?_
  refine AW.icmp_ne (tgt := 17) (dcN_8 dcg_58 :) (by decide) (fun c3 => ?_) (fun c3 => ?_)
  · replace h := hF h c3
    refine AW.iconst (dcN_11 dcg_58 :) ?_
    refine AW.istore_n (lv1 := [(3, iv 0), (0, rv z 9), (1, iv x1), (2, iv x2)]) (dcN_12 dcg_58 :) (by decide) rfl ?_
    refine AW.sub (lv1 := [(0, rv z 9), (2, iv x2), (3, iv 0)]) [1, 3, 0] rfl ?_
    exact (Bookings_canCome_b_ok hdd _ _ _ h).1 rfl
  · replace h := hT h c3
    refine AW.iconst (dcN_9 dcg_58 :) ?_
    exact AW.zret2 rfl (Or.inr rfl) (dcN_10 dcg_58 :) h rfl
set_option synthInstance.maxHeartbeats 2000000 in
theorem Bookings_canEverBeGiven_b_ok {z : AZ} {d : Nat} (hdd : 1 ≤ d) {x1 : Int} {g : AG} : ∀ (tag : Nat) (x2 : Int) (r : Int), Bookings_canEverBeGiven_b x1 g tag x2 = some r → (tag = 1 → AW z (RX1, cX1_canEverBeGiven, 3, (some .boolean)) d (QD (some .boolean) (r, g)) 2 [(0, rv z 9), (1, iv x1), (2, iv x2)] [] g) ∧ (tag = 2 → AW z (RX1, cX1_canEverBeGiven, 3, (some .boolean)) d (QD (some .boolean) (r, g)) 36 [(0, rv z 9), (1, iv x1), (2, iv x2)] [] g) := by
  refine Bookings_canEverBeGiven_b.partial_correctness x1 g (fun tag x2 r => (tag = 1 → AW z (RX1, cX1_canEverBeGiven, 3, (some .boolean)) d (QD (some .boolean) (r, g)) 2 [(0, rv z 9), (1, iv x1), (2, iv x2)] [] g) ∧ (tag = 2 → AW z (RX1, cX1_canEverBeGiven, 3, (some .boolean)) d (QD (some .boolean) (r, g)) 36 [(0, rv z 9), (1, iv x1), (2, iv x2)] [] g)) ?_
  intro fb9 ih tag x2 r h
  refine ⟨fun h9 => ?_, fun h9 => ?_⟩
  · subst h9
    replace h := hT h rfl
    refine AW.iload_n 2 (dcN_2 dcg_55 :) rfl ?_
    refine AW.aloadr_n 0 (dcN_3 dcg_55 :) rfl ?_
    refine AW.getI af_X1_64_9 sr_9_10 (dcN_4 dcg_55 :) ?_
    refine AW.icmp_ge (tgt := 42) (dcN_5 dcg_55 :) (by decide) (fun c1 => ?_) (fun c1 => ?_)
    · replace h := hT h c1
      refine AW.iconst (dcN_0 dcg_57 :) ?_
      exact AW.zret2 rfl (Or.inl rfl) (dcN_1 dcg_57 :) h rfl
    · replace h := hF h c1
      refine AW.aloadr_n 0 (dcN_6 dcg_55 :) rfl ?_
      refine AW.getR af_X1_27_9 sr_9_6 (dcN_7 dcg_55 :) ?_
      refine AW.iload_n 2 (dcN_8 dcg_55 :) rfl ?_
      obtain ⟨k2, h⟩ := hK h
      refine AW.iald kc_90 sk_90 k2 (dcN_9 dcg_55 :) ?_
      refine AW.aloadr_n 0 (dcN_10 dcg_55 :) rfl ?_
      refine AW.getR af_X1_21_9 sr_9_3 (dcN_11 dcg_55 :) ?_
      refine AW.iload_n 1 (dcN_0 dcg_56 :) rfl ?_
      obtain ⟨k3, h⟩ := hK h
      refine AW.iald kc_88 sk_88 k3 (dcN_1 dcg_56 :) ?_
      refine AW.icmp_lt (tgt := 36) (dcN_2 dcg_56 :) (by decide) (fun c4 => ?_) (fun c4 => ?_)
      · replace h := hT h c4
        exact (ih _ _ _ h).2 rfl
      · replace h := hF h c4
        refine AW.aloadr_n 0 (dcN_3 dcg_56 :) rfl ?_
        refine AW.iload_n 2 (dcN_4 dcg_56 :) rfl ?_
        refine AW.iload_n 1 (dcN_5 dcg_56 :) rfl ?_
        obtain ⟨r5, e6, h⟩ := hC h
        refine AW.callVi (As := [iv x2, iv x1]) (st := []) (Bookings_canCome_ok e6) cq_X1_81 cr_9_X1_canCome (Nat.le_trans (by decide) hdd) rfl (dcN_6 dcg_56 :) rfl (Nat.le_of_ble_eq_true rfl) ?_
        refine AW.if_eq (tgt := 36) (dcN_7 dcg_56 :) (by decide) (fun c7 => ?_) (fun c7 => ?_)
        · replace h := hT h c7
          exact (ih _ _ _ h).2 rfl
        · replace h := hF h c7
          refine AW.iconst (dcN_8 dcg_56 :) ?_
          exact AW.zret2 rfl (Or.inr rfl) (dcN_9 dcg_56 :) h rfl
  · subst h9
    replace h := hF h (by decide)
    replace h := hT h rfl
    refine AW.iinc (lv1 := [(2, iv (x2 + 1)), (0, rv z 9), (1, iv x1)]) 2 (dcN_10 dcg_56 :) rfl (by decide) rfl ?_
    refine AW.goto (tgt := 2) (dcN_11 dcg_56 :) (by decide) ?_
    refine AW.sub (lv1 := [(0, rv z 9), (1, iv x1), (2, iv (x2 + 1))]) [1, 2, 0] rfl ?_
    exact (ih _ _ _ h).1 rfl
theorem Bookings_canEverBeGiven_ok {z : AZ} {x1 : Int} {g : AG} {r : Int} (h : Bookings_canEverBeGiven x1 g = some r) : AMf z yX1_canEverBeGiven cX1_canEverBeGiven 3 (some .boolean) 1 [rv z 9, iv x1] g (r, g) := by
  intro d hdd
  refine AM.of (by decide +kernel) (Nat.le_of_ble_eq_true rfl) ?_
  show AW z (RX1, cX1_canEverBeGiven, 3, (some .boolean)) d (QD (some .boolean) (r, g)) 0 [(0, rv z 9), (1, iv x1)] [] g
  unfold Bookings_canEverBeGiven at h
  refine AW.iconst (dcN_0 dcg_55 :) ?_
  refine AW.istore_n (lv1 := [(2, iv 0), (0, rv z 9), (1, iv x1)]) (dcN_1 dcg_55 :) (by decide) rfl ?_
  refine AW.sub (lv1 := [(0, rv z 9), (1, iv x1), (2, iv 0)]) [1, 2, 0] rfl ?_
  exact (Bookings_canEverBeGiven_b_ok hdd _ _ _ h).1 rfl
set_option synthInstance.maxHeartbeats 2000000 in
theorem Bookings_compare_b_ok {z : AZ} {d : Nat} (hdd : 1 ≤ d) {x1 : Int} {g : AG} : ∀ (x2 : Int) (x3 : Int) (r : Int × AG), Bookings_compare_b x1 g x2 x3 = some r → AW z (RX1, cX1_compare, 4, none) d (QD none r) 4 [(0, rv z 9), (1, iv x1), (2, iv x2), (3, iv x3)] [] g := by
  refine Bookings_compare_b.partial_correctness x1 g (fun x2 x3 r => AW z (RX1, cX1_compare, 4, none) d (QD none r) 4 [(0, rv z 9), (1, iv x1), (2, iv x2), (3, iv x3)] [] g) ?_
  intro fb9 ih x2 x3 r h
  refine AW.iload_n 3 (dcN_4 dcg_69 :) rfl ?_
  refine AW.aloadr_n 0 (dcN_5 dcg_69 :) rfl ?_
  refine AW.getI af_X1_64_9 sr_9_10 (dcN_6 dcg_69 :) ?_
  refine AW.icmp_ge (tgt := 41) (dcN_7 dcg_69 :) (by decide) (fun c1 => ?_) (fun c1 => ?_)
  · replace h := hT h c1
    refine AW.iload_n 1 (dcN_5 dcg_70 :) rfl ?_
    refine AW.aloadr_n 0 (dcN_6 dcg_70 :) rfl ?_
    refine AW.getI af_X1_67_9 sr_9_15 (dcN_7 dcg_70 :) ?_
    obtain ⟨r19, e20, h⟩ := hC h
    refine AW.join (tgt := 92) (lv1 := []) (st1 := []) (g1 := r19) ?_ (fun J46 => ?_)
    · exact AW.vret1 rfl (dcN_15 dcg_71 :) h rfl
    replace h := e20
    refine AW.icmp_gt (tgt := 65) (dcN_8 dcg_70 :) (by decide) (fun c2 => ?_) (fun c2 => ?_)
    · replace h := hT h c2
      refine AW.aloadr_n 0 (dcN_0 dcg_71 :) rfl ?_
      refine AW.iload_n 1 (dcN_1 dcg_71 :) rfl ?_
      obtain ⟨g3, e4, h⟩ := hBe h
      refine AW.putI ap_X1_67_9 sr_9_15 (dcN_2 dcg_71 :) e4 ?_
      refine AW.aloadr_n 0 (dcN_3 dcg_71 :) rfl ?_
      refine AW.iload_n 2 (dcN_4 dcg_71 :) rfl ?_
      obtain ⟨g5, e6, h⟩ := hBe h
      refine AW.putI ap_X1_70_9 sr_9_16 (dcN_5 dcg_71 :) e6 ?_
      refine AW.aloadr_n 0 (dcN_6 dcg_71 :) rfl ?_
      refine AW.getR af_X1_42_9 sr_9_13 (dcN_7 dcg_71 :) ?_
      refine AW.iconst (dcN_8 dcg_71 :) ?_
      refine AW.aloadr_n 0 (dcN_9 dcg_71 :) rfl ?_
      refine AW.getR af_X1_45_9 sr_9_14 (dcN_10 dcg_71 :) ?_
      refine AW.iconst (dcN_11 dcg_71 :) ?_
      refine AW.aloadr_n 0 (dcN_12 dcg_71 :) rfl ?_
      refine AW.getI af_X1_48_9 sr_9_4 (dcN_13 dcg_71 :) ?_
      obtain ⟨k7, h⟩ := hK h
      obtain ⟨g8, e9, h⟩ := hBe h
      refine AW.copyi cc_X1_92 ac_n ac_s ac_i kc_95 sk_95 kc_96 sk_96 ⟨by decide, by decide, k7.2.2.1, k7.2.2.2.1, k7.2.2.2.2⟩ (Nat.le_of_ble_eq_true rfl) (Nat.le_trans (by decide) hdd) (dcN_14 dcg_71 :) e9 ?_
      refine AW.sub (lv1 := []) [] rfl ?_
      cases h
      exact J46
    · replace h := hF h c2
      refine AW.iload_n 1 (dcN_9 dcg_70 :) rfl ?_
      refine AW.aloadr_n 0 (dcN_10 dcg_70 :) rfl ?_
      refine AW.getI af_X1_67_9 sr_9_15 (dcN_11 dcg_70 :) ?_
      refine AW.icmp_ne (tgt := 92) (dcN_12 dcg_70 :) (by decide) (fun c10 => ?_) (fun c10 => ?_)
      · replace h := hF h c10
        refine AW.sub (lv1 := []) [] rfl ?_
        cases h
        exact J46
      · replace h := hT h c10
        refine AW.iload_n 2 (dcN_13 dcg_70 :) rfl ?_
        refine AW.aloadr_n 0 (dcN_14 dcg_70 :) rfl ?_
        refine AW.getI af_X1_70_9 sr_9_16 (dcN_15 dcg_70 :) ?_
        refine AW.icmp_le (tgt := 92) (dcN_16 dcg_70 :) (by decide) (fun c11 => ?_) (fun c11 => ?_)
        · replace h := hT h c11
          refine AW.sub (lv1 := []) [] rfl ?_
          cases h
          exact J46
        · replace h := hF h c11
          refine AW.aloadr_n 0 (dcN_0 dcg_71 :) rfl ?_
          refine AW.iload_n 1 (dcN_1 dcg_71 :) rfl ?_
          obtain ⟨g12, e13, h⟩ := hBe h
          refine AW.putI ap_X1_67_9 sr_9_15 (dcN_2 dcg_71 :) e13 ?_
          refine AW.aloadr_n 0 (dcN_3 dcg_71 :) rfl ?_
          refine AW.iload_n 2 (dcN_4 dcg_71 :) rfl ?_
          obtain ⟨g14, e15, h⟩ := hBe h
          refine AW.putI ap_X1_70_9 sr_9_16 (dcN_5 dcg_71 :) e15 ?_
          refine AW.aloadr_n 0 (dcN_6 dcg_71 :) rfl ?_
          refine AW.getR af_X1_42_9 sr_9_13 (dcN_7 dcg_71 :) ?_
          refine AW.iconst (dcN_8 dcg_71 :) ?_
          refine AW.aloadr_n 0 (dcN_9 dcg_71 :) rfl ?_
          refine AW.getR af_X1_45_9 sr_9_14 (dcN_10 dcg_71 :) ?_
          refine AW.iconst (dcN_11 dcg_71 :) ?_
          refine AW.aloadr_n 0 (dcN_12 dcg_71 :) rfl ?_
          refine AW.getI af_X1_48_9 sr_9_4 (dcN_13 dcg_71 :) ?_
          obtain ⟨k16, h⟩ := hK h
          obtain ⟨g17, e18, h⟩ := hBe h
          refine AW.copyi cc_X1_92 ac_n ac_s ac_i kc_95 sk_95 kc_96 sk_96 ⟨by decide, by decide, k16.2.2.1, k16.2.2.2.1, k16.2.2.2.2⟩ (Nat.le_of_ble_eq_true rfl) (Nat.le_trans (by decide) hdd) (dcN_14 dcg_71 :) e18 ?_
          refine AW.sub (lv1 := []) [] rfl ?_
          cases h
          exact J46
  · replace h := hF h c1
    refine AW.iload_n 2 (dcN_8 dcg_69 :) rfl ?_
    refine AW.aloadr_n 0 (dcN_9 dcg_69 :) rfl ?_
    refine AW.getR af_X1_33_9 sr_9_8 (dcN_10 dcg_69 :) ?_
    refine AW.iload_n 3 (dcN_11 dcg_69 :) rfl ?_
    obtain ⟨k21, h⟩ := hK h
    refine AW.iald kc_92 sk_92 k21 (dcN_12 dcg_69 :) ?_
    refine AW.aloadr_n 0 (dcN_13 dcg_69 :) rfl ?_
    refine AW.getR af_X1_30_9 sr_9_7 (dcN_14 dcg_69 :) ?_
    refine AW.iload_n 3 (dcN_15 dcg_69 :) rfl ?_
    refine AW.iald kc_91 sk_91 k21 (dcN_16 dcg_69 :) ?_
    obtain ⟨t22, e23, h⟩ := hBe h
    refine AW.join (tgt := 33) (lv1 := [(0, rv z 9), (1, iv x1), (2, iv x2), (3, iv x3)]) (st1 := [iv t22, iv x2]) (g1 := g) ?_ (fun J25 => ?_)
    · refine AW.iadd (dcN_1 dcg_70 :) ?_
      refine AW.istore_n (lv1 := [(2, iv (x2 + t22)), (0, rv z 9), (1, iv x1), (3, iv x3)]) (dcN_2 dcg_70 :) (by decide) rfl ?_
      refine AW.iinc (lv1 := [(3, iv (x3 + 1)), (2, iv (x2 + t22)), (0, rv z 9), (1, iv x1)]) 3 (dcN_3 dcg_70 :) rfl (by decide) rfl ?_
      refine AW.goto (tgt := 4) (dcN_4 dcg_70 :) (by decide) ?_
      refine AW.sub (lv1 := [(0, rv z 9), (1, iv x1), (2, iv (x2 + t22)), (3, iv (x3 + 1))]) [2, 3, 1, 0] rfl ?_
      exact ih _ _ _ h
    refine AW.icmp_ne (tgt := 32) (dcN_17 dcg_69 :) (by decide) (fun c24 => ?_) (fun c24 => ?_)
    · refine AW.iconst (dcN_0 dcg_70 :) ?_
      exact AW.val (e23.trans (if_neg c24)) J25
    · refine AW.iconst (dcN_18 dcg_69 :) ?_
      refine AW.goto (tgt := 33) (dcN_19 dcg_69 :) (by decide) ?_
      exact AW.val (e23.trans (if_pos c24)) J25
theorem Bookings_compare_ok {z : AZ} {x1 : Int} {g : AG} {r : Int × AG} (h : Bookings_compare x1 g = some r) : AMf z yX1_compare cX1_compare 4 none 1 [rv z 9, iv x1] g r := by
  intro d hdd
  refine AM.of (by decide +kernel) (Nat.le_of_ble_eq_true rfl) ?_
  show AW z (RX1, cX1_compare, 4, none) d (QD none r) 0 [(0, rv z 9), (1, iv x1)] [] g
  unfold Bookings_compare at h
  refine AW.iconst (dcN_0 dcg_69 :) ?_
  refine AW.istore_n (lv1 := [(2, iv 0), (0, rv z 9), (1, iv x1)]) (dcN_1 dcg_69 :) (by decide) rfl ?_
  refine AW.iconst (dcN_2 dcg_69 :) ?_
  refine AW.istore_n (lv1 := [(3, iv 0), (2, iv 0), (0, rv z 9), (1, iv x1)]) (dcN_3 dcg_69 :) (by decide) rfl ?_
  refine AW.sub (lv1 := [(0, rv z 9), (1, iv x1), (2, iv 0), (3, iv 0)]) [2, 3, 1, 0] rfl ?_
  exact Bookings_compare_b_ok hdd _ _ _ h
