set_option synthInstance.maxHeartbeats 2000000 in
theorem Boats_lastLog_b_ok {z : AZ} {d : Nat} (hdd : 0 ≤ d) {x1 : Int} {x2 : Int} {g : AG} : ∀ (x3 : Int) (x4 : Int) (r : Int), Boats_lastLog_b x1 x2 g x3 x4 = some r → AW z (RX0, cX0_lastLog, 5, (some .int)) d (QD (some .int) (r, g)) 5 [(0, rv z 6), (1, iv x1), (2, iv x2), (3, iv x3), (4, iv x4)] [] g := by
  refine Boats_lastLog_b.partial_correctness x1 x2 g (fun x3 x4 r => AW z (RX0, cX0_lastLog, 5, (some .int)) d (QD (some .int) (r, g)) 5 [(0, rv z 6), (1, iv x1), (2, iv x2), (3, iv x3), (4, iv x4)] [] g) ?_
  intro fb9 ih x3 x4 r h
  refine AW.iload 4 dX0_lastLog_5 rfl ?_
  refine AW.aloadr_n 0 dX0_lastLog_7 rfl ?_
  refine AW.getR af_X0_32_6 sr_6_10 dX0_lastLog_8 ?_
  refine AW.iload_n 1 dX0_lastLog_11 rfl ?_
  obtain ⟨k1, h⟩ := hK h
  refine AW.iald kc_74 sk_74 k1 dX0_lastLog_12 ?_
  refine AW.icmp_ge (tgt := 38) dX0_lastLog_13 (by decide) (fun c2 => ?_) (fun c2 => ?_)
  · replace h := hT h c2
    refine AW.iload_n 3 dX0_lastLog_38 rfl ?_
    exact AW.iret2 rfl dX0_lastLog_39 h rfl
  · replace h := hF h c2
    refine AW.aloadr_n 0 dX0_lastLog_16 rfl ?_
    refine AW.getR af_X0_29_6 sr_6_9 dX0_lastLog_17 ?_
    refine AW.iload_n 1 dX0_lastLog_20 rfl ?_
    refine AW.aald (b := 64) kc_63 sk_63 sb_63 k1 dX0_lastLog_21 ?_
    refine AW.iload 4 dX0_lastLog_22 rfl ?_
    obtain ⟨k3, h⟩ := hK h
    refine AW.iald (s2_64 _ (ix_lt k1)).1 (s2_64 _ (ix_lt k1)).2 k3 dX0_lastLog_24 ?_
    refine AW.iload_n 2 dX0_lastLog_25 rfl ?_
    refine AW.icmp_gt (tgt := 38) dX0_lastLog_26 (by decide) (fun c4 => ?_) (fun c4 => ?_)
    · replace h := hT h c4
      refine AW.iload_n 3 dX0_lastLog_38 rfl ?_
      exact AW.iret2 rfl dX0_lastLog_39 h rfl
    · replace h := hF h c4
      refine AW.iload 4 dX0_lastLog_29 rfl ?_
      refine AW.istore_n (lv1 := [(3, iv x4), (0, rv z 6), (1, iv x1), (2, iv x2), (4, iv x4)]) dX0_lastLog_31 (by decide) rfl ?_
      refine AW.iinc (lv1 := [(4, iv (x4 + 1)), (3, iv x4), (0, rv z 6), (1, iv x1), (2, iv x2)]) 4 dX0_lastLog_32 rfl (by decide) rfl ?_
      refine AW.goto (tgt := 5) dX0_lastLog_35 (by decide) ?_
      refine AW.sub (lv1 := [(0, rv z 6), (1, iv x1), (2, iv x2), (3, iv x4), (4, iv (x4 + 1))]) [2, 3, 4, 1, 0] rfl ?_
      exact ih _ _ _ h
theorem Boats_lastLog_ok {z : AZ} {x1 : Int} {x2 : Int} {g : AG} {r : Int} (h : Boats_lastLog x1 x2 g = some r) : AMf z yX0_lastLog cX0_lastLog 5 (some .int) 0 [rv z 6, iv x1, iv x2] g (r, g) := by
  intro d hdd
  refine AM.of (by decide +kernel) (Nat.le_of_ble_eq_true rfl) ?_
  show AW z (RX0, cX0_lastLog, 5, (some .int)) d (QD (some .int) (r, g)) 0 [(0, rv z 6), (1, iv x1), (2, iv x2)] [] g
  unfold Boats_lastLog at h
  refine AW.iconst dX0_lastLog_0 ?_
  refine AW.istore_n (lv1 := [(3, iv (-1)), (0, rv z 6), (1, iv x1), (2, iv x2)]) dX0_lastLog_1 (by decide) rfl ?_
  refine AW.iconst dX0_lastLog_2 ?_
  refine AW.istore (lv1 := [(4, iv 0), (3, iv (-1)), (0, rv z 6), (1, iv x1), (2, iv x2)]) dX0_lastLog_3 (by decide) rfl ?_
  refine AW.sub (lv1 := [(0, rv z 6), (1, iv x1), (2, iv x2), (3, iv (-1)), (4, iv 0)]) [2, 3, 4, 1, 0] rfl ?_
  exact Boats_lastLog_b_ok hdd _ _ _ h
set_option synthInstance.maxHeartbeats 2000000 in
theorem Boats_settleTonight_b_ok {z : AZ} {d : Nat} (hdd : 5 ≤ d) {x1 : Int} : ∀ (tag : Nat) (x2 : Int) (x4 : Int) (x5 : Int) (g : AG) (r : Int × AG), Boats_settleTonight_b x1 tag x2 x4 x5 g = some r → (tag = 1 → AW z (RX0, cX0_settleTonight, 6, none) d (QD none r) 10 [(0, rv z 6), (1, iv x1), (2, iv x2)] [] g) ∧ (tag = 2 → AW z (RX0, cX0_settleTonight, 6, none) d (QD none r) 63 [(0, rv z 6), (1, iv x1), (2, iv x2), (4, iv x4), (5, iv x5)] [] g) := by
  refine Boats_settleTonight_b.partial_correctness x1 (fun tag x2 x4 x5 g r => (tag = 1 → AW z (RX0, cX0_settleTonight, 6, none) d (QD none r) 10 [(0, rv z 6), (1, iv x1), (2, iv x2)] [] g) ∧ (tag = 2 → AW z (RX0, cX0_settleTonight, 6, none) d (QD none r) 63 [(0, rv z 6), (1, iv x1), (2, iv x2), (4, iv x4), (5, iv x5)] [] g)) ?_
  intro fb9 ih tag x2 x4 x5 g r h
  refine ⟨fun h9 => ?_, fun h9 => ?_⟩
  · subst h9
    replace h := hT h rfl
    refine AW.iload_n 2 dX0_settleTonight_10 rfl ?_
    refine AW.aloadr_n 0 dX0_settleTonight_11 rfl ?_
    refine AW.getI af_X0_50_6 sr_6_7 dX0_settleTonight_12 ?_
    refine AW.icmp_ge (tgt := 101) dX0_settleTonight_15 (by decide) (fun c1 => ?_) (fun c1 => ?_)
    · replace h := hT h c1
      exact AW.vret1 rfl dX0_settleTonight_101 h rfl
    · replace h := hF h c1
      refine AW.aloadr_n 0 dX0_settleTonight_18 rfl ?_
      refine AW.iload_n 2 dX0_settleTonight_19 rfl ?_
      refine AW.iload_n 1 dX0_settleTonight_20 rfl ?_
      obtain ⟨r2, e3, h⟩ := hC h
      refine AW.callVi (As := [iv x2, iv x1]) (st := []) (Boats_lastLog_ok e3) cq_X0_82 cr_6_X0_lastLog (Nat.le_trans (by decide) hdd) rfl dX0_settleTonight_21 rfl (Nat.le_of_ble_eq_true rfl) ?_
      refine AW.istore_n (lv1 := [(3, iv r2), (0, rv z 6), (1, iv x1), (2, iv x2)]) dX0_settleTonight_24 (by decide) rfl ?_
      refine AW.aloadr_n 1 dX0_settleTonight_25 rfl ?_
      refine AW.getR af_X0_46_6 sr_6_2 dX0_settleTonight_26 ?_
      refine AW.aloadr_n 1 dX0_settleTonight_29 rfl ?_
      refine AW.getR af_X0_21_6 sr_6_6 dX0_settleTonight_30 ?_
      refine AW.iload_n 3 dX0_settleTonight_33 rfl ?_
      obtain ⟨k4, h⟩ := hK h
      refine AW.iald kc_51 sk_51 k4 dX0_settleTonight_34 ?_
      refine AW.aloadr_n 1 dX0_settleTonight_35 rfl ?_
      refine AW.iload_n 3 dX0_settleTonight_36 rfl ?_
      refine AW.iload_n 0 dX0_settleTonight_37 rfl ?_
      obtain ⟨r5, e6, h⟩ := hC h
      refine AW.callVi (As := [iv x2, iv r2]) (st := [iv (g 51 (ix x2)), rv z 5]) (Boats_placeOf_ok e6) cq_X0_58 cr_6_X0_placeOf (Nat.le_trans (by decide) hdd) rfl dX0_settleTonight_38 rfl (Nat.le_of_ble_eq_true rfl) ?_
      refine AW.aloadr_n 1 dX0_settleTonight_41 rfl ?_
      refine AW.iload_n 3 dX0_settleTonight_42 rfl ?_
      refine AW.iload_n 0 dX0_settleTonight_43 rfl ?_
      obtain ⟨r7, e8, h⟩ := hC h
      refine AW.callVi (As := [iv x2, iv r2]) (st := [iv r5, iv (g 51 (ix x2)), rv z 5]) (Boats_timeOf_ok e8) cq_X0_62 cr_6_X0_timeOf (Nat.le_trans (by decide) hdd) rfl dX0_settleTonight_44 rfl (Nat.le_of_ble_eq_true rfl) ?_
      obtain ⟨r9, e10, h⟩ := hC h
      refine AW.callVv (As := [iv (g 51 (ix x2)), iv r5, iv r7]) (st := []) (Voyage_reach_ok e10) cq_X0_85 cr_5_X9_reach (Nat.le_trans (by decide) hdd) rfl dX0_settleTonight_47 rfl (Nat.le_of_ble_eq_true rfl) ?_
      refine AW.aloadr_n 1 dX0_settleTonight_50 rfl ?_
      refine AW.getR af_X0_46_6 sr_6_2 dX0_settleTonight_51 ?_
      refine AW.iload_n 2 dX0_settleTonight_54 rfl ?_
      obtain ⟨r11, e12, h⟩ := hC h
      refine AW.callVi (As := [iv x1]) (st := []) (Voyage_reached_ok e12) cq_X0_89 cr_5_X9_reached (Nat.le_trans (by decide) hdd) rfl dX0_settleTonight_55 rfl (Nat.le_of_ble_eq_true rfl) ?_
      refine AW.istore (lv1 := [(4, iv r11), (3, iv r2), (0, rv z 6), (1, iv x1), (2, iv x2)]) dX0_settleTonight_58 (by decide) rfl ?_
      refine AW.iconst dX0_settleTonight_60 ?_
      refine AW.istore (lv1 := [(5, iv 0), (4, iv r11), (3, iv r2), (0, rv z 6), (1, iv x1), (2, iv x2)]) dX0_settleTonight_61 (by decide) rfl ?_
      refine AW.sub (lv1 := [(0, rv z 6), (1, iv x1), (2, iv x2), (4, iv r11), (5, iv 0)]) [3, 4, 5, 1, 0] rfl ?_
      exact (ih _ _ _ _ _ _ h).2 rfl
  · subst h9
    replace h := hF h (by decide)
    replace h := hT h rfl
    refine AW.iload 4 dX0_settleTonight_63 rfl ?_
    refine AW.bipush dX0_settleTonight_65 (by decide) (by decide) ?_
    refine AW.icmp_ge (tgt := 95) dX0_settleTonight_67 (by decide) (fun c1 => ?_) (fun c1 => ?_)
    · replace h := hT h c1
      refine AW.iinc (lv1 := [(2, iv (x2 + 1)), (0, rv z 6), (1, iv x1), (4, iv x4), (5, iv x5)]) 2 dX0_settleTonight_95 rfl (by decide) rfl ?_
      refine AW.goto (tgt := 10) dX0_settleTonight_98 (by decide) ?_
      refine AW.sub (lv1 := [(0, rv z 6), (1, iv x1), (2, iv (x2 + 1))]) [1, 2, 0] rfl ?_
      exact (ih _ _ _ _ _ _ h).1 rfl
    · replace h := hF h c1
      refine AW.aloadr_n 0 dX0_settleTonight_70 rfl ?_
      refine AW.getR af_X0_35_6 sr_6_11 dX0_settleTonight_71 ?_
      refine AW.iload 4 dX0_settleTonight_74 rfl ?_
      refine AW.dup2r dX0_settleTonight_76 ?_
      obtain ⟨k2, h⟩ := hK h
      refine AW.iald kc_75 sk_75 k2 dX0_settleTonight_77 ?_
      refine AW.iload 3 dX0_settleTonight_78 rfl ?_
      refine AW.iload 4 dX0_settleTonight_80 rfl ?_
      refine AW.ishr dX0_settleTonight_82 ?_
      refine AW.iconst dX0_settleTonight_83 ?_
      refine AW.iand dX0_settleTonight_84 ?_
      refine AW.iload_n 2 dX0_settleTonight_85 rfl ?_
      refine AW.ishl dX0_settleTonight_86 ?_
      refine AW.ior dX0_settleTonight_87 ?_
      obtain ⟨g3, e4, h⟩ := hBe h
      refine AW.iast kc_75 sk_75 k2 dX0_settleTonight_88 e4 ?_
      refine AW.iinc (lv1 := [(5, iv (x5 + 1)), (0, rv z 6), (1, iv x1), (2, iv x2), (4, iv x4)]) 4 dX0_settleTonight_89 rfl (by decide) rfl ?_
      refine AW.goto (tgt := 63) dX0_settleTonight_92 (by decide) ?_
      refine AW.sub (lv1 := [(0, rv z 6), (1, iv x1), (2, iv x2), (4, iv x4), (5, iv (x5 + 1))]) [1, 2, 3, 4, 0] rfl ?_
      exact (ih _ _ _ _ _ _ h).2 rfl
theorem Boats_settleTonight_ok {z : AZ} {x1 : Int} {g : AG} {r : Int × AG} (h : Boats_settleTonight x1 g = some r) : AMf z yX0_settleTonight cX0_settleTonight 6 none 5 [rv z 6, iv x1] g r := by
  intro d hdd
  refine AM.of (by decide +kernel) (Nat.le_of_ble_eq_true rfl) ?_
  show AW z (RX0, cX0_settleTonight, 6, none) d (QD none r) 0 [(0, rv z 6), (1, iv x1)] [] g
  unfold Boats_settleTonight at h
  refine AW.aloadr_n 0 dX0_settleTonight_0 rfl ?_
  refine AW.getR af_X0_35_6 sr_6_11 dX0_settleTonight_1 ?_
  refine AW.iconst dX0_settleTonight_4 ?_
  obtain ⟨g1, e2, h⟩ := hBe h
  refine AW.callSv (st := []) (fill_ok kc_75 sk_75 (by decide)) cf_X0_76 st_fill (Nat.le_trans (by decide) hdd) rfl dX0_settleTonight_5 rfl (Nat.le_of_ble_eq_true rfl) ?_
  rw [← e2]
  refine AW.iconst dX0_settleTonight_8 ?_
  refine AW.istore_n (lv1 := [(2, iv 0), (0, rv z 6), (1, iv x1)]) dX0_settleTonight_9 (by decide) rfl ?_
  refine AW.sub (lv1 := [(0, rv z 6), (1, iv x1), (2, iv 0)]) [1, 2, 0] rfl ?_
  exact (Boats_settleTonight_b_ok hdd _ _ _ _ _ _ h).1 rfl
set_option synthInstance.maxHeartbeats 2000000 in
theorem Boats_crowd_b_ok {z : AZ} {d : Nat} (hdd : 1 ≤ d) {g : AG} : ∀ (x1 : Int) (x2 : Int) (r : Int), Boats_crowd_b g x1 x2 = some r → AW z (RX0, cX0_crowd, 3, (some .int)) d (QD (some .int) (r, g)) 4 [(0, rv z 6), (1, iv x1), (2, iv x2)] [] g := by
  refine Boats_crowd_b.partial_correctness g (fun x1 x2 r => AW z (RX0, cX0_crowd, 3, (some .int)) d (QD (some .int) (r, g)) 4 [(0, rv z 6), (1, iv x1), (2, iv x2)] [] g) ?_
  intro fb9 ih x1 x2 r h
  refine AW.iload_n 2 dX0_crowd_4 rfl ?_
  refine AW.bipush dX0_crowd_5 (by decide) (by decide) ?_
  refine AW.icmp_ge (tgt := 39) dX0_crowd_7 (by decide) (fun c1 => ?_) (fun c1 => ?_)
  · replace h := hT h c1
    refine AW.iload_n 1 dX0_crowd_39 rfl ?_
    exact AW.iret2 rfl dX0_crowd_40 h rfl
  · replace h := hF h c1
    refine AW.aloadr_n 0 dX0_crowd_10 rfl ?_
    refine AW.getR af_X0_35_6 sr_6_11 dX0_crowd_11 ?_
    refine AW.iload_n 2 dX0_crowd_14 rfl ?_
    obtain ⟨k2, h⟩ := hK h
    refine AW.iald kc_75 sk_75 k2 dX0_crowd_15 ?_
    obtain ⟨r3, e4, h⟩ := hC h
    refine AW.callSi (As := [iv (g 75 (ix x2))]) (st := []) (Integer_bitCount_ok e4) cq_X0_93 st_J6_bitCount_0f7a4 (Nat.le_trans (by decide) hdd) rfl dX0_crowd_16 rfl (Nat.le_of_ble_eq_true rfl) ?_
    refine AW.aloadr_n 0 dX0_crowd_19 rfl ?_
    refine AW.getR af_X0_35_6 sr_6_11 dX0_crowd_20 ?_
    refine AW.iload_n 1 dX0_crowd_23 rfl ?_
    obtain ⟨k5, h⟩ := hK h
    refine AW.iald kc_75 sk_75 k5 dX0_crowd_24 ?_
    obtain ⟨r6, e7, h⟩ := hC h
    refine AW.callSi (As := [iv (g 75 (ix x1))]) (st := [iv r3]) (Integer_bitCount_ok e7) cq_X0_93 st_J6_bitCount_0f7a4 (Nat.le_trans (by decide) hdd) rfl dX0_crowd_25 rfl (Nat.le_of_ble_eq_true rfl) ?_
    obtain ⟨r9, e10, h⟩ := hC h
    refine AW.join (tgt := 33) (lv1 := [(0, rv z 6), (1, iv r9), (2, iv x2)]) (st1 := []) (g1 := g) ?_ (fun J28 => ?_)
    · refine AW.iinc (lv1 := [(2, iv (x2 + 1)), (0, rv z 6), (1, iv r9)]) 2 dX0_crowd_33 rfl (by decide) rfl ?_
      refine AW.goto (tgt := 4) dX0_crowd_36 (by decide) ?_
      refine AW.sub (lv1 := [(0, rv z 6), (1, iv r9), (2, iv (x2 + 1))]) [1, 2, 0] rfl ?_
      exact ih _ _ _ h
    replace h := e10
    refine AW.icmp_le (tgt := 33) dX0_crowd_28 (by decide) (fun c8 => ?_) (fun c8 => ?_)
    · replace h := hT h c8
      cases h
      exact J28
    · replace h := hF h c8
      refine AW.iload_n 2 dX0_crowd_31 rfl ?_
      refine AW.istore_n (lv1 := [(1, iv x2), (0, rv z 6), (2, iv x2)]) dX0_crowd_32 (by decide) rfl ?_
      refine AW.sub (lv1 := [(0, rv z 6), (1, iv x2), (2, iv x2)]) [1, 0, 2] rfl ?_
      cases h
      exact J28
theorem Boats_crowd_ok {z : AZ} {g : AG} {r : Int} (h : Boats_crowd g = some r) : AMf z yX0_crowd cX0_crowd 3 (some .int) 1 [rv z 6] g (r, g) := by
  intro d hdd
  refine AM.of (by decide +kernel) (Nat.le_of_ble_eq_true rfl) ?_
  show AW z (RX0, cX0_crowd, 3, (some .int)) d (QD (some .int) (r, g)) 0 [(0, rv z 6)] [] g
  unfold Boats_crowd at h
  refine AW.iconst dX0_crowd_0 ?_
  refine AW.istore_n (lv1 := [(1, iv 0), (0, rv z 6)]) dX0_crowd_1 (by decide) rfl ?_
  refine AW.iconst dX0_crowd_2 ?_
  refine AW.istore_n (lv1 := [(2, iv 1), (1, iv 0), (0, rv z 6)]) dX0_crowd_3 (by decide) rfl ?_
  refine AW.sub (lv1 := [(0, rv z 6), (1, iv 0), (2, iv 1)]) [2, 1, 0] rfl ?_
  exact Boats_crowd_b_ok hdd _ _ _ h
theorem X_tonight_ok {z : AZ} {x1 : Int} {x2 : Int} {g : AG} {r : Int × AG} (h : X_tonight x1 x2 g = some r) : AMf z yX11_tonight cX11_tonight 4 (some .int) 6 [rv z 0, iv x1, iv x2] g r := by
  intro d hdd
  refine AM.of (by decide +kernel) (Nat.le_of_ble_eq_true rfl) ?_
  show AW z (RX11, cX11_tonight, 4, (some .int)) d (QD (some .int) r) 0 [(0, rv z 0), (1, iv x1), (2, iv x2)] [] g
  unfold X_tonight at h
  refine AW.iload_n 1 dX11_tonight_0 rfl ?_
  refine AW.callSi (As := [iv x1]) (st := []) X_isTime_ok cq_X11_114 st_X11_isTime (Nat.le_trans (by decide) hdd) rfl dX11_tonight_1 rfl (Nat.le_of_ble_eq_true rfl) ?_
  refine AW.if_eq (tgt := 17) dX11_tonight_4 (by decide) (fun c1 => ?_) (fun c1 => ?_)
  · replace h := hT h c1
    refine AW.iconst dX11_tonight_17 ?_
    exact AW.iret1 rfl dX11_tonight_18 h rfl
  · replace h := hF h c1
    refine AW.iload_n 2 dX11_tonight_7 rfl ?_
    refine AW.iconst dX11_tonight_8 ?_
    refine AW.bipush dX11_tonight_9 (by decide) (by decide) ?_
    refine AW.callSi (As := [iv x2, iv 0, iv 17]) (st := []) X_within_ok cq_X11_99 st_X11_within (Nat.le_trans (by decide) hdd) rfl dX11_tonight_11 rfl (Nat.le_of_ble_eq_true rfl) ?_
    refine AW.if_ne (tgt := 19) dX11_tonight_14 (by decide) (fun c2 => ?_) (fun c2 => ?_)
    · replace h := hF h c2
      refine AW.aloadr_n 0 dX11_tonight_19 rfl ?_
      refine AW.getR af_X11_49_0 sr_0_5 dX11_tonight_20 ?_
      refine AW.iload_n 1 dX11_tonight_23 rfl ?_
      obtain ⟨r3, e4, h⟩ := hC h
      refine AW.callVv (As := [iv x1]) (st := []) (Boats_settleTonight_ok e4) cq_X11_237 cr_6_X0_settleTonight (Nat.le_trans (by decide) hdd) rfl dX11_tonight_24 rfl (Nat.le_of_ble_eq_true rfl) ?_
      refine AW.iload_n 2 dX11_tonight_27 rfl ?_
      refine AW.bipush dX11_tonight_28 (by decide) (by decide) ?_
      refine AW.icmp_ge (tgt := 43) dX11_tonight_30 (by decide) (fun c5 => ?_) (fun c5 => ?_)
      · replace h := hT h c5
        refine AW.aloadr_n 0 dX11_tonight_43 rfl ?_
        refine AW.getR af_X11_49_0 sr_0_5 dX11_tonight_44 ?_
        obtain ⟨r6, e7, h⟩ := hC h
        refine AW.callVi (As := []) (st := []) (Boats_crowd_ok e7) cq_X11_243 cr_6_X0_crowd (Nat.le_trans (by decide) hdd) rfl dX11_tonight_47 rfl (Nat.le_of_ble_eq_true rfl) ?_
        refine AW.istore_n (lv1 := [(3, iv r6), (0, rv z 0), (1, iv x1), (2, iv x2)]) dX11_tonight_50 (by decide) rfl ?_
        refine AW.iload_n 3 dX11_tonight_51 rfl ?_
        refine AW.bipush dX11_tonight_52 (by decide) (by decide) ?_
        obtain ⟨r12, e13, h⟩ := hC h
        refine AW.join (tgt := 73) (lv1 := []) (st1 := [iv r12.1]) (g1 := r12.2) ?_ (fun J54 => ?_)
        · exact AW.iret1 rfl dX11_tonight_73 h rfl
        replace h := e13
        refine AW.icmp_ne (tgt := 61) dX11_tonight_54 (by decide) (fun c8 => ?_) (fun c8 => ?_)
        · replace h := hF h c8
          refine AW.aloadr_n 1 dX11_tonight_61 rfl ?_
          refine AW.getR af_X11_49_0 sr_0_5 dX11_tonight_62 ?_
          refine AW.getR af_X11_240_6 sr_6_11 dX11_tonight_65 ?_
          refine AW.iload_n 0 dX11_tonight_68 rfl ?_
          obtain ⟨k9, h⟩ := hK h
          refine AW.iald kc_75 sk_75 k9 dX11_tonight_69 ?_
          obtain ⟨r10, e11, h⟩ := hC h
          refine AW.callSi (As := [iv (r3.2 75 (ix r6))]) (st := []) (Integer_bitCount_ok e11) cq_X11_232 st_J6_bitCount_0f7a4 (Nat.le_trans (by decide) hdd) rfl dX11_tonight_70 rfl (Nat.le_of_ble_eq_true rfl) ?_
          refine AW.sub (lv1 := []) [] rfl ?_
          cases h
          exact J54
        · replace h := hT h c8
          refine AW.iload_n 0 dX11_tonight_57 rfl ?_
          refine AW.goto (tgt := 73) dX11_tonight_58 (by decide) ?_
          refine AW.sub (lv1 := []) [] rfl ?_
          cases h
          exact J54
      · replace h := hF h c5
        refine AW.aloadr_n 0 dX11_tonight_33 rfl ?_
        refine AW.getR af_X11_49_0 sr_0_5 dX11_tonight_34 ?_
        refine AW.getR af_X11_240_6 sr_6_11 dX11_tonight_37 ?_
        refine AW.iload_n 2 dX11_tonight_40 rfl ?_
        obtain ⟨k14, h⟩ := hK h
        refine AW.iald kc_75 sk_75 k14 dX11_tonight_41 ?_
        exact AW.iret1 rfl dX11_tonight_42 h rfl
    · replace h := hT h c2
      refine AW.iconst dX11_tonight_17 ?_
      exact AW.iret1 rfl dX11_tonight_18 h rfl
theorem LockQueue_minutesOf_8_84_ok {z : AZ} {x2 : Int} {g : AG} {r : Int} (h : LockQueue_minutesOf_8_84 x2 g = some r) : AMf z yX3_minutesOf cX3_minutesOf 3 (some .int) 0 [rv z 8, rv z 84, iv x2] g (r, g) := by
  intro d hdd
  refine AM.of (by decide +kernel) (Nat.le_of_ble_eq_true rfl) ?_
  show AW z (RX3, cX3_minutesOf, 3, (some .int)) d (QD (some .int) (r, g)) 0 [(0, rv z 8), (1, rv z 84), (2, iv x2)] [] g
  unfold LockQueue_minutesOf_8_84 at h
  refine AW.iload_n 2 dX3_minutesOf_0 rfl ?_
  obtain ⟨r9, e10, h⟩ := hC h
  refine AW.join (tgt := 32) (lv1 := []) (st1 := [iv r9]) (g1 := g) ?_ (fun J1 => ?_)
  · exact AW.iret2 rfl dX3_minutesOf_32 h rfl
  replace h := e10
  refine AW.if_le (tgt := 30) dX3_minutesOf_1 (by decide) (fun c1 => ?_) (fun c1 => ?_)
  · replace h := hT h c1
    refine AW.bipush dX3_minutesOf_30 (by decide) (by decide) ?_
    refine AW.sub (lv1 := []) [] rfl ?_
    cases h
    exact J1
  · replace h := hF h c1
    refine AW.aloadr_n 0 dX3_minutesOf_4 rfl ?_
    refine AW.getR af_X3_15_8 sr_8_1 dX3_minutesOf_5 ?_
    refine AW.aloadr_n 1 dX3_minutesOf_8 rfl ?_
    refine AW.iload_n 2 dX3_minutesOf_9 rfl ?_
    obtain ⟨k2, h⟩ := hK h
    refine AW.iald kc_84 sk_84 k2 dX3_minutesOf_10 ?_
    obtain ⟨k3, h⟩ := hK h
    refine AW.iald kc_82 sk_82 k3 dX3_minutesOf_11 ?_
    refine AW.aloadr_n 0 dX3_minutesOf_12 rfl ?_
    refine AW.getR af_X3_15_8 sr_8_1 dX3_minutesOf_13 ?_
    refine AW.aloadr_n 1 dX3_minutesOf_16 rfl ?_
    refine AW.iload_n 2 dX3_minutesOf_17 rfl ?_
    refine AW.iconst dX3_minutesOf_18 ?_
    refine AW.isub dX3_minutesOf_19 ?_
    obtain ⟨k4, h⟩ := hK h
    refine AW.iald kc_84 sk_84 k4 dX3_minutesOf_20 ?_
    obtain ⟨k5, h⟩ := hK h
    refine AW.iald kc_82 sk_82 k5 dX3_minutesOf_21 ?_
    obtain ⟨t6, e7, h⟩ := hBe h
    refine AW.join (tgt := 32) (lv1 := [(0, rv z 8), (1, rv z 84), (2, iv x2)]) (st1 := [iv t6]) (g1 := g) ?_ (fun J22 => ?_)
    · refine AW.sub (lv1 := []) [] rfl ?_
      cases h
      exact J1
    refine AW.icmp_ne (tgt := 30) dX3_minutesOf_22 (by decide) (fun c8 => ?_) (fun c8 => ?_)
    · refine AW.bipush dX3_minutesOf_30 (by decide) (by decide) ?_
      exact AW.val (e7.trans (if_neg c8)) J22
    · refine AW.bipush dX3_minutesOf_25 (by decide) (by decide) ?_
      refine AW.goto (tgt := 32) dX3_minutesOf_27 (by decide) ?_
      exact AW.val (e7.trans (if_pos c8)) J22
set_option synthInstance.maxHeartbeats 2000000 in
theorem LockQueue_waitOf_b_ok {z : AZ} {d : Nat} (hdd : 1 ≤ d) {g : AG} : ∀ (x2 : Int) (x3 : Int) (x4 : Int) (r : Int), LockQueue_waitOf_b g x2 x3 x4 = some r → AW z (RX3, cX3_waitOf, 6, (some .int)) d (QD (some .int) (r, g)) 7 [(0, rv z 8), (1, rv z 84), (2, iv x2), (3, iv x3), (4, iv x4)] [] g := by
  refine LockQueue_waitOf_b.partial_correctness g (fun x2 x3 x4 r => AW z (RX3, cX3_waitOf, 6, (some .int)) d (QD (some .int) (r, g)) 7 [(0, rv z 8), (1, rv z 84), (2, iv x2), (3, iv x3), (4, iv x4)] [] g) ?_
  intro fb9 ih x2 x3 x4 r h
  refine AW.iload 4 dX3_waitOf_7 rfl ?_
  refine AW.aloadr_n 0 dX3_waitOf_9 rfl ?_
  refine AW.getI af_X3_24_8 sr_8_2 dX3_waitOf_10 ?_
  refine AW.icmp_ge (tgt := 63) dX3_waitOf_13 (by decide) (fun c1 => ?_) (fun c1 => ?_)
  · replace h := hT h c1
    refine AW.iload_n 2 dX3_waitOf_63 rfl ?_
    exact AW.iret2 rfl dX3_waitOf_64 h rfl
  · replace h := hF h c1
    refine AW.aloadr_n 0 dX3_waitOf_16 rfl ?_
    refine AW.getR af_X3_9_8 sr_8_0 dX3_waitOf_17 ?_
    refine AW.aloadr_n 1 dX3_waitOf_20 rfl ?_
    refine AW.iload 4 dX3_waitOf_21 rfl ?_
    obtain ⟨k2, h⟩ := hK h
    refine AW.iald kc_84 sk_84 k2 dX3_waitOf_23 ?_
    obtain ⟨k3, h⟩ := hK h
    refine AW.iald kc_81 sk_81 k3 dX3_waitOf_24 ?_
    refine AW.iload_n 3 dX3_waitOf_25 rfl ?_
    refine AW.mmax (st := []) cm_X3_45 mst_max mini mcd_max (Nat.le_trans (by decide) hdd) (Nat.le_of_ble_eq_true rfl) dX3_waitOf_26 ?_
    refine AW.istore (lv1 := [(5, iv (mxI (g 81 (ix (g 84 (ix x4)))) x3)), (0, rv z 8), (1, rv z 84), (2, iv x2), (3, iv x3), (4, iv x4)]) dX3_waitOf_29 (by decide) rfl ?_
    refine AW.iload_n 3 dX3_waitOf_31 rfl ?_
    refine AW.iload 0 dX3_waitOf_32 rfl ?_
    refine AW.aloadr_n 1 dX3_waitOf_34 rfl ?_
    refine AW.getR af_X3_9_8 sr_8_0 dX3_waitOf_35 ?_
    refine AW.aloadr_n 2 dX3_waitOf_38 rfl ?_
    refine AW.iload 5 dX3_waitOf_39 rfl ?_
    refine AW.iald kc_84 sk_84 k2 dX3_waitOf_41 ?_
    refine AW.iald kc_81 sk_81 k3 dX3_waitOf_42 ?_
    refine AW.isub dX3_waitOf_43 ?_
    refine AW.iadd dX3_waitOf_44 ?_
    obtain ⟨t4, e5, h⟩ := hBe h
    refine AW.val e5 ?_
    refine AW.istore_n (lv1 := [(2, iv t4), (5, iv (mxI (g 81 (ix (g 84 (ix x4)))) x3)), (0, rv z 8), (1, rv z 84), (3, iv x3), (4, iv x4)]) dX3_waitOf_45 (by decide) rfl ?_
    refine AW.iload 1 dX3_waitOf_46 rfl ?_
    refine AW.aloadr_n 2 dX3_waitOf_48 rfl ?_
    refine AW.aloadr_n 3 dX3_waitOf_49 rfl ?_
    refine AW.iload 5 dX3_waitOf_50 rfl ?_
    obtain ⟨r6, e7, h⟩ := hC h
    refine AW.callVi (As := [rv z 84, iv x4]) (st := [iv (mxI (g 81 (ix (g 84 (ix x4)))) x3)]) (LockQueue_minutesOf_8_84_ok e7) cq_X3_51 cr_8_X3_minutesOf (Nat.le_trans (by decide) hdd) rfl dX3_waitOf_52 rfl (Nat.le_of_ble_eq_true rfl) ?_
    refine AW.iadd dX3_waitOf_55 ?_
    refine AW.istore_n (lv1 := [(3, iv ((mxI (g 81 (ix (g 84 (ix x4)))) x3) + r6)), (2, iv t4), (5, iv (mxI (g 81 (ix (g 84 (ix x4)))) x3)), (0, rv z 8), (1, rv z 84), (4, iv x4)]) dX3_waitOf_56 (by decide) rfl ?_
    refine AW.iinc (lv1 := [(4, iv (x4 + 1)), (3, iv ((mxI (g 81 (ix (g 84 (ix x4)))) x3) + r6)), (2, iv t4), (5, iv (mxI (g 81 (ix (g 84 (ix x4)))) x3)), (0, rv z 8), (1, rv z 84)]) 5 dX3_waitOf_57 rfl (by decide) rfl ?_
    refine AW.goto (tgt := 7) dX3_waitOf_60 (by decide) ?_
    refine AW.sub (lv1 := [(0, rv z 8), (1, rv z 84), (2, iv t4), (3, iv ((mxI (g 81 (ix (g 84 (ix x4)))) x3) + r6)), (4, iv (x4 + 1))]) [4, 5, 2, 1, 0] rfl ?_
    exact ih _ _ _ _ h
theorem LockQueue_waitOf_ok {z : AZ} {g : AG} {r : Int} (h : LockQueue_waitOf g = some r) : AMf z yX3_waitOf cX3_waitOf 6 (some .int) 1 [rv z 8, rv z 84] g (r, g) := by
  intro d hdd
  refine AM.of (by decide +kernel) (Nat.le_of_ble_eq_true rfl) ?_
  show AW z (RX3, cX3_waitOf, 6, (some .int)) d (QD (some .int) (r, g)) 0 [(0, rv z 8), (1, rv z 84)] [] g
  unfold LockQueue_waitOf at h
  refine AW.iconst dX3_waitOf_0 ?_
  refine AW.istore_n (lv1 := [(2, iv 0), (0, rv z 8), (1, rv z 84)]) dX3_waitOf_1 (by decide) rfl ?_
  refine AW.iconst dX3_waitOf_2 ?_
  refine AW.istore_n (lv1 := [(3, iv 0), (2, iv 0), (0, rv z 8), (1, rv z 84)]) dX3_waitOf_3 (by decide) rfl ?_
  refine AW.iconst dX3_waitOf_4 ?_
  refine AW.istore (lv1 := [(4, iv 0), (3, iv 0), (2, iv 0), (0, rv z 8), (1, rv z 84)]) dX3_waitOf_5 (by decide) rfl ?_
  refine AW.sub (lv1 := [(0, rv z 8), (1, rv z 84), (2, iv 0), (3, iv 0), (4, iv 0)]) [3, 4, 2, 1, 0] rfl ?_
  exact LockQueue_waitOf_b_ok hdd _ _ _ _ h
theorem LockQueue_minutesOf_8_83_ok {z : AZ} {x2 : Int} {g : AG} {r : Int} (h : LockQueue_minutesOf_8_83 x2 g = some r) : AMf z yX3_minutesOf cX3_minutesOf 3 (some .int) 0 [rv z 8, rv z 83, iv x2] g (r, g) := by
  intro d hdd
  refine AM.of (by decide +kernel) (Nat.le_of_ble_eq_true rfl) ?_
  show AW z (RX3, cX3_minutesOf, 3, (some .int)) d (QD (some .int) (r, g)) 0 [(0, rv z 8), (1, rv z 83), (2, iv x2)] [] g
  unfold LockQueue_minutesOf_8_83 at h
  refine AW.iload_n 2 dX3_minutesOf_0 rfl ?_
  obtain ⟨r9, e10, h⟩ := hC h
  refine AW.join (tgt := 32) (lv1 := []) (st1 := [iv r9]) (g1 := g) ?_ (fun J1 => ?_)
  · exact AW.iret2 rfl dX3_minutesOf_32 h rfl
  replace h := e10
  refine AW.if_le (tgt := 30) dX3_minutesOf_1 (by decide) (fun c1 => ?_) (fun c1 => ?_)
  · replace h := hT h c1
    refine AW.bipush dX3_minutesOf_30 (by decide) (by decide) ?_
    refine AW.sub (lv1 := []) [] rfl ?_
    cases h
    exact J1
  · replace h := hF h c1
    refine AW.aloadr_n 0 dX3_minutesOf_4 rfl ?_
    refine AW.getR af_X3_15_8 sr_8_1 dX3_minutesOf_5 ?_
    refine AW.aloadr_n 1 dX3_minutesOf_8 rfl ?_
    refine AW.iload_n 2 dX3_minutesOf_9 rfl ?_
    obtain ⟨k2, h⟩ := hK h
    refine AW.iald kc_83 sk_83 k2 dX3_minutesOf_10 ?_
    obtain ⟨k3, h⟩ := hK h
    refine AW.iald kc_82 sk_82 k3 dX3_minutesOf_11 ?_
    refine AW.aloadr_n 0 dX3_minutesOf_12 rfl ?_
    refine AW.getR af_X3_15_8 sr_8_1 dX3_minutesOf_13 ?_
    refine AW.aloadr_n 1 dX3_minutesOf_16 rfl ?_
    refine AW.iload_n 2 dX3_minutesOf_17 rfl ?_
    refine AW.iconst dX3_minutesOf_18 ?_
    refine AW.isub dX3_minutesOf_19 ?_
    obtain ⟨k4, h⟩ := hK h
    refine AW.iald kc_83 sk_83 k4 dX3_minutesOf_20 ?_
    obtain ⟨k5, h⟩ := hK h
    refine AW.iald kc_82 sk_82 k5 dX3_minutesOf_21 ?_
    obtain ⟨t6, e7, h⟩ := hBe h
    refine AW.join (tgt := 32) (lv1 := [(0, rv z 8), (1, rv z 83), (2, iv x2)]) (st1 := [iv t6]) (g1 := g) ?_ (fun J22 => ?_)
    · refine AW.sub (lv1 := []) [] rfl ?_
      cases h
      exact J1
    refine AW.icmp_ne (tgt := 30) dX3_minutesOf_22 (by decide) (fun c8 => ?_) (fun c8 => ?_)
    · refine AW.bipush dX3_minutesOf_30 (by decide) (by decide) ?_
      exact AW.val (e7.trans (if_neg c8)) J22
    · refine AW.bipush dX3_minutesOf_25 (by decide) (by decide) ?_
      refine AW.goto (tgt := 32) dX3_minutesOf_27 (by decide) ?_
      exact AW.val (e7.trans (if_pos c8)) J22
set_option synthInstance.maxHeartbeats 2000000 in
theorem LockQueue_putNext_b_ok {z : AZ} {rec : Int → Int → Int → Int → AG → Option (Int × AG)} {Dr : Nat} (hC9 : 1 ≤ Dr) (hrec : ∀ (x1 : Int) (x2 : Int) (x3 : Int) (x4 : Int) (g : AG) (r : Int × AG), rec x1 x2 x3 x4 g = some r → AMf z yX3_putNext cX3_putNext 8 none Dr [rv z 8, iv x1, iv x2, iv x3, iv x4] g r) {d : Nat} (hdd : Dr + 1 ≤ d) {x1 : Int} {x2 : Int} {x3 : Int} {x4 : Int} : ∀ (x5 : Int) (g : AG) (r : Int × AG), LockQueue_putNext_b rec x1 x2 x3 x4 x5 g = some r → AW z (RX3, cX3_putNext, 8, none) d (QD none r) 35 [(0, rv z 8), (1, iv x1), (2, iv x2), (3, iv x3), (4, iv x4), (5, iv x5)] [] g := by
  refine LockQueue_putNext_b.partial_correctness rec x1 x2 x3 x4 (fun x5 g r => AW z (RX3, cX3_putNext, 8, none) d (QD none r) 35 [(0, rv z 8), (1, iv x1), (2, iv x2), (3, iv x3), (4, iv x4), (5, iv x5)] [] g) ?_
  intro fb9 ih x5 g r h
  refine AW.iload 5 dX3_putNext_35 rfl ?_
  refine AW.aloadr_n 0 dX3_putNext_37 rfl ?_
  refine AW.getI af_X3_24_8 sr_8_2 dX3_putNext_38 ?_
  refine AW.icmp_ge (tgt := 131) dX3_putNext_41 (by decide) (fun c1 => ?_) (fun c1 => ?_)
  · replace h := hT h c1
    exact AW.vret1 rfl dX3_putNext_131 h rfl
  · replace h := hF h c1
    refine AW.aloadr_n 0 dX3_putNext_44 rfl ?_
    refine AW.getR af_X3_9_8 sr_8_0 dX3_putNext_45 ?_
    refine AW.iload 5 dX3_putNext_48 rfl ?_
    obtain ⟨k2, h⟩ := hK h
    refine AW.iald kc_81 sk_81 k2 dX3_putNext_50 ?_
    refine AW.iload_n 3 dX3_putNext_51 rfl ?_
    refine AW.mmax (st := []) cm_X3_45 mst_max mini mcd_max (by omega) (Nat.le_of_ble_eq_true rfl) dX3_putNext_52 ?_
    refine AW.istore (lv1 := [(6, iv (mxI (g 81 (ix x5)) x3)), (0, rv z 8), (1, iv x1), (2, iv x2), (3, iv x3), (4, iv x4), (5, iv x5)]) dX3_putNext_55 (by decide) rfl ?_
    refine AW.iload 5 dX3_putNext_57 rfl ?_
    refine AW.iload 0 dX3_putNext_59 rfl ?_
    refine AW.iadd dX3_putNext_61 ?_
    refine AW.aloadr_n 1 dX3_putNext_62 rfl ?_
    refine AW.getR af_X3_9_8 sr_8_0 dX3_putNext_63 ?_
    refine AW.iload 6 dX3_putNext_66 rfl ?_
    refine AW.iald kc_81 sk_81 k2 dX3_putNext_68 ?_
    refine AW.isub dX3_putNext_69 ?_
    refine AW.istore (lv1 := [(7, iv ((x4 + (mxI (g 81 (ix x5)) x3)) - (g 81 (ix x5)))), (6, iv (mxI (g 81 (ix x5)) x3)), (0, rv z 8), (1, iv x1), (2, iv x2), (3, iv x3), (4, iv x4), (5, iv x5)]) dX3_putNext_70 (by decide) rfl ?_
    refine AW.iload_n 4 dX3_putNext_72 rfl ?_
    refine AW.iload 7 dX3_putNext_73 rfl ?_
    refine AW.ishr dX3_putNext_75 ?_
    refine AW.iconst dX3_putNext_76 ?_
    refine AW.iand dX3_putNext_77 ?_
    obtain ⟨r12, e13, h⟩ := hC h
    refine AW.join (tgt := 125) (lv1 := [(0, rv z 8), (1, iv x1), (2, iv x2), (3, iv x3), (4, iv x4), (5, iv x5)]) (st1 := []) (g1 := r12) ?_ (fun J78 => ?_)
    · refine AW.iinc (lv1 := [(5, iv (x5 + 1)), (0, rv z 8), (1, iv x1), (2, iv x2), (3, iv x3), (4, iv x4)]) 5 dX3_putNext_125 rfl (by decide) rfl ?_
      refine AW.goto (tgt := 35) dX3_putNext_128 (by decide) ?_
      refine AW.sub (lv1 := [(0, rv z 8), (1, iv x1), (2, iv x2), (3, iv x3), (4, iv x4), (5, iv (x5 + 1))]) [1, 2, 3, 4, 5, 0] rfl ?_
      exact ih _ _ _ h
    replace h := e13
    refine AW.if_ne (tgt := 125) dX3_putNext_78 (by decide) (fun c3 => ?_) (fun c3 => ?_)
    · replace h := hF h c3
      refine AW.sub (lv1 := [(0, rv z 8), (1, iv x1), (2, iv x2), (3, iv x3), (4, iv x4), (5, iv x5)]) [2, 3, 4, 5, 6, 7] rfl ?_
      cases h
      exact J78
    · replace h := hT h c3
      refine AW.iload 0 dX3_putNext_81 rfl ?_
      refine AW.aloadr_n 2 dX3_putNext_83 rfl ?_
      refine AW.getI af_X3_31_8 sr_8_4 dX3_putNext_84 ?_
      refine AW.icmp_ge (tgt := 125) dX3_putNext_87 (by decide) (fun c4 => ?_) (fun c4 => ?_)
      · replace h := hT h c4
        refine AW.sub (lv1 := [(0, rv z 8), (1, iv x1), (2, iv x2), (3, iv x3), (4, iv x4), (5, iv x5)]) [2, 3, 4, 5, 6, 7] rfl ?_
        cases h
        exact J78
      · replace h := hF h c4
        refine AW.aloadr_n 2 dX3_putNext_90 rfl ?_
        refine AW.getR af_X3_18_8 sr_8_5 dX3_putNext_91 ?_
        refine AW.iload_n 3 dX3_putNext_94 rfl ?_
        refine AW.iload 7 dX3_putNext_95 rfl ?_
        obtain ⟨k5, h⟩ := hK h
        obtain ⟨g6, e7, h⟩ := hBe h
        refine AW.iast kc_83 sk_83 k5 dX3_putNext_97 e7 ?_
        refine AW.aloadr_n 2 dX3_putNext_98 rfl ?_
        refine AW.iload_n 3 dX3_putNext_99 rfl ?_
        refine AW.iconst dX3_putNext_100 ?_
        refine AW.iadd dX3_putNext_101 ?_
        refine AW.iload_n 4 dX3_putNext_102 rfl ?_
        refine AW.iconst dX3_putNext_103 ?_
        refine AW.iload 7 dX3_putNext_104 rfl ?_
        refine AW.ishl dX3_putNext_106 ?_
        refine AW.ior dX3_putNext_107 ?_
        refine AW.iload 1 dX3_putNext_108 rfl ?_
        refine AW.aloadr_n 2 dX3_putNext_110 rfl ?_
        refine AW.aloadr_n 2 dX3_putNext_111 rfl ?_
        refine AW.getR af_X3_18_8 sr_8_5 dX3_putNext_112 ?_
        refine AW.iload_n 3 dX3_putNext_115 rfl ?_
        obtain ⟨r8, e9, h⟩ := hC h
        refine AW.callVi (As := [rv z 83, iv x1]) (st := [iv (mxI (g 81 (ix x5)) x3), iv (orI x2 (shlI 1 x5)), iv (x1 + 1), rv z 8]) (LockQueue_minutesOf_8_83_ok e9) cq_X3_51 cr_8_X3_minutesOf (by omega) rfl dX3_putNext_116 rfl (Nat.le_of_ble_eq_true rfl) ?_
        refine AW.iadd dX3_putNext_119 ?_
        refine AW.iload 0 dX3_putNext_120 rfl ?_
        obtain ⟨r10, e11, h⟩ := hC h
        refine AW.callSv (As := [rv z 8, iv (x1 + 1), iv (orI x2 (shlI 1 x5)), iv ((mxI (g 81 (ix x5)) x3) + r8), iv ((x4 + (mxI (g 81 (ix x5)) x3)) - (g 81 (ix x5)))]) (st := []) (hrec _ _ _ _ _ _ e11) cq_X3_41 st_X3_putNext (by omega) rfl dX3_putNext_122 rfl (Nat.le_of_ble_eq_true rfl) ?_
        refine AW.sub (lv1 := [(0, rv z 8), (1, iv x1), (2, iv x2), (3, iv x3), (4, iv x4), (5, iv x5)]) [2, 3, 4, 5, 6, 7] rfl ?_
        cases h
        exact J78
theorem LockQueue_putNext_s_ok {z : AZ} {rec : Int → Int → Int → Int → AG → Option (Int × AG)} {Dr : Nat} (hC9 : 1 ≤ Dr) (hrec : ∀ (x1 : Int) (x2 : Int) (x3 : Int) (x4 : Int) (g : AG) (r : Int × AG), rec x1 x2 x3 x4 g = some r → AMf z yX3_putNext cX3_putNext 8 none Dr [rv z 8, iv x1, iv x2, iv x3, iv x4] g r) {x1 : Int} {x2 : Int} {x3 : Int} {x4 : Int} {g : AG} {r : Int × AG} (h : LockQueue_putNext_s rec x1 x2 x3 x4 g = some r) : AMf z yX3_putNext cX3_putNext 8 none (Dr + 1) [rv z 8, iv x1, iv x2, iv x3, iv x4] g r := by
  intro d hdd
  refine AM.of (by decide +kernel) (Nat.le_of_ble_eq_true rfl) ?_
  show AW z (RX3, cX3_putNext, 8, none) d (QD none r) 0 [(0, rv z 8), (1, iv x1), (2, iv x2), (3, iv x3), (4, iv x4)] [] g
  unfold LockQueue_putNext_s at h
  refine AW.iload_n 1 dX3_putNext_0 rfl ?_
  refine AW.aloadr_n 0 dX3_putNext_1 rfl ?_
  refine AW.getI af_X3_24_8 sr_8_2 dX3_putNext_2 ?_
  refine AW.icmp_lt (tgt := 32) dX3_putNext_5 (by decide) (fun c1 => ?_) (fun c1 => ?_)
  · replace h := hT h c1
    refine AW.iconst dX3_putNext_32 ?_
    refine AW.istore (lv1 := [(5, iv 0), (0, rv z 8), (1, iv x1), (2, iv x2), (3, iv x3), (4, iv x4)]) dX3_putNext_33 (by decide) rfl ?_
    refine AW.sub (lv1 := [(0, rv z 8), (1, iv x1), (2, iv x2), (3, iv x3), (4, iv x4), (5, iv 0)]) [1, 2, 3, 4, 5, 0] rfl ?_
    exact LockQueue_putNext_b_ok hC9 hrec hdd _ _ _ h
  · replace h := hF h c1
    refine AW.aloadr_n 0 dX3_putNext_8 rfl ?_
    refine AW.iload 4 dX3_putNext_9 rfl ?_
    obtain ⟨g2, e3, h⟩ := hBe h
    refine AW.putI ap_X3_31_8 sr_8_4 dX3_putNext_11 e3 ?_
    refine AW.aloadr_n 0 dX3_putNext_14 rfl ?_
    refine AW.getR af_X3_18_8 sr_8_5 dX3_putNext_15 ?_
    refine AW.iconst dX3_putNext_18 ?_
    refine AW.aloadr_n 0 dX3_putNext_19 rfl ?_
    refine AW.getR af_X3_21_8 sr_8_6 dX3_putNext_20 ?_
    refine AW.iconst dX3_putNext_23 ?_
    refine AW.aloadr_n 0 dX3_putNext_24 rfl ?_
    refine AW.getI af_X3_24_8 sr_8_2 dX3_putNext_25 ?_
    obtain ⟨k4, h⟩ := hK h
    obtain ⟨g5, e6, h⟩ := hBe h
    refine AW.copyi cc_X3_55 ac_n ac_s ac_i kc_83 sk_83 kc_84 sk_84 ⟨by decide, by decide, k4.2.2.1, k4.2.2.2.1, k4.2.2.2.2⟩ (Nat.le_of_ble_eq_true rfl) (by omega) dX3_putNext_28 e6 ?_
    exact AW.vret1 rfl dX3_putNext_31 h rfl
theorem LockQueue_putNext_ok {z : AZ} {n : Nat} {x1 : Int} {x2 : Int} {x3 : Int} {x4 : Int} {g : AG} {r : Int × AG} (h : LockQueue_putNext n x1 x2 x3 x4 g = some r) : AMf z yX3_putNext cX3_putNext 8 none (1 + n * 1) [rv z 8, iv x1, iv x2, iv x3, iv x4] g r := by
  induction n generalizing x1 x2 x3 x4 g r with
  | zero => cases h
  | succ n ih =>
    have q := LockQueue_putNext_s_ok (z := z) (Dr := 1 + n * 1) (Nat.le_add_right _ _) (fun x1 x2 x3 x4 g r h9 => ih h9) h
    rw [show 1 + (n + 1) * 1 = 1 + n * 1 + 1 by rw [Nat.add_mul]; omega]
    exact q
set_option synthInstance.maxHeartbeats 2000000 in
theorem LockQueue_findBest_b_ok {z : AZ} {d : Nat} (hdd : 11 ≤ d) : ∀ (x1 : Int) (g : AG) (r : Int × AG), LockQueue_findBest_b x1 g = some r → AW z (RX3, cX3_findBest, 2, none) d (QD none r) 2 [(0, rv z 8), (1, iv x1)] [] g := by
  refine LockQueue_findBest_b.partial_correctness (fun x1 g r => AW z (RX3, cX3_findBest, 2, none) d (QD none r) 2 [(0, rv z 8), (1, iv x1)] [] g) ?_
  intro fb9 ih x1 g r h
  refine AW.iload_n 1 dX3_findBest_2 rfl ?_
  refine AW.aloadr_n 0 dX3_findBest_3 rfl ?_
  refine AW.getI af_X3_24_8 sr_8_2 dX3_findBest_4 ?_
  refine AW.icmp_ge (tgt := 23) dX3_findBest_7 (by decide) (fun c1 => ?_) (fun c1 => ?_)
  · replace h := hT h c1
    refine AW.aloadr_n 0 dX3_findBest_23 rfl ?_
    refine AW.aloadr_n 0 dX3_findBest_24 rfl ?_
    refine AW.aloadr_n 0 dX3_findBest_25 rfl ?_
    refine AW.getR af_X3_21_8 sr_8_6 dX3_findBest_26 ?_
    obtain ⟨r2, e3, h⟩ := hC h
    refine AW.callVi (As := [rv z 84]) (st := [rv z 8]) (LockQueue_waitOf_ok e3) cq_X3_37 cr_8_X3_waitOf (Nat.le_trans (by decide) hdd) rfl dX3_findBest_29 rfl (Nat.le_of_ble_eq_true rfl) ?_
    obtain ⟨g4, e5, h⟩ := hBe h
    refine AW.putI ap_X3_28_8 sr_8_3 dX3_findBest_32 e5 ?_
    refine AW.aloadr_n 0 dX3_findBest_35 rfl ?_
    refine AW.aloadr_n 0 dX3_findBest_36 rfl ?_
    refine AW.getI af_X3_28_8 sr_8_3 dX3_findBest_37 ?_
    obtain ⟨g6, e7, h⟩ := hBe h
    refine AW.putI ap_X3_31_8 sr_8_4 dX3_findBest_40 e7 ?_
    refine AW.aloadr_n 0 dX3_findBest_43 rfl ?_
    refine AW.iconst dX3_findBest_44 ?_
    refine AW.iconst dX3_findBest_45 ?_
    refine AW.iconst dX3_findBest_46 ?_
    refine AW.iconst dX3_findBest_47 ?_
    obtain ⟨r8, e9, h⟩ := hC h
    refine AW.callSv (As := [rv z 8, iv 0, iv 0, iv 0, iv 0]) (st := []) ((LockQueue_putNext_ok (n := 9)) e9) cq_X3_41 st_X3_putNext (Nat.le_trans (by decide) hdd) rfl dX3_findBest_48 rfl (Nat.le_of_ble_eq_true rfl) ?_
    exact AW.vret1 rfl dX3_findBest_51 h rfl
  · replace h := hF h c1
    refine AW.aloadr_n 0 dX3_findBest_10 rfl ?_
    refine AW.getR af_X3_21_8 sr_8_6 dX3_findBest_11 ?_
    refine AW.iload_n 1 dX3_findBest_14 rfl ?_
    refine AW.iload_n 1 dX3_findBest_15 rfl ?_
    obtain ⟨k10, h⟩ := hK h
    obtain ⟨g11, e12, h⟩ := hBe h
    refine AW.iast kc_84 sk_84 k10 dX3_findBest_16 e12 ?_
    refine AW.iinc (lv1 := [(1, iv (x1 + 1)), (0, rv z 8)]) 1 dX3_findBest_17 rfl (by decide) rfl ?_
    refine AW.goto (tgt := 2) dX3_findBest_20 (by decide) ?_
    refine AW.sub (lv1 := [(0, rv z 8), (1, iv (x1 + 1))]) [1, 0] rfl ?_
    exact ih _ _ _ h
theorem LockQueue_findBest_ok {z : AZ} {g : AG} {r : Int × AG} (h : LockQueue_findBest g = some r) : AMf z yX3_findBest cX3_findBest 2 none 11 [rv z 8] g r := by
  intro d hdd
  refine AM.of (by decide +kernel) (Nat.le_of_ble_eq_true rfl) ?_
  show AW z (RX3, cX3_findBest, 2, none) d (QD none r) 0 [(0, rv z 8)] [] g
  unfold LockQueue_findBest at h
  refine AW.iconst dX3_findBest_0 ?_
  refine AW.istore_n (lv1 := [(1, iv 0), (0, rv z 8)]) dX3_findBest_1 (by decide) rfl ?_
  refine AW.sub (lv1 := [(0, rv z 8), (1, iv 0)]) [1, 0] rfl ?_
  exact LockQueue_findBest_b_ok hdd _ _ _ h
set_option synthInstance.maxHeartbeats 2000000 in
theorem LockQueue_add_b_ok {z : AZ} {d : Nat} (hdd : 12 ≤ d) {x1 : Int} {x2 : Int} {g : AG} : ∀ (r : Int × AG), LockQueue_add_b x1 x2 g = some r → AW z (RX3, cX3_add, 3, (some .int)) d (QD (some .int) r) 33 [(0, rv z 8), (1, iv x1), (2, iv x2)] [] g := by
  intro r h
  unfold LockQueue_add_b at h
  refine AW.aloadr_n 0 dX3_add_33 rfl ?_
  refine AW.getR af_X3_9_8 sr_8_0 dX3_add_34 ?_
  refine AW.aloadr_n 0 dX3_add_37 rfl ?_
  refine AW.getI af_X3_24_8 sr_8_2 dX3_add_38 ?_
  refine AW.iload_n 1 dX3_add_41 rfl ?_
  obtain ⟨k1, h⟩ := hK h
  obtain ⟨g2, e3, h⟩ := hBe h
  refine AW.iast kc_81 sk_81 k1 dX3_add_42 e3 ?_
  refine AW.aloadr_n 0 dX3_add_43 rfl ?_
  refine AW.getR af_X3_15_8 sr_8_1 dX3_add_44 ?_
  refine AW.aloadr_n 0 dX3_add_47 rfl ?_
  refine AW.getI af_X3_24_8 sr_8_2 dX3_add_48 ?_
  refine AW.iload_n 2 dX3_add_51 rfl ?_
  obtain ⟨k4, h⟩ := hK h
  obtain ⟨g5, e6, h⟩ := hBe h
  refine AW.iast kc_82 sk_82 k4 dX3_add_52 e6 ?_
  refine AW.aloadr_n 0 dX3_add_53 rfl ?_
  refine AW.duprr dX3_add_54 ?_
  refine AW.getI af_X3_24_8 sr_8_2 dX3_add_55 ?_
  refine AW.iconst dX3_add_58 ?_
  refine AW.iadd dX3_add_59 ?_
  obtain ⟨g7, e8, h⟩ := hBe h
  refine AW.putI ap_X3_24_8 sr_8_2 dX3_add_60 e8 ?_
  refine AW.aloadr_n 0 dX3_add_63 rfl ?_
  obtain ⟨r9, e10, h⟩ := hC h
  refine AW.callVv (As := []) (st := []) (LockQueue_findBest_ok e10) cq_X3_34 cr_8_X3_findBest (Nat.le_trans (by decide) hdd) rfl dX3_add_64 rfl (Nat.le_of_ble_eq_true rfl) ?_
  refine AW.aloadr_n 0 dX3_add_67 rfl ?_
  refine AW.getI af_X3_24_8 sr_8_2 dX3_add_68 ?_
  exact AW.iret1 rfl dX3_add_71 h rfl
theorem LockQueue_add_ok {z : AZ} {x1 : Int} {x2 : Int} {g : AG} {r : Int × AG} (h : LockQueue_add x1 x2 g = some r) : AMf z yX3_add cX3_add 3 (some .int) 12 [rv z 8, iv x1, iv x2] g r := by
  intro d hdd
  refine AM.of (by decide +kernel) (Nat.le_of_ble_eq_true rfl) ?_
  show AW z (RX3, cX3_add, 3, (some .int)) d (QD (some .int) r) 0 [(0, rv z 8), (1, iv x1), (2, iv x2)] [] g
  unfold LockQueue_add at h
  refine AW.aloadr_n 0 dX3_add_0 rfl ?_
  refine AW.getI af_X3_24_8 sr_8_2 dX3_add_1 ?_
  refine AW.bipush dX3_add_4 (by decide) (by decide) ?_
  refine AW.icmp_ge (tgt := 31) dX3_add_6 (by decide) (fun c1 => ?_) (fun c1 => ?_)
  · replace h := hT h c1
    refine AW.iconst dX3_add_31 ?_
    exact AW.iret1 rfl dX3_add_32 h rfl
  · replace h := hF h c1
    refine AW.aloadr_n 0 dX3_add_9 rfl ?_
    refine AW.getI af_X3_24_8 sr_8_2 dX3_add_10 ?_
    refine AW.if_le (tgt := 33) dX3_add_13 (by decide) (fun c2 => ?_) (fun c2 => ?_)
    · replace h := hT h c2
      exact LockQueue_add_b_ok hdd _ h
    · replace h := hF h c2
      refine AW.iload_n 1 dX3_add_16 rfl ?_
      refine AW.aloadr_n 0 dX3_add_17 rfl ?_
      refine AW.getR af_X3_9_8 sr_8_0 dX3_add_18 ?_
      refine AW.aloadr_n 0 dX3_add_21 rfl ?_
      refine AW.getI af_X3_24_8 sr_8_2 dX3_add_22 ?_
      refine AW.iconst dX3_add_25 ?_
      refine AW.isub dX3_add_26 ?_
      obtain ⟨k3, h⟩ := hK h
      refine AW.iald kc_81 sk_81 k3 dX3_add_27 ?_
      refine AW.icmp_ge (tgt := 33) dX3_add_28 (by decide) (fun c4 => ?_) (fun c4 => ?_)
      · replace h := hT h c4
        exact LockQueue_add_b_ok hdd _ h
      · replace h := hF h c4
        refine AW.iconst dX3_add_31 ?_
        exact AW.iret1 rfl dX3_add_32 h rfl
theorem LockQueue_clear_ok {z : AZ} {g : AG} {r : Int × AG} (h : LockQueue_clear g = some r) : AMf z yX3_clear cX3_clear 1 none 0 [rv z 8] g r := by
  intro d hdd
  refine AM.of (by decide +kernel) (Nat.le_of_ble_eq_true rfl) ?_
  show AW z (RX3, cX3_clear, 1, none) d (QD none r) 0 [(0, rv z 8)] [] g
  unfold LockQueue_clear at h
  refine AW.aloadr_n 0 dX3_clear_0 rfl ?_
  refine AW.iconst dX3_clear_1 ?_
  obtain ⟨g1, e2, h⟩ := hBe h
  refine AW.putI ap_X3_24_8 sr_8_2 dX3_clear_2 e2 ?_
  refine AW.aloadr_n 0 dX3_clear_5 rfl ?_
  refine AW.iconst dX3_clear_6 ?_
  obtain ⟨g3, e4, h⟩ := hBe h
  refine AW.putI ap_X3_28_8 sr_8_3 dX3_clear_7 e4 ?_
  refine AW.aloadr_n 0 dX3_clear_10 rfl ?_
  refine AW.iconst dX3_clear_11 ?_
  obtain ⟨g5, e6, h⟩ := hBe h
  refine AW.putI ap_X3_31_8 sr_8_4 dX3_clear_12 e6 ?_
  exact AW.vret1 rfl dX3_clear_15 h rfl
theorem X_queue_ok {z : AZ} {x1 : Int} {x2 : Int} {g : AG} {r : Int × AG} (h : X_queue x1 x2 g = some r) : AMf z yX11_queue cX11_queue 3 (some .int) 13 [rv z 0, iv x1, iv x2] g r := by
  intro d hdd
  refine AM.of (by decide +kernel) (Nat.le_of_ble_eq_true rfl) ?_
  show AW z (RX11, cX11_queue, 3, (some .int)) d (QD (some .int) r) 0 [(0, rv z 0), (1, iv x1), (2, iv x2)] [] g
  unfold X_queue at h
  refine AW.iload_n 2 dX11_queue_0 rfl ?_
  refine AW.iconst dX11_queue_1 ?_
  refine AW.icmp_ne (tgt := 14) dX11_queue_2 (by decide) (fun c1 => ?_) (fun c1 => ?_)
  · replace h := hF h c1
    refine AW.iload_n 2 dX11_queue_14 rfl ?_
    refine AW.iconst dX11_queue_15 ?_
    refine AW.iconst dX11_queue_16 ?_
    refine AW.callSi (As := [iv x2, iv 0, iv 1]) (st := []) X_within_ok cq_X11_99 st_X11_within (Nat.le_trans (by decide) hdd) rfl dX11_queue_17 rfl (Nat.le_of_ble_eq_true rfl) ?_
    refine AW.if_eq (tgt := 34) dX11_queue_20 (by decide) (fun c2 => ?_) (fun c2 => ?_)
    · replace h := hT h c2
      refine AW.iconst dX11_queue_34 ?_
      exact AW.iret1 rfl dX11_queue_35 h rfl
    · replace h := hF h c2
      refine AW.iload_n 1 dX11_queue_23 rfl ?_
      refine AW.iconst dX11_queue_24 ?_
      refine AW.sipush dX11_queue_25 (by decide) (by decide) ?_
      refine AW.callSi (As := [iv x1, iv 0, iv 9999]) (st := []) X_within_ok cq_X11_99 st_X11_within (Nat.le_trans (by decide) hdd) rfl dX11_queue_28 rfl (Nat.le_of_ble_eq_true rfl) ?_
      refine AW.if_ne (tgt := 36) dX11_queue_31 (by decide) (fun c3 => ?_) (fun c3 => ?_)
      · replace h := hF h c3
        refine AW.aloadr_n 0 dX11_queue_36 rfl ?_
        refine AW.getR af_X11_65_0 sr_0_7 dX11_queue_37 ?_
        refine AW.iload_n 1 dX11_queue_40 rfl ?_
        refine AW.iload_n 2 dX11_queue_41 rfl ?_
        obtain ⟨r4, e5, h⟩ := hC h
        refine AW.callVi (As := [iv x1, iv x2]) (st := []) (LockQueue_add_ok e5) cq_X11_249 cr_8_X3_add (Nat.le_trans (by decide) hdd) rfl dX11_queue_42 rfl (Nat.le_of_ble_eq_true rfl) ?_
        exact AW.iret1 rfl dX11_queue_45 h rfl
      · replace h := hT h c3
        refine AW.iconst dX11_queue_34 ?_
        exact AW.iret1 rfl dX11_queue_35 h rfl
  · replace h := hT h c1
    refine AW.aloadr_n 0 dX11_queue_5 rfl ?_
    refine AW.getR af_X11_65_0 sr_0_7 dX11_queue_6 ?_
    obtain ⟨r6, e7, h⟩ := hC h
    refine AW.callVv (As := []) (st := []) (LockQueue_clear_ok e7) cq_X11_246 cr_8_X3_clear (Nat.le_trans (by decide) hdd) rfl dX11_queue_9 rfl (Nat.le_of_ble_eq_true rfl) ?_
    refine AW.iconst dX11_queue_12 ?_
    exact AW.iret1 rfl dX11_queue_13 h rfl
set_option synthInstance.maxHeartbeats 2000000 in
theorem LockQueue_lockfulsAsCome_b_ok {z : AZ} {d : Nat} (hdd : 0 ≤ d) {g : AG} : ∀ (x1 : Int) (x2 : Int) (r : Int), LockQueue_lockfulsAsCome_b g x1 x2 = some r → AW z (RX3, cX3_lockfulsAsCome, 3, (some .int)) d (QD (some .int) (r, g)) 7 [(0, rv z 8), (1, iv x1), (2, iv x2)] [] g := by
  refine LockQueue_lockfulsAsCome_b.partial_correctness g (fun x1 x2 r => AW z (RX3, cX3_lockfulsAsCome, 3, (some .int)) d (QD (some .int) (r, g)) 7 [(0, rv z 8), (1, iv x1), (2, iv x2)] [] g) ?_
  intro fb9 ih x1 x2 r h
  refine AW.iload_n 2 dX3_lockfulsAsCome_7 rfl ?_
  refine AW.aloadr_n 0 dX3_lockfulsAsCome_8 rfl ?_
  refine AW.getI af_X3_24_8 sr_8_2 dX3_lockfulsAsCome_9 ?_
  refine AW.icmp_ge (tgt := 46) dX3_lockfulsAsCome_12 (by decide) (fun c1 => ?_) (fun c1 => ?_)
  · replace h := hT h c1
    refine AW.iload_n 1 dX3_lockfulsAsCome_46 rfl ?_
    exact AW.iret2 rfl dX3_lockfulsAsCome_47 h rfl
  · replace h := hF h c1
    refine AW.iload_n 1 dX3_lockfulsAsCome_15 rfl ?_
    refine AW.aloadr_n 0 dX3_lockfulsAsCome_16 rfl ?_
    refine AW.getR af_X3_15_8 sr_8_1 dX3_lockfulsAsCome_17 ?_
    refine AW.iload_n 2 dX3_lockfulsAsCome_20 rfl ?_
    obtain ⟨k2, h⟩ := hK h
    refine AW.iald kc_82 sk_82 k2 dX3_lockfulsAsCome_21 ?_
    refine AW.aloadr_n 0 dX3_lockfulsAsCome_22 rfl ?_
    refine AW.getR af_X3_15_8 sr_8_1 dX3_lockfulsAsCome_23 ?_
    refine AW.iload_n 2 dX3_lockfulsAsCome_26 rfl ?_
    refine AW.iconst dX3_lockfulsAsCome_27 ?_
    refine AW.isub dX3_lockfulsAsCome_28 ?_
    obtain ⟨k3, h⟩ := hK h
    refine AW.iald kc_82 sk_82 k3 dX3_lockfulsAsCome_29 ?_
    obtain ⟨t4, e5, h⟩ := hBe h
    refine AW.join (tgt := 38) (lv1 := [(0, rv z 8), (1, iv x1), (2, iv x2)]) (st1 := [iv t4, iv x1]) (g1 := g) ?_ (fun J30 => ?_)
    · refine AW.isub dX3_lockfulsAsCome_38 ?_
      refine AW.istore_n (lv1 := [(1, iv (x1 - t4)), (0, rv z 8), (2, iv x2)]) dX3_lockfulsAsCome_39 (by decide) rfl ?_
      refine AW.iinc (lv1 := [(2, iv (x2 + 1)), (1, iv (x1 - t4)), (0, rv z 8)]) 2 dX3_lockfulsAsCome_40 rfl (by decide) rfl ?_
      refine AW.goto (tgt := 7) dX3_lockfulsAsCome_43 (by decide) ?_
      refine AW.sub (lv1 := [(0, rv z 8), (1, iv (x1 - t4)), (2, iv (x2 + 1))]) [2, 1, 0] rfl ?_
      exact ih _ _ _ h
    refine AW.icmp_ne (tgt := 37) dX3_lockfulsAsCome_30 (by decide) (fun c6 => ?_) (fun c6 => ?_)
    · refine AW.iconst dX3_lockfulsAsCome_37 ?_
      exact AW.val (e5.trans (if_neg c6)) J30
    · refine AW.iconst dX3_lockfulsAsCome_33 ?_
      refine AW.goto (tgt := 38) dX3_lockfulsAsCome_34 (by decide) ?_
      exact AW.val (e5.trans (if_pos c6)) J30
theorem LockQueue_lockfulsAsCome_ok {z : AZ} {g : AG} {r : Int} (h : LockQueue_lockfulsAsCome g = some r) : AMf z yX3_lockfulsAsCome cX3_lockfulsAsCome 3 (some .int) 0 [rv z 8] g (r, g) := by
  intro d hdd
  refine AM.of (by decide +kernel) (Nat.le_of_ble_eq_true rfl) ?_
  show AW z (RX3, cX3_lockfulsAsCome, 3, (some .int)) d (QD (some .int) (r, g)) 0 [(0, rv z 8)] [] g
  unfold LockQueue_lockfulsAsCome at h
  refine AW.aloadr_n 0 dX3_lockfulsAsCome_0 rfl ?_
  refine AW.getI af_X3_24_8 sr_8_2 dX3_lockfulsAsCome_1 ?_
  refine AW.istore_n (lv1 := [(1, iv (g 8 2)), (0, rv z 8)]) dX3_lockfulsAsCome_4 (by decide) rfl ?_
  refine AW.iconst dX3_lockfulsAsCome_5 ?_
  refine AW.istore_n (lv1 := [(2, iv 1), (1, iv (g 8 2)), (0, rv z 8)]) dX3_lockfulsAsCome_6 (by decide) rfl ?_
  refine AW.sub (lv1 := [(0, rv z 8), (1, iv (g 8 2)), (2, iv 1)]) [2, 1, 0] rfl ?_
  exact LockQueue_lockfulsAsCome_b_ok hdd _ _ _ h
set_option synthInstance.maxHeartbeats 2000000 in
theorem LockQueue_lockfulsAtBest_b_ok {z : AZ} {d : Nat} (hdd : 0 ≤ d) {g : AG} : ∀ (x1 : Int) (x2 : Int) (r : Int), LockQueue_lockfulsAtBest_b g x1 x2 = some r → AW z (RX3, cX3_lockfulsAtBest, 3, (some .int)) d (QD (some .int) (r, g)) 7 [(0, rv z 8), (1, iv x1), (2, iv x2)] [] g := by
  refine LockQueue_lockfulsAtBest_b.partial_correctness g (fun x1 x2 r => AW z (RX3, cX3_lockfulsAtBest, 3, (some .int)) d (QD (some .int) (r, g)) 7 [(0, rv z 8), (1, iv x1), (2, iv x2)] [] g) ?_
  intro fb9 ih x1 x2 r h
  refine AW.iload_n 2 dX3_lockfulsAtBest_7 rfl ?_
  refine AW.aloadr_n 0 dX3_lockfulsAtBest_8 rfl ?_
  refine AW.getI af_X3_24_8 sr_8_2 dX3_lockfulsAtBest_9 ?_
  refine AW.icmp_ge (tgt := 56) dX3_lockfulsAtBest_12 (by decide) (fun c1 => ?_) (fun c1 => ?_)
  · replace h := hT h c1
    refine AW.iload_n 1 dX3_lockfulsAtBest_56 rfl ?_
    exact AW.iret2 rfl dX3_lockfulsAtBest_57 h rfl
  · replace h := hF h c1
    refine AW.iload_n 1 dX3_lockfulsAtBest_15 rfl ?_
    refine AW.aloadr_n 0 dX3_lockfulsAtBest_16 rfl ?_
    refine AW.getR af_X3_15_8 sr_8_1 dX3_lockfulsAtBest_17 ?_
    refine AW.aloadr_n 0 dX3_lockfulsAtBest_20 rfl ?_
    refine AW.getR af_X3_21_8 sr_8_6 dX3_lockfulsAtBest_21 ?_
    refine AW.iload_n 2 dX3_lockfulsAtBest_24 rfl ?_
    obtain ⟨k2, h⟩ := hK h
    refine AW.iald kc_84 sk_84 k2 dX3_lockfulsAtBest_25 ?_
    obtain ⟨k3, h⟩ := hK h
    refine AW.iald kc_82 sk_82 k3 dX3_lockfulsAtBest_26 ?_
    refine AW.aloadr_n 0 dX3_lockfulsAtBest_27 rfl ?_
    refine AW.getR af_X3_15_8 sr_8_1 dX3_lockfulsAtBest_28 ?_
    refine AW.aloadr_n 0 dX3_lockfulsAtBest_31 rfl ?_
    refine AW.getR af_X3_21_8 sr_8_6 dX3_lockfulsAtBest_32 ?_
    refine AW.iload_n 2 dX3_lockfulsAtBest_35 rfl ?_
    refine AW.iconst dX3_lockfulsAtBest_36 ?_
    refine AW.isub dX3_lockfulsAtBest_37 ?_
    obtain ⟨k4, h⟩ := hK h
    refine AW.iald kc_84 sk_84 k4 dX3_lockfulsAtBest_38 ?_
    obtain ⟨k5, h⟩ := hK h
    refine AW.iald kc_82 sk_82 k5 dX3_lockfulsAtBest_39 ?_
    obtain ⟨t6, e7, h⟩ := hBe h
    refine AW.join (tgt := 48) (lv1 := [(0, rv z 8), (1, iv x1), (2, iv x2)]) (st1 := [iv t6, iv x1]) (g1 := g) ?_ (fun J40 => ?_)
    · refine AW.isub dX3_lockfulsAtBest_48 ?_
      refine AW.istore_n (lv1 := [(1, iv (x1 - t6)), (0, rv z 8), (2, iv x2)]) dX3_lockfulsAtBest_49 (by decide) rfl ?_
      refine AW.iinc (lv1 := [(2, iv (x2 + 1)), (1, iv (x1 - t6)), (0, rv z 8)]) 2 dX3_lockfulsAtBest_50 rfl (by decide) rfl ?_
      refine AW.goto (tgt := 7) dX3_lockfulsAtBest_53 (by decide) ?_
      refine AW.sub (lv1 := [(0, rv z 8), (1, iv (x1 - t6)), (2, iv (x2 + 1))]) [2, 1, 0] rfl ?_
      exact ih _ _ _ h
    refine AW.icmp_ne (tgt := 47) dX3_lockfulsAtBest_40 (by decide) (fun c8 => ?_) (fun c8 => ?_)
    · refine AW.iconst dX3_lockfulsAtBest_47 ?_
      exact AW.val (e7.trans (if_neg c8)) J40
    · refine AW.iconst dX3_lockfulsAtBest_43 ?_
      refine AW.goto (tgt := 48) dX3_lockfulsAtBest_44 (by decide) ?_
      exact AW.val (e7.trans (if_pos c8)) J40
theorem LockQueue_lockfulsAtBest_ok {z : AZ} {g : AG} {r : Int} (h : LockQueue_lockfulsAtBest g = some r) : AMf z yX3_lockfulsAtBest cX3_lockfulsAtBest 3 (some .int) 0 [rv z 8] g (r, g) := by
  intro d hdd
  refine AM.of (by decide +kernel) (Nat.le_of_ble_eq_true rfl) ?_
  show AW z (RX3, cX3_lockfulsAtBest, 3, (some .int)) d (QD (some .int) (r, g)) 0 [(0, rv z 8)] [] g
  unfold LockQueue_lockfulsAtBest at h
  refine AW.aloadr_n 0 dX3_lockfulsAtBest_0 rfl ?_
  refine AW.getI af_X3_24_8 sr_8_2 dX3_lockfulsAtBest_1 ?_
  refine AW.istore_n (lv1 := [(1, iv (g 8 2)), (0, rv z 8)]) dX3_lockfulsAtBest_4 (by decide) rfl ?_
  refine AW.iconst dX3_lockfulsAtBest_5 ?_
  refine AW.istore_n (lv1 := [(2, iv 1), (1, iv (g 8 2)), (0, rv z 8)]) dX3_lockfulsAtBest_6 (by decide) rfl ?_
  refine AW.sub (lv1 := [(0, rv z 8), (1, iv (g 8 2)), (2, iv 1)]) [2, 1, 0] rfl ?_
  exact LockQueue_lockfulsAtBest_b_ok hdd _ _ _ h
theorem LockQueue_atBest_ok {z : AZ} {x1 : Int} {g : AG} {r : Int} (h : LockQueue_atBest x1 g = some r) : AMf z yX3_atBest cX3_atBest 2 (some .int) 1 [rv z 8, iv x1] g (r, g) := by
  intro d hdd
  refine AM.of (by decide +kernel) (Nat.le_of_ble_eq_true rfl) ?_
  show AW z (RX3, cX3_atBest, 2, (some .int)) d (QD (some .int) (r, g)) 0 [(0, rv z 8), (1, iv x1)] [] g
  unfold LockQueue_atBest at h
  refine AW.iload_n 1 dX3_atBest_0 rfl ?_
  refine AW.bipush dX3_atBest_1 (by decide) (by decide) ?_
  refine AW.isub dX3_atBest_3 ?_
  refine AW.iconst dX3_atBest_4 ?_
  refine AW.aloadr_n 0 dX3_atBest_5 rfl ?_
  refine AW.getI af_X3_24_8 sr_8_2 dX3_atBest_6 ?_
  refine AW.iconst dX3_atBest_9 ?_
  refine AW.isub dX3_atBest_10 ?_
  refine AW.callN0 (As := [iv (x1 - 10), iv 0, iv ((g 8 2) - 1)]) (st := []) X_within_ok ns_X3_61 in_X11 cd_X11_within st_X11_within (by decide) (Nat.le_trans (by decide) hdd) rfl (Nat.le_of_ble_eq_true rfl) dX3_atBest_11 rfl ?_
  obtain ⟨r3, e4, h⟩ := hC h
  refine AW.join (tgt := 30) (lv1 := []) (st1 := [iv r3]) (g1 := g) ?_ (fun J14 => ?_)
  · exact AW.iret2 rfl dX3_atBest_30 h rfl
  replace h := e4
  refine AW.if_eq (tgt := 29) dX3_atBest_14 (by decide) (fun c1 => ?_) (fun c1 => ?_)
  · replace h := hT h c1
    refine AW.iconst dX3_atBest_29 ?_
    refine AW.sub (lv1 := []) [] rfl ?_
    cases h
    exact J14
  · replace h := hF h c1
    refine AW.aloadr_n 0 dX3_atBest_17 rfl ?_
    refine AW.getR af_X3_21_8 sr_8_6 dX3_atBest_18 ?_
    refine AW.iload_n 1 dX3_atBest_21 rfl ?_
    refine AW.bipush dX3_atBest_22 (by decide) (by decide) ?_
    refine AW.isub dX3_atBest_24 ?_
    obtain ⟨k2, h⟩ := hK h
    refine AW.iald kc_84 sk_84 k2 dX3_atBest_25 ?_
    refine AW.goto (tgt := 30) dX3_atBest_26 (by decide) ?_
    refine AW.sub (lv1 := []) [] rfl ?_
    cases h
    exact J14
theorem X_lock_ok {z : AZ} {x1 : Int} {g : AG} {r : Int} (h : X_lock x1 g = some r) : AMf z yX11_lock cX11_lock 2 (some .int) 2 [rv z 0, iv x1] g (r, g) := by
  intro d hdd
  refine AM.of (by decide +kernel) (Nat.le_of_ble_eq_true rfl) ?_
  show AW z (RX11, cX11_lock, 2, (some .int)) d (QD (some .int) (r, g)) 0 [(0, rv z 0), (1, iv x1)] [] g
  unfold X_lock at h
  refine AW.iload_n 1 dX11_lock_0 rfl ?_
  by_cases c1 : nw x1 = 0
  · replace h := hT h c1
    refine AW.tsIn (tgt := 32) 0 dX11_lock_1 c1 (by decide) (by decide) (by rfl) (by decide) ?_
    refine AW.aloadr_n 0 dX11_lock_32 rfl ?_
    refine AW.getR af_X11_65_0 sr_0_7 dX11_lock_33 ?_
    refine AW.getI af_X11_252_8 sr_8_3 dX11_lock_36 ?_
    exact AW.iret2 rfl dX11_lock_39 h rfl
  · replace h := hF h c1
    by_cases c2 : nw x1 = 1
    · replace h := hT h c2
      refine AW.tsIn (tgt := 40) 1 dX11_lock_1 c2 (by decide) (by decide) (by rfl) (by decide) ?_
      refine AW.aloadr_n 0 dX11_lock_40 rfl ?_
      refine AW.getR af_X11_65_0 sr_0_7 dX11_lock_41 ?_
      refine AW.getI af_X11_255_8 sr_8_4 dX11_lock_44 ?_
      exact AW.iret2 rfl dX11_lock_47 h rfl
    · replace h := hF h c2
      by_cases c3 : nw x1 = 2
      · replace h := hT h c3
        refine AW.tsIn (tgt := 48) 2 dX11_lock_1 c3 (by decide) (by decide) (by rfl) (by decide) ?_
        refine AW.aloadr_n 0 dX11_lock_48 rfl ?_
        refine AW.getR af_X11_65_0 sr_0_7 dX11_lock_49 ?_
        obtain ⟨r4, e5, h⟩ := hC h
        refine AW.callVi (As := []) (st := []) (LockQueue_lockfulsAsCome_ok e5) cq_X11_258 cr_8_X3_lockfulsAsCome (Nat.le_trans (by decide) hdd) rfl dX11_lock_52 rfl (Nat.le_of_ble_eq_true rfl) ?_
        exact AW.iret2 rfl dX11_lock_55 h rfl
      · replace h := hF h c3
        by_cases c6 : nw x1 = 3
        · replace h := hT h c6
          refine AW.tsIn (tgt := 56) 3 dX11_lock_1 c6 (by decide) (by decide) (by rfl) (by decide) ?_
          refine AW.aloadr_n 0 dX11_lock_56 rfl ?_
          refine AW.getR af_X11_65_0 sr_0_7 dX11_lock_57 ?_
          obtain ⟨r7, e8, h⟩ := hC h
          refine AW.callVi (As := []) (st := []) (LockQueue_lockfulsAtBest_ok e8) cq_X11_261 cr_8_X3_lockfulsAtBest (Nat.le_trans (by decide) hdd) rfl dX11_lock_60 rfl (Nat.le_of_ble_eq_true rfl) ?_
          exact AW.iret2 rfl dX11_lock_63 h rfl
        · replace h := hF h c6
          refine AW.tsOut (tgt := 64) dX11_lock_1 (by omega) (by decide) ?_
          refine AW.aloadr_n 0 dX11_lock_64 rfl ?_
          refine AW.getR af_X11_65_0 sr_0_7 dX11_lock_65 ?_
          refine AW.iload_n 1 dX11_lock_68 rfl ?_
          obtain ⟨r9, e10, h⟩ := hC h
          refine AW.callVi (As := [iv x1]) (st := []) (LockQueue_atBest_ok e10) cq_X11_264 cr_8_X3_atBest (Nat.le_trans (by decide) hdd) rfl dX11_lock_69 rfl (Nat.le_of_ble_eq_true rfl) ?_
          exact AW.iret2 rfl dX11_lock_72 h rfl
theorem X_isWeek_ok {z : AZ} {x0 : Int} {g : AG} : AMf z yX11_isWeek cX11_isWeek 1 (some .boolean) 1 [iv x0] g ((X_isWeek x0), g) := by
  intro d hdd
  refine AM.of (by decide +kernel) (Nat.le_of_ble_eq_true rfl) ?_
  show AW z (RX11, cX11_isWeek, 1, (some .boolean)) d (QD (some .boolean) ((X_isWeek x0), g)) 0 [(0, iv x0)] [] g
  refine AW.iload_n 0 dX11_isWeek_0 rfl ?_
  refine AW.iconst dX11_isWeek_1 ?_
  refine AW.bipush dX11_isWeek_2 (by decide) (by decide) ?_
  refine AW.callSi (As := [iv x0, iv 0, iv 9]) (st := []) X_within_ok cq_X11_99 st_X11_within (Nat.le_trans (by decide) hdd) rfl dX11_isWeek_4 rfl (Nat.le_of_ble_eq_true rfl) ?_
  exact AW.zret rfl X_within_01 dX11_isWeek_7 ⟨congrArg (fun v => some (iv v)) (show X_isWeek x0  = (X_within x0 0 9) from rfl).symm, rfl⟩
set_option synthInstance.maxHeartbeats 2000000 in
theorem Bookings_putInOrder_b_ok {z : AZ} {d : Nat} (hdd : 0 ≤ d) : ∀ (tag : Nat) (x1 : Int) (x2 : Int) (x3 : Int) (g : AG) (r : Int × AG), Bookings_putInOrder_b tag x1 x2 x3 g = some r → (tag = 1 → AW z (RX1, cX1_putInOrder, 4, none) d (QD none r) 4 [(0, rv z 9), (1, iv x1), (2, iv x2)] [] g) ∧ (tag = 2 → AW z (RX1, cX1_putInOrder, 4, none) d (QD none r) 12 [(0, rv z 9), (1, iv x1), (2, iv x2), (3, iv x3)] [] g) := by
  refine Bookings_putInOrder_b.partial_correctness (fun tag x1 x2 x3 g r => (tag = 1 → AW z (RX1, cX1_putInOrder, 4, none) d (QD none r) 4 [(0, rv z 9), (1, iv x1), (2, iv x2)] [] g) ∧ (tag = 2 → AW z (RX1, cX1_putInOrder, 4, none) d (QD none r) 12 [(0, rv z 9), (1, iv x1), (2, iv x2), (3, iv x3)] [] g)) ?_
  intro fb9 ih tag x1 x2 x3 g r h
  refine ⟨fun h9 => ?_, fun h9 => ?_⟩
  · subst h9
    replace h := hT h rfl
    refine AW.iload_n 2 dX1_putInOrder_4 rfl ?_
    refine AW.bipush dX1_putInOrder_5 (by decide) (by decide) ?_
    refine AW.icmp_ge (tgt := 52) dX1_putInOrder_7 (by decide) (fun c1 => ?_) (fun c1 => ?_)
    · replace h := hT h c1
      exact AW.vret1 rfl dX1_putInOrder_52 h rfl
    · replace h := hF h c1
      refine AW.iconst dX1_putInOrder_10 ?_
      refine AW.istore_n (lv1 := [(3, iv 0), (0, rv z 9), (1, iv x1), (2, iv x2)]) dX1_putInOrder_11 (by decide) rfl ?_
      refine AW.sub (lv1 := [(0, rv z 9), (1, iv x1), (2, iv x2), (3, iv 0)]) [1, 2, 3, 0] rfl ?_
      exact (ih _ _ _ _ _ _ h).2 rfl
  · subst h9
    replace h := hF h (by decide)
    replace h := hT h rfl
    refine AW.iload_n 3 dX1_putInOrder_12 rfl ?_
    refine AW.aloadr_n 0 dX1_putInOrder_13 rfl ?_
    refine AW.getI af_X1_48_9 sr_9_4 dX1_putInOrder_14 ?_
    refine AW.icmp_ge (tgt := 46) dX1_putInOrder_17 (by decide) (fun c1 => ?_) (fun c1 => ?_)
    · replace h := hT h c1
      refine AW.iinc (lv1 := [(2, iv (x2 + 1)), (0, rv z 9), (1, iv x1), (3, iv x3)]) 2 dX1_putInOrder_46 rfl (by decide) rfl ?_
      refine AW.goto (tgt := 4) dX1_putInOrder_49 (by decide) ?_
      refine AW.sub (lv1 := [(0, rv z 9), (1, iv x1), (2, iv (x2 + 1))]) [1, 2, 0] rfl ?_
      exact (ih _ _ _ _ _ _ h).1 rfl
    · replace h := hF h c1
      refine AW.aloadr_n 0 dX1_putInOrder_20 rfl ?_
      refine AW.getR af_X1_18_9 sr_9_2 dX1_putInOrder_21 ?_
      refine AW.iload_n 3 dX1_putInOrder_24 rfl ?_
      obtain ⟨k2, h⟩ := hK h
      refine AW.iald kc_87 sk_87 k2 dX1_putInOrder_25 ?_
      refine AW.iload_n 2 dX1_putInOrder_26 rfl ?_
      obtain ⟨r7, e8, h⟩ := hC h
      refine AW.join (tgt := 40) (lv1 := [(0, rv z 9), (1, iv r7.1), (2, iv x2), (3, iv x3)]) (st1 := []) (g1 := r7.2) ?_ (fun J27 => ?_)
      · refine AW.iinc (lv1 := [(3, iv (x3 + 1)), (0, rv z 9), (1, iv r7.1), (2, iv x2)]) 3 dX1_putInOrder_40 rfl (by decide) rfl ?_
        refine AW.goto (tgt := 12) dX1_putInOrder_43 (by decide) ?_
        refine AW.sub (lv1 := [(0, rv z 9), (1, iv r7.1), (2, iv x2), (3, iv (x3 + 1))]) [1, 2, 3, 0] rfl ?_
        exact (ih _ _ _ _ _ _ h).2 rfl
      replace h := e8
      refine AW.icmp_ne (tgt := 40) dX1_putInOrder_27 (by decide) (fun c3 => ?_) (fun c3 => ?_)
      · replace h := hF h c3
        cases h
        exact J27
      · replace h := hT h c3
        refine AW.aloadr_n 0 dX1_putInOrder_30 rfl ?_
        refine AW.getR af_X1_24_9 sr_9_5 dX1_putInOrder_31 ?_
        refine AW.iload_n 1 dX1_putInOrder_34 rfl ?_
        refine AW.iload_n 3 dX1_putInOrder_35 rfl ?_
        obtain ⟨k4, h⟩ := hK h
        obtain ⟨g5, e6, h⟩ := hBe h
        refine AW.iast kc_89 sk_89 k4 dX1_putInOrder_36 e6 ?_
        refine AW.iinc (lv1 := [(1, iv (x1 + 1)), (0, rv z 9), (2, iv x2), (3, iv x3)]) 1 dX1_putInOrder_37 rfl (by decide) rfl ?_
        refine AW.sub (lv1 := [(0, rv z 9), (1, iv (x1 + 1)), (2, iv x2), (3, iv x3)]) [1, 0, 2, 3] rfl ?_
        cases h
        exact J27
theorem Bookings_putInOrder_ok {z : AZ} {g : AG} {r : Int × AG} (h : Bookings_putInOrder g = some r) : AMf z yX1_putInOrder cX1_putInOrder 4 none 0 [rv z 9] g r := by
  intro d hdd
  refine AM.of (by decide +kernel) (Nat.le_of_ble_eq_true rfl) ?_
  show AW z (RX1, cX1_putInOrder, 4, none) d (QD none r) 0 [(0, rv z 9)] [] g
  unfold Bookings_putInOrder at h
  refine AW.iconst dX1_putInOrder_0 ?_
  refine AW.istore_n (lv1 := [(1, iv 0), (0, rv z 9)]) dX1_putInOrder_1 (by decide) rfl ?_
  refine AW.iconst dX1_putInOrder_2 ?_
  refine AW.istore_n (lv1 := [(2, iv 0), (1, iv 0), (0, rv z 9)]) dX1_putInOrder_3 (by decide) rfl ?_
  refine AW.sub (lv1 := [(0, rv z 9), (1, iv 0), (2, iv 0)]) [2, 1, 0] rfl ?_
  exact (Bookings_putInOrder_b_ok hdd _ _ _ _ _ _ h).1 rfl
theorem Bookings_add_ok {z : AZ} {x1 : Int} {x2 : Int} {x3 : Int} {x4 : Int} {g : AG} {r : Int × AG} (h : Bookings_add x1 x2 x3 x4 g = some r) : AMf z yX1_add cX1_add 5 (some .int) 1 [rv z 9, iv x1, iv x2, iv x3, iv x4] g r := by
  intro d hdd
  refine AM.of (by decide +kernel) (Nat.le_of_ble_eq_true rfl) ?_
  show AW z (RX1, cX1_add, 5, (some .int)) d (QD (some .int) r) 0 [(0, rv z 9), (1, iv x1), (2, iv x2), (3, iv x3), (4, iv x4)] [] g
  unfold Bookings_add at h
  refine AW.aloadr_n 0 dX1_add_0 rfl ?_
  refine AW.getI af_X1_48_9 sr_9_4 dX1_add_1 ?_
  refine AW.bipush dX1_add_4 (by decide) (by decide) ?_
  refine AW.icmp_lt (tgt := 11) dX1_add_6 (by decide) (fun c1 => ?_) (fun c1 => ?_)
  · replace h := hT h c1
    refine AW.aloadr_n 0 dX1_add_11 rfl ?_
    refine AW.getR af_X1_9_9 sr_9_0 dX1_add_12 ?_
    refine AW.aloadr_n 0 dX1_add_15 rfl ?_
    refine AW.getI af_X1_48_9 sr_9_4 dX1_add_16 ?_
    refine AW.iload_n 1 dX1_add_19 rfl ?_
    obtain ⟨k2, h⟩ := hK h
    obtain ⟨g3, e4, h⟩ := hBe h
    refine AW.iast kc_85 sk_85 k2 dX1_add_20 e4 ?_
    refine AW.aloadr_n 0 dX1_add_21 rfl ?_
    refine AW.getR af_X1_15_9 sr_9_1 dX1_add_22 ?_
    refine AW.aloadr_n 0 dX1_add_25 rfl ?_
    refine AW.getI af_X1_48_9 sr_9_4 dX1_add_26 ?_
    refine AW.iload_n 2 dX1_add_29 rfl ?_
    obtain ⟨k5, h⟩ := hK h
    obtain ⟨g6, e7, h⟩ := hBe h
    refine AW.iast kc_86 sk_86 k5 dX1_add_30 e7 ?_
    refine AW.aloadr_n 0 dX1_add_31 rfl ?_
    refine AW.getR af_X1_18_9 sr_9_2 dX1_add_32 ?_
    refine AW.aloadr_n 0 dX1_add_35 rfl ?_
    refine AW.getI af_X1_48_9 sr_9_4 dX1_add_36 ?_
    refine AW.iload_n 3 dX1_add_39 rfl ?_
    obtain ⟨k8, h⟩ := hK h
    obtain ⟨g9, e10, h⟩ := hBe h
    refine AW.iast kc_87 sk_87 k8 dX1_add_40 e10 ?_
    refine AW.aloadr_n 0 dX1_add_41 rfl ?_
    refine AW.getR af_X1_21_9 sr_9_3 dX1_add_42 ?_
    refine AW.aloadr_n 0 dX1_add_45 rfl ?_
    refine AW.getI af_X1_48_9 sr_9_4 dX1_add_46 ?_
    refine AW.iload 4 dX1_add_49 rfl ?_
    obtain ⟨k11, h⟩ := hK h
    obtain ⟨g12, e13, h⟩ := hBe h
    refine AW.iast kc_88 sk_88 k11 dX1_add_51 e13 ?_
    refine AW.aloadr_n 0 dX1_add_52 rfl ?_
    refine AW.duprr dX1_add_53 ?_
    refine AW.getI af_X1_48_9 sr_9_4 dX1_add_54 ?_
    refine AW.iconst dX1_add_57 ?_
    refine AW.iadd dX1_add_58 ?_
    obtain ⟨g14, e15, h⟩ := hBe h
    refine AW.putI ap_X1_48_9 sr_9_4 dX1_add_59 e15 ?_
    refine AW.aloadr_n 0 dX1_add_62 rfl ?_
    refine AW.iconst dX1_add_63 ?_
    obtain ⟨g16, e17, h⟩ := hBe h
    refine AW.putI ap_X1_52_9 sr_9_11 dX1_add_64 e17 ?_
    refine AW.aloadr_n 0 dX1_add_67 rfl ?_
    obtain ⟨r18, e19, h⟩ := hC h
    refine AW.callVv (As := []) (st := []) (Bookings_putInOrder_ok e19) cq_X1_55 cr_9_X1_putInOrder (Nat.le_trans (by decide) hdd) rfl dX1_add_68 rfl (Nat.le_of_ble_eq_true rfl) ?_
    refine AW.aloadr_n 0 dX1_add_71 rfl ?_
    refine AW.getI af_X1_48_9 sr_9_4 dX1_add_72 ?_
    refine AW.iconst dX1_add_75 ?_
    refine AW.isub dX1_add_76 ?_
    exact AW.iret1 rfl dX1_add_77 h rfl
  · replace h := hF h c1
    refine AW.iconst dX1_add_9 ?_
    exact AW.iret1 rfl dX1_add_10 h rfl
theorem X_booking_ok {z : AZ} {x1 : Int} {x2 : Int} {x3 : Int} {x4 : Int} {g : AG} {r : Int × AG} (h : X_booking x1 x2 x3 x4 g = some r) : AMf z yX11_booking cX11_booking 5 (some .int) 2 [rv z 0, iv x1, iv x2, iv x3, iv x4] g r := by
  intro d hdd
  refine AM.of (by decide +kernel) (Nat.le_of_ble_eq_true rfl) ?_
  show AW z (RX11, cX11_booking, 5, (some .int)) d (QD (some .int) r) 0 [(0, rv z 0), (1, iv x1), (2, iv x2), (3, iv x3), (4, iv x4)] [] g
  unfold X_booking at h
  refine AW.iload_n 1 dX11_booking_0 rfl ?_
  refine AW.callSi (As := [iv x1]) (st := []) X_isPoint_ok cq_X11_111 st_X11_isPoint (Nat.le_trans (by decide) hdd) rfl dX11_booking_1 rfl (Nat.le_of_ble_eq_true rfl) ?_
  refine AW.if_eq (tgt := 29) dX11_booking_4 (by decide) (fun c1 => ?_) (fun c1 => ?_)
  · replace h := hT h c1
    refine AW.iconst dX11_booking_29 ?_
    exact AW.iret1 rfl dX11_booking_30 h rfl
  · replace h := hF h c1
    refine AW.iload_n 2 dX11_booking_7 rfl ?_
    refine AW.callSi (As := [iv x2]) (st := []) X_isPoint_ok cq_X11_111 st_X11_isPoint (Nat.le_trans (by decide) hdd) rfl dX11_booking_8 rfl (Nat.le_of_ble_eq_true rfl) ?_
    refine AW.if_eq (tgt := 29) dX11_booking_11 (by decide) (fun c2 => ?_) (fun c2 => ?_)
    · replace h := hT h c2
      refine AW.iconst dX11_booking_29 ?_
      exact AW.iret1 rfl dX11_booking_30 h rfl
    · replace h := hF h c2
      refine AW.iload_n 3 dX11_booking_14 rfl ?_
      refine AW.callSi (As := [iv x3]) (st := []) X_isWeek_ok cq_X11_267 st_X11_isWeek (Nat.le_trans (by decide) hdd) rfl dX11_booking_15 rfl (Nat.le_of_ble_eq_true rfl) ?_
      refine AW.if_eq (tgt := 29) dX11_booking_18 (by decide) (fun c3 => ?_) (fun c3 => ?_)
      · replace h := hT h c3
        refine AW.iconst dX11_booking_29 ?_
        exact AW.iret1 rfl dX11_booking_30 h rfl
      · replace h := hF h c3
        refine AW.iload 4 dX11_booking_21 rfl ?_
        refine AW.callSi (As := [iv x4]) (st := []) X_isBerths_ok cq_X11_143 st_X11_isBerths (Nat.le_trans (by decide) hdd) rfl dX11_booking_23 rfl (Nat.le_of_ble_eq_true rfl) ?_
        refine AW.if_ne (tgt := 31) dX11_booking_26 (by decide) (fun c4 => ?_) (fun c4 => ?_)
        · replace h := hF h c4
          refine AW.aloadr_n 0 dX11_booking_31 rfl ?_
          refine AW.getR af_X11_72_0 sr_0_8 dX11_booking_32 ?_
          refine AW.iload_n 1 dX11_booking_35 rfl ?_
          refine AW.iload_n 2 dX11_booking_36 rfl ?_
          refine AW.iload_n 3 dX11_booking_37 rfl ?_
          refine AW.iload 4 dX11_booking_38 rfl ?_
          obtain ⟨r5, e6, h⟩ := hC h
          refine AW.callVi (As := [iv x1, iv x2, iv x3, iv x4]) (st := []) (Bookings_add_ok e6) cq_X11_270 cr_9_X1_add (Nat.le_trans (by decide) hdd) rfl dX11_booking_40 rfl (Nat.le_of_ble_eq_true rfl) ?_
          exact AW.iret1 rfl dX11_booking_43 h rfl
        · replace h := hT h c4
          refine AW.iconst dX11_booking_29 ?_
          exact AW.iret1 rfl dX11_booking_30 h rfl
theorem Bookings_hire_ok {z : AZ} {x1 : Int} {x2 : Int} {x3 : Int} {g : AG} {r : Int × AG} (h : Bookings_hire x1 x2 x3 g = some r) : AMf z yX1_hire cX1_hire 4 none 0 [rv z 9, iv x1, iv x2, iv x3] g r := by
  intro d hdd
  refine AM.of (by decide +kernel) (Nat.le_of_ble_eq_true rfl) ?_
  show AW z (RX1, cX1_hire, 4, none) d (QD none r) 0 [(0, rv z 9), (1, iv x1), (2, iv x2), (3, iv x3)] [] g
  unfold Bookings_hire at h
  refine AW.aloadr_n 0 dX1_hire_0 rfl ?_
  refine AW.getR af_X1_27_9 sr_9_6 dX1_hire_1 ?_
  refine AW.iload_n 1 dX1_hire_4 rfl ?_
  obtain ⟨k1, h⟩ := hK h
  refine AW.iald kc_90 sk_90 k1 dX1_hire_5 ?_
  refine AW.iload_n 2 dX1_hire_6 rfl ?_
  obtain ⟨r8, e9, h⟩ := hC h
  refine AW.join (tgt := 25) (lv1 := [(0, rv z 9), (1, iv x1), (2, iv x2), (3, iv x3)]) (st1 := []) (g1 := r8) ?_ (fun J7 => ?_)
  · refine AW.aloadr_n 0 dX1_hire_25 rfl ?_
    refine AW.getR af_X1_27_9 sr_9_6 dX1_hire_26 ?_
    refine AW.iload_n 1 dX1_hire_29 rfl ?_
    refine AW.iload_n 2 dX1_hire_30 rfl ?_
    obtain ⟨g10, e11, h⟩ := hBe h
    refine AW.iast kc_90 sk_90 k1 dX1_hire_31 e11 ?_
    refine AW.aloadr_n 0 dX1_hire_32 rfl ?_
    refine AW.getR af_X1_30_9 sr_9_7 dX1_hire_33 ?_
    refine AW.iload_n 1 dX1_hire_36 rfl ?_
    refine AW.iload_n 3 dX1_hire_37 rfl ?_
    obtain ⟨g12, e13, h⟩ := hBe h
    refine AW.iast kc_91 sk_91 k1 dX1_hire_38 e13 ?_
    exact AW.vret1 rfl dX1_hire_39 h rfl
  replace h := e9
  refine AW.icmp_ne (tgt := 20) dX1_hire_7 (by decide) (fun c2 => ?_) (fun c2 => ?_)
  · replace h := hF h c2
    refine AW.aloadr_n 0 dX1_hire_20 rfl ?_
    refine AW.iconst dX1_hire_21 ?_
    obtain ⟨g3, e4, h⟩ := hBe h
    refine AW.putI ap_X1_52_9 sr_9_11 dX1_hire_22 e4 ?_
    cases h
    exact J7
  · replace h := hT h c2
    refine AW.aloadr_n 0 dX1_hire_10 rfl ?_
    refine AW.getR af_X1_30_9 sr_9_7 dX1_hire_11 ?_
    refine AW.iload_n 1 dX1_hire_14 rfl ?_
    refine AW.iald kc_91 sk_91 k1 dX1_hire_15 ?_
    refine AW.iload_n 3 dX1_hire_16 rfl ?_
    refine AW.icmp_eq (tgt := 25) dX1_hire_17 (by decide) (fun c5 => ?_) (fun c5 => ?_)
    · replace h := hT h c5
      cases h
      exact J7
    · replace h := hF h c5
      refine AW.aloadr_n 0 dX1_hire_20 rfl ?_
      refine AW.iconst dX1_hire_21 ?_
      obtain ⟨g6, e7, h⟩ := hBe h
      refine AW.putI ap_X1_52_9 sr_9_11 dX1_hire_22 e7 ?_
      cases h
      exact J7
set_option synthInstance.maxHeartbeats 2000000 in
theorem X_hireFirst_b_ok {z : AZ} {d : Nat} (hdd : 1 ≤ d) {x1 : Int} : ∀ (x2 : Int) (g : AG) (r : Int × AG), X_hireFirst_b x1 x2 g = some r → AW z (RX11, cX11_hireFirst, 3, none) d (QD none r) 2 [(0, rv z 0), (1, iv x1), (2, iv x2)] [] g := by
  refine X_hireFirst_b.partial_correctness x1 (fun x2 g r => AW z (RX11, cX11_hireFirst, 3, none) d (QD none r) 2 [(0, rv z 0), (1, iv x1), (2, iv x2)] [] g) ?_
  intro fb9 ih x2 g r h
  refine AW.iload_n 2 dX11_hireFirst_2 rfl ?_
  refine AW.iload_n 1 dX11_hireFirst_3 rfl ?_
  refine AW.icmp_ge (tgt := 39) dX11_hireFirst_4 (by decide) (fun c1 => ?_) (fun c1 => ?_)
  · replace h := hT h c1
    exact AW.vret1 rfl dX11_hireFirst_39 h rfl
  · replace h := hF h c1
    refine AW.aloadr_n 0 dX11_hireFirst_7 rfl ?_
    refine AW.getR af_X11_72_0 sr_0_8 dX11_hireFirst_8 ?_
    refine AW.iload_n 2 dX11_hireFirst_11 rfl ?_
    refine AW.aloadr_n 0 dX11_hireFirst_12 rfl ?_
    refine AW.getR af_X11_49_0 sr_0_5 dX11_hireFirst_13 ?_
    refine AW.getR af_X11_287_6 sr_6_3 dX11_hireFirst_16 ?_
    refine AW.iload_n 2 dX11_hireFirst_19 rfl ?_
    obtain ⟨k2, h⟩ := hK h
    refine AW.iald kc_48 sk_48 k2 dX11_hireFirst_20 ?_
    refine AW.aloadr_n 0 dX11_hireFirst_21 rfl ?_
    refine AW.getR af_X11_49_0 sr_0_5 dX11_hireFirst_22 ?_
    refine AW.getR af_X11_290_6 sr_6_5 dX11_hireFirst_25 ?_
    refine AW.iload_n 2 dX11_hireFirst_28 rfl ?_
    refine AW.iald kc_50 sk_50 k2 dX11_hireFirst_29 ?_
    obtain ⟨r3, e4, h⟩ := hC h
    refine AW.callVv (As := [iv x2, iv (g 48 (ix x2)), iv (g 50 (ix x2))]) (st := []) (Bookings_hire_ok e4) cq_X11_293 cr_9_X1_hire (Nat.le_trans (by decide) hdd) rfl dX11_hireFirst_30 rfl (Nat.le_of_ble_eq_true rfl) ?_
    refine AW.iinc (lv1 := [(2, iv (x2 + 1)), (0, rv z 0), (1, iv x1)]) 2 dX11_hireFirst_33 rfl (by decide) rfl ?_
    refine AW.goto (tgt := 2) dX11_hireFirst_36 (by decide) ?_
    refine AW.sub (lv1 := [(0, rv z 0), (1, iv x1), (2, iv (x2 + 1))]) [1, 2, 0] rfl ?_
    exact ih _ _ _ h
theorem X_hireFirst_ok {z : AZ} {x1 : Int} {g : AG} {r : Int × AG} (h : X_hireFirst x1 g = some r) : AMf z yX11_hireFirst cX11_hireFirst 3 none 1 [rv z 0, iv x1] g r := by
  intro d hdd
  refine AM.of (by decide +kernel) (Nat.le_of_ble_eq_true rfl) ?_
  show AW z (RX11, cX11_hireFirst, 3, none) d (QD none r) 0 [(0, rv z 0), (1, iv x1)] [] g
  unfold X_hireFirst at h
  refine AW.iconst dX11_hireFirst_0 ?_
  refine AW.istore_n (lv1 := [(2, iv 0), (0, rv z 0), (1, iv x1)]) dX11_hireFirst_1 (by decide) rfl ?_
  refine AW.sub (lv1 := [(0, rv z 0), (1, iv x1), (2, iv 0)]) [1, 2, 0] rfl ?_
  exact X_hireFirst_b_ok hdd _ _ _ h
set_option synthInstance.maxHeartbeats 2000000 in
theorem Bookings_canCome_b_ok {z : AZ} {d : Nat} (hdd : 0 ≤ d) {x2 : Int} {g : AG} : ∀ (tag : Nat) (x3 : Int) (r : Int), Bookings_canCome_b x2 g tag x3 = some r → (tag = 1 → AW z (RX1, cX1_canCome, 4, (some .boolean)) d (QD (some .boolean) (r, g)) 19 [(0, rv z 9), (2, iv x2), (3, iv x3)] [] g) ∧ (tag = 2 → AW z (RX1, cX1_canCome, 4, (some .boolean)) d (QD (some .boolean) (r, g)) 59 [(0, rv z 9), (2, iv x2), (3, iv x3)] [] g) := by
  refine Bookings_canCome_b.partial_correctness x2 g (fun tag x3 r => (tag = 1 → AW z (RX1, cX1_canCome, 4, (some .boolean)) d (QD (some .boolean) (r, g)) 19 [(0, rv z 9), (2, iv x2), (3, iv x3)] [] g) ∧ (tag = 2 → AW z (RX1, cX1_canCome, 4, (some .boolean)) d (QD (some .boolean) (r, g)) 59 [(0, rv z 9), (2, iv x2), (3, iv x3)] [] g)) ?_
  intro fb9 ih tag x3 r h
  refine ⟨fun h9 => ?_, fun h9 => ?_⟩
  · subst h9
    replace h := hT h rfl
    refine AW.iload_n 2 dX1_canCome_19 rfl ?_
    refine AW.aloadr_n 0 dX1_canCome_20 rfl ?_
    refine AW.getI af_X1_48_9 sr_9_4 dX1_canCome_21 ?_
    refine AW.icmp_ge (tgt := 65) dX1_canCome_24 (by decide) (fun c1 => ?_) (fun c1 => ?_)
    · replace h := hT h c1
      refine AW.iconst dX1_canCome_65 ?_
      exact AW.zret2 rfl (Or.inl rfl) dX1_canCome_66 h rfl
    · replace h := hF h c1
      refine AW.aloadr_n 0 dX1_canCome_27 rfl ?_
      refine AW.getR af_X1_18_9 sr_9_2 dX1_canCome_28 ?_
      refine AW.iload_n 2 dX1_canCome_31 rfl ?_
      obtain ⟨k2, h⟩ := hK h
      refine AW.iald kc_87 sk_87 k2 dX1_canCome_32 ?_
      refine AW.aloadr_n 0 dX1_canCome_33 rfl ?_
      refine AW.getR af_X1_18_9 sr_9_2 dX1_canCome_34 ?_
      refine AW.iload_n 1 dX1_canCome_37 rfl ?_
      obtain ⟨k3, h⟩ := hK h
      refine AW.iald kc_87 sk_87 k3 dX1_canCome_38 ?_
      refine AW.icmp_ge (tgt := 59) dX1_canCome_39 (by decide) (fun c4 => ?_) (fun c4 => ?_)
      · replace h := hT h c4
        exact (ih _ _ _ h).2 rfl
      · replace h := hF h c4
        refine AW.aloadr_n 0 dX1_canCome_42 rfl ?_
        refine AW.getR af_X1_15_9 sr_9_1 dX1_canCome_43 ?_
        refine AW.iload_n 2 dX1_canCome_46 rfl ?_
        refine AW.iald kc_86 sk_86 k2 dX1_canCome_47 ?_
        refine AW.aloadr_n 0 dX1_canCome_48 rfl ?_
        refine AW.getR af_X1_9_9 sr_9_0 dX1_canCome_49 ?_
        refine AW.iload_n 1 dX1_canCome_52 rfl ?_
        refine AW.iald kc_85 sk_85 k3 dX1_canCome_53 ?_
        refine AW.icmp_ne (tgt := 59) dX1_canCome_54 (by decide) (fun c5 => ?_) (fun c5 => ?_)
        · replace h := hF h c5
          exact (ih _ _ _ h).2 rfl
        · replace h := hT h c5
          refine AW.iconst dX1_canCome_57 ?_
          exact AW.zret2 rfl (Or.inr rfl) dX1_canCome_58 h rfl
  · subst h9
    replace h := hF h (by decide)
    replace h := hT h rfl
    refine AW.iinc (lv1 := [(3, iv (x3 + 1)), (0, rv z 9), (2, iv x2)]) 2 dX1_canCome_59 rfl (by decide) rfl ?_
    refine AW.goto (tgt := 19) dX1_canCome_62 (by decide) ?_
    refine AW.sub (lv1 := [(0, rv z 9), (2, iv x2), (3, iv (x3 + 1))]) [1, 2, 0] rfl ?_
    exact (ih _ _ _ h).1 rfl
theorem Bookings_canCome_ok {z : AZ} {x1 : Int} {x2 : Int} {g : AG} {r : Int} (h : Bookings_canCome x1 x2 g = some r) : AMf z yX1_canCome cX1_canCome 4 (some .boolean) 0 [rv z 9, iv x1, iv x2] g (r, g) := by
  intro d hdd
  refine AM.of (by decide +kernel) (Nat.le_of_ble_eq_true rfl) ?_
  show AW z (RX1, cX1_canCome, 4, (some .boolean)) d (QD (some .boolean) (r, g)) 0 [(0, rv z 9), (1, iv x1), (2, iv x2)] [] g
  unfold Bookings_canCome at h
  refine AW.aloadr_n 0 dX1_canCome_0 rfl ?_
  refine AW.getR af_X1_30_9 sr_9_7 dX1_canCome_1 ?_
  refine AW.iload_n 1 dX1_canCome_4 rfl ?_
  obtain ⟨k1, h⟩ := hK h
  refine AW.iald kc_91 sk_91 k1 dX1_canCome_5 ?_
  refine AW.aloadr_n 0 dX1_canCome_6 rfl ?_
  refine AW.getR af_X1_9_9 sr_9_0 dX1_canCome_7 ?_
  refine AW.iload_n 2 dX1_canCome_10 rfl ?_
  obtain ⟨k2, h⟩ := hK h
  refine AW.iald kc_85 sk_85 k2 dX1_canCome_11 ?_
  refine AW.icmp_ne (tgt := 17) dX1_canCome_12 (by decide) (fun c3 => ?_) (fun c3 => ?_)
  · replace h := hF h c3
    refine AW.iconst dX1_canCome_17 ?_
    refine AW.istore_n (lv1 := [(3, iv 0), (0, rv z 9), (1, iv x1), (2, iv x2)]) dX1_canCome_18 (by decide) rfl ?_
    refine AW.sub (lv1 := [(0, rv z 9), (2, iv x2), (3, iv 0)]) [1, 3, 0] rfl ?_
    exact (Bookings_canCome_b_ok hdd _ _ _ h).1 rfl
  · replace h := hT h c3
    refine AW.iconst dX1_canCome_15 ?_
    exact AW.zret2 rfl (Or.inr rfl) dX1_canCome_16 h rfl
set_option synthInstance.maxHeartbeats 2000000 in
theorem Bookings_canEverBeGiven_b_ok {z : AZ} {d : Nat} (hdd : 1 ≤ d) {x1 : Int} {g : AG} : ∀ (tag : Nat) (x2 : Int) (r : Int), Bookings_canEverBeGiven_b x1 g tag x2 = some r → (tag = 1 → AW z (RX1, cX1_canEverBeGiven, 3, (some .boolean)) d (QD (some .boolean) (r, g)) 2 [(0, rv z 9), (1, iv x1), (2, iv x2)] [] g) ∧ (tag = 2 → AW z (RX1, cX1_canEverBeGiven, 3, (some .boolean)) d (QD (some .boolean) (r, g)) 36 [(0, rv z 9), (1, iv x1), (2, iv x2)] [] g) := by
  refine Bookings_canEverBeGiven_b.partial_correctness x1 g (fun tag x2 r => (tag = 1 → AW z (RX1, cX1_canEverBeGiven, 3, (some .boolean)) d (QD (some .boolean) (r, g)) 2 [(0, rv z 9), (1, iv x1), (2, iv x2)] [] g) ∧ (tag = 2 → AW z (RX1, cX1_canEverBeGiven, 3, (some .boolean)) d (QD (some .boolean) (r, g)) 36 [(0, rv z 9), (1, iv x1), (2, iv x2)] [] g)) ?_
  intro fb9 ih tag x2 r h
  refine ⟨fun h9 => ?_, fun h9 => ?_⟩
  · subst h9
    replace h := hT h rfl
    refine AW.iload_n 2 dX1_canEverBeGiven_2 rfl ?_
    refine AW.aloadr_n 0 dX1_canEverBeGiven_3 rfl ?_
    refine AW.getI af_X1_64_9 sr_9_10 dX1_canEverBeGiven_4 ?_
    refine AW.icmp_ge (tgt := 42) dX1_canEverBeGiven_7 (by decide) (fun c1 => ?_) (fun c1 => ?_)
    · replace h := hT h c1
      refine AW.iconst dX1_canEverBeGiven_42 ?_
      exact AW.zret2 rfl (Or.inl rfl) dX1_canEverBeGiven_43 h rfl
    · replace h := hF h c1
      refine AW.aloadr_n 0 dX1_canEverBeGiven_10 rfl ?_
      refine AW.getR af_X1_27_9 sr_9_6 dX1_canEverBeGiven_11 ?_
      refine AW.iload_n 2 dX1_canEverBeGiven_14 rfl ?_
      obtain ⟨k2, h⟩ := hK h
      refine AW.iald kc_90 sk_90 k2 dX1_canEverBeGiven_15 ?_
      refine AW.aloadr_n 0 dX1_canEverBeGiven_16 rfl ?_
      refine AW.getR af_X1_21_9 sr_9_3 dX1_canEverBeGiven_17 ?_
      refine AW.iload_n 1 dX1_canEverBeGiven_20 rfl ?_
      obtain ⟨k3, h⟩ := hK h
      refine AW.iald kc_88 sk_88 k3 dX1_canEverBeGiven_21 ?_
      refine AW.icmp_lt (tgt := 36) dX1_canEverBeGiven_22 (by decide) (fun c4 => ?_) (fun c4 => ?_)
      · replace h := hT h c4
        exact (ih _ _ _ h).2 rfl
      · replace h := hF h c4
        refine AW.aloadr_n 0 dX1_canEverBeGiven_25 rfl ?_
        refine AW.iload_n 2 dX1_canEverBeGiven_26 rfl ?_
        refine AW.iload_n 1 dX1_canEverBeGiven_27 rfl ?_
        obtain ⟨r5, e6, h⟩ := hC h
        refine AW.callVi (As := [iv x2, iv x1]) (st := []) (Bookings_canCome_ok e6) cq_X1_81 cr_9_X1_canCome (Nat.le_trans (by decide) hdd) rfl dX1_canEverBeGiven_28 rfl (Nat.le_of_ble_eq_true rfl) ?_
        refine AW.if_eq (tgt := 36) dX1_canEverBeGiven_31 (by decide) (fun c7 => ?_) (fun c7 => ?_)
        · replace h := hT h c7
          exact (ih _ _ _ h).2 rfl
        · replace h := hF h c7
          refine AW.iconst dX1_canEverBeGiven_34 ?_
          exact AW.zret2 rfl (Or.inr rfl) dX1_canEverBeGiven_35 h rfl
  · subst h9
    replace h := hF h (by decide)
    replace h := hT h rfl
    refine AW.iinc (lv1 := [(2, iv (x2 + 1)), (0, rv z 9), (1, iv x1)]) 2 dX1_canEverBeGiven_36 rfl (by decide) rfl ?_
    refine AW.goto (tgt := 2) dX1_canEverBeGiven_39 (by decide) ?_
    refine AW.sub (lv1 := [(0, rv z 9), (1, iv x1), (2, iv (x2 + 1))]) [1, 2, 0] rfl ?_
    exact (ih _ _ _ h).1 rfl
theorem Bookings_canEverBeGiven_ok {z : AZ} {x1 : Int} {g : AG} {r : Int} (h : Bookings_canEverBeGiven x1 g = some r) : AMf z yX1_canEverBeGiven cX1_canEverBeGiven 3 (some .boolean) 1 [rv z 9, iv x1] g (r, g) := by
  intro d hdd
  refine AM.of (by decide +kernel) (Nat.le_of_ble_eq_true rfl) ?_
  show AW z (RX1, cX1_canEverBeGiven, 3, (some .boolean)) d (QD (some .boolean) (r, g)) 0 [(0, rv z 9), (1, iv x1)] [] g
  unfold Bookings_canEverBeGiven at h
  refine AW.iconst dX1_canEverBeGiven_0 ?_
  refine AW.istore_n (lv1 := [(2, iv 0), (0, rv z 9), (1, iv x1)]) dX1_canEverBeGiven_1 (by decide) rfl ?_
  refine AW.sub (lv1 := [(0, rv z 9), (1, iv x1), (2, iv 0)]) [1, 2, 0] rfl ?_
  exact (Bookings_canEverBeGiven_b_ok hdd _ _ _ h).1 rfl
set_option synthInstance.maxHeartbeats 2000000 in
theorem Bookings_compare_b_ok {z : AZ} {d : Nat} (hdd : 1 ≤ d) {x1 : Int} {g : AG} : ∀ (x2 : Int) (x3 : Int) (r : Int × AG), Bookings_compare_b x1 g x2 x3 = some r → AW z (RX1, cX1_compare, 4, none) d (QD none r) 4 [(0, rv z 9), (1, iv x1), (2, iv x2), (3, iv x3)] [] g := by
  refine Bookings_compare_b.partial_correctness x1 g (fun x2 x3 r => AW z (RX1, cX1_compare, 4, none) d (QD none r) 4 [(0, rv z 9), (1, iv x1), (2, iv x2), (3, iv x3)] [] g) ?_
  intro fb9 ih x2 x3 r h
  refine AW.iload_n 3 dX1_compare_4 rfl ?_
  refine AW.aloadr_n 0 dX1_compare_5 rfl ?_
  refine AW.getI af_X1_64_9 sr_9_10 dX1_compare_6 ?_
  refine AW.icmp_ge (tgt := 41) dX1_compare_9 (by decide) (fun c1 => ?_) (fun c1 => ?_)
  · replace h := hT h c1
    refine AW.iload_n 1 dX1_compare_41 rfl ?_
    refine AW.aloadr_n 0 dX1_compare_42 rfl ?_
    refine AW.getI af_X1_67_9 sr_9_15 dX1_compare_43 ?_
    obtain ⟨r19, e20, h⟩ := hC h
    refine AW.join (tgt := 92) (lv1 := []) (st1 := []) (g1 := r19) ?_ (fun J46 => ?_)
    · exact AW.vret1 rfl dX1_compare_92 h rfl
    replace h := e20
    refine AW.icmp_gt (tgt := 65) dX1_compare_46 (by decide) (fun c2 => ?_) (fun c2 => ?_)
    · replace h := hT h c2
      refine AW.aloadr_n 0 dX1_compare_65 rfl ?_
      refine AW.iload_n 1 dX1_compare_66 rfl ?_
      obtain ⟨g3, e4, h⟩ := hBe h
      refine AW.putI ap_X1_67_9 sr_9_15 dX1_compare_67 e4 ?_
      refine AW.aloadr_n 0 dX1_compare_70 rfl ?_
      refine AW.iload_n 2 dX1_compare_71 rfl ?_
      obtain ⟨g5, e6, h⟩ := hBe h
      refine AW.putI ap_X1_70_9 sr_9_16 dX1_compare_72 e6 ?_
      refine AW.aloadr_n 0 dX1_compare_75 rfl ?_
      refine AW.getR af_X1_42_9 sr_9_13 dX1_compare_76 ?_
      refine AW.iconst dX1_compare_79 ?_
      refine AW.aloadr_n 0 dX1_compare_80 rfl ?_
      refine AW.getR af_X1_45_9 sr_9_14 dX1_compare_81 ?_
      refine AW.iconst dX1_compare_84 ?_
      refine AW.aloadr_n 0 dX1_compare_85 rfl ?_
      refine AW.getI af_X1_48_9 sr_9_4 dX1_compare_86 ?_
      obtain ⟨k7, h⟩ := hK h
      obtain ⟨g8, e9, h⟩ := hBe h
      refine AW.copyi cc_X1_92 ac_n ac_s ac_i kc_95 sk_95 kc_96 sk_96 ⟨by decide, by decide, k7.2.2.1, k7.2.2.2.1, k7.2.2.2.2⟩ (Nat.le_of_ble_eq_true rfl) (Nat.le_trans (by decide) hdd) dX1_compare_89 e9 ?_
      refine AW.sub (lv1 := []) [] rfl ?_
      cases h
      exact J46
    · replace h := hF h c2
      refine AW.iload_n 1 dX1_compare_49 rfl ?_
      refine AW.aloadr_n 0 dX1_compare_50 rfl ?_
      refine AW.getI af_X1_67_9 sr_9_15 dX1_compare_51 ?_
      refine AW.icmp_ne (tgt := 92) dX1_compare_54 (by decide) (fun c10 => ?_) (fun c10 => ?_)
      · replace h := hF h c10
        refine AW.sub (lv1 := []) [] rfl ?_
        cases h
        exact J46
      · replace h := hT h c10
        refine AW.iload_n 2 dX1_compare_57 rfl ?_
        refine AW.aloadr_n 0 dX1_compare_58 rfl ?_
        refine AW.getI af_X1_70_9 sr_9_16 dX1_compare_59 ?_
        refine AW.icmp_le (tgt := 92) dX1_compare_62 (by decide) (fun c11 => ?_) (fun c11 => ?_)
        · replace h := hT h c11
          refine AW.sub (lv1 := []) [] rfl ?_
          cases h
          exact J46
        · replace h := hF h c11
          refine AW.aloadr_n 0 dX1_compare_65 rfl ?_
          refine AW.iload_n 1 dX1_compare_66 rfl ?_
          obtain ⟨g12, e13, h⟩ := hBe h
          refine AW.putI ap_X1_67_9 sr_9_15 dX1_compare_67 e13 ?_
          refine AW.aloadr_n 0 dX1_compare_70 rfl ?_
          refine AW.iload_n 2 dX1_compare_71 rfl ?_
          obtain ⟨g14, e15, h⟩ := hBe h
          refine AW.putI ap_X1_70_9 sr_9_16 dX1_compare_72 e15 ?_
          refine AW.aloadr_n 0 dX1_compare_75 rfl ?_
          refine AW.getR af_X1_42_9 sr_9_13 dX1_compare_76 ?_
          refine AW.iconst dX1_compare_79 ?_
          refine AW.aloadr_n 0 dX1_compare_80 rfl ?_
          refine AW.getR af_X1_45_9 sr_9_14 dX1_compare_81 ?_
          refine AW.iconst dX1_compare_84 ?_
          refine AW.aloadr_n 0 dX1_compare_85 rfl ?_
          refine AW.getI af_X1_48_9 sr_9_4 dX1_compare_86 ?_
          obtain ⟨k16, h⟩ := hK h
          obtain ⟨g17, e18, h⟩ := hBe h
          refine AW.copyi cc_X1_92 ac_n ac_s ac_i kc_95 sk_95 kc_96 sk_96 ⟨by decide, by decide, k16.2.2.1, k16.2.2.2.1, k16.2.2.2.2⟩ (Nat.le_of_ble_eq_true rfl) (Nat.le_trans (by decide) hdd) dX1_compare_89 e18 ?_
          refine AW.sub (lv1 := []) [] rfl ?_
          cases h
          exact J46
  · replace h := hF h c1
    refine AW.iload_n 2 dX1_compare_12 rfl ?_
    refine AW.aloadr_n 0 dX1_compare_13 rfl ?_
    refine AW.getR af_X1_33_9 sr_9_8 dX1_compare_14 ?_
    refine AW.iload_n 3 dX1_compare_17 rfl ?_
    obtain ⟨k21, h⟩ := hK h
    refine AW.iald kc_92 sk_92 k21 dX1_compare_18 ?_
    refine AW.aloadr_n 0 dX1_compare_19 rfl ?_
    refine AW.getR af_X1_30_9 sr_9_7 dX1_compare_20 ?_
    refine AW.iload_n 3 dX1_compare_23 rfl ?_
    refine AW.iald kc_91 sk_91 k21 dX1_compare_24 ?_
    obtain ⟨t22, e23, h⟩ := hBe h
    refine AW.join (tgt := 33) (lv1 := [(0, rv z 9), (1, iv x1), (2, iv x2), (3, iv x3)]) (st1 := [iv t22, iv x2]) (g1 := g) ?_ (fun J25 => ?_)
    · refine AW.iadd dX1_compare_33 ?_
      refine AW.istore_n (lv1 := [(2, iv (x2 + t22)), (0, rv z 9), (1, iv x1), (3, iv x3)]) dX1_compare_34 (by decide) rfl ?_
      refine AW.iinc (lv1 := [(3, iv (x3 + 1)), (2, iv (x2 + t22)), (0, rv z 9), (1, iv x1)]) 3 dX1_compare_35 rfl (by decide) rfl ?_
      refine AW.goto (tgt := 4) dX1_compare_38 (by decide) ?_
      refine AW.sub (lv1 := [(0, rv z 9), (1, iv x1), (2, iv (x2 + t22)), (3, iv (x3 + 1))]) [2, 3, 1, 0] rfl ?_
      exact ih _ _ _ h
    refine AW.icmp_ne (tgt := 32) dX1_compare_25 (by decide) (fun c24 => ?_) (fun c24 => ?_)
    · refine AW.iconst dX1_compare_32 ?_
      exact AW.val (e23.trans (if_neg c24)) J25
    · refine AW.iconst dX1_compare_28 ?_
      refine AW.goto (tgt := 33) dX1_compare_29 (by decide) ?_
      exact AW.val (e23.trans (if_pos c24)) J25
theorem Bookings_compare_ok {z : AZ} {x1 : Int} {g : AG} {r : Int × AG} (h : Bookings_compare x1 g = some r) : AMf z yX1_compare cX1_compare 4 none 1 [rv z 9, iv x1] g r := by
  intro d hdd
  refine AM.of (by decide +kernel) (Nat.le_of_ble_eq_true rfl) ?_
  show AW z (RX1, cX1_compare, 4, none) d (QD none r) 0 [(0, rv z 9), (1, iv x1)] [] g
  unfold Bookings_compare at h
  refine AW.iconst dX1_compare_0 ?_
  refine AW.istore_n (lv1 := [(2, iv 0), (0, rv z 9), (1, iv x1)]) dX1_compare_1 (by decide) rfl ?_
  refine AW.iconst dX1_compare_2 ?_
  refine AW.istore_n (lv1 := [(3, iv 0), (2, iv 0), (0, rv z 9), (1, iv x1)]) dX1_compare_3 (by decide) rfl ?_
  refine AW.sub (lv1 := [(0, rv z 9), (1, iv x1), (2, iv 0), (3, iv 0)]) [2, 3, 1, 0] rfl ?_
  exact Bookings_compare_b_ok hdd _ _ _ h
