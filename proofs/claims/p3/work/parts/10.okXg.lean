set_option synthInstance.maxHeartbeats 2000000 in
theorem X_turned_b_ok {z : AZ} {d : Nat} (hdd : 13 ≤ d) {tag : Nat} {x1 : Int} {x2 : Int} {g : AG} : ∀ (r : Int × AG), X_turned_b tag x1 x2 g = some r → (tag = 1 → AW z (RX11, cX11_turned, 3, (some .int)) d (QD (some .int) r) 20 [(0, rv z 0), (1, iv x1), (2, iv x2)] [] g) ∧ (tag = 2 → AW z (RX11, cX11_turned, 3, (some .int)) d (QD (some .int) r) 77 [(0, rv z 0), (1, iv x1), (2, iv x2)] [] g) := by
  intro r h
  unfold X_turned_b at h
  refine ⟨fun h9 => ?_, fun h9 => ?_⟩
  · subst h9
    replace h := hT h rfl
    refine AW.aloadr_n 0 dX11_turned_20 rfl ?_
    refine AW.getR af_X11_79_0 sr_0_9 dX11_turned_21 ?_
    refine AW.iload_n 1 dX11_turned_24 rfl ?_
    obtain ⟨r1, e2, h⟩ := hC h
    refine AW.callVv (As := [iv x1]) (st := []) (Yard_workInOrder_ok e2) cq_X11_320 cr_10_X10_workInOrder (Nat.le_trans (by decide) hdd) rfl dX11_turned_25 rfl (Nat.le_of_ble_eq_true rfl) ?_
    refine AW.iload_n 2 dX11_turned_28 rfl ?_
    obtain ⟨t3, e4, h⟩ := hBe h
    refine AW.join (tgt := 49) (lv1 := [(0, rv z 0), (1, iv x1), (2, iv x2)]) (st1 := [iv t3]) (g1 := r1.2) ?_ (fun J29 => ?_)
    · exact AW.iret1 rfl dX11_turned_49 h rfl
    refine AW.if_ne (tgt := 42) dX11_turned_29 (by decide) (fun c5 => ?_) (fun c5 => ?_)
    · refine AW.aloadr_n 0 dX11_turned_42 rfl ?_
      refine AW.getR af_X11_79_0 sr_0_9 dX11_turned_43 ?_
      refine AW.getI af_X11_326_10 sr_10_14 dX11_turned_46 ?_
      exact AW.val (e4.trans (if_neg c5)) J29
    · refine AW.aloadr_n 0 dX11_turned_32 rfl ?_
      refine AW.getR af_X11_79_0 sr_0_9 dX11_turned_33 ?_
      refine AW.getI af_X11_323_10 sr_10_13 dX11_turned_36 ?_
      refine AW.goto (tgt := 49) dX11_turned_39 (by decide) ?_
      exact AW.val (e4.trans (if_pos c5)) J29
  · subst h9
    replace h := hF h (by decide)
    replace h := hT h rfl
    refine AW.aloadr_n 0 dX11_turned_77 rfl ?_
    refine AW.getR af_X11_79_0 sr_0_9 dX11_turned_78 ?_
    refine AW.iload_n 1 dX11_turned_81 rfl ?_
    obtain ⟨r1, e2, h⟩ := hC h
    refine AW.callVv (As := [iv x1]) (st := []) (Yard_shareBest_ok e2) cq_X11_329 cr_10_X10_shareBest (Nat.le_trans (by decide) hdd) rfl dX11_turned_82 rfl (Nat.le_of_ble_eq_true rfl) ?_
    refine AW.iload_n 2 dX11_turned_85 rfl ?_
    refine AW.iconst dX11_turned_86 ?_
    obtain ⟨r5, e6, h⟩ := hC h
    refine AW.join (tgt := 112) (lv1 := []) (st1 := [iv r5.1]) (g1 := r5.2) ?_ (fun J87 => ?_)
    · exact AW.iret1 rfl dX11_turned_112 h rfl
    replace h := e6
    refine AW.icmp_ne (tgt := 100) dX11_turned_87 (by decide) (fun c3 => ?_) (fun c3 => ?_)
    · replace h := hF h c3
      refine AW.aloadr_n 0 dX11_turned_100 rfl ?_
      refine AW.getR af_X11_79_0 sr_0_9 dX11_turned_101 ?_
      refine AW.getR af_X11_335_10 sr_10_11 dX11_turned_104 ?_
      refine AW.iload_n 2 dX11_turned_107 rfl ?_
      refine AW.bipush dX11_turned_108 (by decide) (by decide) ?_
      refine AW.isub dX11_turned_110 ?_
      obtain ⟨k4, h⟩ := hK h
      refine AW.iald kc_106 sk_106 k4 dX11_turned_111 ?_
      refine AW.sub (lv1 := []) [] rfl ?_
      cases h
      exact J87
    · replace h := hT h c3
      refine AW.aloadr_n 0 dX11_turned_90 rfl ?_
      refine AW.getR af_X11_79_0 sr_0_9 dX11_turned_91 ?_
      refine AW.getI af_X11_332_10 sr_10_12 dX11_turned_94 ?_
      refine AW.goto (tgt := 112) dX11_turned_97 (by decide) ?_
      refine AW.sub (lv1 := []) [] rfl ?_
      cases h
      exact J87
theorem X_turned_ok {z : AZ} {x1 : Int} {x2 : Int} {g : AG} {r : Int × AG} (h : X_turned x1 x2 g = some r) : AMf z yX11_turned cX11_turned 3 (some .int) 13 [rv z 0, iv x1, iv x2] g r := by
  intro d hdd
  refine AM.of (by decide +kernel) (Nat.le_of_ble_eq_true rfl) ?_
  show AW z (RX11, cX11_turned, 3, (some .int)) d (QD (some .int) r) 0 [(0, rv z 0), (1, iv x1), (2, iv x2)] [] g
  unfold X_turned at h
  refine AW.iload_n 1 dX11_turned_0 rfl ?_
  refine AW.iconst dX11_turned_1 ?_
  refine AW.iconst dX11_turned_2 ?_
  refine AW.callSi (As := [iv x1, iv 1, iv 3]) (st := []) X_within_ok cq_X11_99 st_X11_within (Nat.le_trans (by decide) hdd) rfl dX11_turned_3 rfl (Nat.le_of_ble_eq_true rfl) ?_
  refine AW.if_ne (tgt := 11) dX11_turned_6 (by decide) (fun c1 => ?_) (fun c1 => ?_)
  · replace h := hF h c1
    refine AW.iload_n 2 dX11_turned_11 rfl ?_
    refine AW.if_eq (tgt := 20) dX11_turned_12 (by decide) (fun c2 => ?_) (fun c2 => ?_)
    · replace h := hT h c2
      exact (X_turned_b_ok hdd _ h).1 rfl
    · replace h := hF h c2
      refine AW.iload_n 2 dX11_turned_15 rfl ?_
      refine AW.iconst dX11_turned_16 ?_
      refine AW.icmp_ne (tgt := 50) dX11_turned_17 (by decide) (fun c3 => ?_) (fun c3 => ?_)
      · replace h := hF h c3
        refine AW.iload_n 2 dX11_turned_50 rfl ?_
        refine AW.iconst dX11_turned_51 ?_
        refine AW.icmp_eq (tgt := 77) dX11_turned_52 (by decide) (fun c4 => ?_) (fun c4 => ?_)
        · replace h := hT h c4
          exact (X_turned_b_ok hdd _ h).2 rfl
        · replace h := hF h c4
          refine AW.iload_n 2 dX11_turned_55 rfl ?_
          refine AW.bipush dX11_turned_56 (by decide) (by decide) ?_
          refine AW.icmp_lt (tgt := 75) dX11_turned_58 (by decide) (fun c5 => ?_) (fun c5 => ?_)
          · replace h := hT h c5
            refine AW.iconst dX11_turned_75 ?_
            exact AW.iret1 rfl dX11_turned_76 h rfl
          · replace h := hF h c5
            refine AW.iload_n 2 dX11_turned_61 rfl ?_
            refine AW.bipush dX11_turned_62 (by decide) (by decide) ?_
            refine AW.isub dX11_turned_64 ?_
            refine AW.aloadr_n 0 dX11_turned_65 rfl ?_
            refine AW.getR af_X11_79_0 sr_0_9 dX11_turned_66 ?_
            refine AW.getI af_X11_314_10 sr_10_7 dX11_turned_69 ?_
            refine AW.icmp_lt (tgt := 77) dX11_turned_72 (by decide) (fun c6 => ?_) (fun c6 => ?_)
            · replace h := hT h c6
              exact (X_turned_b_ok hdd _ h).2 rfl
            · replace h := hF h c6
              refine AW.iconst dX11_turned_75 ?_
              exact AW.iret1 rfl dX11_turned_76 h rfl
      · replace h := hT h c3
        exact (X_turned_b_ok hdd _ h).1 rfl
  · replace h := hT h c1
    refine AW.iconst dX11_turned_9 ?_
    exact AW.iret1 rfl dX11_turned_10 h rfl
theorem X_weight_ok {z : AZ} {x1 : Int} {x2 : Int} {g : AG} {r : Int × AG} (h : X_weight x1 x2 g = some r) : AMf z yX11_weight cX11_weight 3 (some .boolean) 2 [rv z 0, iv x1, iv x2] g r := by
  intro d hdd
  refine AM.of (by decide +kernel) (Nat.le_of_ble_eq_true rfl) ?_
  show AW z (RX11, cX11_weight, 3, (some .boolean)) d (QD (some .boolean) r) 0 [(0, rv z 0), (1, iv x1), (2, iv x2)] [] g
  unfold X_weight at h
  refine AW.iload_n 1 dX11_weight_0 rfl ?_
  refine AW.callSi (As := [iv x1]) (st := []) X_isPoint_ok cq_X11_111 st_X11_isPoint (Nat.le_trans (by decide) hdd) rfl dX11_weight_1 rfl (Nat.le_of_ble_eq_true rfl) ?_
  refine AW.if_eq (tgt := 17) dX11_weight_4 (by decide) (fun c1 => ?_) (fun c1 => ?_)
  · replace h := hT h c1
    refine AW.iconst dX11_weight_17 ?_
    exact AW.zret1 rfl (Or.inl rfl) dX11_weight_18 h rfl
  · replace h := hF h c1
    refine AW.iload_n 2 dX11_weight_7 rfl ?_
    refine AW.iconst dX11_weight_8 ?_
    refine AW.bipush dX11_weight_9 (by decide) (by decide) ?_
    refine AW.callSi (As := [iv x2, iv 0, iv 99]) (st := []) X_within_ok cq_X11_99 st_X11_within (Nat.le_trans (by decide) hdd) rfl dX11_weight_11 rfl (Nat.le_of_ble_eq_true rfl) ?_
    refine AW.if_ne (tgt := 19) dX11_weight_14 (by decide) (fun c2 => ?_) (fun c2 => ?_)
    · replace h := hF h c2
      refine AW.aloadr_n 0 dX11_weight_19 rfl ?_
      refine AW.getR af_X11_88_0 sr_0_10 dX11_weight_20 ?_
      refine AW.getR af_X11_338_11 sr_11_1 dX11_weight_23 ?_
      refine AW.iload_n 1 dX11_weight_26 rfl ?_
      refine AW.iload_n 2 dX11_weight_27 rfl ?_
      obtain ⟨k3, h⟩ := hK h
      obtain ⟨g4, e5, h⟩ := hBe h
      refine AW.iast kc_107 sk_107 k3 dX11_weight_28 e5 ?_
      refine AW.iconst dX11_weight_29 ?_
      exact AW.zret1 rfl (Or.inr rfl) dX11_weight_30 h rfl
    · replace h := hT h c2
      refine AW.iconst dX11_weight_17 ?_
      exact AW.zret1 rfl (Or.inl rfl) dX11_weight_18 h rfl
set_option synthInstance.maxHeartbeats 2000000 in
theorem Vans_measure_b_ok {z : AZ} {d : Nat} (hdd : 0 ≤ d) : ∀ (x1 : Int) (g : AG) (r : Int × AG), Vans_measure_b x1 g = some r → AW z (RX8, cX8_measure, 2, none) d (QD none r) 2 [(0, rv z 11), (1, iv x1)] [] g := by
  refine Vans_measure_b.partial_correctness (fun x1 g r => AW z (RX8, cX8_measure, 2, none) d (QD none r) 2 [(0, rv z 11), (1, iv x1)] [] g) ?_
  intro fb9 ih x1 g r h
  refine AW.iload_n 1 dX8_measure_2 rfl ?_
  refine AW.bipush dX8_measure_3 (by decide) (by decide) ?_
  refine AW.icmp_ge (tgt := 38) dX8_measure_5 (by decide) (fun c1 => ?_) (fun c1 => ?_)
  · replace h := hT h c1
    exact AW.vret1 rfl dX8_measure_38 h rfl
  · replace h := hF h c1
    refine AW.aloadr_n 0 dX8_measure_8 rfl ?_
    refine AW.getR af_X8_15_11 sr_11_2 dX8_measure_9 ?_
    refine AW.iload_n 1 dX8_measure_12 rfl ?_
    refine AW.iconst dX8_measure_13 ?_
    refine AW.iadd dX8_measure_14 ?_
    refine AW.aloadr_n 0 dX8_measure_15 rfl ?_
    refine AW.getR af_X8_15_11 sr_11_2 dX8_measure_16 ?_
    refine AW.iload_n 1 dX8_measure_19 rfl ?_
    obtain ⟨k2, h⟩ := hK h
    refine AW.iald kc_108 sk_108 k2 dX8_measure_20 ?_
    refine AW.aloadr_n 0 dX8_measure_21 rfl ?_
    refine AW.getR af_X8_36_11 sr_11_0 dX8_measure_22 ?_
    refine AW.getR af_X8_40_1 sr_1_2 dX8_measure_25 ?_
    refine AW.iload_n 1 dX8_measure_28 rfl ?_
    obtain ⟨k3, h⟩ := hK h
    refine AW.iald kc_15 sk_15 k3 dX8_measure_29 ?_
    refine AW.iadd dX8_measure_30 ?_
    obtain ⟨k4, h⟩ := hK h
    obtain ⟨g5, e6, h⟩ := hBe h
    refine AW.iast kc_108 sk_108 k4 dX8_measure_31 e6 ?_
    refine AW.iinc (lv1 := [(1, iv (x1 + 1)), (0, rv z 11)]) 1 dX8_measure_32 rfl (by decide) rfl ?_
    refine AW.goto (tgt := 2) dX8_measure_35 (by decide) ?_
    refine AW.sub (lv1 := [(0, rv z 11), (1, iv (x1 + 1))]) [1, 0] rfl ?_
    exact ih _ _ _ h
theorem Vans_measure_ok {z : AZ} {g : AG} {r : Int × AG} (h : Vans_measure g = some r) : AMf z yX8_measure cX8_measure 2 none 0 [rv z 11] g r := by
  intro d hdd
  refine AM.of (by decide +kernel) (Nat.le_of_ble_eq_true rfl) ?_
  show AW z (RX8, cX8_measure, 2, none) d (QD none r) 0 [(0, rv z 11)] [] g
  unfold Vans_measure at h
  refine AW.iconst dX8_measure_0 ?_
  refine AW.istore_n (lv1 := [(1, iv 0), (0, rv z 11)]) dX8_measure_1 (by decide) rfl ?_
  refine AW.sub (lv1 := [(0, rv z 11), (1, iv 0)]) [1, 0] rfl ?_
  exact Vans_measure_b_ok hdd _ _ _ h
theorem Vans_minutes_ok {z : AZ} {x1 : Int} {x2 : Int} {g : AG} {r : Int} (h : Vans_minutes x1 x2 g = some r) : AMf z yX8_minutes cX8_minutes 3 (some .int) 1 [rv z 11, iv x1, iv x2] g (r, g) := by
  intro d hdd
  refine AM.of (by decide +kernel) (Nat.le_of_ble_eq_true rfl) ?_
  show AW z (RX8, cX8_minutes, 3, (some .int)) d (QD (some .int) (r, g)) 0 [(0, rv z 11), (1, iv x1), (2, iv x2)] [] g
  unfold Vans_minutes at h
  refine AW.aloadr_n 0 dX8_minutes_0 rfl ?_
  refine AW.getR af_X8_15_11 sr_11_2 dX8_minutes_1 ?_
  refine AW.iload_n 1 dX8_minutes_4 rfl ?_
  obtain ⟨k1, h⟩ := hK h
  refine AW.iald kc_108 sk_108 k1 dX8_minutes_5 ?_
  refine AW.aloadr_n 0 dX8_minutes_6 rfl ?_
  refine AW.getR af_X8_15_11 sr_11_2 dX8_minutes_7 ?_
  refine AW.iload_n 2 dX8_minutes_10 rfl ?_
  obtain ⟨k2, h⟩ := hK h
  refine AW.iald kc_108 sk_108 k2 dX8_minutes_11 ?_
  refine AW.isub dX8_minutes_12 ?_
  refine AW.mabs (st := []) cm_X8_45 mst_abs mini mcd_abs (Nat.le_trans (by decide) hdd) (Nat.le_of_ble_eq_true rfl) dX8_minutes_13 ?_
  exact AW.iret2 rfl dX8_minutes_16 h rfl
set_option synthInstance.maxHeartbeats 2000000 in
theorem Vans_worstFrom_b_ok {z : AZ} {d : Nat} (hdd : 2 ≤ d) {x1 : Int} {g : AG} : ∀ (x2 : Int) (x3 : Int) (r : Int), Vans_worstFrom_b x1 g x2 x3 = some r → AW z (RX8, cX8_worstFrom, 4, (some .int)) d (QD (some .int) (r, g)) 4 [(0, rv z 11), (1, iv x1), (2, iv x2), (3, iv x3)] [] g := by
  refine Vans_worstFrom_b.partial_correctness x1 g (fun x2 x3 r => AW z (RX8, cX8_worstFrom, 4, (some .int)) d (QD (some .int) (r, g)) 4 [(0, rv z 11), (1, iv x1), (2, iv x2), (3, iv x3)] [] g) ?_
  intro fb9 ih x2 x3 r h
  refine AW.iload_n 3 dX8_worstFrom_4 rfl ?_
  refine AW.bipush dX8_worstFrom_5 (by decide) (by decide) ?_
  refine AW.icmp_ge (tgt := 40) dX8_worstFrom_7 (by decide) (fun c1 => ?_) (fun c1 => ?_)
  · replace h := hT h c1
    refine AW.iload_n 2 dX8_worstFrom_40 rfl ?_
    exact AW.iret2 rfl dX8_worstFrom_41 h rfl
  · replace h := hF h c1
    refine AW.aloadr_n 0 dX8_worstFrom_10 rfl ?_
    refine AW.getR af_X8_9_11 sr_11_1 dX8_worstFrom_11 ?_
    refine AW.iload_n 3 dX8_worstFrom_14 rfl ?_
    obtain ⟨k2, h⟩ := hK h
    refine AW.iald kc_107 sk_107 k2 dX8_worstFrom_15 ?_
    obtain ⟨r6, e7, h⟩ := hC h
    refine AW.join (tgt := 33) (lv1 := [(0, rv z 11), (1, iv x1), (3, iv x3)]) (st1 := [iv r6]) (g1 := g) ?_ (fun J16 => ?_)
    · refine AW.istore_n (lv1 := [(2, iv r6), (0, rv z 11), (1, iv x1), (3, iv x3)]) dX8_worstFrom_33 (by decide) rfl ?_
      refine AW.iinc (lv1 := [(3, iv (x3 + 1)), (2, iv r6), (0, rv z 11), (1, iv x1)]) 3 dX8_worstFrom_34 rfl (by decide) rfl ?_
      refine AW.goto (tgt := 4) dX8_worstFrom_37 (by decide) ?_
      refine AW.sub (lv1 := [(0, rv z 11), (1, iv x1), (2, iv r6), (3, iv (x3 + 1))]) [2, 3, 1, 0] rfl ?_
      exact ih _ _ _ h
    replace h := e7
    refine AW.if_le (tgt := 32) dX8_worstFrom_16 (by decide) (fun c3 => ?_) (fun c3 => ?_)
    · replace h := hT h c3
      refine AW.iload_n 2 dX8_worstFrom_32 rfl ?_
      refine AW.sub (lv1 := [(0, rv z 11), (1, iv x1), (3, iv x3)]) [0, 1, 3] rfl ?_
      cases h
      exact J16
    · replace h := hF h c3
      refine AW.iload_n 2 dX8_worstFrom_19 rfl ?_
      refine AW.aloadr_n 0 dX8_worstFrom_20 rfl ?_
      refine AW.iload_n 1 dX8_worstFrom_21 rfl ?_
      refine AW.iload_n 3 dX8_worstFrom_22 rfl ?_
      obtain ⟨r4, e5, h⟩ := hC h
      refine AW.callVi (As := [iv x1, iv x3]) (st := [iv x2]) (Vans_minutes_ok e5) cq_X8_51 cr_11_X8_minutes (Nat.le_trans (by decide) hdd) rfl dX8_worstFrom_23 rfl (Nat.le_of_ble_eq_true rfl) ?_
      refine AW.mmax (st := []) cm_X8_61 mst_max mini mcd_max (Nat.le_trans (by decide) hdd) (Nat.le_of_ble_eq_true rfl) dX8_worstFrom_26 ?_
      refine AW.goto (tgt := 33) dX8_worstFrom_29 (by decide) ?_
      refine AW.sub (lv1 := [(0, rv z 11), (1, iv x1), (3, iv x3)]) [0, 1, 3] rfl ?_
      cases h
      exact J16
theorem Vans_worstFrom_ok {z : AZ} {x1 : Int} {g : AG} {r : Int} (h : Vans_worstFrom x1 g = some r) : AMf z yX8_worstFrom cX8_worstFrom 4 (some .int) 2 [rv z 11, iv x1] g (r, g) := by
  intro d hdd
  refine AM.of (by decide +kernel) (Nat.le_of_ble_eq_true rfl) ?_
  show AW z (RX8, cX8_worstFrom, 4, (some .int)) d (QD (some .int) (r, g)) 0 [(0, rv z 11), (1, iv x1)] [] g
  unfold Vans_worstFrom at h
  refine AW.iconst dX8_worstFrom_0 ?_
  refine AW.istore_n (lv1 := [(2, iv 0), (0, rv z 11), (1, iv x1)]) dX8_worstFrom_1 (by decide) rfl ?_
  refine AW.iconst dX8_worstFrom_2 ?_
  refine AW.istore_n (lv1 := [(3, iv 0), (2, iv 0), (0, rv z 11), (1, iv x1)]) dX8_worstFrom_3 (by decide) rfl ?_
  refine AW.sub (lv1 := [(0, rv z 11), (1, iv x1), (2, iv 0), (3, iv 0)]) [2, 3, 1, 0] rfl ?_
  exact Vans_worstFrom_b_ok hdd _ _ _ h
set_option synthInstance.maxHeartbeats 2000000 in
theorem Vans_sumFrom_b_ok {z : AZ} {d : Nat} (hdd : 2 ≤ d) {x1 : Int} {x2 : Int} {g : AG} : ∀ (x3 : Int) (x4 : Int) (r : Int), Vans_sumFrom_b x1 x2 g x3 x4 = some r → AW z (RX8, cX8_sumFrom, 5, (some .int)) d (QD (some .int) (r, g)) 5 [(0, rv z 11), (1, iv x1), (2, iv x2), (3, iv x3), (4, iv x4)] [] g := by
  refine Vans_sumFrom_b.partial_correctness x1 x2 g (fun x3 x4 r => AW z (RX8, cX8_sumFrom, 5, (some .int)) d (QD (some .int) (r, g)) 5 [(0, rv z 11), (1, iv x1), (2, iv x2), (3, iv x3), (4, iv x4)] [] g) ?_
  intro fb9 ih x3 x4 r h
  refine AW.iload 4 dX8_sumFrom_5 rfl ?_
  refine AW.bipush dX8_sumFrom_7 (by decide) (by decide) ?_
  refine AW.icmp_ge (tgt := 46) dX8_sumFrom_9 (by decide) (fun c1 => ?_) (fun c1 => ?_)
  · replace h := hT h c1
    refine AW.iload_n 3 dX8_sumFrom_46 rfl ?_
    exact AW.iret2 rfl dX8_sumFrom_47 h rfl
  · replace h := hF h c1
    refine AW.iload_n 3 dX8_sumFrom_12 rfl ?_
    refine AW.aloadr_n 0 dX8_sumFrom_13 rfl ?_
    refine AW.getR af_X8_9_11 sr_11_1 dX8_sumFrom_14 ?_
    refine AW.iload 4 dX8_sumFrom_17 rfl ?_
    obtain ⟨k2, h⟩ := hK h
    refine AW.iald kc_107 sk_107 k2 dX8_sumFrom_19 ?_
    refine AW.aloadr_n 0 dX8_sumFrom_20 rfl ?_
    refine AW.iload_n 1 dX8_sumFrom_21 rfl ?_
    refine AW.iload 4 dX8_sumFrom_22 rfl ?_
    obtain ⟨r3, e4, h⟩ := hC h
    refine AW.callVi (As := [iv x1, iv x4]) (st := [iv (g 107 (ix x4)), iv x3]) (Vans_minutes_ok e4) cq_X8_51 cr_11_X8_minutes (Nat.le_trans (by decide) hdd) rfl dX8_sumFrom_24 rfl (Nat.le_of_ble_eq_true rfl) ?_
    refine AW.aloadr_n 0 dX8_sumFrom_27 rfl ?_
    refine AW.iload_n 2 dX8_sumFrom_28 rfl ?_
    refine AW.iload 4 dX8_sumFrom_29 rfl ?_
    obtain ⟨r5, e6, h⟩ := hC h
    refine AW.callVi (As := [iv x2, iv x4]) (st := [iv r3, iv (g 107 (ix x4)), iv x3]) (Vans_minutes_ok e6) cq_X8_51 cr_11_X8_minutes (Nat.le_trans (by decide) hdd) rfl dX8_sumFrom_31 rfl (Nat.le_of_ble_eq_true rfl) ?_
    refine AW.mmin (st := [iv (g 107 (ix x4)), iv x3]) cm_X8_55 mst_min mini mcd_min (Nat.le_trans (by decide) hdd) (Nat.le_of_ble_eq_true rfl) dX8_sumFrom_34 ?_
    refine AW.imul dX8_sumFrom_37 ?_
    refine AW.iadd dX8_sumFrom_38 ?_
    refine AW.istore_n (lv1 := [(3, iv (x3 + ((g 107 (ix x4)) * (mnI r3 r5)))), (0, rv z 11), (1, iv x1), (2, iv x2), (4, iv x4)]) dX8_sumFrom_39 (by decide) rfl ?_
    refine AW.iinc (lv1 := [(4, iv (x4 + 1)), (3, iv (x3 + ((g 107 (ix x4)) * (mnI r3 r5)))), (0, rv z 11), (1, iv x1), (2, iv x2)]) 4 dX8_sumFrom_40 rfl (by decide) rfl ?_
    refine AW.goto (tgt := 5) dX8_sumFrom_43 (by decide) ?_
    refine AW.sub (lv1 := [(0, rv z 11), (1, iv x1), (2, iv x2), (3, iv (x3 + ((g 107 (ix x4)) * (mnI r3 r5)))), (4, iv (x4 + 1))]) [2, 3, 4, 1, 0] rfl ?_
    exact ih _ _ _ h
theorem Vans_sumFrom_ok {z : AZ} {x1 : Int} {x2 : Int} {g : AG} {r : Int} (h : Vans_sumFrom x1 x2 g = some r) : AMf z yX8_sumFrom cX8_sumFrom 5 (some .int) 2 [rv z 11, iv x1, iv x2] g (r, g) := by
  intro d hdd
  refine AM.of (by decide +kernel) (Nat.le_of_ble_eq_true rfl) ?_
  show AW z (RX8, cX8_sumFrom, 5, (some .int)) d (QD (some .int) (r, g)) 0 [(0, rv z 11), (1, iv x1), (2, iv x2)] [] g
  unfold Vans_sumFrom at h
  refine AW.iconst dX8_sumFrom_0 ?_
  refine AW.istore_n (lv1 := [(3, iv 0), (0, rv z 11), (1, iv x1), (2, iv x2)]) dX8_sumFrom_1 (by decide) rfl ?_
  refine AW.iconst dX8_sumFrom_2 ?_
  refine AW.istore (lv1 := [(4, iv 0), (3, iv 0), (0, rv z 11), (1, iv x1), (2, iv x2)]) dX8_sumFrom_3 (by decide) rfl ?_
  refine AW.sub (lv1 := [(0, rv z 11), (1, iv x1), (2, iv x2), (3, iv 0), (4, iv 0)]) [2, 3, 4, 1, 0] rfl ?_
  exact Vans_sumFrom_b_ok hdd _ _ _ h
set_option synthInstance.maxHeartbeats 2000000 in
theorem Vans_bestPoint_b_ok {z : AZ} {d : Nat} (hdd : 3 ≤ d) {g : AG} : ∀ (x1 : Int) (x2 : Int) (r : Int), Vans_bestPoint_b g x1 x2 = some r → AW z (RX8, cX8_bestPoint, 3, (some .int)) d (QD (some .int) (r, g)) 4 [(0, rv z 11), (1, iv x1), (2, iv x2)] [] g := by
  refine Vans_bestPoint_b.partial_correctness g (fun x1 x2 r => AW z (RX8, cX8_bestPoint, 3, (some .int)) d (QD (some .int) (r, g)) 4 [(0, rv z 11), (1, iv x1), (2, iv x2)] [] g) ?_
  intro fb9 ih x1 x2 r h
  refine AW.iload_n 2 dX8_bestPoint_4 rfl ?_
  refine AW.bipush dX8_bestPoint_5 (by decide) (by decide) ?_
  refine AW.icmp_ge (tgt := 37) dX8_bestPoint_7 (by decide) (fun c1 => ?_) (fun c1 => ?_)
  · replace h := hT h c1
    refine AW.iload_n 1 dX8_bestPoint_37 rfl ?_
    exact AW.iret2 rfl dX8_bestPoint_38 h rfl
  · replace h := hF h c1
    refine AW.aloadr_n 0 dX8_bestPoint_10 rfl ?_
    refine AW.iload_n 2 dX8_bestPoint_11 rfl ?_
    refine AW.iload_n 2 dX8_bestPoint_12 rfl ?_
    obtain ⟨r2, e3, h⟩ := hC h
    refine AW.callVi (As := [iv x2, iv x2]) (st := []) (Vans_sumFrom_ok e3) cq_X8_58 cr_11_X8_sumFrom (Nat.le_trans (by decide) hdd) rfl dX8_bestPoint_13 rfl (Nat.le_of_ble_eq_true rfl) ?_
    refine AW.aloadr_n 0 dX8_bestPoint_16 rfl ?_
    refine AW.iload_n 1 dX8_bestPoint_17 rfl ?_
    refine AW.iload_n 1 dX8_bestPoint_18 rfl ?_
    obtain ⟨r4, e5, h⟩ := hC h
    refine AW.callVi (As := [iv x1, iv x1]) (st := [iv r2]) (Vans_sumFrom_ok e5) cq_X8_58 cr_11_X8_sumFrom (Nat.le_trans (by decide) hdd) rfl dX8_bestPoint_19 rfl (Nat.le_of_ble_eq_true rfl) ?_
    obtain ⟨t6, e7, h⟩ := hBe h
    refine AW.join (tgt := 30) (lv1 := [(0, rv z 11), (1, iv x1), (2, iv x2)]) (st1 := [iv t6]) (g1 := g) ?_ (fun J22 => ?_)
    · refine AW.istore_n (lv1 := [(1, iv t6), (0, rv z 11), (2, iv x2)]) dX8_bestPoint_30 (by decide) rfl ?_
      refine AW.iinc (lv1 := [(2, iv (x2 + 1)), (1, iv t6), (0, rv z 11)]) 2 dX8_bestPoint_31 rfl (by decide) rfl ?_
      refine AW.goto (tgt := 4) dX8_bestPoint_34 (by decide) ?_
      refine AW.sub (lv1 := [(0, rv z 11), (1, iv t6), (2, iv (x2 + 1))]) [2, 1, 0] rfl ?_
      exact ih _ _ _ h
    refine AW.icmp_ge (tgt := 29) dX8_bestPoint_22 (by decide) (fun c8 => ?_) (fun c8 => ?_)
    · refine AW.iload_n 1 dX8_bestPoint_29 rfl ?_
      exact AW.val (e7.trans (if_pos c8)) J22
    · refine AW.iload_n 2 dX8_bestPoint_25 rfl ?_
      refine AW.goto (tgt := 30) dX8_bestPoint_26 (by decide) ?_
      exact AW.val (e7.trans (if_neg c8)) J22
theorem Vans_bestPoint_ok {z : AZ} {g : AG} {r : Int} (h : Vans_bestPoint g = some r) : AMf z yX8_bestPoint cX8_bestPoint 3 (some .int) 3 [rv z 11] g (r, g) := by
  intro d hdd
  refine AM.of (by decide +kernel) (Nat.le_of_ble_eq_true rfl) ?_
  show AW z (RX8, cX8_bestPoint, 3, (some .int)) d (QD (some .int) (r, g)) 0 [(0, rv z 11)] [] g
  unfold Vans_bestPoint at h
  refine AW.iconst dX8_bestPoint_0 ?_
  refine AW.istore_n (lv1 := [(1, iv 0), (0, rv z 11)]) dX8_bestPoint_1 (by decide) rfl ?_
  refine AW.iconst dX8_bestPoint_2 ?_
  refine AW.istore_n (lv1 := [(2, iv 1), (1, iv 0), (0, rv z 11)]) dX8_bestPoint_3 (by decide) rfl ?_
  refine AW.sub (lv1 := [(0, rv z 11), (1, iv 0), (2, iv 1)]) [2, 1, 0] rfl ?_
  exact Vans_bestPoint_b_ok hdd _ _ _ h
theorem X_van_ok {z : AZ} {x1 : Int} {g : AG} {r : Int × AG} (h : X_van x1 g = some r) : AMf z yX11_van cX11_van 3 (some .int) 4 [rv z 0, iv x1] g r := by
  intro d hdd
  refine AM.of (by decide +kernel) (Nat.le_of_ble_eq_true rfl) ?_
  show AW z (RX11, cX11_van, 3, (some .int)) d (QD (some .int) r) 0 [(0, rv z 0), (1, iv x1)] [] g
  unfold X_van at h
  refine AW.aloadr_n 0 dX11_van_0 rfl ?_
  refine AW.getR af_X11_88_0 sr_0_10 dX11_van_1 ?_
  obtain ⟨r1, e2, h⟩ := hC h
  refine AW.callVv (As := []) (st := []) (Vans_measure_ok e2) cq_X11_341 cr_11_X8_measure (Nat.le_trans (by decide) hdd) rfl dX11_van_4 rfl (Nat.le_of_ble_eq_true rfl) ?_
  refine AW.iload_n 1 dX11_van_7 rfl ?_
  refine AW.iconst dX11_van_8 ?_
  refine AW.iconst dX11_van_9 ?_
  refine AW.callSi (As := [iv x1, iv 0, iv 2]) (st := []) X_within_ok cq_X11_99 st_X11_within (Nat.le_trans (by decide) hdd) rfl dX11_van_10 rfl (Nat.le_of_ble_eq_true rfl) ?_
  refine AW.if_eq (tgt := 56) dX11_van_13 (by decide) (fun c3 => ?_) (fun c3 => ?_)
  · replace h := hT h c3
    refine AW.iload_n 1 dX11_van_56 rfl ?_
    refine AW.bipush dX11_van_57 (by decide) (by decide) ?_
    refine AW.isub dX11_van_59 ?_
    refine AW.callSi (As := [iv (x1 - 100)]) (st := []) X_isPoint_ok cq_X11_111 st_X11_isPoint (Nat.le_trans (by decide) hdd) rfl dX11_van_60 rfl (Nat.le_of_ble_eq_true rfl) ?_
    refine AW.if_eq (tgt := 82) dX11_van_63 (by decide) (fun c4 => ?_) (fun c4 => ?_)
    · replace h := hT h c4
      refine AW.iload_n 1 dX11_van_82 rfl ?_
      refine AW.sipush dX11_van_83 (by decide) (by decide) ?_
      refine AW.isub dX11_van_86 ?_
      refine AW.callSi (As := [iv (x1 - 200)]) (st := []) X_isPoint_ok cq_X11_111 st_X11_isPoint (Nat.le_trans (by decide) hdd) rfl dX11_van_87 rfl (Nat.le_of_ble_eq_true rfl) ?_
      obtain ⟨r8, e9, h⟩ := hC h
      refine AW.join (tgt := 109) (lv1 := []) (st1 := [iv r8.1]) (g1 := r8.2) ?_ (fun J90 => ?_)
      · exact AW.iret1 rfl dX11_van_109 h rfl
      replace h := e9
      refine AW.if_eq (tgt := 108) dX11_van_90 (by decide) (fun c5 => ?_) (fun c5 => ?_)
      · replace h := hT h c5
        refine AW.iconst dX11_van_108 ?_
        refine AW.sub (lv1 := []) [] rfl ?_
        cases h
        exact J90
      · replace h := hF h c5
        refine AW.aloadr_n 0 dX11_van_93 rfl ?_
        refine AW.getR af_X11_88_0 sr_0_10 dX11_van_94 ?_
        refine AW.iload_n 1 dX11_van_97 rfl ?_
        refine AW.sipush dX11_van_98 (by decide) (by decide) ?_
        refine AW.isub dX11_van_101 ?_
        obtain ⟨r6, e7, h⟩ := hC h
        refine AW.callVi (As := [iv (x1 - 200)]) (st := []) (Vans_worstFrom_ok e7) cq_X11_350 cr_11_X8_worstFrom (Nat.le_trans (by decide) hdd) rfl dX11_van_102 rfl (Nat.le_of_ble_eq_true rfl) ?_
        refine AW.goto (tgt := 109) dX11_van_105 (by decide) ?_
        refine AW.sub (lv1 := []) [] rfl ?_
        cases h
        exact J90
    · replace h := hF h c4
      refine AW.aloadr_n 0 dX11_van_66 rfl ?_
      refine AW.getR af_X11_88_0 sr_0_10 dX11_van_67 ?_
      refine AW.iload_n 1 dX11_van_70 rfl ?_
      refine AW.bipush dX11_van_71 (by decide) (by decide) ?_
      refine AW.isub dX11_van_73 ?_
      refine AW.iload_n 1 dX11_van_74 rfl ?_
      refine AW.bipush dX11_van_75 (by decide) (by decide) ?_
      refine AW.isub dX11_van_77 ?_
      obtain ⟨r10, e11, h⟩ := hC h
      refine AW.callVi (As := [iv (x1 - 100), iv (x1 - 100)]) (st := []) (Vans_sumFrom_ok e11) cq_X11_347 cr_11_X8_sumFrom (Nat.le_trans (by decide) hdd) rfl dX11_van_78 rfl (Nat.le_of_ble_eq_true rfl) ?_
      exact AW.iret1 rfl dX11_van_81 h rfl
  · replace h := hF h c3
    refine AW.aloadr_n 0 dX11_van_16 rfl ?_
    refine AW.getR af_X11_88_0 sr_0_10 dX11_van_17 ?_
    obtain ⟨r12, e13, h⟩ := hC h
    refine AW.callVi (As := []) (st := []) (Vans_bestPoint_ok e13) cq_X11_344 cr_11_X8_bestPoint (Nat.le_trans (by decide) hdd) rfl dX11_van_20 rfl (Nat.le_of_ble_eq_true rfl) ?_
    refine AW.istore_n (lv1 := [(2, iv r12), (0, rv z 0), (1, iv x1)]) dX11_van_23 (by decide) rfl ?_
    refine AW.iload_n 2 dX11_van_24 rfl ?_
    refine AW.if_ne (tgt := 30) dX11_van_25 (by decide) (fun c14 => ?_) (fun c14 => ?_)
    · replace h := hF h c14
      refine AW.iload_n 2 dX11_van_30 rfl ?_
      refine AW.iconst dX11_van_31 ?_
      obtain ⟨r20, e21, h⟩ := hC h
      refine AW.join (tgt := 55) (lv1 := []) (st1 := [iv r20.1]) (g1 := r20.2) ?_ (fun J32 => ?_)
      · exact AW.iret1 rfl dX11_van_55 h rfl
      replace h := e21
      refine AW.icmp_ne (tgt := 47) dX11_van_32 (by decide) (fun c15 => ?_) (fun c15 => ?_)
      · replace h := hF h c15
        refine AW.aloadr_n 1 dX11_van_47 rfl ?_
        refine AW.getR af_X11_88_0 sr_0_10 dX11_van_48 ?_
        refine AW.iload_n 0 dX11_van_51 rfl ?_
        obtain ⟨r16, e17, h⟩ := hC h
        refine AW.callVi (As := [iv r12]) (st := []) (Vans_worstFrom_ok e17) cq_X11_350 cr_11_X8_worstFrom (Nat.le_trans (by decide) hdd) rfl dX11_van_52 rfl (Nat.le_of_ble_eq_true rfl) ?_
        refine AW.sub (lv1 := []) [] rfl ?_
        cases h
        exact J32
      · replace h := hT h c15
        refine AW.aloadr_n 1 dX11_van_35 rfl ?_
        refine AW.getR af_X11_88_0 sr_0_10 dX11_van_36 ?_
        refine AW.iload_n 0 dX11_van_39 rfl ?_
        refine AW.iload_n 0 dX11_van_40 rfl ?_
        obtain ⟨r18, e19, h⟩ := hC h
        refine AW.callVi (As := [iv r12, iv r12]) (st := []) (Vans_sumFrom_ok e19) cq_X11_347 cr_11_X8_sumFrom (Nat.le_trans (by decide) hdd) rfl dX11_van_41 rfl (Nat.le_of_ble_eq_true rfl) ?_
        refine AW.goto (tgt := 55) dX11_van_44 (by decide) ?_
        refine AW.sub (lv1 := []) [] rfl ?_
        cases h
        exact J32
    · replace h := hT h c14
      refine AW.iload_n 0 dX11_van_28 rfl ?_
      exact AW.iret1 rfl dX11_van_29 h rfl
set_option synthInstance.maxHeartbeats 2000000 in
theorem Vans_findCouple_b_ok {z : AZ} {d : Nat} (hdd : 3 ≤ d) : ∀ (tag : Nat) (x1 : Int) (x2 : Int) (g : AG) (r : Int × AG), Vans_findCouple_b tag x1 x2 g = some r → (tag = 1 → AW z (RX8, cX8_findCouple, 4, none) d (QD none r) 17 [(0, rv z 11), (1, iv x1)] [] g) ∧ (tag = 2 → AW z (RX8, cX8_findCouple, 4, none) d (QD none r) 25 [(0, rv z 11), (1, iv x1), (2, iv x2)] [] g) := by
  refine Vans_findCouple_b.partial_correctness (fun tag x1 x2 g r => (tag = 1 → AW z (RX8, cX8_findCouple, 4, none) d (QD none r) 17 [(0, rv z 11), (1, iv x1)] [] g) ∧ (tag = 2 → AW z (RX8, cX8_findCouple, 4, none) d (QD none r) 25 [(0, rv z 11), (1, iv x1), (2, iv x2)] [] g)) ?_
  intro fb9 ih tag x1 x2 g r h
  refine ⟨fun h9 => ?_, fun h9 => ?_⟩
  · subst h9
    replace h := hT h rfl
    refine AW.iload_n 1 dX8_findCouple_17 rfl ?_
    refine AW.bipush dX8_findCouple_18 (by decide) (by decide) ?_
    refine AW.icmp_ge (tgt := 73) dX8_findCouple_20 (by decide) (fun c1 => ?_) (fun c1 => ?_)
    · replace h := hT h c1
      exact AW.vret1 rfl dX8_findCouple_73 h rfl
    · replace h := hF h c1
      refine AW.iload_n 1 dX8_findCouple_23 rfl ?_
      refine AW.istore_n (lv1 := [(2, iv x1), (0, rv z 11), (1, iv x1)]) dX8_findCouple_24 (by decide) rfl ?_
      refine AW.sub (lv1 := [(0, rv z 11), (1, iv x1), (2, iv x1)]) [1, 2, 0] rfl ?_
      exact (ih _ _ _ _ _ h).2 rfl
  · subst h9
    replace h := hF h (by decide)
    replace h := hT h rfl
    refine AW.iload_n 2 dX8_findCouple_25 rfl ?_
    refine AW.bipush dX8_findCouple_26 (by decide) (by decide) ?_
    refine AW.icmp_ge (tgt := 67) dX8_findCouple_28 (by decide) (fun c1 => ?_) (fun c1 => ?_)
    · replace h := hT h c1
      refine AW.iinc (lv1 := [(1, iv (x1 + 1)), (0, rv z 11), (2, iv x2)]) 1 dX8_findCouple_67 rfl (by decide) rfl ?_
      refine AW.goto (tgt := 17) dX8_findCouple_70 (by decide) ?_
      refine AW.sub (lv1 := [(0, rv z 11), (1, iv (x1 + 1))]) [1, 0] rfl ?_
      exact (ih _ _ _ _ _ h).1 rfl
    · replace h := hF h c1
      refine AW.aloadr_n 0 dX8_findCouple_31 rfl ?_
      refine AW.iload_n 1 dX8_findCouple_32 rfl ?_
      refine AW.iload_n 2 dX8_findCouple_33 rfl ?_
      obtain ⟨r2, e3, h⟩ := hC h
      refine AW.callVi (As := [iv x1, iv x2]) (st := []) (Vans_sumFrom_ok e3) cq_X8_58 cr_11_X8_sumFrom (Nat.le_trans (by decide) hdd) rfl dX8_findCouple_34 rfl (Nat.le_of_ble_eq_true rfl) ?_
      refine AW.istore_n (lv1 := [(3, iv r2), (0, rv z 11), (1, iv x1), (2, iv x2)]) dX8_findCouple_37 (by decide) rfl ?_
      refine AW.iload_n 0 dX8_findCouple_38 rfl ?_
      refine AW.aloadr_n 1 dX8_findCouple_39 rfl ?_
      refine AW.getI af_X8_68_11 sr_11_4 dX8_findCouple_40 ?_
      obtain ⟨r9, e10, h⟩ := hC h
      refine AW.join (tgt := 61) (lv1 := [(0, rv z 11), (1, iv x1), (2, iv x2)]) (st1 := []) (g1 := r9) ?_ (fun J43 => ?_)
      · refine AW.iinc (lv1 := [(2, iv (x2 + 1)), (0, rv z 11), (1, iv x1)]) 2 dX8_findCouple_61 rfl (by decide) rfl ?_
        refine AW.goto (tgt := 25) dX8_findCouple_64 (by decide) ?_
        refine AW.sub (lv1 := [(0, rv z 11), (1, iv x1), (2, iv (x2 + 1))]) [1, 2, 0] rfl ?_
        exact (ih _ _ _ _ _ h).2 rfl
      replace h := e10
      refine AW.icmp_ge (tgt := 61) dX8_findCouple_43 (by decide) (fun c4 => ?_) (fun c4 => ?_)
      · replace h := hT h c4
        refine AW.sub (lv1 := [(0, rv z 11), (1, iv x1), (2, iv x2)]) [1, 2, 3] rfl ?_
        cases h
        exact J43
      · replace h := hF h c4
        refine AW.aloadr_n 1 dX8_findCouple_46 rfl ?_
        refine AW.bipush dX8_findCouple_47 (by decide) (by decide) ?_
        refine AW.iload_n 2 dX8_findCouple_49 rfl ?_
        refine AW.imul dX8_findCouple_50 ?_
        refine AW.iload_n 3 dX8_findCouple_51 rfl ?_
        refine AW.iadd dX8_findCouple_52 ?_
        obtain ⟨g5, e6, h⟩ := hBe h
        refine AW.putI ap_X8_64_11 sr_11_3 dX8_findCouple_53 e6 ?_
        refine AW.aloadr_n 1 dX8_findCouple_56 rfl ?_
        refine AW.iload_n 0 dX8_findCouple_57 rfl ?_
        obtain ⟨g7, e8, h⟩ := hBe h
        refine AW.putI ap_X8_68_11 sr_11_4 dX8_findCouple_58 e8 ?_
        refine AW.sub (lv1 := [(0, rv z 11), (1, iv x1), (2, iv x2)]) [1, 2, 3] rfl ?_
        cases h
        exact J43
theorem Vans_findCouple_ok {z : AZ} {g : AG} {r : Int × AG} (h : Vans_findCouple g = some r) : AMf z yX8_findCouple cX8_findCouple 4 none 3 [rv z 11] g r := by
  intro d hdd
  refine AM.of (by decide +kernel) (Nat.le_of_ble_eq_true rfl) ?_
  show AW z (RX8, cX8_findCouple, 4, none) d (QD none r) 0 [(0, rv z 11)] [] g
  unfold Vans_findCouple at h
  refine AW.aloadr_n 0 dX8_findCouple_0 rfl ?_
  refine AW.iconst dX8_findCouple_1 ?_
  obtain ⟨g1, e2, h⟩ := hBe h
  refine AW.putI ap_X8_64_11 sr_11_3 dX8_findCouple_2 e2 ?_
  refine AW.aloadr_n 0 dX8_findCouple_5 rfl ?_
  refine AW.aloadr_n 0 dX8_findCouple_6 rfl ?_
  refine AW.iconst dX8_findCouple_7 ?_
  refine AW.iconst dX8_findCouple_8 ?_
  obtain ⟨r3, e4, h⟩ := hC h
  refine AW.callVi (As := [iv 0, iv 0]) (st := [rv z 11]) (Vans_sumFrom_ok e4) cq_X8_58 cr_11_X8_sumFrom (Nat.le_trans (by decide) hdd) rfl dX8_findCouple_9 rfl (Nat.le_of_ble_eq_true rfl) ?_
  obtain ⟨g5, e6, h⟩ := hBe h
  refine AW.putI ap_X8_68_11 sr_11_4 dX8_findCouple_12 e6 ?_
  refine AW.iconst dX8_findCouple_15 ?_
  refine AW.istore_n (lv1 := [(1, iv 0), (0, rv z 11)]) dX8_findCouple_16 (by decide) rfl ?_
  refine AW.sub (lv1 := [(0, rv z 11), (1, iv 0)]) [1, 0] rfl ?_
  exact (Vans_findCouple_b_ok hdd _ _ _ _ _ h).1 rfl
theorem X_vans_ok {z : AZ} {x1 : Int} {g : AG} {r : Int × AG} (h : X_vans x1 g = some r) : AMf z yX11_vans cX11_vans 2 (some .int) 4 [rv z 0, iv x1] g r := by
  intro d hdd
  refine AM.of (by decide +kernel) (Nat.le_of_ble_eq_true rfl) ?_
  show AW z (RX11, cX11_vans, 2, (some .int)) d (QD (some .int) r) 0 [(0, rv z 0), (1, iv x1)] [] g
  unfold X_vans at h
  refine AW.iload_n 1 dX11_vans_0 rfl ?_
  refine AW.iconst dX11_vans_1 ?_
  refine AW.iconst dX11_vans_2 ?_
  refine AW.callSi (As := [iv x1, iv 0, iv 1]) (st := []) X_within_ok cq_X11_99 st_X11_within (Nat.le_trans (by decide) hdd) rfl dX11_vans_3 rfl (Nat.le_of_ble_eq_true rfl) ?_
  refine AW.if_ne (tgt := 11) dX11_vans_6 (by decide) (fun c1 => ?_) (fun c1 => ?_)
  · replace h := hF h c1
    refine AW.aloadr_n 0 dX11_vans_11 rfl ?_
    refine AW.getR af_X11_88_0 sr_0_10 dX11_vans_12 ?_
    obtain ⟨r2, e3, h⟩ := hC h
    refine AW.callVv (As := []) (st := []) (Vans_measure_ok e3) cq_X11_341 cr_11_X8_measure (Nat.le_trans (by decide) hdd) rfl dX11_vans_15 rfl (Nat.le_of_ble_eq_true rfl) ?_
    refine AW.aloadr_n 0 dX11_vans_18 rfl ?_
    refine AW.getR af_X11_88_0 sr_0_10 dX11_vans_19 ?_
    obtain ⟨r4, e5, h⟩ := hC h
    refine AW.callVv (As := []) (st := []) (Vans_findCouple_ok e5) cq_X11_353 cr_11_X8_findCouple (Nat.le_trans (by decide) hdd) rfl dX11_vans_22 rfl (Nat.le_of_ble_eq_true rfl) ?_
    refine AW.iload_n 1 dX11_vans_25 rfl ?_
    obtain ⟨t6, e7, h⟩ := hBe h
    refine AW.join (tgt := 46) (lv1 := [(0, rv z 0), (1, iv x1)]) (st1 := [iv t6]) (g1 := r4.2) ?_ (fun J26 => ?_)
    · exact AW.iret1 rfl dX11_vans_46 h rfl
    refine AW.if_ne (tgt := 39) dX11_vans_26 (by decide) (fun c8 => ?_) (fun c8 => ?_)
    · refine AW.aloadr_n 0 dX11_vans_39 rfl ?_
      refine AW.getR af_X11_88_0 sr_0_10 dX11_vans_40 ?_
      refine AW.getI af_X11_359_11 sr_11_4 dX11_vans_43 ?_
      exact AW.val (e7.trans (if_neg c8)) J26
    · refine AW.aloadr_n 0 dX11_vans_29 rfl ?_
      refine AW.getR af_X11_88_0 sr_0_10 dX11_vans_30 ?_
      refine AW.getI af_X11_356_11 sr_11_3 dX11_vans_33 ?_
      refine AW.goto (tgt := 46) dX11_vans_36 (by decide) ?_
      exact AW.val (e7.trans (if_pos c8)) J26
  · replace h := hT h c1
    refine AW.iconst dX11_vans_9 ?_
    exact AW.iret1 rfl dX11_vans_10 h rfl
set_option synthInstance.maxHeartbeats 2000000 in
theorem Vans_addCall_b_ok {z : AZ} {d : Nat} (hdd : 0 ≤ d) {x1 : Int} {x2 : Int} {x3 : Int} {g : AG} : ∀ (r : Int × AG), Vans_addCall_b x1 x2 x3 g = some r → AW z (RX8, cX8_addCall, 4, (some .int)) d (QD (some .int) r) 33 [(0, rv z 11), (1, iv x1), (2, iv x2), (3, iv x3)] [] g := by
  intro r h
  unfold Vans_addCall_b at h
  refine AW.aloadr_n 0 dX8_addCall_33 rfl ?_
  refine AW.getR af_X8_18_11 sr_11_6 dX8_addCall_34 ?_
  refine AW.aloadr_n 0 dX8_addCall_37 rfl ?_
  refine AW.getI af_X8_71_11 sr_11_5 dX8_addCall_38 ?_
  refine AW.iload_n 1 dX8_addCall_41 rfl ?_
  obtain ⟨k1, h⟩ := hK h
  obtain ⟨g2, e3, h⟩ := hBe h
  refine AW.iast kc_109 sk_109 k1 dX8_addCall_42 e3 ?_
  refine AW.aloadr_n 0 dX8_addCall_43 rfl ?_
  refine AW.getR af_X8_21_11 sr_11_7 dX8_addCall_44 ?_
  refine AW.aloadr_n 0 dX8_addCall_47 rfl ?_
  refine AW.getI af_X8_71_11 sr_11_5 dX8_addCall_48 ?_
  refine AW.iload_n 2 dX8_addCall_51 rfl ?_
  obtain ⟨k4, h⟩ := hK h
  obtain ⟨g5, e6, h⟩ := hBe h
  refine AW.iast kc_110 sk_110 k4 dX8_addCall_52 e6 ?_
  refine AW.aloadr_n 0 dX8_addCall_53 rfl ?_
  refine AW.getR af_X8_24_11 sr_11_8 dX8_addCall_54 ?_
  refine AW.aloadr_n 0 dX8_addCall_57 rfl ?_
  refine AW.getI af_X8_71_11 sr_11_5 dX8_addCall_58 ?_
  refine AW.iload_n 3 dX8_addCall_61 rfl ?_
  obtain ⟨k7, h⟩ := hK h
  obtain ⟨g8, e9, h⟩ := hBe h
  refine AW.iast kc_111 sk_111 k7 dX8_addCall_62 e9 ?_
  refine AW.aloadr_n 0 dX8_addCall_63 rfl ?_
  refine AW.duprr dX8_addCall_64 ?_
  refine AW.getI af_X8_71_11 sr_11_5 dX8_addCall_65 ?_
  refine AW.iconst dX8_addCall_68 ?_
  refine AW.iadd dX8_addCall_69 ?_
  obtain ⟨g10, e11, h⟩ := hBe h
  refine AW.putI ap_X8_71_11 sr_11_5 dX8_addCall_70 e11 ?_
  refine AW.aloadr_n 0 dX8_addCall_73 rfl ?_
  refine AW.getI af_X8_71_11 sr_11_5 dX8_addCall_74 ?_
  exact AW.iret1 rfl dX8_addCall_77 h rfl
theorem Vans_addCall_ok {z : AZ} {x1 : Int} {x2 : Int} {x3 : Int} {g : AG} {r : Int × AG} (h : Vans_addCall x1 x2 x3 g = some r) : AMf z yX8_addCall cX8_addCall 4 (some .int) 0 [rv z 11, iv x1, iv x2, iv x3] g r := by
  intro d hdd
  refine AM.of (by decide +kernel) (Nat.le_of_ble_eq_true rfl) ?_
  show AW z (RX8, cX8_addCall, 4, (some .int)) d (QD (some .int) r) 0 [(0, rv z 11), (1, iv x1), (2, iv x2), (3, iv x3)] [] g
  unfold Vans_addCall at h
  refine AW.aloadr_n 0 dX8_addCall_0 rfl ?_
  refine AW.getI af_X8_71_11 sr_11_5 dX8_addCall_1 ?_
  refine AW.bipush dX8_addCall_4 (by decide) (by decide) ?_
  refine AW.icmp_ge (tgt := 31) dX8_addCall_6 (by decide) (fun c1 => ?_) (fun c1 => ?_)
  · replace h := hT h c1
    refine AW.iconst dX8_addCall_31 ?_
    exact AW.iret1 rfl dX8_addCall_32 h rfl
  · replace h := hF h c1
    refine AW.aloadr_n 0 dX8_addCall_9 rfl ?_
    refine AW.getI af_X8_71_11 sr_11_5 dX8_addCall_10 ?_
    refine AW.if_le (tgt := 33) dX8_addCall_13 (by decide) (fun c2 => ?_) (fun c2 => ?_)
    · replace h := hT h c2
      exact Vans_addCall_b_ok hdd _ h
    · replace h := hF h c2
      refine AW.iload_n 1 dX8_addCall_16 rfl ?_
      refine AW.aloadr_n 0 dX8_addCall_17 rfl ?_
      refine AW.getR af_X8_18_11 sr_11_6 dX8_addCall_18 ?_
      refine AW.aloadr_n 0 dX8_addCall_21 rfl ?_
      refine AW.getI af_X8_71_11 sr_11_5 dX8_addCall_22 ?_
      refine AW.iconst dX8_addCall_25 ?_
      refine AW.isub dX8_addCall_26 ?_
      obtain ⟨k3, h⟩ := hK h
      refine AW.iald kc_109 sk_109 k3 dX8_addCall_27 ?_
      refine AW.icmp_ge (tgt := 33) dX8_addCall_28 (by decide) (fun c4 => ?_) (fun c4 => ?_)
      · replace h := hT h c4
        exact Vans_addCall_b_ok hdd _ h
      · replace h := hF h c4
        refine AW.iconst dX8_addCall_31 ?_
        exact AW.iret1 rfl dX8_addCall_32 h rfl
theorem X_call_ok {z : AZ} {x1 : Int} {x2 : Int} {x3 : Int} {g : AG} {r : Int × AG} (h : X_call x1 x2 x3 g = some r) : AMf z yX11_call cX11_call 4 (some .int) 2 [rv z 0, iv x1, iv x2, iv x3] g r := by
  intro d hdd
  refine AM.of (by decide +kernel) (Nat.le_of_ble_eq_true rfl) ?_
  show AW z (RX11, cX11_call, 4, (some .int)) d (QD (some .int) r) 0 [(0, rv z 0), (1, iv x1), (2, iv x2), (3, iv x3)] [] g
  unfold X_call at h
  refine AW.iload_n 3 dX11_call_0 rfl ?_
  refine AW.if_ne (tgt := 14) dX11_call_1 (by decide) (fun c1 => ?_) (fun c1 => ?_)
  · replace h := hF h c1
    refine AW.iload_n 1 dX11_call_14 rfl ?_
    refine AW.iconst dX11_call_15 ?_
    refine AW.sipush dX11_call_16 (by decide) (by decide) ?_
    refine AW.callSi (As := [iv x1, iv 0, iv 9999]) (st := []) X_within_ok cq_X11_99 st_X11_within (Nat.le_trans (by decide) hdd) rfl dX11_call_19 rfl (Nat.le_of_ble_eq_true rfl) ?_
    refine AW.if_eq (tgt := 43) dX11_call_22 (by decide) (fun c2 => ?_) (fun c2 => ?_)
    · replace h := hT h c2
      refine AW.iconst dX11_call_43 ?_
      exact AW.iret1 rfl dX11_call_44 h rfl
    · replace h := hF h c2
      refine AW.iload_n 2 dX11_call_25 rfl ?_
      refine AW.callSi (As := [iv x2]) (st := []) X_isPoint_ok cq_X11_111 st_X11_isPoint (Nat.le_trans (by decide) hdd) rfl dX11_call_26 rfl (Nat.le_of_ble_eq_true rfl) ?_
      refine AW.if_eq (tgt := 43) dX11_call_29 (by decide) (fun c3 => ?_) (fun c3 => ?_)
      · replace h := hT h c3
        refine AW.iconst dX11_call_43 ?_
        exact AW.iret1 rfl dX11_call_44 h rfl
      · replace h := hF h c3
        refine AW.iload_n 3 dX11_call_32 rfl ?_
        refine AW.iconst dX11_call_33 ?_
        refine AW.sipush dX11_call_34 (by decide) (by decide) ?_
        refine AW.callSi (As := [iv x3, iv 1, iv 300]) (st := []) X_within_ok cq_X11_99 st_X11_within (Nat.le_trans (by decide) hdd) rfl dX11_call_37 rfl (Nat.le_of_ble_eq_true rfl) ?_
        refine AW.if_ne (tgt := 45) dX11_call_40 (by decide) (fun c4 => ?_) (fun c4 => ?_)
        · replace h := hF h c4
          refine AW.aloadr_n 0 dX11_call_45 rfl ?_
          refine AW.getR af_X11_88_0 sr_0_10 dX11_call_46 ?_
          refine AW.iload_n 1 dX11_call_49 rfl ?_
          refine AW.iload_n 2 dX11_call_50 rfl ?_
          refine AW.iload_n 3 dX11_call_51 rfl ?_
          obtain ⟨r5, e6, h⟩ := hC h
          refine AW.callVi (As := [iv x1, iv x2, iv x3]) (st := []) (Vans_addCall_ok e6) cq_X11_365 cr_11_X8_addCall (Nat.le_trans (by decide) hdd) rfl dX11_call_52 rfl (Nat.le_of_ble_eq_true rfl) ?_
          exact AW.iret1 rfl dX11_call_55 h rfl
        · replace h := hT h c4
          refine AW.iconst dX11_call_43 ?_
          exact AW.iret1 rfl dX11_call_44 h rfl
  · replace h := hT h c1
    refine AW.aloadr_n 0 dX11_call_4 rfl ?_
    refine AW.getR af_X11_88_0 sr_0_10 dX11_call_5 ?_
    refine AW.iconst dX11_call_8 ?_
    obtain ⟨g7, e8, h⟩ := hBe h
    refine AW.putI ap_X11_362_11 sr_11_5 dX11_call_9 e8 ?_
    refine AW.iconst dX11_call_12 ?_
    exact AW.iret1 rfl dX11_call_13 h rfl
theorem Vans_comesAt_ok {z : AZ} {x1 : Int} {x2 : Int} {g : AG} {r : Int} (h : Vans_comesAt x1 x2 g = some r) : AMf z yX8_comesAt cX8_comesAt 3 (some .int) 2 [rv z 11, iv x1, iv x2] g (r, g) := by
  intro d hdd
  refine AM.of (by decide +kernel) (Nat.le_of_ble_eq_true rfl) ?_
  show AW z (RX8, cX8_comesAt, 3, (some .int)) d (QD (some .int) (r, g)) 0 [(0, rv z 11), (1, iv x1), (2, iv x2)] [] g
  unfold Vans_comesAt at h
  refine AW.aloadr_n 0 dX8_comesAt_0 rfl ?_
  refine AW.getR af_X8_18_11 sr_11_6 dX8_comesAt_1 ?_
  refine AW.iload_n 2 dX8_comesAt_4 rfl ?_
  obtain ⟨k1, h⟩ := hK h
  refine AW.iald kc_109 sk_109 k1 dX8_comesAt_5 ?_
  refine AW.aloadr_n 0 dX8_comesAt_6 rfl ?_
  refine AW.getR af_X8_33_11 sr_11_11 dX8_comesAt_7 ?_
  refine AW.iload_n 1 dX8_comesAt_10 rfl ?_
  obtain ⟨k2, h⟩ := hK h
  refine AW.iald kc_114 sk_114 k2 dX8_comesAt_11 ?_
  refine AW.mmax (st := []) cm_X8_61 mst_max mini mcd_max (Nat.le_trans (by decide) hdd) (Nat.le_of_ble_eq_true rfl) dX8_comesAt_12 ?_
  refine AW.aloadr_n 0 dX8_comesAt_15 rfl ?_
  refine AW.aloadr_n 0 dX8_comesAt_16 rfl ?_
  refine AW.getR af_X8_30_11 sr_11_10 dX8_comesAt_17 ?_
  refine AW.iload_n 1 dX8_comesAt_20 rfl ?_
  refine AW.iald kc_113 sk_113 k2 dX8_comesAt_21 ?_
  refine AW.aloadr_n 0 dX8_comesAt_22 rfl ?_
  refine AW.getR af_X8_21_11 sr_11_7 dX8_comesAt_23 ?_
  refine AW.iload_n 2 dX8_comesAt_26 rfl ?_
  refine AW.iald kc_110 sk_110 k1 dX8_comesAt_27 ?_
  obtain ⟨r3, e4, h⟩ := hC h
  refine AW.callVi (As := [iv (g 113 (ix x1)), iv (g 110 (ix x2))]) (st := [iv (mxI (g 109 (ix x2)) (g 114 (ix x1)))]) (Vans_minutes_ok e4) cq_X8_51 cr_11_X8_minutes (Nat.le_trans (by decide) hdd) rfl dX8_comesAt_28 rfl (Nat.le_of_ble_eq_true rfl) ?_
  refine AW.iadd dX8_comesAt_31 ?_
  exact AW.iret2 rfl dX8_comesAt_32 h rfl
set_option synthInstance.maxHeartbeats 2000000 in
theorem Vans_takeCalls_b_ok {z : AZ} {d : Nat} (hdd : 3 ≤ d) : ∀ (x3 : Int) (g : AG) (r : Int × AG), Vans_takeCalls_b x3 g = some r → AW z (RX8, cX8_takeCalls, 6, none) d (QD none r) 39 [(0, rv z 11), (3, iv x3)] [] g := by
  refine Vans_takeCalls_b.partial_correctness (fun x3 g r => AW z (RX8, cX8_takeCalls, 6, none) d (QD none r) 39 [(0, rv z 11), (3, iv x3)] [] g) ?_
  intro fb9 ih x3 g r h
  refine AW.iload_n 1 dX8_takeCalls_39 rfl ?_
  refine AW.aloadr_n 0 dX8_takeCalls_40 rfl ?_
  refine AW.getI af_X8_71_11 sr_11_5 dX8_takeCalls_41 ?_
  refine AW.icmp_ge (tgt := 177) dX8_takeCalls_44 (by decide) (fun c1 => ?_) (fun c1 => ?_)
  · replace h := hT h c1
    exact AW.vret1 rfl dX8_takeCalls_177 h rfl
  · replace h := hF h c1
    refine AW.aloadr_n 0 dX8_takeCalls_47 rfl ?_
    refine AW.iconst dX8_takeCalls_48 ?_
    refine AW.iload_n 1 dX8_takeCalls_49 rfl ?_
    obtain ⟨r2, e3, h⟩ := hC h
    refine AW.callVi (As := [iv 1, iv x3]) (st := []) (Vans_comesAt_ok e3) cq_X8_89 cr_11_X8_comesAt (Nat.le_trans (by decide) hdd) rfl dX8_takeCalls_50 rfl (Nat.le_of_ble_eq_true rfl) ?_
    refine AW.aloadr_n 0 dX8_takeCalls_53 rfl ?_
    refine AW.iconst dX8_takeCalls_54 ?_
    refine AW.iload_n 1 dX8_takeCalls_55 rfl ?_
    obtain ⟨r4, e5, h⟩ := hC h
    refine AW.callVi (As := [iv 0, iv x3]) (st := [iv r2]) (Vans_comesAt_ok e5) cq_X8_89 cr_11_X8_comesAt (Nat.le_trans (by decide) hdd) rfl dX8_takeCalls_56 rfl (Nat.le_of_ble_eq_true rfl) ?_
    obtain ⟨t6, e7, h⟩ := hBe h
    refine AW.join (tgt := 67) (lv1 := [(0, rv z 11), (3, iv x3)]) (st1 := [iv t6]) (g1 := g) ?_ (fun J59 => ?_)
    · refine AW.istore (lv1 := [(4, iv t6), (0, rv z 11), (3, iv x3)]) dX8_takeCalls_67 (by decide) rfl ?_
      refine AW.aloadr_n 1 dX8_takeCalls_69 rfl ?_
      refine AW.iload 0 dX8_takeCalls_70 rfl ?_
      refine AW.iload_n 2 dX8_takeCalls_72 rfl ?_
      obtain ⟨r8, e9, h⟩ := hC h
      refine AW.callVi (As := [iv t6, iv x3]) (st := []) (Vans_comesAt_ok e9) cq_X8_89 cr_11_X8_comesAt (Nat.le_trans (by decide) hdd) rfl dX8_takeCalls_73 rfl (Nat.le_of_ble_eq_true rfl) ?_
      refine AW.istore (lv1 := [(5, iv r8), (4, iv t6), (0, rv z 11), (3, iv x3)]) dX8_takeCalls_76 (by decide) rfl ?_
      refine AW.aloadr_n 2 dX8_takeCalls_78 rfl ?_
      refine AW.getR af_X8_27_11 sr_11_9 dX8_takeCalls_79 ?_
      refine AW.iload_n 3 dX8_takeCalls_82 rfl ?_
      refine AW.iload 1 dX8_takeCalls_83 rfl ?_
      obtain ⟨k10, h⟩ := hK h
      obtain ⟨g11, e12, h⟩ := hBe h
      refine AW.iast kc_112 sk_112 k10 dX8_takeCalls_85 e12 ?_
      refine AW.aloadr_n 2 dX8_takeCalls_86 rfl ?_
      refine AW.getR af_X8_30_11 sr_11_10 dX8_takeCalls_87 ?_
      refine AW.iload 1 dX8_takeCalls_90 rfl ?_
      refine AW.aloadr_n 2 dX8_takeCalls_92 rfl ?_
      refine AW.getR af_X8_21_11 sr_11_7 dX8_takeCalls_93 ?_
      refine AW.iload_n 3 dX8_takeCalls_96 rfl ?_
      refine AW.iald kc_110 sk_110 k10 dX8_takeCalls_97 ?_
      obtain ⟨k13, h⟩ := hK h
      obtain ⟨g14, e15, h⟩ := hBe h
      refine AW.iast kc_113 sk_113 k13 dX8_takeCalls_98 e15 ?_
      refine AW.aloadr_n 2 dX8_takeCalls_99 rfl ?_
      refine AW.getR af_X8_33_11 sr_11_11 dX8_takeCalls_100 ?_
      refine AW.iload 1 dX8_takeCalls_103 rfl ?_
      refine AW.iload 0 dX8_takeCalls_105 rfl ?_
      refine AW.aloadr_n 2 dX8_takeCalls_107 rfl ?_
      refine AW.getR af_X8_24_11 sr_11_8 dX8_takeCalls_108 ?_
      refine AW.iload_n 3 dX8_takeCalls_111 rfl ?_
      refine AW.iald kc_111 sk_111 k10 dX8_takeCalls_112 ?_
      refine AW.iadd dX8_takeCalls_113 ?_
      obtain ⟨g16, e17, h⟩ := hBe h
      refine AW.iast kc_114 sk_114 k13 dX8_takeCalls_114 e17 ?_
      refine AW.aloadr_n 2 dX8_takeCalls_115 rfl ?_
      refine AW.duprr dX8_takeCalls_116 ?_
      refine AW.getI af_X8_80_11 sr_11_12 dX8_takeCalls_117 ?_
      refine AW.iload 0 dX8_takeCalls_120 rfl ?_
      refine AW.aloadr_n 2 dX8_takeCalls_122 rfl ?_
      refine AW.getR af_X8_18_11 sr_11_6 dX8_takeCalls_123 ?_
      refine AW.iload_n 3 dX8_takeCalls_126 rfl ?_
      refine AW.iald kc_109 sk_109 k10 dX8_takeCalls_127 ?_
      refine AW.isub dX8_takeCalls_128 ?_
      refine AW.iadd dX8_takeCalls_129 ?_
      obtain ⟨g18, e19, h⟩ := hBe h
      refine AW.putI ap_X8_80_11 sr_11_12 dX8_takeCalls_130 e19 ?_
      refine AW.aloadr_n 2 dX8_takeCalls_133 rfl ?_
      refine AW.aloadr_n 2 dX8_takeCalls_134 rfl ?_
      refine AW.getI af_X8_83_11 sr_11_13 dX8_takeCalls_135 ?_
      refine AW.iload 0 dX8_takeCalls_138 rfl ?_
      refine AW.aloadr_n 2 dX8_takeCalls_140 rfl ?_
      refine AW.getR af_X8_18_11 sr_11_6 dX8_takeCalls_141 ?_
      refine AW.iload_n 3 dX8_takeCalls_144 rfl ?_
      refine AW.iald kc_109 sk_109 k10 dX8_takeCalls_145 ?_
      refine AW.isub dX8_takeCalls_146 ?_
      refine AW.mmax (st := [rv z 11]) cm_X8_61 mst_max mini mcd_max (Nat.le_trans (by decide) hdd) (Nat.le_of_ble_eq_true rfl) dX8_takeCalls_147 ?_
      obtain ⟨g20, e21, h⟩ := hBe h
      refine AW.putI ap_X8_83_11 sr_11_13 dX8_takeCalls_150 e21 ?_
      refine AW.aloadr_n 2 dX8_takeCalls_153 rfl ?_
      refine AW.aloadr_n 2 dX8_takeCalls_154 rfl ?_
      refine AW.getI af_X8_86_11 sr_11_14 dX8_takeCalls_155 ?_
      refine AW.aloadr_n 2 dX8_takeCalls_158 rfl ?_
      refine AW.getR af_X8_33_11 sr_11_11 dX8_takeCalls_159 ?_
      refine AW.iload 1 dX8_takeCalls_162 rfl ?_
      refine AW.iald kc_114 sk_114 k13 dX8_takeCalls_164 ?_
      refine AW.mmax (st := [rv z 11]) cm_X8_61 mst_max mini mcd_max (Nat.le_trans (by decide) hdd) (Nat.le_of_ble_eq_true rfl) dX8_takeCalls_165 ?_
      obtain ⟨g22, e23, h⟩ := hBe h
      refine AW.putI ap_X8_86_11 sr_11_14 dX8_takeCalls_168 e23 ?_
      refine AW.iinc (lv1 := [(3, iv (x3 + 1)), (5, iv r8), (4, iv t6), (0, rv z 11)]) 3 dX8_takeCalls_171 rfl (by decide) rfl ?_
      refine AW.goto (tgt := 39) dX8_takeCalls_174 (by decide) ?_
      refine AW.sub (lv1 := [(0, rv z 11), (3, iv (x3 + 1))]) [3, 0] rfl ?_
      exact ih _ _ _ h
    refine AW.icmp_ge (tgt := 66) dX8_takeCalls_59 (by decide) (fun c24 => ?_) (fun c24 => ?_)
    · refine AW.iconst dX8_takeCalls_66 ?_
      exact AW.val (e7.trans (if_pos c24)) J59
    · refine AW.iconst dX8_takeCalls_62 ?_
      refine AW.goto (tgt := 67) dX8_takeCalls_63 (by decide) ?_
      exact AW.val (e7.trans (if_neg c24)) J59
theorem Vans_takeCalls_ok {z : AZ} {x1 : Int} {x2 : Int} {g : AG} {r : Int × AG} (h : Vans_takeCalls x1 x2 g = some r) : AMf z yX8_takeCalls cX8_takeCalls 6 none 3 [rv z 11, iv x1, iv x2] g r := by
  intro d hdd
  refine AM.of (by decide +kernel) (Nat.le_of_ble_eq_true rfl) ?_
  show AW z (RX8, cX8_takeCalls, 6, none) d (QD none r) 0 [(0, rv z 11), (1, iv x1), (2, iv x2)] [] g
  unfold Vans_takeCalls at h
  refine AW.aloadr_n 0 dX8_takeCalls_0 rfl ?_
  refine AW.getR af_X8_30_11 sr_11_10 dX8_takeCalls_1 ?_
  refine AW.iconst dX8_takeCalls_4 ?_
  refine AW.iload_n 1 dX8_takeCalls_5 rfl ?_
  obtain ⟨g1, e2, h⟩ := hBe h
  refine AW.iast kc_113 sk_113 (by decide) dX8_takeCalls_6 e2 ?_
  refine AW.aloadr_n 0 dX8_takeCalls_7 rfl ?_
  refine AW.getR af_X8_30_11 sr_11_10 dX8_takeCalls_8 ?_
  refine AW.iconst dX8_takeCalls_11 ?_
  refine AW.iload_n 2 dX8_takeCalls_12 rfl ?_
  obtain ⟨g3, e4, h⟩ := hBe h
  refine AW.iast kc_113 sk_113 (by decide) dX8_takeCalls_13 e4 ?_
  refine AW.aloadr_n 0 dX8_takeCalls_14 rfl ?_
  refine AW.getR af_X8_33_11 sr_11_11 dX8_takeCalls_15 ?_
  refine AW.iconst dX8_takeCalls_18 ?_
  obtain ⟨g5, e6, h⟩ := hBe h
  refine AW.callSv (st := []) (fill_ok kc_114 sk_114 (by decide)) cf_X8_74 st_fill (Nat.le_trans (by decide) hdd) rfl dX8_takeCalls_19 rfl (Nat.le_of_ble_eq_true rfl) ?_
  rw [← e6]
  refine AW.aloadr_n 0 dX8_takeCalls_22 rfl ?_
  refine AW.iconst dX8_takeCalls_23 ?_
  obtain ⟨g7, e8, h⟩ := hBe h
  refine AW.putI ap_X8_80_11 sr_11_12 dX8_takeCalls_24 e8 ?_
  refine AW.aloadr_n 0 dX8_takeCalls_27 rfl ?_
  refine AW.iconst dX8_takeCalls_28 ?_
  obtain ⟨g9, e10, h⟩ := hBe h
  refine AW.putI ap_X8_83_11 sr_11_13 dX8_takeCalls_29 e10 ?_
  refine AW.aloadr_n 0 dX8_takeCalls_32 rfl ?_
  refine AW.iconst dX8_takeCalls_33 ?_
  obtain ⟨g11, e12, h⟩ := hBe h
  refine AW.putI ap_X8_86_11 sr_11_14 dX8_takeCalls_34 e12 ?_
  refine AW.iconst dX8_takeCalls_37 ?_
  refine AW.istore_n (lv1 := [(3, iv 0), (0, rv z 11), (1, iv x1), (2, iv x2)]) dX8_takeCalls_38 (by decide) rfl ?_
  refine AW.sub (lv1 := [(0, rv z 11), (3, iv 0)]) [1, 0] rfl ?_
  exact Vans_takeCalls_b_ok hdd _ _ _ h
theorem Vans_takerOf_ok {z : AZ} {x1 : Int} {g : AG} {r : Int} (h : Vans_takerOf x1 g = some r) : AMf z yX8_takerOf cX8_takerOf 2 (some .int) 1 [rv z 11, iv x1] g (r, g) := by
  intro d hdd
  refine AM.of (by decide +kernel) (Nat.le_of_ble_eq_true rfl) ?_
  show AW z (RX8, cX8_takerOf, 2, (some .int)) d (QD (some .int) (r, g)) 0 [(0, rv z 11), (1, iv x1)] [] g
  unfold Vans_takerOf at h
  refine AW.iload_n 1 dX8_takerOf_0 rfl ?_
  refine AW.bipush dX8_takerOf_1 (by decide) (by decide) ?_
  refine AW.isub dX8_takerOf_3 ?_
  refine AW.iconst dX8_takerOf_4 ?_
  refine AW.aloadr_n 0 dX8_takerOf_5 rfl ?_
  refine AW.getI af_X8_71_11 sr_11_5 dX8_takerOf_6 ?_
  refine AW.iconst dX8_takerOf_9 ?_
  refine AW.isub dX8_takerOf_10 ?_
  refine AW.callN0 (As := [iv (x1 - 10), iv 0, iv ((g 11 5) - 1)]) (st := []) X_within_ok ns_X8_92 in_X11 cd_X11_within st_X11_within (by decide) (Nat.le_trans (by decide) hdd) rfl (Nat.le_of_ble_eq_true rfl) dX8_takerOf_11 rfl ?_
  obtain ⟨r3, e4, h⟩ := hC h
  refine AW.join (tgt := 30) (lv1 := []) (st1 := [iv r3]) (g1 := g) ?_ (fun J14 => ?_)
  · exact AW.iret2 rfl dX8_takerOf_30 h rfl
  replace h := e4
  refine AW.if_eq (tgt := 29) dX8_takerOf_14 (by decide) (fun c1 => ?_) (fun c1 => ?_)
  · replace h := hT h c1
    refine AW.iconst dX8_takerOf_29 ?_
    refine AW.sub (lv1 := []) [] rfl ?_
    cases h
    exact J14
  · replace h := hF h c1
    refine AW.aloadr_n 0 dX8_takerOf_17 rfl ?_
    refine AW.getR af_X8_27_11 sr_11_9 dX8_takerOf_18 ?_
    refine AW.iload_n 1 dX8_takerOf_21 rfl ?_
    refine AW.bipush dX8_takerOf_22 (by decide) (by decide) ?_
    refine AW.isub dX8_takerOf_24 ?_
    obtain ⟨k2, h⟩ := hK h
    refine AW.iald kc_112 sk_112 k2 dX8_takerOf_25 ?_
    refine AW.goto (tgt := 30) dX8_takerOf_26 (by decide) ?_
    refine AW.sub (lv1 := []) [] rfl ?_
    cases h
    exact J14
theorem X_taken_ok {z : AZ} {x1 : Int} {x2 : Int} {x3 : Int} {g : AG} {r : Int × AG} (h : X_taken x1 x2 x3 g = some r) : AMf z yX11_taken cX11_taken 4 (some .int) 4 [rv z 0, iv x1, iv x2, iv x3] g r := by
  intro d hdd
  refine AM.of (by decide +kernel) (Nat.le_of_ble_eq_true rfl) ?_
  show AW z (RX11, cX11_taken, 4, (some .int)) d (QD (some .int) r) 0 [(0, rv z 0), (1, iv x1), (2, iv x2), (3, iv x3)] [] g
  unfold X_taken at h
  refine AW.iload_n 1 dX11_taken_0 rfl ?_
  refine AW.callSi (As := [iv x1]) (st := []) X_isPoint_ok cq_X11_111 st_X11_isPoint (Nat.le_trans (by decide) hdd) rfl dX11_taken_1 rfl (Nat.le_of_ble_eq_true rfl) ?_
  refine AW.if_eq (tgt := 14) dX11_taken_4 (by decide) (fun c1 => ?_) (fun c1 => ?_)
  · replace h := hT h c1
    refine AW.iconst dX11_taken_14 ?_
    exact AW.iret1 rfl dX11_taken_15 h rfl
  · replace h := hF h c1
    refine AW.iload_n 2 dX11_taken_7 rfl ?_
    refine AW.callSi (As := [iv x2]) (st := []) X_isPoint_ok cq_X11_111 st_X11_isPoint (Nat.le_trans (by decide) hdd) rfl dX11_taken_8 rfl (Nat.le_of_ble_eq_true rfl) ?_
    refine AW.if_ne (tgt := 16) dX11_taken_11 (by decide) (fun c2 => ?_) (fun c2 => ?_)
    · replace h := hF h c2
      refine AW.aloadr_n 0 dX11_taken_16 rfl ?_
      refine AW.getR af_X11_88_0 sr_0_10 dX11_taken_17 ?_
      obtain ⟨r3, e4, h⟩ := hC h
      refine AW.callVv (As := []) (st := []) (Vans_measure_ok e4) cq_X11_341 cr_11_X8_measure (Nat.le_trans (by decide) hdd) rfl dX11_taken_20 rfl (Nat.le_of_ble_eq_true rfl) ?_
      refine AW.aloadr_n 0 dX11_taken_23 rfl ?_
      refine AW.getR af_X11_88_0 sr_0_10 dX11_taken_24 ?_
      refine AW.iload_n 1 dX11_taken_27 rfl ?_
      refine AW.iload_n 2 dX11_taken_28 rfl ?_
      obtain ⟨r5, e6, h⟩ := hC h
      refine AW.callVv (As := [iv x1, iv x2]) (st := []) (Vans_takeCalls_ok e6) cq_X11_368 cr_11_X8_takeCalls (Nat.le_trans (by decide) hdd) rfl dX11_taken_29 rfl (Nat.le_of_ble_eq_true rfl) ?_
      refine AW.iload_n 3 dX11_taken_32 rfl ?_
      by_cases c7 : nw x3 = 0
      · replace h := hT h c7
        refine AW.tsIn (tgt := 60) 0 dX11_taken_33 c7 (by decide) (by decide) (by rfl) (by decide) ?_
        refine AW.aloadr_n 0 dX11_taken_60 rfl ?_
        refine AW.getR af_X11_88_0 sr_0_10 dX11_taken_61 ?_
        refine AW.getI af_X11_372_11 sr_11_12 dX11_taken_64 ?_
        exact AW.iret1 rfl dX11_taken_67 h rfl
      · replace h := hF h c7
        by_cases c8 : nw x3 = 1
        · replace h := hT h c8
          refine AW.tsIn (tgt := 68) 1 dX11_taken_33 c8 (by decide) (by decide) (by rfl) (by decide) ?_
          refine AW.aloadr_n 0 dX11_taken_68 rfl ?_
          refine AW.getR af_X11_88_0 sr_0_10 dX11_taken_69 ?_
          refine AW.getI af_X11_375_11 sr_11_13 dX11_taken_72 ?_
          exact AW.iret1 rfl dX11_taken_75 h rfl
        · replace h := hF h c8
          by_cases c9 : nw x3 = 2
          · replace h := hT h c9
            refine AW.tsIn (tgt := 76) 2 dX11_taken_33 c9 (by decide) (by decide) (by rfl) (by decide) ?_
            refine AW.aloadr_n 0 dX11_taken_76 rfl ?_
            refine AW.getR af_X11_88_0 sr_0_10 dX11_taken_77 ?_
            refine AW.getI af_X11_378_11 sr_11_14 dX11_taken_80 ?_
            exact AW.iret1 rfl dX11_taken_83 h rfl
          · replace h := hF h c9
            refine AW.tsOut (tgt := 84) dX11_taken_33 (by omega) (by decide) ?_
            refine AW.aloadr_n 0 dX11_taken_84 rfl ?_
            refine AW.getR af_X11_88_0 sr_0_10 dX11_taken_85 ?_
            refine AW.iload_n 3 dX11_taken_88 rfl ?_
            obtain ⟨r10, e11, h⟩ := hC h
            refine AW.callVi (As := [iv x3]) (st := []) (Vans_takerOf_ok e11) cq_X11_381 cr_11_X8_takerOf (Nat.le_trans (by decide) hdd) rfl dX11_taken_89 rfl (Nat.le_of_ble_eq_true rfl) ?_
            exact AW.iret1 rfl dX11_taken_92 h rfl
    · replace h := hT h c2
      refine AW.iconst dX11_taken_14 ?_
      exact AW.iret1 rfl dX11_taken_15 h rfl
theorem X_isWeather_ok {z : AZ} {x0 : Int} {x1 : Int} {x2 : Int} {x3 : Int} {g : AG} : AMf z yX11_isWeather cX11_isWeather 4 (some .boolean) 1 [iv x0, iv x1, iv x2, iv x3] g ((X_isWeather x0 x1 x2 x3), g) := by
  intro d hdd
  refine AM.of (by decide +kernel) (Nat.le_of_ble_eq_true rfl) ?_
  show AW z (RX11, cX11_isWeather, 4, (some .boolean)) d (QD (some .boolean) ((X_isWeather x0 x1 x2 x3), g)) 0 [(0, iv x0), (1, iv x1), (2, iv x2), (3, iv x3)] [] g
  refine AW.iload_n 0 dX11_isWeather_0 rfl ?_
  refine AW.iconst dX11_isWeather_1 ?_
  refine AW.bipush dX11_isWeather_2 (by decide) (by decide) ?_
  refine AW.callSi (As := [iv x0, iv 0, iv 99]) (st := []) X_within_ok cq_X11_99 st_X11_within (Nat.le_trans (by decide) hdd) rfl dX11_isWeather_4 rfl (Nat.le_of_ble_eq_true rfl) ?_
  refine AW.join (tgt := 46) (lv1 := [(0, iv x0), (1, iv x1), (2, iv x2), (3, iv x3)]) (st1 := [iv (if nw (X_within x0 0 99) = 0 then 0 else (if nw (X_within x1 0 100) = 0 then 0 else (if nw (X_within x2 0 99) = 0 then 0 else (if nw (X_within x3 0 999) = 0 then 0 else 1))))]) (g1 := g) ?_ (fun J7 => ?_)
  · exact AW.zret rfl (by (repeat' split) <;> first | exact Or.inl rfl | exact Or.inr rfl) dX11_isWeather_46 ⟨congrArg (fun v => some (iv v)) (show X_isWeather x0 x1 x2 x3  = (if nw (X_within x0 0 99) = 0 then 0 else (if nw (X_within x1 0 100) = 0 then 0 else (if nw (X_within x2 0 99) = 0 then 0 else (if nw (X_within x3 0 999) = 0 then 0 else 1)))) from rfl).symm, rfl⟩
  refine AW.if_eq (tgt := 45) dX11_isWeather_7 (by decide) (fun c1 => ?_) (fun c1 => ?_)
  · refine AW.iconst dX11_isWeather_45 ?_
    exact AW.val (if_pos c1) J7
  · refine AW.iload_n 1 dX11_isWeather_10 rfl ?_
    refine AW.iconst dX11_isWeather_11 ?_
    refine AW.bipush dX11_isWeather_12 (by decide) (by decide) ?_
    refine AW.callSi (As := [iv x1, iv 0, iv 100]) (st := []) X_within_ok cq_X11_99 st_X11_within (Nat.le_trans (by decide) hdd) rfl dX11_isWeather_14 rfl (Nat.le_of_ble_eq_true rfl) ?_
    refine AW.if_eq (tgt := 45) dX11_isWeather_17 (by decide) (fun c2 => ?_) (fun c2 => ?_)
    · refine AW.iconst dX11_isWeather_45 ?_
      exact AW.val ((if_neg c1).trans (if_pos c2)) J7
    · refine AW.iload_n 2 dX11_isWeather_20 rfl ?_
      refine AW.iconst dX11_isWeather_21 ?_
      refine AW.bipush dX11_isWeather_22 (by decide) (by decide) ?_
      refine AW.callSi (As := [iv x2, iv 0, iv 99]) (st := []) X_within_ok cq_X11_99 st_X11_within (Nat.le_trans (by decide) hdd) rfl dX11_isWeather_24 rfl (Nat.le_of_ble_eq_true rfl) ?_
      refine AW.if_eq (tgt := 45) dX11_isWeather_27 (by decide) (fun c3 => ?_) (fun c3 => ?_)
      · refine AW.iconst dX11_isWeather_45 ?_
        exact AW.val ((if_neg c1).trans ((if_neg c2).trans (if_pos c3))) J7
      · refine AW.iload_n 3 dX11_isWeather_30 rfl ?_
        refine AW.iconst dX11_isWeather_31 ?_
        refine AW.sipush dX11_isWeather_32 (by decide) (by decide) ?_
        refine AW.callSi (As := [iv x3, iv 0, iv 999]) (st := []) X_within_ok cq_X11_99 st_X11_within (Nat.le_trans (by decide) hdd) rfl dX11_isWeather_35 rfl (Nat.le_of_ble_eq_true rfl) ?_
        refine AW.if_eq (tgt := 45) dX11_isWeather_38 (by decide) (fun c4 => ?_) (fun c4 => ?_)
        · refine AW.iconst dX11_isWeather_45 ?_
          exact AW.val ((if_neg c1).trans ((if_neg c2).trans ((if_neg c3).trans (if_pos c4)))) J7
        · refine AW.iconst dX11_isWeather_41 ?_
          refine AW.goto (tgt := 46) dX11_isWeather_42 (by decide) ?_
          exact AW.val ((if_neg c1).trans ((if_neg c2).trans ((if_neg c3).trans (if_neg c4)))) J7
theorem Rain_start_ok {z : AZ} {x1 : Int} {x2 : Int} {g : AG} {r : Int × AG} (h : Rain_start x1 x2 g = some r) : AMf z yX5_start cX5_start 3 none 1 [rv z 12, iv x1, iv x2] g r := by
  intro d hdd
  refine AM.of (by decide +kernel) (Nat.le_of_ble_eq_true rfl) ?_
  show AW z (RX5, cX5_start, 3, none) d (QD none r) 0 [(0, rv z 12), (1, iv x1), (2, iv x2)] [] g
  unfold Rain_start at h
  refine AW.aloadr_n 0 dX5_start_0 rfl ?_
  obtain ⟨k1, h⟩ := hK h
  refine AW.getM af_X5_9_12 sr_12_0 dX5_start_1 rfl ?_
  refine AW.iconst dX5_start_4 ?_
  obtain ⟨g2, e3, h⟩ := hBe h
  refine AW.callSv (st := []) (fill_ok (sk_mut k1).1 (sk_mut k1).2 (by decide)) cf_X5_18 st_fill (Nat.le_trans (by decide) hdd) rfl dX5_start_5 rfl (Nat.le_of_ble_eq_true rfl) ?_
  rw [← e3]
  refine AW.aloadr_n 0 dX5_start_8 rfl ?_
  refine AW.iload_n 1 dX5_start_9 rfl ?_
  refine AW.iload_n 2 dX5_start_10 rfl ?_
  obtain ⟨t4, e5, h⟩ := hBe h
  refine AW.join (tgt := 20) (lv1 := [(0, rv z 12), (1, iv x1), (2, iv x2)]) (st1 := [iv t4, rv z 12]) (g1 := g2) ?_ (fun J11 => ?_)
  · obtain ⟨g6, e7, h⟩ := hBe h
    refine AW.putI ap_X5_25_12 sr_12_2 dX5_start_20 e7 ?_
    refine AW.aloadr_n 0 dX5_start_23 rfl ?_
    obtain ⟨k8, h⟩ := hK h
    refine AW.getM af_X5_9_12 sr_12_0 dX5_start_24 rfl ?_
    refine AW.iload_n 1 dX5_start_27 rfl ?_
    refine AW.aloadr_n 0 dX5_start_28 rfl ?_
    refine AW.getI af_X5_25_12 sr_12_2 dX5_start_29 ?_
    obtain ⟨k9, h⟩ := hK h
    obtain ⟨g10, e11, h⟩ := hBe h
    refine AW.iast (sk_mut k8).1 (sk_mut k8).2 k9 dX5_start_32 e11 ?_
    exact AW.vret1 rfl dX5_start_33 h rfl
  refine AW.icmp_ge (tgt := 18) dX5_start_11 (by decide) (fun c12 => ?_) (fun c12 => ?_)
  · refine AW.ldc dX5_start_18 cw_X5_24 ?_
    exact AW.val (e5.trans (if_pos c12)) J11
  · refine AW.iconst dX5_start_14 ?_
    refine AW.goto (tgt := 20) dX5_start_15 (by decide) ?_
    exact AW.val (e5.trans (if_neg c12)) J11
set_option synthInstance.maxHeartbeats 2000000 in
theorem Rain_passDay_b_ok {z : AZ} {d : Nat} (hdd : 1 ≤ d) {x1 : Int} {x2 : Int} {x3 : Int} {x4 : Int} : ∀ (tag : Nat) (x5 : Int) (g : AG) (r : Int × AG), Rain_passDay_b x1 x2 x3 x4 tag x5 g = some r → (tag = 1 → AW z (RX5, cX5_passDay, 8, none) d (QD none r) 11 [(0, rv z 12), (1, iv x1), (2, iv x2), (3, iv x3), (4, iv x4), (5, iv x5)] [] g) ∧ (tag = 2 → AW z (RX5, cX5_passDay, 8, none) d (QD none r) 107 [(0, rv z 12), (4, iv x4), (5, iv x5)] [] g) := by
  refine Rain_passDay_b.partial_correctness x1 x2 x3 x4 (fun tag x5 g r => (tag = 1 → AW z (RX5, cX5_passDay, 8, none) d (QD none r) 11 [(0, rv z 12), (1, iv x1), (2, iv x2), (3, iv x3), (4, iv x4), (5, iv x5)] [] g) ∧ (tag = 2 → AW z (RX5, cX5_passDay, 8, none) d (QD none r) 107 [(0, rv z 12), (4, iv x4), (5, iv x5)] [] g)) ?_
  intro fb9 ih tag x5 g r h
  refine ⟨fun h9 => ?_, fun h9 => ?_⟩
  · subst h9
    replace h := hT h rfl
    refine AW.iload 5 dX5_passDay_11 rfl ?_
    refine AW.sipush dX5_passDay_13 (by decide) (by decide) ?_
    refine AW.icmp_ge (tgt := 99) dX5_passDay_16 (by decide) (fun c1 => ?_) (fun c1 => ?_)
    · replace h := hT h c1
      refine AW.aloadr_n 0 dX5_passDay_99 rfl ?_
      refine AW.iconst dX5_passDay_100 ?_
      obtain ⟨g2, e3, h⟩ := hBe h
      refine AW.putI ap_X5_25_12 sr_12_2 dX5_passDay_101 e3 ?_
      refine AW.iconst dX5_passDay_104 ?_
      refine AW.istore (lv1 := [(5, iv 0), (0, rv z 12), (1, iv x1), (2, iv x2), (3, iv x3), (4, iv x4)]) dX5_passDay_105 (by decide) rfl ?_
      refine AW.sub (lv1 := [(0, rv z 12), (4, iv x4), (5, iv 0)]) [1, 5, 0] rfl ?_
      exact (ih _ _ _ _ h).2 rfl
    · replace h := hF h c1
      refine AW.aloadr_n 0 dX5_passDay_19 rfl ?_
      obtain ⟨k4, h⟩ := hK h
      refine AW.getM af_X5_9_12 sr_12_0 dX5_passDay_20 rfl ?_
      refine AW.iload 5 dX5_passDay_23 rfl ?_
      obtain ⟨k5, h⟩ := hK h
      refine AW.iald (sk_mut k4).1 (sk_mut k4).2 k5 dX5_passDay_25 ?_
      obtain ⟨r17, e18, h⟩ := hC h
      refine AW.join (tgt := 93) (lv1 := [(0, rv z 12), (1, iv x1), (2, iv x2), (3, iv x3), (4, iv x4), (5, iv x5)]) (st1 := []) (g1 := r17) ?_ (fun J26 => ?_)
      · refine AW.iinc (lv1 := [(5, iv (x5 + 1)), (0, rv z 12), (1, iv x1), (2, iv x2), (3, iv x3), (4, iv x4)]) 5 dX5_passDay_93 rfl (by decide) rfl ?_
        refine AW.goto (tgt := 11) dX5_passDay_96 (by decide) ?_
        refine AW.sub (lv1 := [(0, rv z 12), (1, iv x1), (2, iv x2), (3, iv x3), (4, iv x4), (5, iv (x5 + 1))]) [1, 2, 3, 4, 5, 0] rfl ?_
        exact (ih _ _ _ _ h).1 rfl
      replace h := e18
      refine AW.if_le (tgt := 93) dX5_passDay_26 (by decide) (fun c6 => ?_) (fun c6 => ?_)
      · replace h := hT h c6
        cases h
        exact J26
      · replace h := hF h c6
        refine AW.aloadr_n 0 dX5_passDay_29 rfl ?_
        obtain ⟨k7, h⟩ := hK h
        refine AW.getM af_X5_9_12 sr_12_0 dX5_passDay_30 rfl ?_
        refine AW.iload 5 dX5_passDay_33 rfl ?_
        refine AW.iald (sk_mut k7).1 (sk_mut k7).2 k5 dX5_passDay_35 ?_
        refine AW.iload_n 2 dX5_passDay_36 rfl ?_
        refine AW.imul dX5_passDay_37 ?_
        refine AW.bipush dX5_passDay_38 (by decide) (by decide) ?_
        refine AW.idiv dX5_passDay_40 (by decide) ?_
        refine AW.istore (lv1 := [(6, iv ((nw ((g (g 12 0).toNat (ix x5)) * x2)).tdiv 100)), (0, rv z 12), (1, iv x1), (2, iv x2), (3, iv x3), (4, iv x4), (5, iv x5)]) dX5_passDay_41 (by decide) rfl ?_
        refine AW.iconst dX5_passDay_43 ?_
        refine AW.iload 6 dX5_passDay_44 rfl ?_
        refine AW.iload_n 2 dX5_passDay_46 rfl ?_
        refine AW.isub dX5_passDay_47 ?_
        refine AW.mmax (st := []) cm_X5_29 mst_max mini mcd_max (Nat.le_trans (by decide) hdd) (Nat.le_of_ble_eq_true rfl) dX5_passDay_48 ?_
        refine AW.istore (lv1 := [(7, iv (mxI 0 (x5 - x1))), (6, iv ((nw ((g (g 12 0).toNat (ix x5)) * x2)).tdiv 100)), (0, rv z 12), (1, iv x1), (2, iv x2), (3, iv x3), (4, iv x4), (5, iv x5)]) dX5_passDay_51 (by decide) rfl ?_
        refine AW.aloadr_n 2 dX5_passDay_53 rfl ?_
        obtain ⟨k8, h⟩ := hK h
        refine AW.getM af_X5_15_12 sr_12_1 dX5_passDay_54 rfl ?_
        refine AW.sipush dX5_passDay_57 (by decide) (by decide) ?_
        refine AW.iload 0 dX5_passDay_60 rfl ?_
        refine AW.iload_n 5 dX5_passDay_62 rfl ?_
        refine AW.iadd dX5_passDay_63 ?_
        refine AW.mmin (st := [rv z (g 12 1).toNat]) cm_X5_35 mst_min mini mcd_min (Nat.le_trans (by decide) hdd) (Nat.le_of_ble_eq_true rfl) dX5_passDay_64 ?_
        refine AW.dup2r dX5_passDay_67 ?_
        obtain ⟨k9, h⟩ := hK h
        refine AW.iald (sk_mut k8).1 (sk_mut k8).2 k9 dX5_passDay_68 ?_
        refine AW.iload 1 dX5_passDay_69 rfl ?_
        refine AW.iadd dX5_passDay_71 ?_
        obtain ⟨g10, e11, h⟩ := hBe h
        refine AW.iast (sk_mut k8).1 (sk_mut k8).2 k9 dX5_passDay_72 e11 ?_
        refine AW.aloadr_n 2 dX5_passDay_73 rfl ?_
        obtain ⟨k12, h⟩ := hK h
        refine AW.getM af_X5_15_12 sr_12_1 dX5_passDay_74 rfl ?_
        refine AW.iload 0 dX5_passDay_77 rfl ?_
        refine AW.dup2r dX5_passDay_79 ?_
        obtain ⟨k13, h⟩ := hK h
        refine AW.iald (sk_mut k12).1 (sk_mut k12).2 k13 dX5_passDay_80 ?_
        refine AW.aloadr_n 2 dX5_passDay_81 rfl ?_
        obtain ⟨k14, h⟩ := hK h
        refine AW.getM af_X5_9_12 sr_12_0 dX5_passDay_82 rfl ?_
        refine AW.iload 7 dX5_passDay_85 rfl ?_
        refine AW.iald (sk_mut k14).1 (sk_mut k14).2 k5 dX5_passDay_87 ?_
        refine AW.iload 1 dX5_passDay_88 rfl ?_
        refine AW.isub dX5_passDay_90 ?_
        refine AW.iadd dX5_passDay_91 ?_
        obtain ⟨g15, e16, h⟩ := hBe h
        refine AW.iast (sk_mut k12).1 (sk_mut k12).2 k13 dX5_passDay_92 e16 ?_
        refine AW.sub (lv1 := [(0, rv z 12), (1, iv x1), (2, iv x2), (3, iv x3), (4, iv x4), (5, iv x5)]) [2, 3, 4, 5, 6, 7] rfl ?_
        cases h
        exact J26
  · subst h9
    replace h := hF h (by decide)
    replace h := hT h rfl
    refine AW.iload 2 dX5_passDay_107 rfl ?_
    refine AW.sipush dX5_passDay_109 (by decide) (by decide) ?_
    refine AW.icmp_ge (tgt := 162) dX5_passDay_112 (by decide) (fun c1 => ?_) (fun c1 => ?_)
    · replace h := hT h c1
      refine AW.aloadr_n 0 dX5_passDay_162 rfl ?_
      obtain ⟨k2, h⟩ := hK h
      refine AW.getM af_X5_9_12 sr_12_0 dX5_passDay_163 rfl ?_
      refine AW.astorer (lv1 := [(5, rv z (g 12 0).toNat), (0, rv z 12), (4, iv x4)]) dX5_passDay_166 (by decide) rfl ?_
      refine AW.aloadr_n 1 dX5_passDay_168 rfl ?_
      refine AW.aloadr_n 1 dX5_passDay_169 rfl ?_
      obtain ⟨k3, h⟩ := hK h
      refine AW.getM af_X5_15_12 sr_12_1 dX5_passDay_170 rfl ?_
      obtain ⟨g4, e5, h⟩ := hBe h
      refine AW.putM ap_X5_9_12 sr_12_0 rfl dX5_passDay_173 e5 ?_
      refine AW.aloadr_n 1 dX5_passDay_176 rfl ?_
      refine AW.aloadr 0 dX5_passDay_177 rfl ?_
      obtain ⟨g6, e7, h⟩ := hBe h
      refine AW.putM ap_X5_15_12 sr_12_1 rfl dX5_passDay_179 e7 ?_
      exact AW.vret1 rfl dX5_passDay_182 h rfl
    · replace h := hF h c1
      refine AW.aloadr_n 0 dX5_passDay_115 rfl ?_
      obtain ⟨k8, h⟩ := hK h
      refine AW.getM af_X5_15_12 sr_12_1 dX5_passDay_116 rfl ?_
      refine AW.iload 2 dX5_passDay_119 rfl ?_
      refine AW.iload 2 dX5_passDay_121 rfl ?_
      refine AW.iload 1 dX5_passDay_123 rfl ?_
      obtain ⟨r12, e13, h⟩ := hC h
      refine AW.join (tgt := 139) (lv1 := [(0, rv z 12), (4, iv x4), (5, iv x5)]) (st1 := [iv r12.1, iv x5, rv z (g 12 1).toNat]) (g1 := r12.2) ?_ (fun J125 => ?_)
      · obtain ⟨k14, h⟩ := hK h
        obtain ⟨g15, e16, h⟩ := hBe h
        refine AW.iast (sk_mut k8).1 (sk_mut k8).2 k14 dX5_passDay_139 e16 ?_
        refine AW.aloadr_n 0 dX5_passDay_140 rfl ?_
        refine AW.duprr dX5_passDay_141 ?_
        refine AW.getI af_X5_25_12 sr_12_2 dX5_passDay_142 ?_
        refine AW.aloadr_n 0 dX5_passDay_145 rfl ?_
        obtain ⟨k17, h⟩ := hK h
        refine AW.getM af_X5_15_12 sr_12_1 dX5_passDay_146 rfl ?_
        refine AW.iload 2 dX5_passDay_149 rfl ?_
        refine AW.iald (sk_mut k17).1 (sk_mut k17).2 k14 dX5_passDay_151 ?_
        refine AW.iadd dX5_passDay_152 ?_
        obtain ⟨g18, e19, h⟩ := hBe h
        refine AW.putI ap_X5_25_12 sr_12_2 dX5_passDay_153 e19 ?_
        refine AW.iinc (lv1 := [(5, iv (x5 + 1)), (0, rv z 12), (4, iv x4)]) 2 dX5_passDay_156 rfl (by decide) rfl ?_
        refine AW.goto (tgt := 107) dX5_passDay_159 (by decide) ?_
        refine AW.sub (lv1 := [(0, rv z 12), (4, iv x4), (5, iv (x5 + 1))]) [1, 2, 0] rfl ?_
        exact (ih _ _ _ _ h).2 rfl
      replace h := e13
      refine AW.icmp_ge (tgt := 132) dX5_passDay_125 (by decide) (fun c9 => ?_) (fun c9 => ?_)
      · replace h := hT h c9
        refine AW.aloadr_n 0 dX5_passDay_132 rfl ?_
        obtain ⟨k10, h⟩ := hK h
        refine AW.getM af_X5_15_12 sr_12_1 dX5_passDay_133 rfl ?_
        refine AW.iload 2 dX5_passDay_136 rfl ?_
        obtain ⟨k11, h⟩ := hK h
        refine AW.iald (sk_mut k10).1 (sk_mut k10).2 k11 dX5_passDay_138 ?_
        cases h
        exact J125
      · replace h := hF h c9
        refine AW.iconst dX5_passDay_128 ?_
        refine AW.goto (tgt := 139) dX5_passDay_129 (by decide) ?_
        cases h
        exact J125
theorem Rain_passDay_ok {z : AZ} {x1 : Int} {x2 : Int} {x3 : Int} {x4 : Int} {g : AG} {r : Int × AG} (h : Rain_passDay x1 x2 x3 x4 g = some r) : AMf z yX5_passDay cX5_passDay 8 none 1 [rv z 12, iv x1, iv x2, iv x3, iv x4] g r := by
  intro d hdd
  refine AM.of (by decide +kernel) (Nat.le_of_ble_eq_true rfl) ?_
  show AW z (RX5, cX5_passDay, 8, none) d (QD none r) 0 [(0, rv z 12), (1, iv x1), (2, iv x2), (3, iv x3), (4, iv x4)] [] g
  unfold Rain_passDay at h
  refine AW.aloadr_n 0 dX5_passDay_0 rfl ?_
  obtain ⟨k1, h⟩ := hK h
  refine AW.getM af_X5_15_12 sr_12_1 dX5_passDay_1 rfl ?_
  refine AW.iconst dX5_passDay_4 ?_
  obtain ⟨g2, e3, h⟩ := hBe h
  refine AW.callSv (st := []) (fill_ok (sk_mut k1).1 (sk_mut k1).2 (by decide)) cf_X5_18 st_fill (Nat.le_trans (by decide) hdd) rfl dX5_passDay_5 rfl (Nat.le_of_ble_eq_true rfl) ?_
  rw [← e3]
  refine AW.iconst dX5_passDay_8 ?_
  refine AW.istore (lv1 := [(5, iv 0), (0, rv z 12), (1, iv x1), (2, iv x2), (3, iv x3), (4, iv x4)]) dX5_passDay_9 (by decide) rfl ?_
  refine AW.sub (lv1 := [(0, rv z 12), (1, iv x1), (2, iv x2), (3, iv x3), (4, iv x4), (5, iv 0)]) [1, 2, 3, 4, 5, 0] rfl ?_
  exact (Rain_passDay_b_ok hdd _ _ _ _ h).1 rfl
set_option synthInstance.maxHeartbeats 2000000 in
theorem X_left_b_ok {z : AZ} {d : Nat} (hdd : 2 ≤ d) {x1 : Int} {x2 : Int} {x3 : Int} {x4 : Int} {x5 : Int} : ∀ (x6 : Int) (g : AG) (r : Int × AG), X_left_b x1 x2 x3 x4 x5 x6 g = some r → AW z (RX11, cX11_left, 7, (some .int)) d (QD (some .int) r) 43 [(0, rv z 0), (1, iv x1), (2, iv x2), (3, iv x3), (4, iv x4), (5, iv x5), (6, iv x6)] [] g := by
  refine X_left_b.partial_correctness x1 x2 x3 x4 x5 (fun x6 g r => AW z (RX11, cX11_left, 7, (some .int)) d (QD (some .int) r) 43 [(0, rv z 0), (1, iv x1), (2, iv x2), (3, iv x3), (4, iv x4), (5, iv x5), (6, iv x6)] [] g) ?_
  intro fb9 ih x6 g r h
  refine AW.iload 6 dX11_left_43 rfl ?_
  refine AW.iload 5 dX11_left_45 rfl ?_
  refine AW.icmp_ge (tgt := 68) dX11_left_47 (by decide) (fun c1 => ?_) (fun c1 => ?_)
  · replace h := hT h c1
    refine AW.aloadr_n 0 dX11_left_68 rfl ?_
    refine AW.getR af_X11_95_0 sr_0_11 dX11_left_69 ?_
    refine AW.getI af_X11_394_12 sr_12_2 dX11_left_72 ?_
    exact AW.iret1 rfl dX11_left_75 h rfl
  · replace h := hF h c1
    refine AW.aloadr_n 0 dX11_left_50 rfl ?_
    refine AW.getR af_X11_95_0 sr_0_11 dX11_left_51 ?_
    refine AW.iload_n 1 dX11_left_54 rfl ?_
    refine AW.iload_n 2 dX11_left_55 rfl ?_
    refine AW.iload_n 3 dX11_left_56 rfl ?_
    refine AW.iload 4 dX11_left_57 rfl ?_
    obtain ⟨r2, e3, h⟩ := hC h
    refine AW.callVv (As := [iv x1, iv x2, iv x3, iv x4]) (st := []) (Rain_passDay_ok e3) cq_X11_390 cr_12_X5_passDay (Nat.le_trans (by decide) hdd) rfl dX11_left_59 rfl (Nat.le_of_ble_eq_true rfl) ?_
    refine AW.iinc (lv1 := [(6, iv (x6 + 1)), (0, rv z 0), (1, iv x1), (2, iv x2), (3, iv x3), (4, iv x4), (5, iv x5)]) 6 dX11_left_62 rfl (by decide) rfl ?_
    refine AW.goto (tgt := 43) dX11_left_65 (by decide) ?_
    refine AW.sub (lv1 := [(0, rv z 0), (1, iv x1), (2, iv x2), (3, iv x3), (4, iv x4), (5, iv x5), (6, iv (x6 + 1))]) [1, 2, 3, 4, 5, 6, 0] rfl ?_
    exact ih _ _ _ h
theorem X_left_ok {z : AZ} {x1 : Int} {x2 : Int} {x3 : Int} {x4 : Int} {x5 : Int} {g : AG} {r : Int × AG} (h : X_left x1 x2 x3 x4 x5 g = some r) : AMf z yX11_left cX11_left 7 (some .int) 2 [rv z 0, iv x1, iv x2, iv x3, iv x4, iv x5] g r := by
  intro d hdd
  refine AM.of (by decide +kernel) (Nat.le_of_ble_eq_true rfl) ?_
  show AW z (RX11, cX11_left, 7, (some .int)) d (QD (some .int) r) 0 [(0, rv z 0), (1, iv x1), (2, iv x2), (3, iv x3), (4, iv x4), (5, iv x5)] [] g
  unfold X_left at h
  refine AW.iload_n 1 dX11_left_0 rfl ?_
  refine AW.iload_n 2 dX11_left_1 rfl ?_
  refine AW.iload_n 3 dX11_left_2 rfl ?_
  refine AW.iload 4 dX11_left_3 rfl ?_
  refine AW.callSi (As := [iv x1, iv x2, iv x3, iv x4]) (st := []) X_isWeather_ok cq_X11_384 st_X11_isWeather (Nat.le_trans (by decide) hdd) rfl dX11_left_5 rfl (Nat.le_of_ble_eq_true rfl) ?_
  refine AW.if_eq (tgt := 22) dX11_left_8 (by decide) (fun c1 => ?_) (fun c1 => ?_)
  · replace h := hT h c1
    refine AW.iconst dX11_left_22 ?_
    exact AW.iret1 rfl dX11_left_23 h rfl
  · replace h := hF h c1
    refine AW.iload 5 dX11_left_11 rfl ?_
    refine AW.iconst dX11_left_13 ?_
    refine AW.bipush dX11_left_14 (by decide) (by decide) ?_
    refine AW.callSi (As := [iv x5, iv 0, iv 60]) (st := []) X_within_ok cq_X11_99 st_X11_within (Nat.le_trans (by decide) hdd) rfl dX11_left_16 rfl (Nat.le_of_ble_eq_true rfl) ?_
    refine AW.if_ne (tgt := 24) dX11_left_19 (by decide) (fun c2 => ?_) (fun c2 => ?_)
    · replace h := hF h c2
      refine AW.aloadr_n 0 dX11_left_24 rfl ?_
      refine AW.getR af_X11_95_0 sr_0_11 dX11_left_25 ?_
      refine AW.aloadr_n 0 dX11_left_28 rfl ?_
      refine AW.getR af_X11_12_0 sr_0_0 dX11_left_29 ?_
      refine AW.getI af_X11_127_1 sr_1_5 dX11_left_32 ?_
      refine AW.iload 4 dX11_left_35 rfl ?_
      obtain ⟨r3, e4, h⟩ := hC h
      refine AW.callVv (As := [iv (g 1 5), iv x4]) (st := []) (Rain_start_ok e4) cq_X11_387 cr_12_X5_start (Nat.le_trans (by decide) hdd) rfl dX11_left_37 rfl (Nat.le_of_ble_eq_true rfl) ?_
      refine AW.iconst dX11_left_40 ?_
      refine AW.istore (lv1 := [(6, iv 0), (0, rv z 0), (1, iv x1), (2, iv x2), (3, iv x3), (4, iv x4), (5, iv x5)]) dX11_left_41 (by decide) rfl ?_
      refine AW.sub (lv1 := [(0, rv z 0), (1, iv x1), (2, iv x2), (3, iv x3), (4, iv x4), (5, iv x5), (6, iv 0)]) [1, 2, 3, 4, 5, 6, 0] rfl ?_
      exact X_left_b_ok hdd _ _ _ h
    · replace h := hT h c2
      refine AW.iconst dX11_left_22 ?_
      exact AW.iret1 rfl dX11_left_23 h rfl
set_option synthInstance.maxHeartbeats 2000000 in
theorem X_shuts_b_ok {z : AZ} {d : Nat} (hdd : 2 ≤ d) {x1 : Int} {x2 : Int} {x3 : Int} {x4 : Int} : ∀ (x5 : Int) (g : AG) (r : Int × AG), X_shuts_b x1 x2 x3 x4 x5 g = some r → AW z (RX11, cX11_shuts, 6, (some .int)) d (QD (some .int) r) 32 [(0, rv z 0), (1, iv x1), (2, iv x2), (3, iv x3), (4, iv x4), (5, iv x5)] [] g := by
  refine X_shuts_b.partial_correctness x1 x2 x3 x4 (fun x5 g r => AW z (RX11, cX11_shuts, 6, (some .int)) d (QD (some .int) r) 32 [(0, rv z 0), (1, iv x1), (2, iv x2), (3, iv x3), (4, iv x4), (5, iv x5)] [] g) ?_
  intro fb9 ih x5 g r h
  refine AW.iload 5 dX11_shuts_32 rfl ?_
  refine AW.bipush dX11_shuts_34 (by decide) (by decide) ?_
  refine AW.icmp_gt (tgt := 73) dX11_shuts_36 (by decide) (fun c1 => ?_) (fun c1 => ?_)
  · replace h := hT h c1
    refine AW.iconst dX11_shuts_73 ?_
    exact AW.iret1 rfl dX11_shuts_74 h rfl
  · replace h := hF h c1
    refine AW.aloadr_n 0 dX11_shuts_39 rfl ?_
    refine AW.getR af_X11_95_0 sr_0_11 dX11_shuts_40 ?_
    refine AW.getI af_X11_394_12 sr_12_2 dX11_shuts_43 ?_
    refine AW.ldcw dX11_shuts_46 cw_X11_397 ?_
    refine AW.icmp_ge (tgt := 55) dX11_shuts_49 (by decide) (fun c2 => ?_) (fun c2 => ?_)
    · replace h := hT h c2
      refine AW.aloadr_n 0 dX11_shuts_55 rfl ?_
      refine AW.getR af_X11_95_0 sr_0_11 dX11_shuts_56 ?_
      refine AW.iload_n 1 dX11_shuts_59 rfl ?_
      refine AW.iload_n 2 dX11_shuts_60 rfl ?_
      refine AW.iload_n 3 dX11_shuts_61 rfl ?_
      refine AW.iload 4 dX11_shuts_62 rfl ?_
      obtain ⟨r3, e4, h⟩ := hC h
      refine AW.callVv (As := [iv x1, iv x2, iv x3, iv x4]) (st := []) (Rain_passDay_ok e4) cq_X11_390 cr_12_X5_passDay (Nat.le_trans (by decide) hdd) rfl dX11_shuts_64 rfl (Nat.le_of_ble_eq_true rfl) ?_
      refine AW.iinc (lv1 := [(5, iv (x5 + 1)), (0, rv z 0), (1, iv x1), (2, iv x2), (3, iv x3), (4, iv x4)]) 5 dX11_shuts_67 rfl (by decide) rfl ?_
      refine AW.goto (tgt := 32) dX11_shuts_70 (by decide) ?_
      refine AW.sub (lv1 := [(0, rv z 0), (1, iv x1), (2, iv x2), (3, iv x3), (4, iv x4), (5, iv (x5 + 1))]) [1, 2, 3, 4, 5, 0] rfl ?_
      exact ih _ _ _ h
    · replace h := hF h c2
      refine AW.iload 5 dX11_shuts_52 rfl ?_
      exact AW.iret1 rfl dX11_shuts_54 h rfl
theorem X_shuts_ok {z : AZ} {x1 : Int} {x2 : Int} {x3 : Int} {x4 : Int} {g : AG} {r : Int × AG} (h : X_shuts x1 x2 x3 x4 g = some r) : AMf z yX11_shuts cX11_shuts 6 (some .int) 2 [rv z 0, iv x1, iv x2, iv x3, iv x4] g r := by
  intro d hdd
  refine AM.of (by decide +kernel) (Nat.le_of_ble_eq_true rfl) ?_
  show AW z (RX11, cX11_shuts, 6, (some .int)) d (QD (some .int) r) 0 [(0, rv z 0), (1, iv x1), (2, iv x2), (3, iv x3), (4, iv x4)] [] g
  unfold X_shuts at h
  refine AW.iload_n 1 dX11_shuts_0 rfl ?_
  refine AW.iload_n 2 dX11_shuts_1 rfl ?_
  refine AW.iload_n 3 dX11_shuts_2 rfl ?_
  refine AW.iload 4 dX11_shuts_3 rfl ?_
  refine AW.callSi (As := [iv x1, iv x2, iv x3, iv x4]) (st := []) X_isWeather_ok cq_X11_384 st_X11_isWeather (Nat.le_trans (by decide) hdd) rfl dX11_shuts_5 rfl (Nat.le_of_ble_eq_true rfl) ?_
  refine AW.if_ne (tgt := 13) dX11_shuts_8 (by decide) (fun c1 => ?_) (fun c1 => ?_)
  · replace h := hF h c1
    refine AW.aloadr_n 0 dX11_shuts_13 rfl ?_
    refine AW.getR af_X11_95_0 sr_0_11 dX11_shuts_14 ?_
    refine AW.aloadr_n 0 dX11_shuts_17 rfl ?_
    refine AW.getR af_X11_12_0 sr_0_0 dX11_shuts_18 ?_
    refine AW.getI af_X11_127_1 sr_1_5 dX11_shuts_21 ?_
    refine AW.iload 4 dX11_shuts_24 rfl ?_
    obtain ⟨r2, e3, h⟩ := hC h
    refine AW.callVv (As := [iv (g 1 5), iv x4]) (st := []) (Rain_start_ok e3) cq_X11_387 cr_12_X5_start (Nat.le_trans (by decide) hdd) rfl dX11_shuts_26 rfl (Nat.le_of_ble_eq_true rfl) ?_
    refine AW.iconst dX11_shuts_29 ?_
    refine AW.istore (lv1 := [(5, iv 0), (0, rv z 0), (1, iv x1), (2, iv x2), (3, iv x3), (4, iv x4)]) dX11_shuts_30 (by decide) rfl ?_
    refine AW.sub (lv1 := [(0, rv z 0), (1, iv x1), (2, iv x2), (3, iv x3), (4, iv x4), (5, iv 0)]) [1, 2, 3, 4, 5, 0] rfl ?_
    exact X_shuts_b_ok hdd _ _ _ h
  · replace h := hT h c1
    refine AW.iconst dX11_shuts_11 ?_
    exact AW.iret1 rfl dX11_shuts_12 h rfl
theorem X_price_ok {z : AZ} {x1 : Int} {x2 : Int} {x3 : Int} {g : AG} {r : Int × AG} (h : X_price x1 x2 x3 g = some r) : AMf z yX11_price cX11_price 5 (some .int) 5 [rv z 0, iv x1, iv x2, iv x3] g r := by
  intro d hdd
  refine AM.of (by decide +kernel) (Nat.le_of_ble_eq_true rfl) ?_
  show AW z (RX11, cX11_price, 5, (some .int)) d (QD (some .int) r) 0 [(0, rv z 0), (1, iv x1), (2, iv x2), (3, iv x3)] [] g
  unfold X_price at h
  refine AW.aloadr_n 0 dX11_price_0 rfl ?_
  refine AW.iload_n 1 dX11_price_1 rfl ?_
  refine AW.callVi (As := [iv x1]) (st := []) X_isBoat_ok cq_X11_107 cr_0_X11_isBoat (Nat.le_trans (by decide) hdd) rfl dX11_price_2 rfl (Nat.le_of_ble_eq_true rfl) ?_
  refine AW.if_eq (tgt := 15) dX11_price_5 (by decide) (fun c1 => ?_) (fun c1 => ?_)
  · replace h := hT h c1
    refine AW.ldc dX11_price_15 cw_X11_198 ?_
    exact AW.iret1 rfl dX11_price_17 h rfl
  · replace h := hF h c1
    refine AW.iload_n 2 dX11_price_8 rfl ?_
    refine AW.callSi (As := [iv x2]) (st := []) X_isWeek_ok cq_X11_267 st_X11_isWeek (Nat.le_trans (by decide) hdd) rfl dX11_price_9 rfl (Nat.le_of_ble_eq_true rfl) ?_
    refine AW.if_ne (tgt := 18) dX11_price_12 (by decide) (fun c2 => ?_) (fun c2 => ?_)
    · replace h := hF h c2
      refine AW.aloadr_n 0 dX11_price_18 rfl ?_
      refine AW.getR af_X11_49_0 sr_0_5 dX11_price_19 ?_
      refine AW.iload_n 1 dX11_price_22 rfl ?_
      refine AW.iload_n 2 dX11_price_23 rfl ?_
      refine AW.iload_n 3 dX11_price_24 rfl ?_
      obtain ⟨r3, e4, h⟩ := hC h
      refine AW.callVi (As := [iv x1, iv x2, iv x3]) (st := []) (Boats_priceLine_ok e4) cq_X11_398 cr_6_X0_priceLine (Nat.le_trans (by decide) hdd) rfl dX11_price_25 rfl (Nat.le_of_ble_eq_true rfl) ?_
      refine AW.istore (lv1 := [(4, iv r3.1), (0, rv z 0), (1, iv x1), (2, iv x2), (3, iv x3)]) dX11_price_28 (by decide) rfl ?_
      refine AW.iload 0 dX11_price_30 rfl ?_
      refine AW.iconst dX11_price_32 ?_
      obtain ⟨r8, e9, h⟩ := hC h
      refine AW.join (tgt := 50) (lv1 := []) (st1 := [iv r8.1]) (g1 := r8.2) ?_ (fun J33 => ?_)
      · exact AW.iret1 rfl dX11_price_50 h rfl
      replace h := e9
      refine AW.icmp_ne (tgt := 41) dX11_price_33 (by decide) (fun c5 => ?_) (fun c5 => ?_)
      · replace h := hF h c5
        refine AW.aloadr_n 1 dX11_price_41 rfl ?_
        refine AW.getR af_X11_19_0 sr_0_1 dX11_price_42 ?_
        refine AW.iload 0 dX11_price_45 rfl ?_
        obtain ⟨r6, e7, h⟩ := hC h
        refine AW.callVi (As := [iv r3.1]) (st := []) (Rules_valueOf_ok e7) cq_X11_402 cr_2_X6_valueOf (Nat.le_trans (by decide) hdd) rfl dX11_price_47 rfl (Nat.le_of_ble_eq_true rfl) ?_
        refine AW.sub (lv1 := []) [] rfl ?_
        cases h
        exact J33
      · replace h := hT h c5
        refine AW.ldc dX11_price_36 cw_X11_198 ?_
        refine AW.goto (tgt := 50) dX11_price_38 (by decide) ?_
        refine AW.sub (lv1 := []) [] rfl ?_
        cases h
        exact J33
    · replace h := hT h c2
      refine AW.ldc dX11_price_15 cw_X11_198 ?_
      exact AW.iret1 rfl dX11_price_17 h rfl
theorem Boats_holdLine_ok {z : AZ} {x1 : Int} {x2 : Int} {x3 : Int} {x4 : Int} {g : AG} {r : Int × AG} (h : Boats_holdLine x1 x2 x3 x4 g = some r) : AMf z yX0_holdLine cX0_holdLine 5 (some .int) 4 [rv z 6, iv x1, iv x2, iv x3, iv x4] g r := by
  intro d hdd
  refine AM.of (by decide +kernel) (Nat.le_of_ble_eq_true rfl) ?_
  show AW z (RX0, cX0_holdLine, 5, (some .int)) d (QD (some .int) r) 0 [(0, rv z 6), (1, iv x1), (2, iv x2), (3, iv x3), (4, iv x4)] [] g
  unfold Boats_holdLine at h
  refine AW.aloadr_n 0 dX0_holdLine_0 rfl ?_
  refine AW.getR af_X0_42_6 sr_6_1 dX0_holdLine_1 ?_
  refine AW.iload 4 dX0_holdLine_4 rfl ?_
  obtain ⟨r1, e2, h⟩ := hC h
  refine AW.callVv (As := [iv x4]) (st := []) (Rules_askWeek_ok e2) cq_X0_127 cr_2_X6_askWeek (Nat.le_trans (by decide) hdd) rfl dX0_holdLine_6 rfl (Nat.le_of_ble_eq_true rfl) ?_
  refine AW.aloadr_n 0 dX0_holdLine_9 rfl ?_
  refine AW.getR af_X0_42_6 sr_6_1 dX0_holdLine_10 ?_
  refine AW.getR af_X0_115_2 sr_2_13 dX0_holdLine_13 ?_
  refine AW.bipush dX0_holdLine_16 (by decide) (by decide) ?_
  refine AW.iload_n 2 dX0_holdLine_18 rfl ?_
  obtain ⟨g3, e4, h⟩ := hBe h
  refine AW.iast kc_27 sk_27 (by decide) dX0_holdLine_19 e4 ?_
  refine AW.aloadr_n 0 dX0_holdLine_20 rfl ?_
  refine AW.getR af_X0_42_6 sr_6_1 dX0_holdLine_21 ?_
  refine AW.getR af_X0_115_2 sr_2_13 dX0_holdLine_24 ?_
  refine AW.bipush dX0_holdLine_27 (by decide) (by decide) ?_
  refine AW.iload_n 3 dX0_holdLine_29 rfl ?_
  obtain ⟨g5, e6, h⟩ := hBe h
  refine AW.iast kc_27 sk_27 (by decide) dX0_holdLine_30 e6 ?_
  refine AW.aloadr_n 0 dX0_holdLine_31 rfl ?_
  refine AW.getR af_X0_42_6 sr_6_1 dX0_holdLine_32 ?_
  refine AW.getR af_X0_115_2 sr_2_13 dX0_holdLine_35 ?_
  refine AW.iconst dX0_holdLine_38 ?_
  refine AW.aloadr_n 0 dX0_holdLine_39 rfl ?_
  refine AW.getR af_X0_15_6 sr_6_4 dX0_holdLine_40 ?_
  refine AW.iload_n 1 dX0_holdLine_43 rfl ?_
  obtain ⟨k7, h⟩ := hK h
  refine AW.iald kc_49 sk_49 k7 dX0_holdLine_44 ?_
  obtain ⟨g8, e9, h⟩ := hBe h
  refine AW.iast kc_27 sk_27 (by decide) dX0_holdLine_45 e9 ?_
  refine AW.aloadr_n 0 dX0_holdLine_46 rfl ?_
  refine AW.getR af_X0_42_6 sr_6_1 dX0_holdLine_47 ?_
  refine AW.bipush dX0_holdLine_50 (by decide) (by decide) ?_
  obtain ⟨r10, e11, h⟩ := hC h
  refine AW.callVi (As := [iv 103]) (st := []) (Rules_serving_ok e11) cq_X0_118 cr_2_X6_serving (Nat.le_trans (by decide) hdd) rfl dX0_holdLine_52 rfl (Nat.le_of_ble_eq_true rfl) ?_
  exact AW.iret1 rfl dX0_holdLine_55 h rfl
