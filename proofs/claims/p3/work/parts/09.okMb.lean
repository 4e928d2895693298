theorem M_hours_117_143_143_ok {z : AZ} {x2 : Int} {x4 : Int} {g : AG} {r : Int × AG} (h : M_hours_117_143_143 x2 x4 g = some r) : AMf z yX12_hours cX12_hours 5 (some .boolean) 9 [rv z 117, rv z 143, iv x2, rv z 143, iv x4] g r := by
  intro d hdd
  refine AM.of (by decide +kernel) (Nat.le_of_ble_eq_true rfl) ?_
  show AW z (RX12, cX12_hours, 5, (some .boolean)) d (QD (some .boolean) r) 0 [(0, rv z 117), (1, rv z 143), (2, iv x2), (3, rv z 143), (4, iv x4)] [] g
  unfold M_hours_117_143_143 at h
  refine AW.aloadr_n 1 dX12_hours_0 rfl ?_
  refine AW.iload_n 2 dX12_hours_1 rfl ?_
  refine AW.aloadr_n 0 dX12_hours_2 rfl ?_
  refine AW.getI af_X12_318_117 sr_117_41 dX12_hours_3 ?_
  obtain ⟨k1, h⟩ := hK h
  obtain ⟨g2, e3, h⟩ := hBe h
  refine AW.iast kc_143 sk_143 k1 dX12_hours_6 e3 ?_
  refine AW.aloadr_n 0 dX12_hours_7 rfl ?_
  refine AW.iconst dX12_hours_8 ?_
  refine AW.bipush dX12_hours_9 (by decide) (by decide) ?_
  obtain ⟨r4, e5, h⟩ := hC h
  refine AW.callVi (As := [iv 0, iv 24]) (st := []) (M_number_ok e5) cq_X12_349 cr_117_X12_number (Nat.le_trans (by decide) hdd) rfl dX12_hours_11 rfl (Nat.le_of_ble_eq_true rfl) ?_
  refine AW.if_ne (tgt := 19) dX12_hours_14 (by decide) (fun c6 => ?_) (fun c6 => ?_)
  · replace h := hF h c6
    refine AW.aloadr_n 3 dX12_hours_19 rfl ?_
    refine AW.iload 4 dX12_hours_20 rfl ?_
    refine AW.aloadr_n 0 dX12_hours_22 rfl ?_
    refine AW.getI af_X12_318_117 sr_117_41 dX12_hours_23 ?_
    obtain ⟨k7, h⟩ := hK h
    obtain ⟨g8, e9, h⟩ := hBe h
    refine AW.iast kc_143 sk_143 k7 dX12_hours_26 e9 ?_
    refine AW.aloadr_n 0 dX12_hours_27 rfl ?_
    refine AW.iconst dX12_hours_28 ?_
    refine AW.bipush dX12_hours_29 (by decide) (by decide) ?_
    obtain ⟨r10, e11, h⟩ := hC h
    refine AW.callVi (As := [iv 0, iv 24]) (st := []) (M_number_ok e11) cq_X12_349 cr_117_X12_number (Nat.le_trans (by decide) hdd) rfl dX12_hours_31 rfl (Nat.le_of_ble_eq_true rfl) ?_
    obtain ⟨k12, h⟩ := hK h
    exact AW.zret1 rfl k12 dX12_hours_34 h rfl
  · replace h := hT h c6
    refine AW.iconst dX12_hours_17 ?_
    exact AW.zret1 rfl (Or.inl rfl) dX12_hours_18 h rfl
set_option synthInstance.maxHeartbeats 2000000 in
theorem M_aTunnel_b_ok {z : AZ} {d : Nat} (hdd : 10 ≤ d) {x1 : Int} {g : AG} : ∀ (r : Int × AG), M_aTunnel_b x1 g = some r → AW z (RX12, cX12_aTunnel, 3, (some .boolean)) d (QD (some .boolean) r) 41 [(0, rv z 117), (1, iv x1)] [] g := by
  intro r h
  unfold M_aTunnel_b at h
  refine AW.iconst dX12_aTunnel_41 ?_
  refine AW.iload_n 1 dX12_aTunnel_42 rfl ?_
  refine AW.imul dX12_aTunnel_43 ?_
  refine AW.aloadr_n 0 dX12_aTunnel_44 rfl ?_
  refine AW.getI af_X12_306_117 sr_117_39 dX12_aTunnel_45 ?_
  refine AW.bipush dX12_aTunnel_48 (by decide) (by decide) ?_
  obtain ⟨t1, e2, h⟩ := hBe h
  refine AW.join (tgt := 58) (lv1 := [(0, rv z 117), (1, iv x1)]) (st1 := [iv t1, iv (2 * x1)]) (g1 := g) ?_ (fun J50 => ?_)
  · refine AW.iadd dX12_aTunnel_58 ?_
    refine AW.istore_n (lv1 := [(2, iv ((2 * x1) + t1)), (0, rv z 117), (1, iv x1)]) dX12_aTunnel_59 (by decide) rfl ?_
    refine AW.aloadr_n 1 dX12_aTunnel_60 rfl ?_
    refine AW.getR af_X12_100_117 sr_117_30 dX12_aTunnel_61 ?_
    refine AW.iload_n 0 dX12_aTunnel_64 rfl ?_
    obtain ⟨k3, h⟩ := hK h
    refine AW.zald kc_145 sk_145 k3 dX12_aTunnel_65 ?_
    refine AW.if_eq (tgt := 75) dX12_aTunnel_66 (by decide) (fun c4 => ?_) (fun c4 => ?_)
    · replace h := hT h c4
      refine AW.aloadr_n 1 dX12_aTunnel_75 rfl ?_
      refine AW.getR af_X12_100_117 sr_117_30 dX12_aTunnel_76 ?_
      refine AW.iload_n 0 dX12_aTunnel_79 rfl ?_
      refine AW.iconst dX12_aTunnel_80 ?_
      obtain ⟨g5, e6, h⟩ := hBe h
      refine AW.zast kc_145 sk_145 k3 (Or.inr rfl) dX12_aTunnel_81 e6 ?_
      refine AW.aloadr_n 1 dX12_aTunnel_82 rfl ?_
      obtain ⟨r7, e8, h⟩ := hC h
      refine AW.callVv (As := []) (st := []) (M_next0_ok e8) cq_X12_330 cr_117_X12_next0 (Nat.le_trans (by decide) hdd) rfl dX12_aTunnel_83 rfl (Nat.le_of_ble_eq_true rfl) ?_
      refine AW.aloadr_n 1 dX12_aTunnel_86 rfl ?_
      refine AW.aloadr_n 1 dX12_aTunnel_87 rfl ?_
      refine AW.getR af_X12_93_117 sr_117_28 dX12_aTunnel_88 ?_
      refine AW.iconst dX12_aTunnel_91 ?_
      refine AW.iload_n 0 dX12_aTunnel_92 rfl ?_
      refine AW.imul dX12_aTunnel_93 ?_
      refine AW.aloadr_n 1 dX12_aTunnel_94 rfl ?_
      refine AW.getR af_X12_93_117 sr_117_28 dX12_aTunnel_95 ?_
      refine AW.iconst dX12_aTunnel_98 ?_
      refine AW.iload_n 0 dX12_aTunnel_99 rfl ?_
      refine AW.imul dX12_aTunnel_100 ?_
      refine AW.iconst dX12_aTunnel_101 ?_
      refine AW.iadd dX12_aTunnel_102 ?_
      obtain ⟨r9, e10, h⟩ := hC h
      refine AW.callVi (As := [rv z 143, iv (2 * ((2 * x1) + t1)), rv z 143, iv ((2 * ((2 * x1) + t1)) + 1)]) (st := []) (M_hours_117_143_143_ok e10) cq_X12_371 cr_117_X12_hours (Nat.le_trans (by decide) hdd) rfl dX12_aTunnel_103 rfl (Nat.le_of_ble_eq_true rfl) ?_
      obtain ⟨k11, h⟩ := hK h
      exact AW.zret1 rfl k11 dX12_aTunnel_106 h rfl
    · replace h := hF h c4
      refine AW.aloadr_n 1 dX12_aTunnel_69 rfl ?_
      refine AW.iconst dX12_aTunnel_70 ?_
      obtain ⟨r12, e13, h⟩ := hC h
      refine AW.callVi (As := [iv 3]) (st := []) (M_bad_ok e13) cq_X12_327 cr_117_X12_bad (Nat.le_trans (by decide) hdd) rfl dX12_aTunnel_71 rfl (Nat.le_of_ble_eq_true rfl) ?_
      obtain ⟨k14, h⟩ := hK h
      exact AW.zret1 rfl k14 dX12_aTunnel_74 h rfl
  refine AW.icmp_ne (tgt := 57) dX12_aTunnel_50 (by decide) (fun c15 => ?_) (fun c15 => ?_)
  · refine AW.iconst dX12_aTunnel_57 ?_
    exact AW.val (e2.trans (if_neg c15)) J50
  · refine AW.iconst dX12_aTunnel_53 ?_
    refine AW.goto (tgt := 58) dX12_aTunnel_54 (by decide) ?_
    exact AW.val (e2.trans (if_pos c15)) J50
theorem M_aTunnel_ok {z : AZ} {g : AG} {r : Int × AG} (h : M_aTunnel g = some r) : AMf z yX12_aTunnel cX12_aTunnel 3 (some .boolean) 10 [rv z 117] g r := by
  intro d hdd
  refine AM.of (by decide +kernel) (Nat.le_of_ble_eq_true rfl) ?_
  show AW z (RX12, cX12_aTunnel, 3, (some .boolean)) d (QD (some .boolean) r) 0 [(0, rv z 117)] [] g
  unfold M_aTunnel at h
  refine AW.aloadr_n 0 dX12_aTunnel_0 rfl ?_
  refine AW.getI af_X12_318_117 sr_117_41 dX12_aTunnel_1 ?_
  refine AW.istore_n (lv1 := [(1, iv (g 117 41)), (0, rv z 117)]) dX12_aTunnel_4 (by decide) rfl ?_
  refine AW.aloadr_n 1 dX12_aTunnel_5 rfl ?_
  refine AW.iconst dX12_aTunnel_6 ?_
  refine AW.bipush dX12_aTunnel_7 (by decide) (by decide) ?_
  obtain ⟨r1, e2, h⟩ := hC h
  refine AW.callVi (As := [iv 0, iv 14]) (st := []) (M_number_ok e2) cq_X12_349 cr_117_X12_number (Nat.le_trans (by decide) hdd) rfl dX12_aTunnel_9 rfl (Nat.le_of_ble_eq_true rfl) ?_
  refine AW.if_ne (tgt := 17) dX12_aTunnel_12 (by decide) (fun c3 => ?_) (fun c3 => ?_)
  · replace h := hF h c3
    refine AW.aloadr_n 1 dX12_aTunnel_17 rfl ?_
    refine AW.getI af_X12_306_117 sr_117_39 dX12_aTunnel_18 ?_
    refine AW.bipush dX12_aTunnel_21 (by decide) (by decide) ?_
    refine AW.icmp_eq (tgt := 41) dX12_aTunnel_23 (by decide) (fun c4 => ?_) (fun c4 => ?_)
    · replace h := hT h c4
      refine AW.sub (lv1 := [(0, rv z 117), (1, iv (g 117 41))]) [1, 0] rfl ?_
      exact M_aTunnel_b_ok hdd _ h
    · replace h := hF h c4
      refine AW.aloadr_n 1 dX12_aTunnel_26 rfl ?_
      refine AW.getI af_X12_306_117 sr_117_39 dX12_aTunnel_27 ?_
      refine AW.bipush dX12_aTunnel_30 (by decide) (by decide) ?_
      refine AW.icmp_eq (tgt := 41) dX12_aTunnel_32 (by decide) (fun c5 => ?_) (fun c5 => ?_)
      · replace h := hT h c5
        refine AW.sub (lv1 := [(0, rv z 117), (1, iv (g 117 41))]) [1, 0] rfl ?_
        exact M_aTunnel_b_ok hdd _ h
      · replace h := hF h c5
        refine AW.aloadr_n 1 dX12_aTunnel_35 rfl ?_
        refine AW.iconst dX12_aTunnel_36 ?_
        obtain ⟨r6, e7, h⟩ := hC h
        refine AW.callVi (As := [iv 1]) (st := []) (M_bad_ok e7) cq_X12_327 cr_117_X12_bad (Nat.le_trans (by decide) hdd) rfl dX12_aTunnel_37 rfl (Nat.le_of_ble_eq_true rfl) ?_
        obtain ⟨k8, h⟩ := hK h
        exact AW.zret1 rfl k8 dX12_aTunnel_40 h rfl
  · replace h := hT h c3
    refine AW.iconst dX12_aTunnel_15 ?_
    exact AW.zret1 rfl (Or.inl rfl) dX12_aTunnel_16 h rfl
theorem M_need_ok {z : AZ} {x1 : Int} {g : AG} {r : Int × AG} (h : M_need x1 g = some r) : AMf z yX12_need cX12_need 2 (some .boolean) 8 [rv z 117, iv x1] g r := by
  intro d hdd
  refine AM.of (by decide +kernel) (Nat.le_of_ble_eq_true rfl) ?_
  show AW z (RX12, cX12_need, 2, (some .boolean)) d (QD (some .boolean) r) 0 [(0, rv z 117), (1, iv x1)] [] g
  unfold M_need at h
  refine AW.aloadr_n 0 dX12_need_0 rfl ?_
  refine AW.getI af_X12_306_117 sr_117_39 dX12_need_1 ?_
  refine AW.iload_n 1 dX12_need_4 rfl ?_
  refine AW.icmp_eq (tgt := 14) dX12_need_5 (by decide) (fun c1 => ?_) (fun c1 => ?_)
  · replace h := hT h c1
    refine AW.aloadr_n 0 dX12_need_14 rfl ?_
    obtain ⟨r2, e3, h⟩ := hC h
    refine AW.callVv (As := []) (st := []) (M_next0_ok e3) cq_X12_330 cr_117_X12_next0 (Nat.le_trans (by decide) hdd) rfl dX12_need_15 rfl (Nat.le_of_ble_eq_true rfl) ?_
    refine AW.iconst dX12_need_18 ?_
    exact AW.zret1 rfl (Or.inr rfl) dX12_need_19 h rfl
  · replace h := hF h c1
    refine AW.aloadr_n 0 dX12_need_8 rfl ?_
    refine AW.iconst dX12_need_9 ?_
    obtain ⟨r4, e5, h⟩ := hC h
    refine AW.callVi (As := [iv 1]) (st := []) (M_bad_ok e5) cq_X12_327 cr_117_X12_bad (Nat.le_trans (by decide) hdd) rfl dX12_need_10 rfl (Nat.le_of_ble_eq_true rfl) ?_
    obtain ⟨k6, h⟩ := hK h
    exact AW.zret1 rfl k6 dX12_need_13 h rfl
set_option synthInstance.maxHeartbeats 2000000 in
theorem M_every_b_ok {z : AZ} {rec : AG → Option (Int × AG)} {Dr : Nat} (hC9 : 8 ≤ Dr) (hrec : ∀ (g : AG) (r : Int × AG), rec g = some r → AMf z yX12_one cX12_one 2 (some .boolean) Dr [rv z 117] g r) {d : Nat} (hdd : Dr + 1 ≤ d) : ∀ (g : AG) (r : Int × AG), M_every_b rec g = some r → AW z (RX12, cX12_every, 1, (some .boolean)) d (QD (some .boolean) r) 9 [(0, rv z 117)] [] g := by
  refine M_every_b.partial_correctness rec (fun g r => AW z (RX12, cX12_every, 1, (some .boolean)) d (QD (some .boolean) r) 9 [(0, rv z 117)] [] g) ?_
  intro fb9 ih g r h
  refine AW.aloadr_n 0 dX12_every_9 rfl ?_
  refine AW.getI af_X12_306_117 sr_117_39 dX12_every_10 ?_
  refine AW.iconst dX12_every_13 ?_
  refine AW.icmp_ne (tgt := 40) dX12_every_14 (by decide) (fun c1 => ?_) (fun c1 => ?_)
  · replace h := hF h c1
    refine AW.iconst dX12_every_40 ?_
    exact AW.zret1 rfl (Or.inr rfl) dX12_every_41 h rfl
  · replace h := hT h c1
    refine AW.aloadr_n 0 dX12_every_17 rfl ?_
    obtain ⟨r2, e3, h⟩ := hC h
    refine AW.callVv (As := []) (st := []) (M_next0_ok e3) cq_X12_330 cr_117_X12_next0 (by omega) rfl dX12_every_18 rfl (Nat.le_of_ble_eq_true rfl) ?_
    refine AW.aloadr_n 0 dX12_every_21 rfl ?_
    obtain ⟨r4, e5, h⟩ := hC h
    refine AW.callVi (As := []) (st := []) (hrec _ _ e5) cq_X12_356 cr_117_X12_one (by omega) rfl dX12_every_22 rfl (Nat.le_of_ble_eq_true rfl) ?_
    refine AW.if_ne (tgt := 30) dX12_every_25 (by decide) (fun c6 => ?_) (fun c6 => ?_)
    · replace h := hF h c6
      refine AW.aloadr_n 0 dX12_every_30 rfl ?_
      refine AW.bipush dX12_every_31 (by decide) (by decide) ?_
      refine AW.iconst dX12_every_33 ?_
      obtain ⟨r7, e8, h⟩ := hC h
      refine AW.callVv (As := [iv 18, iv 0]) (st := []) (M_lay_ok e8) cq_X12_342 cr_117_X12_lay (by omega) rfl dX12_every_34 rfl (Nat.le_of_ble_eq_true rfl) ?_
      refine AW.goto (tgt := 9) dX12_every_37 (by decide) ?_
      exact ih _ _ h
    · replace h := hT h c6
      refine AW.iconst dX12_every_28 ?_
      exact AW.zret1 rfl (Or.inl rfl) dX12_every_29 h rfl
theorem M_every_ok {z : AZ} {rec : AG → Option (Int × AG)} {Dr : Nat} (hC9 : 8 ≤ Dr) (hrec : ∀ (g : AG) (r : Int × AG), rec g = some r → AMf z yX12_one cX12_one 2 (some .boolean) Dr [rv z 117] g r) {g : AG} {r : Int × AG} (h : M_every rec g = some r) : AMf z yX12_every cX12_every 1 (some .boolean) (Dr + 1) [rv z 117] g r := by
  intro d hdd
  refine AM.of (by decide +kernel) (Nat.le_of_ble_eq_true rfl) ?_
  show AW z (RX12, cX12_every, 1, (some .boolean)) d (QD (some .boolean) r) 0 [(0, rv z 117)] [] g
  unfold M_every at h
  refine AW.aloadr_n 0 dX12_every_0 rfl ?_
  obtain ⟨r1, e2, h⟩ := hC h
  refine AW.callVi (As := []) (st := []) (hrec _ _ e2) cq_X12_356 cr_117_X12_one (by omega) rfl dX12_every_1 rfl (Nat.le_of_ble_eq_true rfl) ?_
  refine AW.if_ne (tgt := 9) dX12_every_4 (by decide) (fun c3 => ?_) (fun c3 => ?_)
  · replace h := hF h c3
    exact M_every_b_ok hC9 hrec hdd _ _ h
  · replace h := hT h c3
    refine AW.iconst dX12_every_7 ?_
    exact AW.zret1 rfl (Or.inl rfl) dX12_every_8 h rfl
set_option synthInstance.maxHeartbeats 2000000 in
theorem M_any_b_ok {z : AZ} {rec : AG → Option (Int × AG)} {Dr : Nat} (hC9 : 8 ≤ Dr) (hrec : ∀ (g : AG) (r : Int × AG), rec g = some r → AMf z yX12_one cX12_one 2 (some .boolean) Dr [rv z 117] g r) {d : Nat} (hdd : Dr + 2 ≤ d) : ∀ (g : AG) (r : Int × AG), M_any_b rec g = some r → AW z (RX12, cX12_any, 1, (some .boolean)) d (QD (some .boolean) r) 9 [(0, rv z 117)] [] g := by
  refine M_any_b.partial_correctness rec (fun g r => AW z (RX12, cX12_any, 1, (some .boolean)) d (QD (some .boolean) r) 9 [(0, rv z 117)] [] g) ?_
  intro fb9 ih g r h
  refine AW.aloadr_n 0 dX12_any_9 rfl ?_
  refine AW.getI af_X12_306_117 sr_117_39 dX12_any_10 ?_
  refine AW.iconst dX12_any_13 ?_
  refine AW.icmp_ne (tgt := 40) dX12_any_14 (by decide) (fun c1 => ?_) (fun c1 => ?_)
  · replace h := hF h c1
    refine AW.iconst dX12_any_40 ?_
    exact AW.zret1 rfl (Or.inr rfl) dX12_any_41 h rfl
  · replace h := hT h c1
    refine AW.aloadr_n 0 dX12_any_17 rfl ?_
    obtain ⟨r2, e3, h⟩ := hC h
    refine AW.callVv (As := []) (st := []) (M_next0_ok e3) cq_X12_330 cr_117_X12_next0 (by omega) rfl dX12_any_18 rfl (Nat.le_of_ble_eq_true rfl) ?_
    refine AW.aloadr_n 0 dX12_any_21 rfl ?_
    obtain ⟨r4, e5, h⟩ := hC h
    refine AW.callVi (As := []) (st := []) (M_every_ok (Nat.le_trans (by decide) hC9) hrec e5) cq_X12_353 cr_117_X12_every (by omega) rfl dX12_any_22 rfl (Nat.le_of_ble_eq_true rfl) ?_
    refine AW.if_ne (tgt := 30) dX12_any_25 (by decide) (fun c6 => ?_) (fun c6 => ?_)
    · replace h := hF h c6
      refine AW.aloadr_n 0 dX12_any_30 rfl ?_
      refine AW.bipush dX12_any_31 (by decide) (by decide) ?_
      refine AW.iconst dX12_any_33 ?_
      obtain ⟨r7, e8, h⟩ := hC h
      refine AW.callVv (As := [iv 19, iv 0]) (st := []) (M_lay_ok e8) cq_X12_342 cr_117_X12_lay (by omega) rfl dX12_any_34 rfl (Nat.le_of_ble_eq_true rfl) ?_
      refine AW.goto (tgt := 9) dX12_any_37 (by decide) ?_
      exact ih _ _ h
    · replace h := hT h c6
      refine AW.iconst dX12_any_28 ?_
      exact AW.zret1 rfl (Or.inl rfl) dX12_any_29 h rfl
theorem M_any_ok {z : AZ} {rec : AG → Option (Int × AG)} {Dr : Nat} (hC9 : 8 ≤ Dr) (hrec : ∀ (g : AG) (r : Int × AG), rec g = some r → AMf z yX12_one cX12_one 2 (some .boolean) Dr [rv z 117] g r) {g : AG} {r : Int × AG} (h : M_any rec g = some r) : AMf z yX12_any cX12_any 1 (some .boolean) (Dr + 2) [rv z 117] g r := by
  intro d hdd
  refine AM.of (by decide +kernel) (Nat.le_of_ble_eq_true rfl) ?_
  show AW z (RX12, cX12_any, 1, (some .boolean)) d (QD (some .boolean) r) 0 [(0, rv z 117)] [] g
  unfold M_any at h
  refine AW.aloadr_n 0 dX12_any_0 rfl ?_
  obtain ⟨r1, e2, h⟩ := hC h
  refine AW.callVi (As := []) (st := []) (M_every_ok (Nat.le_trans (by decide) hC9) hrec e2) cq_X12_353 cr_117_X12_every (by omega) rfl dX12_any_1 rfl (Nat.le_of_ble_eq_true rfl) ?_
  refine AW.if_ne (tgt := 9) dX12_any_4 (by decide) (fun c3 => ?_) (fun c3 => ?_)
  · replace h := hF h c3
    exact M_any_b_ok hC9 hrec hdd _ _ h
  · replace h := hT h c3
    refine AW.iconst dX12_any_7 ?_
    exact AW.zret1 rfl (Or.inl rfl) dX12_any_8 h rfl
theorem M_opens_ok {z : AZ} {g : AG} {r : Int × AG} (h : M_opens g = some r) : AMf z yX12_opens cX12_opens 1 (some .boolean) 8 [rv z 117] g r := by
  intro d hdd
  refine AM.of (by decide +kernel) (Nat.le_of_ble_eq_true rfl) ?_
  show AW z (RX12, cX12_opens, 1, (some .boolean)) d (QD (some .boolean) r) 0 [(0, rv z 117)] [] g
  unfold M_opens at h
  refine AW.aloadr_n 0 dX12_opens_0 rfl ?_
  refine AW.getI af_X12_336_117 sr_117_45 dX12_opens_1 ?_
  refine AW.bipush dX12_opens_4 (by decide) (by decide) ?_
  refine AW.icmp_ne (tgt := 15) dX12_opens_6 (by decide) (fun c1 => ?_) (fun c1 => ?_)
  · replace h := hF h c1
    refine AW.aloadr_n 0 dX12_opens_15 rfl ?_
    refine AW.duprr dX12_opens_16 ?_
    refine AW.getI af_X12_336_117 sr_117_45 dX12_opens_17 ?_
    refine AW.iconst dX12_opens_20 ?_
    refine AW.iadd dX12_opens_21 ?_
    obtain ⟨g2, e3, h⟩ := hBe h
    refine AW.putI ap_X12_336_117 sr_117_45 dX12_opens_22 e3 ?_
    refine AW.aloadr_n 0 dX12_opens_25 rfl ?_
    obtain ⟨r4, e5, h⟩ := hC h
    refine AW.callVv (As := []) (st := []) (M_next0_ok e5) cq_X12_330 cr_117_X12_next0 (Nat.le_trans (by decide) hdd) rfl dX12_opens_26 rfl (Nat.le_of_ble_eq_true rfl) ?_
    refine AW.iconst dX12_opens_29 ?_
    exact AW.zret1 rfl (Or.inr rfl) dX12_opens_30 h rfl
  · replace h := hT h c1
    refine AW.aloadr_n 0 dX12_opens_9 rfl ?_
    refine AW.iconst dX12_opens_10 ?_
    obtain ⟨r6, e7, h⟩ := hC h
    refine AW.callVi (As := [iv 3]) (st := []) (M_bad_ok e7) cq_X12_327 cr_117_X12_bad (Nat.le_trans (by decide) hdd) rfl dX12_opens_11 rfl (Nat.le_of_ble_eq_true rfl) ?_
    obtain ⟨k8, h⟩ := hK h
    exact AW.zret1 rfl k8 dX12_opens_14 h rfl
theorem M_one_s_ok {z : AZ} {rec : AG → Option (Int × AG)} {Dr : Nat} (hC9 : 11 ≤ Dr) (hrec : ∀ (g : AG) (r : Int × AG), rec g = some r → AMf z yX12_one cX12_one 2 (some .boolean) Dr [rv z 117] g r) {g : AG} {r : Int × AG} (h : M_one_s rec g = some r) : AMf z yX12_one cX12_one 2 (some .boolean) (Dr + 3) [rv z 117] g r := by
  intro d hdd
  refine AM.of (by decide +kernel) (Nat.le_of_ble_eq_true rfl) ?_
  show AW z (RX12, cX12_one, 2, (some .boolean)) d (QD (some .boolean) r) 0 [(0, rv z 117)] [] g
  unfold M_one_s at h
  refine AW.aloadr_n 0 dX12_one_0 rfl ?_
  refine AW.getI af_X12_306_117 sr_117_39 dX12_one_1 ?_
  refine AW.bipush dX12_one_4 (by decide) (by decide) ?_
  refine AW.icmp_ne (tgt := 44) dX12_one_6 (by decide) (fun c1 => ?_) (fun c1 => ?_)
  · replace h := hF h c1
    refine AW.aloadr_n 0 dX12_one_44 rfl ?_
    refine AW.getI af_X12_306_117 sr_117_39 dX12_one_45 ?_
    refine AW.sipush dX12_one_48 (by decide) (by decide) ?_
    refine AW.icmp_ne (tgt := 92) dX12_one_51 (by decide) (fun c2 => ?_) (fun c2 => ?_)
    · replace h := hF h c2
      refine AW.aloadr_n 0 dX12_one_92 rfl ?_
      obtain ⟨r3, e4, h⟩ := hC h
      refine AW.callVi (As := []) (st := []) (M_sumUp_ok e4) cq_X12_368 cr_117_X12_sumUp (by omega) rfl dX12_one_93 rfl (Nat.le_of_ble_eq_true rfl) ?_
      refine AW.if_ne (tgt := 101) dX12_one_96 (by decide) (fun c5 => ?_) (fun c5 => ?_)
      · replace h := hF h c5
        refine AW.aloadr_n 0 dX12_one_101 rfl ?_
        refine AW.getI af_X12_306_117 sr_117_39 dX12_one_102 ?_
        refine AW.sipush dX12_one_105 (by decide) (by decide) ?_
        obtain ⟨t6, e7, h⟩ := hBe h
        refine AW.join (tgt := 147) (lv1 := [(0, rv z 117)]) (st1 := [iv t6]) (g1 := r3.2) ?_ (fun J108 => ?_)
        · refine AW.istore_n (lv1 := [(1, iv t6), (0, rv z 117)]) dX12_one_147 (by decide) rfl ?_
          refine AW.iload_n 0 dX12_one_148 rfl ?_
          refine AW.iconst dX12_one_149 ?_
          refine AW.icmp_ne (tgt := 159) dX12_one_150 (by decide) (fun c8 => ?_) (fun c8 => ?_)
          · replace h := hF h c8
            refine AW.aloadr_n 1 dX12_one_159 rfl ?_
            obtain ⟨r9, e10, h⟩ := hC h
            refine AW.callVv (As := []) (st := []) (M_next0_ok e10) cq_X12_330 cr_117_X12_next0 (by omega) rfl dX12_one_160 rfl (Nat.le_of_ble_eq_true rfl) ?_
            refine AW.aloadr_n 1 dX12_one_163 rfl ?_
            obtain ⟨r11, e12, h⟩ := hC h
            refine AW.callVi (As := []) (st := []) (M_sumUp_ok e12) cq_X12_368 cr_117_X12_sumUp (by omega) rfl dX12_one_164 rfl (Nat.le_of_ble_eq_true rfl) ?_
            refine AW.if_ne (tgt := 172) dX12_one_167 (by decide) (fun c13 => ?_) (fun c13 => ?_)
            · replace h := hF h c13
              refine AW.aloadr_n 1 dX12_one_172 rfl ?_
              refine AW.iload_n 0 dX12_one_173 rfl ?_
              refine AW.iconst dX12_one_174 ?_
              obtain ⟨r14, e15, h⟩ := hC h
              refine AW.callVv (As := [iv t6, iv 0]) (st := []) (M_lay_ok e15) cq_X12_342 cr_117_X12_lay (by omega) rfl dX12_one_175 rfl (Nat.le_of_ble_eq_true rfl) ?_
              refine AW.iconst dX12_one_178 ?_
              exact AW.zret1 rfl (Or.inr rfl) dX12_one_179 h rfl
            · replace h := hT h c13
              refine AW.iconst dX12_one_170 ?_
              exact AW.zret1 rfl (Or.inl rfl) dX12_one_171 h rfl
          · replace h := hT h c8
            refine AW.aloadr_n 1 dX12_one_153 rfl ?_
            refine AW.iconst dX12_one_154 ?_
            obtain ⟨r16, e17, h⟩ := hC h
            refine AW.callVi (As := [iv 1]) (st := []) (M_bad_ok e17) cq_X12_327 cr_117_X12_bad (by omega) rfl dX12_one_155 rfl (Nat.le_of_ble_eq_true rfl) ?_
            obtain ⟨k18, h⟩ := hK h
            exact AW.zret1 rfl k18 dX12_one_158 h rfl
        refine AW.icmp_ne (tgt := 116) dX12_one_108 (by decide) (fun c19 => ?_) (fun c19 => ?_)
        · refine AW.aloadr_n 0 dX12_one_116 rfl ?_
          refine AW.getI af_X12_306_117 sr_117_39 dX12_one_117 ?_
          refine AW.sipush dX12_one_120 (by decide) (by decide) ?_
          refine AW.icmp_ne (tgt := 131) dX12_one_123 (by decide) (fun c20 => ?_) (fun c20 => ?_)
          · refine AW.aloadr_n 0 dX12_one_131 rfl ?_
            refine AW.getI af_X12_306_117 sr_117_39 dX12_one_132 ?_
            refine AW.sipush dX12_one_135 (by decide) (by decide) ?_
            refine AW.icmp_ne (tgt := 146) dX12_one_138 (by decide) (fun c21 => ?_) (fun c21 => ?_)
            · refine AW.iconst dX12_one_146 ?_
              exact AW.val (e7.trans ((if_neg c19).trans ((if_neg c20).trans (if_neg c21)))) J108
            · refine AW.bipush dX12_one_141 (by decide) (by decide) ?_
              refine AW.goto (tgt := 147) dX12_one_143 (by decide) ?_
              exact AW.val (e7.trans ((if_neg c19).trans ((if_neg c20).trans (if_pos c21)))) J108
          · refine AW.bipush dX12_one_126 (by decide) (by decide) ?_
            refine AW.goto (tgt := 147) dX12_one_128 (by decide) ?_
            exact AW.val (e7.trans ((if_neg c19).trans (if_pos c20))) J108
        · refine AW.bipush dX12_one_111 (by decide) (by decide) ?_
          refine AW.goto (tgt := 147) dX12_one_113 (by decide) ?_
          exact AW.val (e7.trans (if_pos c19)) J108
      · replace h := hT h c5
        refine AW.iconst dX12_one_99 ?_
        exact AW.zret1 rfl (Or.inl rfl) dX12_one_100 h rfl
    · replace h := hT h c2
      refine AW.aloadr_n 0 dX12_one_54 rfl ?_
      obtain ⟨r22, e23, h⟩ := hC h
      refine AW.callVi (As := []) (st := []) (M_opens_ok e23) cq_X12_359 cr_117_X12_opens (by omega) rfl dX12_one_55 rfl (Nat.le_of_ble_eq_true rfl) ?_
      refine AW.if_eq (tgt := 78) dX12_one_58 (by decide) (fun c24 => ?_) (fun c24 => ?_)
      · replace h := hT h c24
        refine AW.iconst dX12_one_78 ?_
        exact AW.zret1 rfl (Or.inl rfl) dX12_one_79 h rfl
      · replace h := hF h c24
        refine AW.aloadr_n 0 dX12_one_61 rfl ?_
        obtain ⟨r25, e26, h⟩ := hC h
        refine AW.callVi (As := []) (st := []) (M_any_ok (Nat.le_trans (by decide) hC9) hrec e26) cq_X12_362 cr_117_X12_any (by omega) rfl dX12_one_62 rfl (Nat.le_of_ble_eq_true rfl) ?_
        refine AW.if_eq (tgt := 78) dX12_one_65 (by decide) (fun c27 => ?_) (fun c27 => ?_)
        · replace h := hT h c27
          refine AW.iconst dX12_one_78 ?_
          exact AW.zret1 rfl (Or.inl rfl) dX12_one_79 h rfl
        · replace h := hF h c27
          refine AW.aloadr_n 0 dX12_one_68 rfl ?_
          refine AW.sipush dX12_one_69 (by decide) (by decide) ?_
          obtain ⟨r28, e29, h⟩ := hC h
          refine AW.callVi (As := [iv 141]) (st := []) (M_need_ok e29) cq_X12_365 cr_117_X12_need (by omega) rfl dX12_one_72 rfl (Nat.le_of_ble_eq_true rfl) ?_
          refine AW.if_ne (tgt := 80) dX12_one_75 (by decide) (fun c30 => ?_) (fun c30 => ?_)
          · replace h := hF h c30
            refine AW.aloadr_n 0 dX12_one_80 rfl ?_
            refine AW.duprr dX12_one_81 ?_
            refine AW.getI af_X12_336_117 sr_117_45 dX12_one_82 ?_
            refine AW.iconst dX12_one_85 ?_
            refine AW.isub dX12_one_86 ?_
            obtain ⟨g31, e32, h⟩ := hBe h
            refine AW.putI ap_X12_336_117 sr_117_45 dX12_one_87 e32 ?_
            refine AW.iconst dX12_one_90 ?_
            exact AW.zret1 rfl (Or.inr rfl) dX12_one_91 h rfl
          · replace h := hT h c30
            refine AW.iconst dX12_one_78 ?_
            exact AW.zret1 rfl (Or.inl rfl) dX12_one_79 h rfl
  · replace h := hT h c1
    refine AW.aloadr_n 0 dX12_one_9 rfl ?_
    obtain ⟨r33, e34, h⟩ := hC h
    refine AW.callVi (As := []) (st := []) (M_opens_ok e34) cq_X12_359 cr_117_X12_opens (by omega) rfl dX12_one_10 rfl (Nat.le_of_ble_eq_true rfl) ?_
    refine AW.if_eq (tgt := 23) dX12_one_13 (by decide) (fun c35 => ?_) (fun c35 => ?_)
    · replace h := hT h c35
      refine AW.iconst dX12_one_23 ?_
      exact AW.zret1 rfl (Or.inl rfl) dX12_one_24 h rfl
    · replace h := hF h c35
      refine AW.aloadr_n 0 dX12_one_16 rfl ?_
      obtain ⟨r36, e37, h⟩ := hC h
      refine AW.callVi (As := []) (st := []) (hrec _ _ e37) cq_X12_356 cr_117_X12_one (by omega) rfl dX12_one_17 rfl (Nat.le_of_ble_eq_true rfl) ?_
      refine AW.if_ne (tgt := 25) dX12_one_20 (by decide) (fun c38 => ?_) (fun c38 => ?_)
      · replace h := hF h c38
        refine AW.aloadr_n 0 dX12_one_25 rfl ?_
        refine AW.duprr dX12_one_26 ?_
        refine AW.getI af_X12_336_117 sr_117_45 dX12_one_27 ?_
        refine AW.iconst dX12_one_30 ?_
        refine AW.isub dX12_one_31 ?_
        obtain ⟨g39, e40, h⟩ := hBe h
        refine AW.putI ap_X12_336_117 sr_117_45 dX12_one_32 e40 ?_
        refine AW.aloadr_n 0 dX12_one_35 rfl ?_
        refine AW.bipush dX12_one_36 (by decide) (by decide) ?_
        refine AW.iconst dX12_one_38 ?_
        obtain ⟨r41, e42, h⟩ := hC h
        refine AW.callVv (As := [iv 17, iv 0]) (st := []) (M_lay_ok e42) cq_X12_342 cr_117_X12_lay (by omega) rfl dX12_one_39 rfl (Nat.le_of_ble_eq_true rfl) ?_
        refine AW.iconst dX12_one_42 ?_
        exact AW.zret1 rfl (Or.inr rfl) dX12_one_43 h rfl
      · replace h := hT h c38
        refine AW.iconst dX12_one_23 ?_
        exact AW.zret1 rfl (Or.inl rfl) dX12_one_24 h rfl
theorem M_one_ok {z : AZ} {n : Nat} {g : AG} {r : Int × AG} (h : M_one n g = some r) : AMf z yX12_one cX12_one 2 (some .boolean) (11 + n * 3) [rv z 117] g r := by
  induction n generalizing g r with
  | zero => cases h
  | succ n ih =>
    have q := M_one_s_ok (z := z) (Dr := 11 + n * 3) (Nat.le_add_right _ _) (fun g r h9 => ih h9) h
    rw [show 11 + (n + 1) * 3 = 11 + n * 3 + 3 by rw [Nat.add_mul]; omega]
    exact q
set_option synthInstance.maxHeartbeats 2000000 in
theorem M_aLine_b_ok {z : AZ} {d : Nat} (hdd : 50 ≤ d) {x2 : Int} : ∀ (tag : Nat) (g : AG) (r : Int × AG), M_aLine_b x2 tag g = some r → (tag = 1 → AW z (RX12, cX12_aLine, 3, (some .boolean)) d (QD (some .boolean) r) 155 [(0, rv z 117), (2, iv x2)] [] g) ∧ (tag = 2 → AW z (RX12, cX12_aLine, 3, (some .boolean)) d (QD (some .boolean) r) 186 [(0, rv z 117), (2, iv x2)] [] g) := by
  refine M_aLine_b.partial_correctness x2 (fun tag g r => (tag = 1 → AW z (RX12, cX12_aLine, 3, (some .boolean)) d (QD (some .boolean) r) 155 [(0, rv z 117), (2, iv x2)] [] g) ∧ (tag = 2 → AW z (RX12, cX12_aLine, 3, (some .boolean)) d (QD (some .boolean) r) 186 [(0, rv z 117), (2, iv x2)] [] g)) ?_
  intro fb9 ih tag g r h
  refine ⟨fun h9 => ?_, fun h9 => ?_⟩
  · subst h9
    replace h := hT h rfl
    refine AW.aloadr_n 0 dX12_aLine_155 rfl ?_
    refine AW.getR af_X12_81_117 sr_117_24 dX12_aLine_156 ?_
    refine AW.iload_n 1 dX12_aLine_159 rfl ?_
    refine AW.aloadr_n 0 dX12_aLine_160 rfl ?_
    refine AW.getI af_X12_333_117 sr_117_36 dX12_aLine_161 ?_
    obtain ⟨k1, h⟩ := hK h
    obtain ⟨g2, e3, h⟩ := hBe h
    refine AW.iast kc_139 sk_139 k1 dX12_aLine_164 e3 ?_
    refine AW.aloadr_n 0 dX12_aLine_165 rfl ?_
    refine AW.getI af_X12_306_117 sr_117_39 dX12_aLine_166 ?_
    refine AW.iconst dX12_aLine_169 ?_
    refine AW.icmp_ne (tgt := 186) dX12_aLine_170 (by decide) (fun c4 => ?_) (fun c4 => ?_)
    · replace h := hF h c4
      exact (ih _ _ _ h).2 rfl
    · replace h := hT h c4
      refine AW.aloadr_n 0 dX12_aLine_173 rfl ?_
      obtain ⟨r5, e6, h⟩ := hC h
      refine AW.callVv (As := []) (st := []) (M_next0_ok e6) cq_X12_330 cr_117_X12_next0 (Nat.le_trans (by decide) hdd) rfl dX12_aLine_174 rfl (Nat.le_of_ble_eq_true rfl) ?_
      refine AW.aloadr_n 0 dX12_aLine_177 rfl ?_
      obtain ⟨r7, e8, h⟩ := hC h
      refine AW.callVi (As := []) (st := []) (M_any_ok (Dr := 47) (by decide) (fun _ r9 h9 => M_one_ok (n := 12) h9) e8) cq_X12_362 cr_117_X12_any (Nat.le_trans (by decide) hdd) rfl dX12_aLine_178 rfl (Nat.le_of_ble_eq_true rfl) ?_
      refine AW.if_ne (tgt := 186) dX12_aLine_181 (by decide) (fun c9 => ?_) (fun c9 => ?_)
      · replace h := hF h c9
        exact (ih _ _ _ h).2 rfl
      · replace h := hT h c9
        refine AW.iconst dX12_aLine_184 ?_
        exact AW.zret1 rfl (Or.inl rfl) dX12_aLine_185 h rfl
  · subst h9
    replace h := hF h (by decide)
    replace h := hT h rfl
    refine AW.aloadr_n 0 dX12_aLine_186 rfl ?_
    refine AW.getR af_X12_84_117 sr_117_25 dX12_aLine_187 ?_
    refine AW.iload_n 1 dX12_aLine_190 rfl ?_
    refine AW.aloadr_n 0 dX12_aLine_191 rfl ?_
    refine AW.getI af_X12_333_117 sr_117_36 dX12_aLine_192 ?_
    obtain ⟨k1, h⟩ := hK h
    obtain ⟨g2, e3, h⟩ := hBe h
    refine AW.iast kc_140 sk_140 k1 dX12_aLine_195 e3 ?_
    refine AW.aloadr_n 0 dX12_aLine_196 rfl ?_
    refine AW.sipush dX12_aLine_197 (by decide) (by decide) ?_
    obtain ⟨r4, e5, h⟩ := hC h
    refine AW.callVi (As := [iv 159]) (st := []) (M_need_ok e5) cq_X12_365 cr_117_X12_need (Nat.le_trans (by decide) hdd) rfl dX12_aLine_200 rfl (Nat.le_of_ble_eq_true rfl) ?_
    obtain ⟨k6, h⟩ := hK h
    exact AW.zret1 rfl k6 dX12_aLine_203 h rfl
theorem M_aLine_ok {z : AZ} {g : AG} {r : Int × AG} (h : M_aLine g = some r) : AMf z yX12_aLine cX12_aLine 3 (some .boolean) 50 [rv z 117] g r := by
  intro d hdd
  refine AM.of (by decide +kernel) (Nat.le_of_ble_eq_true rfl) ?_
  show AW z (RX12, cX12_aLine, 3, (some .boolean)) d (QD (some .boolean) r) 0 [(0, rv z 117)] [] g
  unfold M_aLine at h
  refine AW.aloadr_n 0 dX12_aLine_0 rfl ?_
  refine AW.getI af_X12_306_117 sr_117_39 dX12_aLine_1 ?_
  refine AW.bipush dX12_aLine_4 (by decide) (by decide) ?_
  refine AW.bipush dX12_aLine_6 (by decide) (by decide) ?_
  refine AW.callSi (As := [iv (g 117 39), iv 20, iv 24]) (st := []) M_isIn_ok cq_X12_3 st_X12_isIn (Nat.le_trans (by decide) hdd) rfl dX12_aLine_8 rfl (Nat.le_of_ble_eq_true rfl) ?_
  refine AW.if_ne (tgt := 20) dX12_aLine_11 (by decide) (fun c1 => ?_) (fun c1 => ?_)
  · replace h := hF h c1
    refine AW.aloadr_n 0 dX12_aLine_20 rfl ?_
    refine AW.getI af_X12_375_117 sr_117_35 dX12_aLine_21 ?_
    refine AW.bipush dX12_aLine_24 (by decide) (by decide) ?_
    refine AW.icmp_ne (tgt := 35) dX12_aLine_26 (by decide) (fun c2 => ?_) (fun c2 => ?_)
    · replace h := hF h c2
      refine AW.aloadr_n 0 dX12_aLine_35 rfl ?_
      refine AW.getI af_X12_306_117 sr_117_39 dX12_aLine_36 ?_
      refine AW.bipush dX12_aLine_39 (by decide) (by decide) ?_
      refine AW.isub dX12_aLine_41 ?_
      refine AW.istore_n (lv1 := [(1, iv ((g 117 39) - 20)), (0, rv z 117)]) dX12_aLine_42 (by decide) rfl ?_
      refine AW.aloadr_n 1 dX12_aLine_43 rfl ?_
      refine AW.getI af_X12_375_117 sr_117_35 dX12_aLine_44 ?_
      refine AW.istore_n (lv1 := [(2, iv (g 117 35)), (1, iv ((g 117 39) - 20)), (0, rv z 117)]) dX12_aLine_47 (by decide) rfl ?_
      refine AW.aloadr_n 2 dX12_aLine_48 rfl ?_
      refine AW.iconst dX12_aLine_49 ?_
      obtain ⟨g3, e4, h⟩ := hBe h
      refine AW.putI ap_X12_336_117 sr_117_45 dX12_aLine_50 e4 ?_
      refine AW.aloadr_n 2 dX12_aLine_53 rfl ?_
      obtain ⟨r5, e6, h⟩ := hC h
      refine AW.callVv (As := []) (st := []) (M_next0_ok e6) cq_X12_330 cr_117_X12_next0 (Nat.le_trans (by decide) hdd) rfl dX12_aLine_54 rfl (Nat.le_of_ble_eq_true rfl) ?_
      refine AW.aloadr_n 2 dX12_aLine_57 rfl ?_
      refine AW.getR af_X12_69_117 sr_117_20 dX12_aLine_58 ?_
      refine AW.iload_n 0 dX12_aLine_61 rfl ?_
      refine AW.iload_n 1 dX12_aLine_62 rfl ?_
      obtain ⟨k7, h⟩ := hK h
      obtain ⟨g8, e9, h⟩ := hBe h
      refine AW.iast kc_135 sk_135 k7 dX12_aLine_63 e9 ?_
      refine AW.aloadr_n 2 dX12_aLine_64 rfl ?_
      refine AW.getR af_X12_78_117 sr_117_23 dX12_aLine_65 ?_
      refine AW.iload_n 0 dX12_aLine_68 rfl ?_
      refine AW.aloadr_n 2 dX12_aLine_69 rfl ?_
      refine AW.getI af_X12_333_117 sr_117_36 dX12_aLine_70 ?_
      obtain ⟨g10, e11, h⟩ := hBe h
      refine AW.iast kc_138 sk_138 k7 dX12_aLine_73 e11 ?_
      refine AW.aloadr_n 2 dX12_aLine_74 rfl ?_
      refine AW.getR af_X12_81_117 sr_117_24 dX12_aLine_75 ?_
      refine AW.iload_n 0 dX12_aLine_78 rfl ?_
      refine AW.aloadr_n 2 dX12_aLine_79 rfl ?_
      refine AW.getI af_X12_333_117 sr_117_36 dX12_aLine_80 ?_
      obtain ⟨g12, e13, h⟩ := hBe h
      refine AW.iast kc_139 sk_139 k7 dX12_aLine_83 e13 ?_
      refine AW.aloadr_n 2 dX12_aLine_84 rfl ?_
      refine AW.getR af_X12_84_117 sr_117_25 dX12_aLine_85 ?_
      refine AW.iload_n 0 dX12_aLine_88 rfl ?_
      refine AW.aloadr_n 2 dX12_aLine_89 rfl ?_
      refine AW.getI af_X12_333_117 sr_117_36 dX12_aLine_90 ?_
      obtain ⟨g14, e15, h⟩ := hBe h
      refine AW.iast kc_140 sk_140 k7 dX12_aLine_93 e15 ?_
      refine AW.iload_n 1 dX12_aLine_94 rfl ?_
      refine AW.iconst dX12_aLine_95 ?_
      refine AW.icmp_ne (tgt := 122) dX12_aLine_96 (by decide) (fun c16 => ?_) (fun c16 => ?_)
      · replace h := hF h c16
        refine AW.iload_n 1 dX12_aLine_122 rfl ?_
        refine AW.if_ne (tgt := 146) dX12_aLine_123 (by decide) (fun c17 => ?_) (fun c17 => ?_)
        · replace h := hF h c17
          refine AW.aloadr_n 2 dX12_aLine_146 rfl ?_
          obtain ⟨r18, e19, h⟩ := hC h
          refine AW.callVi (As := []) (st := []) (M_sumUp_ok e19) cq_X12_368 cr_117_X12_sumUp (Nat.le_trans (by decide) hdd) rfl dX12_aLine_147 rfl (Nat.le_of_ble_eq_true rfl) ?_
          refine AW.if_ne (tgt := 155) dX12_aLine_150 (by decide) (fun c20 => ?_) (fun c20 => ?_)
          · replace h := hF h c20
            refine AW.sub (lv1 := [(0, rv z 117), (2, iv (g 117 35))]) [2, 0] rfl ?_
            exact (M_aLine_b_ok hdd _ _ _ h).1 rfl
          · replace h := hT h c20
            refine AW.iconst dX12_aLine_153 ?_
            exact AW.zret1 rfl (Or.inl rfl) dX12_aLine_154 h rfl
        · replace h := hT h c17
          refine AW.aloadr_n 2 dX12_aLine_126 rfl ?_
          refine AW.aloadr_n 2 dX12_aLine_127 rfl ?_
          refine AW.getR af_X12_72_117 sr_117_21 dX12_aLine_128 ?_
          refine AW.iload_n 0 dX12_aLine_131 rfl ?_
          refine AW.aloadr_n 2 dX12_aLine_132 rfl ?_
          refine AW.getR af_X12_75_117 sr_117_22 dX12_aLine_133 ?_
          refine AW.iload_n 0 dX12_aLine_136 rfl ?_
          obtain ⟨r21, e22, h⟩ := hC h
          refine AW.callVi (As := [rv z 136, iv (g 117 35), rv z 137, iv (g 117 35)]) (st := []) (M_hours_117_136_137_ok e22) cq_X12_371 cr_117_X12_hours (Nat.le_trans (by decide) hdd) rfl dX12_aLine_137 rfl (Nat.le_of_ble_eq_true rfl) ?_
          refine AW.if_ne (tgt := 155) dX12_aLine_140 (by decide) (fun c23 => ?_) (fun c23 => ?_)
          · replace h := hF h c23
            refine AW.sub (lv1 := [(0, rv z 117), (2, iv (g 117 35))]) [2, 0] rfl ?_
            exact (M_aLine_b_ok hdd _ _ _ h).1 rfl
          · replace h := hT h c23
            refine AW.goto (tgt := 153) dX12_aLine_143 (by decide) ?_
            refine AW.iconst dX12_aLine_153 ?_
            exact AW.zret1 rfl (Or.inl rfl) dX12_aLine_154 h rfl
      · replace h := hT h c16
        refine AW.aloadr_n 2 dX12_aLine_99 rfl ?_
        obtain ⟨r24, e25, h⟩ := hC h
        refine AW.callVi (As := []) (st := []) (M_aTunnel_ok e25) cq_X12_378 cr_117_X12_aTunnel (Nat.le_trans (by decide) hdd) rfl dX12_aLine_100 rfl (Nat.le_of_ble_eq_true rfl) ?_
        obtain ⟨r32, e33, h⟩ := hC h
        refine AW.join (tgt := 121) (lv1 := []) (st1 := [iv r32.1]) (g1 := r32.2) ?_ (fun J103 => ?_)
        · obtain ⟨k34, h⟩ := hK h
          exact AW.zret1 rfl k34 dX12_aLine_121 h rfl
        replace h := e33
        refine AW.if_eq (tgt := 120) dX12_aLine_103 (by decide) (fun c26 => ?_) (fun c26 => ?_)
        · replace h := hT h c26
          refine AW.iconst dX12_aLine_120 ?_
          refine AW.sub (lv1 := []) [] rfl ?_
          cases h
          exact J103
        · replace h := hF h c26
          refine AW.aloadr_n 2 dX12_aLine_106 rfl ?_
          refine AW.sipush dX12_aLine_107 (by decide) (by decide) ?_
          obtain ⟨r27, e28, h⟩ := hC h
          refine AW.callVi (As := [iv 159]) (st := []) (M_need_ok e28) cq_X12_365 cr_117_X12_need (Nat.le_trans (by decide) hdd) rfl dX12_aLine_110 rfl (Nat.le_of_ble_eq_true rfl) ?_
          obtain ⟨t29, e30, h⟩ := hBe h
          refine AW.join (tgt := 121) (lv1 := [(2, iv (g 117 35)), (1, iv ((g 117 39) - 20)), (0, rv z 117)]) (st1 := [iv t29]) (g1 := r27.2) ?_ (fun J113 => ?_)
          · refine AW.sub (lv1 := []) [] rfl ?_
            cases h
            exact J103
          refine AW.if_eq (tgt := 120) dX12_aLine_113 (by decide) (fun c31 => ?_) (fun c31 => ?_)
          · refine AW.iconst dX12_aLine_120 ?_
            exact AW.val (e30.trans (if_pos c31)) J113
          · refine AW.iconst dX12_aLine_116 ?_
            refine AW.goto (tgt := 121) dX12_aLine_117 (by decide) ?_
            exact AW.val (e30.trans (if_neg c31)) J113
    · replace h := hT h c2
      refine AW.aloadr_n 0 dX12_aLine_29 rfl ?_
      refine AW.iconst dX12_aLine_30 ?_
      obtain ⟨r35, e36, h⟩ := hC h
      refine AW.callVi (As := [iv 3]) (st := []) (M_bad_ok e36) cq_X12_327 cr_117_X12_bad (Nat.le_trans (by decide) hdd) rfl dX12_aLine_31 rfl (Nat.le_of_ble_eq_true rfl) ?_
      obtain ⟨k37, h⟩ := hK h
      exact AW.zret1 rfl k37 dX12_aLine_34 h rfl
  · replace h := hT h c1
    refine AW.aloadr_n 0 dX12_aLine_14 rfl ?_
    refine AW.iconst dX12_aLine_15 ?_
    obtain ⟨r38, e39, h⟩ := hC h
    refine AW.callVi (As := [iv 1]) (st := []) (M_bad_ok e39) cq_X12_327 cr_117_X12_bad (Nat.le_trans (by decide) hdd) rfl dX12_aLine_16 rfl (Nat.le_of_ble_eq_true rfl) ?_
    obtain ⟨k40, h⟩ := hK h
    exact AW.zret1 rfl k40 dX12_aLine_19 h rfl
set_option synthInstance.maxHeartbeats 2000000 in
theorem M_keeps_b_ok {z : AZ} {d : Nat} (hdd : 0 ≤ d) : ∀ (tag : Nat) (x1 : Int) (g : AG) (r : Int × AG), M_keeps_b tag x1 g = some r → (tag = 1 → AW z (RX12, cX12_keeps, 2, none) d (QD none r) 10 [(0, rv z 117), (1, iv x1)] [] g) ∧ (tag = 2 → AW z (RX12, cX12_keeps, 2, none) d (QD none r) 98 [(0, rv z 117), (1, iv x1)] [] g) ∧ (tag = 3 → AW z (RX12, cX12_keeps, 2, none) d (QD none r) 128 [(0, rv z 117), (1, iv x1)] [] g) ∧ (tag = 4 → AW z (RX12, cX12_keeps, 2, none) d (QD none r) 154 [(0, rv z 117), (1, iv x1)] [] g) := by
  refine M_keeps_b.partial_correctness (fun tag x1 g r => (tag = 1 → AW z (RX12, cX12_keeps, 2, none) d (QD none r) 10 [(0, rv z 117), (1, iv x1)] [] g) ∧ (tag = 2 → AW z (RX12, cX12_keeps, 2, none) d (QD none r) 98 [(0, rv z 117), (1, iv x1)] [] g) ∧ (tag = 3 → AW z (RX12, cX12_keeps, 2, none) d (QD none r) 128 [(0, rv z 117), (1, iv x1)] [] g) ∧ (tag = 4 → AW z (RX12, cX12_keeps, 2, none) d (QD none r) 154 [(0, rv z 117), (1, iv x1)] [] g)) ?_
  intro fb9 ih tag x1 g r h
  refine ⟨fun h9 => ?_, fun h9 => ?_, fun h9 => ?_, fun h9 => ?_⟩
  · subst h9
    replace h := hT h rfl
    refine AW.iload_n 1 dX12_keeps_10 rfl ?_
    refine AW.aloadr_n 0 dX12_keeps_11 rfl ?_
    refine AW.getI af_X12_390_117 sr_117_34 dX12_keeps_12 ?_
    refine AW.icmp_ge (tgt := 96) dX12_keeps_15 (by decide) (fun c1 => ?_) (fun c1 => ?_)
    · replace h := hT h c1
      refine AW.iconst dX12_keeps_96 ?_
      refine AW.istore_n (lv1 := [(1, iv 0), (0, rv z 117)]) dX12_keeps_97 (by decide) rfl ?_
      refine AW.sub (lv1 := [(0, rv z 117), (1, iv 0)]) [1, 0] rfl ?_
      exact (ih _ _ _ _ h).2.1 rfl
    · replace h := hF h c1
      refine AW.aloadr_n 0 dX12_keeps_18 rfl ?_
      refine AW.getR af_X12_48_117 sr_117_13 dX12_keeps_19 ?_
      refine AW.iload_n 1 dX12_keeps_22 rfl ?_
      refine AW.aloadr_n 0 dX12_keeps_23 rfl ?_
      refine AW.getR af_X12_69_117 sr_117_20 dX12_keeps_24 ?_
      refine AW.iload_n 1 dX12_keeps_27 rfl ?_
      obtain ⟨k2, h⟩ := hK h
      refine AW.iald kc_135 sk_135 k2 dX12_keeps_28 ?_
      obtain ⟨g3, e4, h⟩ := hBe h
      refine AW.iast kc_128 sk_128 k2 dX12_keeps_29 e4 ?_
      refine AW.aloadr_n 0 dX12_keeps_30 rfl ?_
      refine AW.getR af_X12_51_117 sr_117_14 dX12_keeps_31 ?_
      refine AW.iload_n 1 dX12_keeps_34 rfl ?_
      refine AW.aloadr_n 0 dX12_keeps_35 rfl ?_
      refine AW.getR af_X12_72_117 sr_117_21 dX12_keeps_36 ?_
      refine AW.iload_n 1 dX12_keeps_39 rfl ?_
      refine AW.iald kc_136 sk_136 k2 dX12_keeps_40 ?_
      obtain ⟨g5, e6, h⟩ := hBe h
      refine AW.iast kc_129 sk_129 k2 dX12_keeps_41 e6 ?_
      refine AW.aloadr_n 0 dX12_keeps_42 rfl ?_
      refine AW.getR af_X12_54_117 sr_117_15 dX12_keeps_43 ?_
      refine AW.iload_n 1 dX12_keeps_46 rfl ?_
      refine AW.aloadr_n 0 dX12_keeps_47 rfl ?_
      refine AW.getR af_X12_75_117 sr_117_22 dX12_keeps_48 ?_
      refine AW.iload_n 1 dX12_keeps_51 rfl ?_
      refine AW.iald kc_137 sk_137 k2 dX12_keeps_52 ?_
      obtain ⟨g7, e8, h⟩ := hBe h
      refine AW.iast kc_130 sk_130 k2 dX12_keeps_53 e8 ?_
      refine AW.aloadr_n 0 dX12_keeps_54 rfl ?_
      refine AW.getR af_X12_57_117 sr_117_16 dX12_keeps_55 ?_
      refine AW.iload_n 1 dX12_keeps_58 rfl ?_
      refine AW.aloadr_n 0 dX12_keeps_59 rfl ?_
      refine AW.getR af_X12_78_117 sr_117_23 dX12_keeps_60 ?_
      refine AW.iload_n 1 dX12_keeps_63 rfl ?_
      refine AW.iald kc_138 sk_138 k2 dX12_keeps_64 ?_
      obtain ⟨g9, e10, h⟩ := hBe h
      refine AW.iast kc_131 sk_131 k2 dX12_keeps_65 e10 ?_
      refine AW.aloadr_n 0 dX12_keeps_66 rfl ?_
      refine AW.getR af_X12_60_117 sr_117_17 dX12_keeps_67 ?_
      refine AW.iload_n 1 dX12_keeps_70 rfl ?_
      refine AW.aloadr_n 0 dX12_keeps_71 rfl ?_
      refine AW.getR af_X12_81_117 sr_117_24 dX12_keeps_72 ?_
      refine AW.iload_n 1 dX12_keeps_75 rfl ?_
      refine AW.iald kc_139 sk_139 k2 dX12_keeps_76 ?_
      obtain ⟨g11, e12, h⟩ := hBe h
      refine AW.iast kc_132 sk_132 k2 dX12_keeps_77 e12 ?_
      refine AW.aloadr_n 0 dX12_keeps_78 rfl ?_
      refine AW.getR af_X12_63_117 sr_117_18 dX12_keeps_79 ?_
      refine AW.iload_n 1 dX12_keeps_82 rfl ?_
      refine AW.aloadr_n 0 dX12_keeps_83 rfl ?_
      refine AW.getR af_X12_84_117 sr_117_25 dX12_keeps_84 ?_
      refine AW.iload_n 1 dX12_keeps_87 rfl ?_
      refine AW.iald kc_140 sk_140 k2 dX12_keeps_88 ?_
      obtain ⟨g13, e14, h⟩ := hBe h
      refine AW.iast kc_133 sk_133 k2 dX12_keeps_89 e14 ?_
      refine AW.iinc (lv1 := [(1, iv (x1 + 1)), (0, rv z 117)]) 1 dX12_keeps_90 rfl (by decide) rfl ?_
      refine AW.goto (tgt := 10) dX12_keeps_93 (by decide) ?_
      refine AW.sub (lv1 := [(0, rv z 117), (1, iv (x1 + 1))]) [1, 0] rfl ?_
      exact (ih _ _ _ _ h).1 rfl
  · subst h9
    replace h := hF h (by decide)
    replace h := hT h rfl
    refine AW.iload_n 1 dX12_keeps_98 rfl ?_
    refine AW.iconst dX12_keeps_99 ?_
    refine AW.aloadr_n 0 dX12_keeps_100 rfl ?_
    refine AW.getI af_X12_333_117 sr_117_36 dX12_keeps_101 ?_
    refine AW.imul dX12_keeps_104 ?_
    refine AW.icmp_ge (tgt := 126) dX12_keeps_105 (by decide) (fun c1 => ?_) (fun c1 => ?_)
    · replace h := hT h c1
      refine AW.iconst dX12_keeps_126 ?_
      refine AW.istore_n (lv1 := [(1, iv 0), (0, rv z 117)]) dX12_keeps_127 (by decide) rfl ?_
      refine AW.sub (lv1 := [(0, rv z 117), (1, iv 0)]) [1, 0] rfl ?_
      exact (ih _ _ _ _ h).2.2.1 rfl
    · replace h := hF h c1
      refine AW.aloadr_n 0 dX12_keeps_108 rfl ?_
      refine AW.getR af_X12_66_117 sr_117_19 dX12_keeps_109 ?_
      refine AW.iload_n 1 dX12_keeps_112 rfl ?_
      refine AW.aloadr_n 0 dX12_keeps_113 rfl ?_
      refine AW.getR af_X12_87_117 sr_117_26 dX12_keeps_114 ?_
      refine AW.iload_n 1 dX12_keeps_117 rfl ?_
      obtain ⟨k2, h⟩ := hK h
      refine AW.iald kc_141 sk_141 k2 dX12_keeps_118 ?_
      obtain ⟨g3, e4, h⟩ := hBe h
      refine AW.iast kc_134 sk_134 k2 dX12_keeps_119 e4 ?_
      refine AW.iinc (lv1 := [(1, iv (x1 + 1)), (0, rv z 117)]) 1 dX12_keeps_120 rfl (by decide) rfl ?_
      refine AW.goto (tgt := 98) dX12_keeps_123 (by decide) ?_
      refine AW.sub (lv1 := [(0, rv z 117), (1, iv (x1 + 1))]) [1, 0] rfl ?_
      exact (ih _ _ _ _ h).2.1 rfl
  · subst h9
    replace h := hF h (by decide)
    replace h := hF h (by decide)
    replace h := hT h rfl
    refine AW.iload_n 1 dX12_keeps_128 rfl ?_
    refine AW.bipush dX12_keeps_129 (by decide) (by decide) ?_
    refine AW.icmp_ge (tgt := 152) dX12_keeps_131 (by decide) (fun c1 => ?_) (fun c1 => ?_)
    · replace h := hT h c1
      refine AW.iconst dX12_keeps_152 ?_
      refine AW.istore_n (lv1 := [(1, iv 0), (0, rv z 117)]) dX12_keeps_153 (by decide) rfl ?_
      refine AW.sub (lv1 := [(0, rv z 117), (1, iv 0)]) [1, 0] rfl ?_
      exact (ih _ _ _ _ h).2.2.2 rfl
    · replace h := hF h c1
      refine AW.aloadr_n 0 dX12_keeps_134 rfl ?_
      refine AW.getR af_X12_96_117 sr_117_29 dX12_keeps_135 ?_
      refine AW.iload_n 1 dX12_keeps_138 rfl ?_
      refine AW.aloadr_n 0 dX12_keeps_139 rfl ?_
      refine AW.getR af_X12_100_117 sr_117_30 dX12_keeps_140 ?_
      refine AW.iload_n 1 dX12_keeps_143 rfl ?_
      obtain ⟨k2, h⟩ := hK h
      refine AW.zald kc_145 sk_145 k2 dX12_keeps_144 ?_
      obtain ⟨k3, h⟩ := hK h
      obtain ⟨g4, e5, h⟩ := hBe h
      refine AW.zast kc_144 sk_144 k2 k3 dX12_keeps_145 e5 ?_
      refine AW.iinc (lv1 := [(1, iv (x1 + 1)), (0, rv z 117)]) 1 dX12_keeps_146 rfl (by decide) rfl ?_
      refine AW.goto (tgt := 128) dX12_keeps_149 (by decide) ?_
      refine AW.sub (lv1 := [(0, rv z 117), (1, iv (x1 + 1))]) [1, 0] rfl ?_
      exact (ih _ _ _ _ h).2.2.1 rfl
  · subst h9
    replace h := hF h (by decide)
    replace h := hF h (by decide)
    replace h := hF h (by decide)
    replace h := hT h rfl
    refine AW.iload_n 1 dX12_keeps_154 rfl ?_
    refine AW.bipush dX12_keeps_155 (by decide) (by decide) ?_
    refine AW.icmp_ge (tgt := 178) dX12_keeps_157 (by decide) (fun c1 => ?_) (fun c1 => ?_)
    · replace h := hT h c1
      exact AW.vret1 rfl dX12_keeps_178 h rfl
    · replace h := hF h c1
      refine AW.aloadr_n 0 dX12_keeps_160 rfl ?_
      refine AW.getR af_X12_90_117 sr_117_27 dX12_keeps_161 ?_
      refine AW.iload_n 1 dX12_keeps_164 rfl ?_
      refine AW.aloadr_n 0 dX12_keeps_165 rfl ?_
      refine AW.getR af_X12_93_117 sr_117_28 dX12_keeps_166 ?_
      refine AW.iload_n 1 dX12_keeps_169 rfl ?_
      obtain ⟨k2, h⟩ := hK h
      refine AW.iald kc_143 sk_143 k2 dX12_keeps_170 ?_
      obtain ⟨g3, e4, h⟩ := hBe h
      refine AW.iast kc_142 sk_142 k2 dX12_keeps_171 e4 ?_
      refine AW.iinc (lv1 := [(1, iv (x1 + 1)), (0, rv z 117)]) 1 dX12_keeps_172 rfl (by decide) rfl ?_
      refine AW.goto (tgt := 154) dX12_keeps_175 (by decide) ?_
      refine AW.sub (lv1 := [(0, rv z 117), (1, iv (x1 + 1))]) [1, 0] rfl ?_
      exact (ih _ _ _ _ h).2.2.2 rfl
theorem M_keeps_ok {z : AZ} {g : AG} {r : Int × AG} (h : M_keeps g = some r) : AMf z yX12_keeps cX12_keeps 2 none 0 [rv z 117] g r := by
  intro d hdd
  refine AM.of (by decide +kernel) (Nat.le_of_ble_eq_true rfl) ?_
  show AW z (RX12, cX12_keeps, 2, none) d (QD none r) 0 [(0, rv z 117)] [] g
  unfold M_keeps at h
  refine AW.aloadr_n 0 dX12_keeps_0 rfl ?_
  refine AW.aloadr_n 0 dX12_keeps_1 rfl ?_
  refine AW.getI af_X12_375_117 sr_117_35 dX12_keeps_2 ?_
  obtain ⟨g1, e2, h⟩ := hBe h
  refine AW.putI ap_X12_390_117 sr_117_34 dX12_keeps_5 e2 ?_
  refine AW.iconst dX12_keeps_8 ?_
  refine AW.istore_n (lv1 := [(1, iv 0), (0, rv z 117)]) dX12_keeps_9 (by decide) rfl ?_
  refine AW.sub (lv1 := [(0, rv z 117), (1, iv 0)]) [1, 0] rfl ?_
  exact (M_keeps_b_ok hdd _ _ _ _ h).1 rfl
set_option synthInstance.maxHeartbeats 2000000 in
theorem M_rules_b_ok {z : AZ} {d : Nat} (hdd : 51 ≤ d) : ∀ (tag : Nat) (x1 : Int) (g : AG) (r : Int × AG), M_rules_b tag x1 g = some r → (tag = 1 → AW z (RX12, cX12_rules, 2, (some .int)) d (QD (some .int) r) 22 [(0, rv z 117), (1, iv x1)] [] g) ∧ (tag = 2 → AW z (RX12, cX12_rules, 2, (some .int)) d (QD (some .int) r) 47 [(0, rv z 117), (1, iv x1)] [] g) ∧ (tag = 3 → AW z (RX12, cX12_rules, 2, (some .int)) d (QD (some .int) r) 84 [(0, rv z 117), (1, iv x1)] [] g) := by
  refine M_rules_b.partial_correctness (fun tag x1 g r => (tag = 1 → AW z (RX12, cX12_rules, 2, (some .int)) d (QD (some .int) r) 22 [(0, rv z 117), (1, iv x1)] [] g) ∧ (tag = 2 → AW z (RX12, cX12_rules, 2, (some .int)) d (QD (some .int) r) 47 [(0, rv z 117), (1, iv x1)] [] g) ∧ (tag = 3 → AW z (RX12, cX12_rules, 2, (some .int)) d (QD (some .int) r) 84 [(0, rv z 117), (1, iv x1)] [] g)) ?_
  intro fb9 ih tag x1 g r h
  refine ⟨fun h9 => ?_, fun h9 => ?_, fun h9 => ?_⟩
  · subst h9
    replace h := hT h rfl
    refine AW.iload_n 1 dX12_rules_22 rfl ?_
    refine AW.bipush dX12_rules_23 (by decide) (by decide) ?_
    refine AW.icmp_ge (tgt := 41) dX12_rules_25 (by decide) (fun c1 => ?_) (fun c1 => ?_)
    · replace h := hT h c1
      refine AW.aloadr_n 0 dX12_rules_41 rfl ?_
      obtain ⟨r2, e3, h⟩ := hC h
      refine AW.callVv (As := []) (st := []) (M_next0_ok e3) cq_X12_330 cr_117_X12_next0 (Nat.le_trans (by decide) hdd) rfl dX12_rules_42 rfl (Nat.le_of_ble_eq_true rfl) ?_
      refine AW.iconst dX12_rules_45 ?_
      refine AW.istore_n (lv1 := [(1, iv 1), (0, rv z 117)]) dX12_rules_46 (by decide) rfl ?_
      refine AW.sub (lv1 := [(0, rv z 117), (1, iv 1)]) [1, 0] rfl ?_
      exact (ih _ _ _ _ h).2.1 rfl
    · replace h := hF h c1
      refine AW.aloadr_n 0 dX12_rules_28 rfl ?_
      refine AW.getR af_X12_100_117 sr_117_30 dX12_rules_29 ?_
      refine AW.iload_n 1 dX12_rules_32 rfl ?_
      refine AW.iconst dX12_rules_33 ?_
      obtain ⟨k4, h⟩ := hK h
      obtain ⟨g5, e6, h⟩ := hBe h
      refine AW.zast kc_145 sk_145 k4 (Or.inl rfl) dX12_rules_34 e6 ?_
      refine AW.iinc (lv1 := [(1, iv (x1 + 1)), (0, rv z 117)]) 1 dX12_rules_35 rfl (by decide) rfl ?_
      refine AW.goto (tgt := 22) dX12_rules_38 (by decide) ?_
      refine AW.sub (lv1 := [(0, rv z 117), (1, iv (x1 + 1))]) [1, 0] rfl ?_
      exact (ih _ _ _ _ h).1 rfl
  · subst h9
    replace h := hF h (by decide)
    replace h := hT h rfl
    refine AW.iload_n 1 dX12_rules_47 rfl ?_
    refine AW.if_eq (tgt := 84) dX12_rules_48 (by decide) (fun c1 => ?_) (fun c1 => ?_)
    · replace h := hT h c1
      exact (ih _ _ _ _ h).2.2 rfl
    · replace h := hF h c1
      refine AW.aloadr_n 0 dX12_rules_51 rfl ?_
      refine AW.getI af_X12_306_117 sr_117_39 dX12_rules_52 ?_
      refine AW.if_eq (tgt := 84) dX12_rules_55 (by decide) (fun c2 => ?_) (fun c2 => ?_)
      · replace h := hT h c2
        exact (ih _ _ _ _ h).2.2 rfl
      · replace h := hF h c2
        refine AW.aloadr_n 0 dX12_rules_58 rfl ?_
        obtain ⟨r3, e4, h⟩ := hC h
        refine AW.callVi (As := []) (st := []) (M_aLine_ok e4) cq_X12_381 cr_117_X12_aLine (Nat.le_trans (by decide) hdd) rfl dX12_rules_59 rfl (Nat.le_of_ble_eq_true rfl) ?_
        refine AW.istore_n (lv1 := [(1, iv r3.1), (0, rv z 117)]) dX12_rules_62 (by decide) rfl ?_
        refine AW.aloadr_n 1 dX12_rules_63 rfl ?_
        refine AW.duprr dX12_rules_64 ?_
        refine AW.getI af_X12_375_117 sr_117_35 dX12_rules_65 ?_
        refine AW.iload_n 0 dX12_rules_68 rfl ?_
        obtain ⟨t5, e6, h⟩ := hBe h
        refine AW.join (tgt := 77) (lv1 := [(1, iv r3.1), (0, rv z 117)]) (st1 := [iv t5, iv (r3.2 117 35), rv z 117]) (g1 := r3.2) ?_ (fun J69 => ?_)
        · refine AW.iadd dX12_rules_77 ?_
          obtain ⟨g7, e8, h⟩ := hBe h
          refine AW.putI ap_X12_375_117 sr_117_35 dX12_rules_78 e8 ?_
          refine AW.goto (tgt := 47) dX12_rules_81 (by decide) ?_
          refine AW.sub (lv1 := [(0, rv z 117), (1, iv r3.1)]) [1, 0] rfl ?_
          exact (ih _ _ _ _ h).2.1 rfl
        refine AW.if_eq (tgt := 76) dX12_rules_69 (by decide) (fun c9 => ?_) (fun c9 => ?_)
        · refine AW.iconst dX12_rules_76 ?_
          exact AW.val (e6.trans (if_pos c9)) J69
        · refine AW.iconst dX12_rules_72 ?_
          refine AW.goto (tgt := 77) dX12_rules_73 (by decide) ?_
          exact AW.val (e6.trans (if_neg c9)) J69
  · subst h9
    replace h := hF h (by decide)
    replace h := hF h (by decide)
    replace h := hT h rfl
    refine AW.aloadr_n 0 dX12_rules_84 rfl ?_
    refine AW.iconst dX12_rules_85 ?_
    obtain ⟨g1, e2, h⟩ := hBe h
    refine AW.putI ap_X12_242_117 sr_117_37 dX12_rules_86 e2 ?_
    refine AW.aloadr_n 0 dX12_rules_89 rfl ?_
    refine AW.aloadr_n 0 dX12_rules_90 rfl ?_
    refine AW.getI af_X12_321_117 sr_117_42 dX12_rules_91 ?_
    obtain ⟨g3, e4, h⟩ := hBe h
    refine AW.putI ap_X12_384_117 sr_117_44 dX12_rules_94 e4 ?_
    refine AW.aloadr_n 0 dX12_rules_97 rfl ?_
    refine AW.iload_n 1 dX12_rules_98 rfl ?_
    obtain ⟨t5, e6, h⟩ := hBe h
    refine AW.join (tgt := 110) (lv1 := [(0, rv z 117), (1, iv x1)]) (st1 := [iv t5, rv z 117]) (g1 := g3) ?_ (fun J99 => ?_)
    · obtain ⟨g7, e8, h⟩ := hBe h
      refine AW.putI ap_X12_112_117 sr_117_46 dX12_rules_110 e8 ?_
      refine AW.iload_n 1 dX12_rules_113 rfl ?_
      refine AW.if_ne (tgt := 119) dX12_rules_114 (by decide) (fun c9 => ?_) (fun c9 => ?_)
      · replace h := hF h c9
        refine AW.aloadr_n 0 dX12_rules_119 rfl ?_
        obtain ⟨r10, e11, h⟩ := hC h
        refine AW.callVv (As := []) (st := []) (M_keeps_ok e11) cq_X12_387 cr_117_X12_keeps (Nat.le_trans (by decide) hdd) rfl dX12_rules_120 rfl (Nat.le_of_ble_eq_true rfl) ?_
        refine AW.aloadr_n 0 dX12_rules_123 rfl ?_
        refine AW.getI af_X12_390_117 sr_117_34 dX12_rules_124 ?_
        exact AW.iret1 rfl dX12_rules_127 h rfl
      · replace h := hT h c9
        refine AW.iconst dX12_rules_117 ?_
        exact AW.iret1 rfl dX12_rules_118 h rfl
    refine AW.if_eq (tgt := 106) dX12_rules_99 (by decide) (fun c12 => ?_) (fun c12 => ?_)
    · refine AW.aloadr_n 0 dX12_rules_106 rfl ?_
      refine AW.getI af_X12_324_117 sr_117_43 dX12_rules_107 ?_
      exact AW.val (e6.trans (if_pos c12)) J99
    · refine AW.iconst dX12_rules_102 ?_
      refine AW.goto (tgt := 110) dX12_rules_103 (by decide) ?_
      exact AW.val (e6.trans (if_neg c12)) J99
theorem M_rules_ok {z : AZ} {g : AG} {r : Int × AG} (h : M_rules g = some r) : AMf z yX12_rules cX12_rules 2 (some .int) 51 [rv z 117] g r := by
  intro d hdd
  refine AM.of (by decide +kernel) (Nat.le_of_ble_eq_true rfl) ?_
  show AW z (RX12, cX12_rules, 2, (some .int)) d (QD (some .int) r) 0 [(0, rv z 117)] [] g
  unfold M_rules at h
  refine AW.aloadr_n 0 dX12_rules_0 rfl ?_
  refine AW.iconst dX12_rules_1 ?_
  obtain ⟨g1, e2, h⟩ := hBe h
  refine AW.putI ap_X12_321_117 sr_117_42 dX12_rules_2 e2 ?_
  refine AW.aloadr_n 0 dX12_rules_5 rfl ?_
  refine AW.iconst dX12_rules_6 ?_
  obtain ⟨g3, e4, h⟩ := hBe h
  refine AW.putI ap_X12_245_117 sr_117_38 dX12_rules_7 e4 ?_
  refine AW.aloadr_n 0 dX12_rules_10 rfl ?_
  refine AW.iconst dX12_rules_11 ?_
  obtain ⟨g5, e6, h⟩ := hBe h
  refine AW.putI ap_X12_375_117 sr_117_35 dX12_rules_12 e6 ?_
  refine AW.aloadr_n 0 dX12_rules_15 rfl ?_
  refine AW.iconst dX12_rules_16 ?_
  obtain ⟨g7, e8, h⟩ := hBe h
  refine AW.putI ap_X12_333_117 sr_117_36 dX12_rules_17 e8 ?_
  refine AW.iconst dX12_rules_20 ?_
  refine AW.istore_n (lv1 := [(1, iv 0), (0, rv z 117)]) dX12_rules_21 (by decide) rfl ?_
  refine AW.sub (lv1 := [(0, rv z 117), (1, iv 0)]) [1, 0] rfl ?_
  exact (M_rules_b_ok hdd _ _ _ _ h).1 rfl
theorem M_fault_ok {z : AZ} {x1 : Int} {g : AG} : AMf z yX12_fault cX12_fault 2 (some .int) 0 [rv z 117, iv x1] g ((M_fault x1 g), g) := by
  intro d hdd
  refine AM.of (by decide +kernel) (Nat.le_of_ble_eq_true rfl) ?_
  show AW z (RX12, cX12_fault, 2, (some .int)) d (QD (some .int) ((M_fault x1 g), g)) 0 [(0, rv z 117), (1, iv x1)] [] g
  refine AW.iload_n 1 dX12_fault_0 rfl ?_
  refine AW.join (tgt := 24) (lv1 := [(0, rv z 117), (1, iv x1)]) (st1 := [iv (if nw x1 = 0 then (g 117 44) else (if nw x1 = 1 then (g 117 46) else (-1)))]) (g1 := g) ?_ (fun J1 => ?_)
  · exact AW.iret rfl dX12_fault_24 ⟨congrArg (fun v => some (iv v)) (show M_fault x1 g = (if nw x1 = 0 then (g 117 44) else (if nw x1 = 1 then (g 117 46) else (-1))) from rfl).symm, rfl⟩
  refine AW.if_ne (tgt := 11) dX12_fault_1 (by decide) (fun c1 => ?_) (fun c1 => ?_)
  · refine AW.iload_n 1 dX12_fault_11 rfl ?_
    refine AW.iconst dX12_fault_12 ?_
    refine AW.icmp_ne (tgt := 23) dX12_fault_13 (by decide) (fun c2 => ?_) (fun c2 => ?_)
    · refine AW.iconst dX12_fault_23 ?_
      exact AW.val ((if_neg c1).trans (if_neg c2)) J1
    · refine AW.aloadr_n 0 dX12_fault_16 rfl ?_
      refine AW.getI af_X12_112_117 sr_117_46 dX12_fault_17 ?_
      refine AW.goto (tgt := 24) dX12_fault_20 (by decide) ?_
      exact AW.val ((if_neg c1).trans (if_pos c2)) J1
  · refine AW.aloadr_n 0 dX12_fault_4 rfl ?_
    refine AW.getI af_X12_384_117 sr_117_44 dX12_fault_5 ?_
    refine AW.goto (tgt := 24) dX12_fault_8 (by decide) ?_
    exact AW.val (if_pos c1) J1
set_option synthInstance.maxHeartbeats 2000000 in
theorem M_forgets_b_ok {z : AZ} {d : Nat} (hdd : 0 ≤ d) : ∀ (x1 : Int) (g : AG) (r : Int × AG), M_forgets_b x1 g = some r → AW z (RX12, cX12_forgets, 2, none) d (QD none r) 2 [(0, rv z 117), (1, iv x1)] [] g := by
  refine M_forgets_b.partial_correctness (fun x1 g r => AW z (RX12, cX12_forgets, 2, none) d (QD none r) 2 [(0, rv z 117), (1, iv x1)] [] g) ?_
  intro fb9 ih x1 g r h
  refine AW.iload_n 1 dX12_forgets_2 rfl ?_
  refine AW.bipush dX12_forgets_3 (by decide) (by decide) ?_
  refine AW.icmp_ge (tgt := 21) dX12_forgets_5 (by decide) (fun c1 => ?_) (fun c1 => ?_)
  · replace h := hT h c1
    exact AW.vret1 rfl dX12_forgets_21 h rfl
  · replace h := hF h c1
    refine AW.aloadr_n 0 dX12_forgets_8 rfl ?_
    refine AW.getR af_X12_109_117 sr_117_33 dX12_forgets_9 ?_
    refine AW.iload_n 1 dX12_forgets_12 rfl ?_
    refine AW.iconst dX12_forgets_13 ?_
    obtain ⟨k2, h⟩ := hK h
    obtain ⟨g3, e4, h⟩ := hBe h
    refine AW.iast kc_148 sk_148 k2 dX12_forgets_14 e4 ?_
    refine AW.iinc (lv1 := [(1, iv (x1 + 1)), (0, rv z 117)]) 1 dX12_forgets_15 rfl (by decide) rfl ?_
    refine AW.goto (tgt := 2) dX12_forgets_18 (by decide) ?_
    refine AW.sub (lv1 := [(0, rv z 117), (1, iv (x1 + 1))]) [1, 0] rfl ?_
    exact ih _ _ _ h
theorem M_forgets_ok {z : AZ} {g : AG} {r : Int × AG} (h : M_forgets g = some r) : AMf z yX12_forgets cX12_forgets 2 none 0 [rv z 117] g r := by
  intro d hdd
  refine AM.of (by decide +kernel) (Nat.le_of_ble_eq_true rfl) ?_
  show AW z (RX12, cX12_forgets, 2, none) d (QD none r) 0 [(0, rv z 117)] [] g
  unfold M_forgets at h
  refine AW.iconst dX12_forgets_0 ?_
  refine AW.istore_n (lv1 := [(1, iv 0), (0, rv z 117)]) dX12_forgets_1 (by decide) rfl ?_
  refine AW.sub (lv1 := [(0, rv z 117), (1, iv 0)]) [1, 0] rfl ?_
  exact M_forgets_b_ok hdd _ _ _ h
theorem M_both_ok {z : AZ} {x0 : Int} {x1 : Int} {x2 : Int} {g : AG} : AMf z yX12_both cX12_both 3 (some .int) 0 [iv x0, iv x1, iv x2] g ((M_both x0 x1 x2), g) := by
  intro d hdd
  refine AM.of (by decide +kernel) (Nat.le_of_ble_eq_true rfl) ?_
  show AW z (RX12, cX12_both, 3, (some .int)) d (QD (some .int) ((M_both x0 x1 x2), g)) 0 [(0, iv x0), (1, iv x1), (2, iv x2)] [] g
  refine AW.iload_n 0 dX12_both_0 rfl ?_
  by_cases c1 : nw x0 = 10
  · refine AW.tsIn (tgt := 52) 10 dX12_both_1 c1 (by decide) (by decide) (by rfl) (by decide) ?_
    refine AW.iload_n 1 dX12_both_52 rfl ?_
    refine AW.iload_n 2 dX12_both_53 rfl ?_
    refine AW.iadd dX12_both_54 ?_
    exact AW.iret rfl dX12_both_55 ⟨congrArg (fun v => some (iv v)) (show M_both x0 x1 x2  = (x1 + x2) from ((if_pos c1))).symm, rfl⟩
  · by_cases c2 : nw x0 = 11
    · refine AW.tsIn (tgt := 56) 11 dX12_both_1 c2 (by decide) (by decide) (by rfl) (by decide) ?_
      refine AW.iload_n 1 dX12_both_56 rfl ?_
      refine AW.iload_n 2 dX12_both_57 rfl ?_
      refine AW.isub dX12_both_58 ?_
      exact AW.iret rfl dX12_both_59 ⟨congrArg (fun v => some (iv v)) (show M_both x0 x1 x2  = (x1 - x2) from (((if_neg c1).trans (if_pos c2)))).symm, rfl⟩
    · by_cases c3 : nw x0 = 12
      · refine AW.tsIn (tgt := 60) 12 dX12_both_1 c3 (by decide) (by decide) (by rfl) (by decide) ?_
        refine AW.iload_n 1 dX12_both_60 rfl ?_
        refine AW.iload_n 2 dX12_both_61 rfl ?_
        refine AW.imul dX12_both_62 ?_
        exact AW.iret rfl dX12_both_63 ⟨congrArg (fun v => some (iv v)) (show M_both x0 x1 x2  = (x1 * x2) from (((if_neg c1).trans ((if_neg c2).trans (if_pos c3))))).symm, rfl⟩
      · by_cases c4 : nw x0 = 13
        · refine AW.tsIn (tgt := 101) 13 dX12_both_1 c4 (by decide) (by decide) (by rfl) (by decide) ?_
          refine AW.iload_n 1 dX12_both_101 rfl ?_
          refine AW.iload_n 2 dX12_both_102 rfl ?_
          refine AW.ior dX12_both_103 ?_
          exact AW.iret rfl dX12_both_104 ⟨congrArg (fun v => some (iv v)) (show M_both x0 x1 x2  = (orI x1 x2) from (((if_neg c1).trans ((if_neg c2).trans ((if_neg c3).trans (if_pos c4)))))).symm, rfl⟩
        · by_cases c5 : nw x0 = 14
          · refine AW.tsIn (tgt := 64) 14 dX12_both_1 c5 (by decide) (by decide) (by rfl) (by decide) ?_
            refine AW.iload_n 1 dX12_both_64 rfl ?_
            refine AW.iload_n 2 dX12_both_65 rfl ?_
            refine AW.join (tgt := 74) (lv1 := [(0, iv x0), (1, iv x1), (2, iv x2)]) (st1 := [iv (if nw x2 ≤ nw x1 then 0 else 1)]) (g1 := g) ?_ (fun J66 => ?_)
            · exact AW.iret rfl dX12_both_74 ⟨congrArg (fun v => some (iv v)) (show M_both x0 x1 x2  = (if nw x2 ≤ nw x1 then 0 else 1) from (((if_neg c1).trans ((if_neg c2).trans ((if_neg c3).trans ((if_neg c4).trans (if_pos c5))))))).symm, rfl⟩
            refine AW.icmp_ge (tgt := 73) dX12_both_66 (by decide) (fun c6 => ?_) (fun c6 => ?_)
            · refine AW.iconst dX12_both_73 ?_
              exact AW.val (if_pos c6) J66
            · refine AW.iconst dX12_both_69 ?_
              refine AW.goto (tgt := 74) dX12_both_70 (by decide) ?_
              exact AW.val (if_neg c6) J66
          · by_cases c7 : nw x0 = 15
            · refine AW.tsIn (tgt := 75) 15 dX12_both_1 c7 (by decide) (by decide) (by rfl) (by decide) ?_
              refine AW.iload_n 1 dX12_both_75 rfl ?_
              refine AW.iload_n 2 dX12_both_76 rfl ?_
              refine AW.join (tgt := 85) (lv1 := [(0, iv x0), (1, iv x1), (2, iv x2)]) (st1 := [iv (if nw x1 = nw x2 then 1 else 0)]) (g1 := g) ?_ (fun J77 => ?_)
              · exact AW.iret rfl dX12_both_85 ⟨congrArg (fun v => some (iv v)) (show M_both x0 x1 x2  = (if nw x1 = nw x2 then 1 else 0) from (((if_neg c1).trans ((if_neg c2).trans ((if_neg c3).trans ((if_neg c4).trans ((if_neg c5).trans (if_pos c7)))))))).symm, rfl⟩
              refine AW.icmp_ne (tgt := 84) dX12_both_77 (by decide) (fun c8 => ?_) (fun c8 => ?_)
              · refine AW.iconst dX12_both_84 ?_
                exact AW.val (if_neg c8) J77
              · refine AW.iconst dX12_both_80 ?_
                refine AW.goto (tgt := 85) dX12_both_81 (by decide) ?_
                exact AW.val (if_pos c8) J77
            · by_cases c9 : nw x0 = 16
              · refine AW.tsIn (tgt := 86) 16 dX12_both_1 c9 (by decide) (by decide) (by rfl) (by decide) ?_
                refine AW.iload_n 1 dX12_both_86 rfl ?_
                refine AW.iload_n 2 dX12_both_87 rfl ?_
                refine AW.join (tgt := 96) (lv1 := [(0, iv x0), (1, iv x1), (2, iv x2)]) (st1 := [iv (if nw x1 ≤ nw x2 then 0 else 1)]) (g1 := g) ?_ (fun J88 => ?_)
                · exact AW.iret rfl dX12_both_96 ⟨congrArg (fun v => some (iv v)) (show M_both x0 x1 x2  = (if nw x1 ≤ nw x2 then 0 else 1) from (((if_neg c1).trans ((if_neg c2).trans ((if_neg c3).trans ((if_neg c4).trans ((if_neg c5).trans ((if_neg c7).trans (if_pos c9))))))))).symm, rfl⟩
                refine AW.icmp_le (tgt := 95) dX12_both_88 (by decide) (fun c10 => ?_) (fun c10 => ?_)
                · refine AW.iconst dX12_both_95 ?_
                  exact AW.val (if_pos c10) J88
                · refine AW.iconst dX12_both_91 ?_
                  refine AW.goto (tgt := 96) dX12_both_92 (by decide) ?_
                  exact AW.val (if_neg c10) J88
              · by_cases c11 : nw x0 = 17
                · refine AW.tsIn (tgt := 101) 17 dX12_both_1 c11 (by decide) (by decide) (by rfl) (by decide) ?_
                  refine AW.iload_n 1 dX12_both_101 rfl ?_
                  refine AW.iload_n 2 dX12_both_102 rfl ?_
                  refine AW.ior dX12_both_103 ?_
                  exact AW.iret rfl dX12_both_104 ⟨congrArg (fun v => some (iv v)) (show M_both x0 x1 x2  = (orI x1 x2) from (((if_neg c1).trans ((if_neg c2).trans ((if_neg c3).trans ((if_neg c4).trans ((if_neg c5).trans ((if_neg c7).trans ((if_neg c9).trans (if_pos c11)))))))))).symm, rfl⟩
                · by_cases c12 : nw x0 = 18
                  · refine AW.tsIn (tgt := 97) 18 dX12_both_1 c12 (by decide) (by decide) (by rfl) (by decide) ?_
                    refine AW.iload_n 1 dX12_both_97 rfl ?_
                    refine AW.iload_n 2 dX12_both_98 rfl ?_
                    refine AW.iand dX12_both_99 ?_
                    exact AW.iret rfl dX12_both_100 ⟨congrArg (fun v => some (iv v)) (show M_both x0 x1 x2  = (andI x1 x2) from (((if_neg c1).trans ((if_neg c2).trans ((if_neg c3).trans ((if_neg c4).trans ((if_neg c5).trans ((if_neg c7).trans ((if_neg c9).trans ((if_neg c11).trans (if_pos c12))))))))))).symm, rfl⟩
                  · refine AW.tsOut (tgt := 101) dX12_both_1 (by omega) (by decide) ?_
                    refine AW.iload_n 1 dX12_both_101 rfl ?_
                    refine AW.iload_n 2 dX12_both_102 rfl ?_
                    refine AW.ior dX12_both_103 ?_
                    exact AW.iret rfl dX12_both_104 ⟨congrArg (fun v => some (iv v)) (show M_both x0 x1 x2  = (orI x1 x2) from (((if_neg c1).trans ((if_neg c2).trans ((if_neg c3).trans ((if_neg c4).trans ((if_neg c5).trans ((if_neg c7).trans ((if_neg c9).trans ((if_neg c11).trans (if_neg c12))))))))))).symm, rfl⟩
set_option synthInstance.maxHeartbeats 2000000 in
theorem M_comesTo_b_ok {z : AZ} {d : Nat} (hdd : 1 ≤ d) {x2 : Int} : ∀ (x3 : Int) (x4 : Int) (g : AG) (r : Int × AG), M_comesTo_b x2 x3 x4 g = some r → AW z (RX12, cX12_comesTo, 7, (some .int)) d (QD (some .int) r) 5 [(0, rv z 117), (2, iv x2), (3, iv x3), (4, iv x4)] [] g := by
  refine M_comesTo_b.partial_correctness x2 (fun x3 x4 g r => AW z (RX12, cX12_comesTo, 7, (some .int)) d (QD (some .int) r) 5 [(0, rv z 117), (2, iv x2), (3, iv x3), (4, iv x4)] [] g) ?_
  intro fb9 ih x3 x4 g r h
  refine AW.iload 3 dX12_comesTo_5 rfl ?_
  refine AW.iload_n 1 dX12_comesTo_7 rfl ?_
  refine AW.icmp_ge (tgt := 158) dX12_comesTo_8 (by decide) (fun c1 => ?_) (fun c1 => ?_)
  · replace h := hT h c1
    refine AW.aloadr_n 0 dX12_comesTo_158 rfl ?_
    refine AW.getR af_X12_106_117 sr_117_32 dX12_comesTo_159 ?_
    refine AW.iconst dX12_comesTo_162 ?_
    refine AW.iald kc_147 sk_147 (by decide) dX12_comesTo_163 ?_
    exact AW.iret1 rfl dX12_comesTo_164 h rfl
  · replace h := hF h c1
    refine AW.aloadr_n 0 dX12_comesTo_11 rfl ?_
    refine AW.getR af_X12_66_117 sr_117_19 dX12_comesTo_12 ?_
    refine AW.iconst dX12_comesTo_15 ?_
    refine AW.iload 3 dX12_comesTo_16 rfl ?_
    refine AW.imul dX12_comesTo_18 ?_
    obtain ⟨k2, h⟩ := hK h
    refine AW.iald kc_134 sk_134 k2 dX12_comesTo_19 ?_
    refine AW.istore (lv1 := [(5, iv (g 134 (ix (2 * x4)))), (0, rv z 117), (2, iv x2), (3, iv x3), (4, iv x4)]) dX12_comesTo_20 (by decide) rfl ?_
    refine AW.aloadr_n 1 dX12_comesTo_22 rfl ?_
    refine AW.getR af_X12_66_117 sr_117_19 dX12_comesTo_23 ?_
    refine AW.iconst dX12_comesTo_26 ?_
    refine AW.iload 4 dX12_comesTo_27 rfl ?_
    refine AW.imul dX12_comesTo_29 ?_
    refine AW.iconst dX12_comesTo_30 ?_
    refine AW.iadd dX12_comesTo_31 ?_
    obtain ⟨k3, h⟩ := hK h
    refine AW.iald kc_134 sk_134 k3 dX12_comesTo_32 ?_
    refine AW.istore (lv1 := [(6, iv (g 134 (ix ((2 * x4) + 1)))), (5, iv (g 134 (ix (2 * x4)))), (0, rv z 117), (2, iv x2), (3, iv x3), (4, iv x4)]) dX12_comesTo_33 (by decide) rfl ?_
    refine AW.iload 1 dX12_comesTo_35 rfl ?_
    refine AW.bipush dX12_comesTo_37 (by decide) (by decide) ?_
    obtain ⟨r25, e26, h⟩ := hC h
    refine AW.join (tgt := 152) (lv1 := [(0, rv z 117), (2, iv x2), (3, iv r25.1), (4, iv x4)]) (st1 := []) (g1 := r25.2) ?_ (fun J39 => ?_)
    · refine AW.iinc (lv1 := [(4, iv (x4 + 1)), (0, rv z 117), (2, iv x2), (3, iv r25.1)]) 3 dX12_comesTo_152 rfl (by decide) rfl ?_
      refine AW.goto (tgt := 5) dX12_comesTo_155 (by decide) ?_
      refine AW.sub (lv1 := [(0, rv z 117), (2, iv x2), (3, iv r25.1), (4, iv (x4 + 1))]) [1, 2, 3, 0] rfl ?_
      exact ih _ _ _ _ h
    replace h := e26
    refine AW.icmp_ge (tgt := 71) dX12_comesTo_39 (by decide) (fun c4 => ?_) (fun c4 => ?_)
    · replace h := hT h c4
      refine AW.iload 1 dX12_comesTo_71 rfl ?_
      refine AW.bipush dX12_comesTo_73 (by decide) (by decide) ?_
      refine AW.icmp_ne (tgt := 94) dX12_comesTo_75 (by decide) (fun c5 => ?_) (fun c5 => ?_)
      · replace h := hF h c5
        refine AW.iload 1 dX12_comesTo_94 rfl ?_
        refine AW.bipush dX12_comesTo_96 (by decide) (by decide) ?_
        refine AW.icmp_ne (tgt := 122) dX12_comesTo_98 (by decide) (fun c6 => ?_) (fun c6 => ?_)
        · replace h := hF h c6
          refine AW.iinc (lv1 := [(3, iv (x3 + (-1))), (6, iv (g 134 (ix ((2 * x4) + 1)))), (5, iv (g 134 (ix (2 * x4)))), (0, rv z 117), (2, iv x2), (4, iv x4)]) 4 dX12_comesTo_122 rfl (by decide) rfl ?_
          refine AW.aloadr_n 3 dX12_comesTo_125 rfl ?_
          refine AW.getR af_X12_106_117 sr_117_32 dX12_comesTo_126 ?_
          refine AW.iload_n 0 dX12_comesTo_129 rfl ?_
          refine AW.iconst dX12_comesTo_130 ?_
          refine AW.isub dX12_comesTo_131 ?_
          refine AW.iload 2 dX12_comesTo_132 rfl ?_
          refine AW.aloadr_n 3 dX12_comesTo_134 rfl ?_
          refine AW.getR af_X12_106_117 sr_117_32 dX12_comesTo_135 ?_
          refine AW.iload_n 0 dX12_comesTo_138 rfl ?_
          refine AW.iconst dX12_comesTo_139 ?_
          refine AW.isub dX12_comesTo_140 ?_
          obtain ⟨k7, h⟩ := hK h
          refine AW.iald kc_147 sk_147 k7 dX12_comesTo_141 ?_
          refine AW.aloadr_n 3 dX12_comesTo_142 rfl ?_
          refine AW.getR af_X12_106_117 sr_117_32 dX12_comesTo_143 ?_
          refine AW.iload_n 0 dX12_comesTo_146 rfl ?_
          obtain ⟨k8, h⟩ := hK h
          refine AW.iald kc_147 sk_147 k8 dX12_comesTo_147 ?_
          refine AW.callSi (As := [iv (g 134 (ix (2 * x4))), iv (g 147 (ix ((x3 + (-1)) - 1))), iv (g 147 (ix (x3 + (-1))))]) (st := [iv ((x3 + (-1)) - 1), rv z 147]) M_both_ok cq_X12_393 st_X12_both (Nat.le_trans (by decide) hdd) rfl dX12_comesTo_148 rfl (Nat.le_of_ble_eq_true rfl) ?_
          obtain ⟨g9, e10, h⟩ := hBe h
          refine AW.iast kc_147 sk_147 k7 dX12_comesTo_151 e10 ?_
          refine AW.sub (lv1 := [(0, rv z 117), (2, iv x2), (3, iv (x3 + (-1))), (4, iv x4)]) [3, 4, 0, 5] rfl ?_
          cases h
          exact J39
        · replace h := hT h c6
          refine AW.aloadr_n 2 dX12_comesTo_101 rfl ?_
          refine AW.getR af_X12_106_117 sr_117_32 dX12_comesTo_102 ?_
          refine AW.iload_n 4 dX12_comesTo_105 rfl ?_
          refine AW.iconst dX12_comesTo_106 ?_
          refine AW.isub dX12_comesTo_107 ?_
          refine AW.iconst dX12_comesTo_108 ?_
          refine AW.aloadr_n 2 dX12_comesTo_109 rfl ?_
          refine AW.getR af_X12_106_117 sr_117_32 dX12_comesTo_110 ?_
          refine AW.iload_n 4 dX12_comesTo_113 rfl ?_
          refine AW.iconst dX12_comesTo_114 ?_
          refine AW.isub dX12_comesTo_115 ?_
          obtain ⟨k11, h⟩ := hK h
          refine AW.iald kc_147 sk_147 k11 dX12_comesTo_116 ?_
          refine AW.isub dX12_comesTo_117 ?_
          obtain ⟨g12, e13, h⟩ := hBe h
          refine AW.iast kc_147 sk_147 k11 dX12_comesTo_118 e13 ?_
          refine AW.goto (tgt := 152) dX12_comesTo_119 (by decide) ?_
          refine AW.sub (lv1 := [(0, rv z 117), (2, iv x2), (3, iv x3), (4, iv x4)]) [2, 3, 4, 5] rfl ?_
          cases h
          exact J39
      · replace h := hT h c5
        refine AW.aloadr_n 2 dX12_comesTo_78 rfl ?_
        refine AW.getR af_X12_106_117 sr_117_32 dX12_comesTo_79 ?_
        refine AW.iload_n 4 dX12_comesTo_82 rfl ?_
        refine AW.iconst dX12_comesTo_83 ?_
        refine AW.isub dX12_comesTo_84 ?_
        refine AW.dup2r dX12_comesTo_85 ?_
        obtain ⟨k14, h⟩ := hK h
        refine AW.iald kc_147 sk_147 k14 dX12_comesTo_86 ?_
        refine AW.iload 0 dX12_comesTo_87 rfl ?_
        obtain ⟨k15, h⟩ := hK h
        refine AW.idiv dX12_comesTo_89 k15 ?_
        obtain ⟨g16, e17, h⟩ := hBe h
        refine AW.iast kc_147 sk_147 k14 dX12_comesTo_90 e17 ?_
        refine AW.goto (tgt := 152) dX12_comesTo_91 (by decide) ?_
        refine AW.sub (lv1 := [(0, rv z 117), (2, iv x2), (3, iv x3), (4, iv x4)]) [2, 3, 4, 5] rfl ?_
        cases h
        exact J39
    · replace h := hF h c4
      refine AW.aloadr_n 2 dX12_comesTo_42 rfl ?_
      refine AW.getR af_X12_106_117 sr_117_32 dX12_comesTo_43 ?_
      refine AW.iload_n 4 dX12_comesTo_46 rfl ?_
      refine AW.iload 1 dX12_comesTo_47 rfl ?_
      obtain ⟨r20, e21, h⟩ := hC h
      refine AW.join (tgt := 64) (lv1 := [(0, rv z 117), (2, iv x2), (3, iv x3), (4, iv x4)]) (st1 := [iv r20.1, iv x3, rv z 147]) (g1 := r20.2) ?_ (fun J49 => ?_)
      · obtain ⟨k22, h⟩ := hK h
        obtain ⟨g23, e24, h⟩ := hBe h
        refine AW.iast kc_147 sk_147 k22 dX12_comesTo_64 e24 ?_
        refine AW.iinc (lv1 := [(3, iv (x3 + 1)), (0, rv z 117), (2, iv x2), (4, iv x4)]) 2 dX12_comesTo_65 rfl (by decide) rfl ?_
        refine AW.goto (tgt := 152) dX12_comesTo_68 (by decide) ?_
        refine AW.sub (lv1 := [(0, rv z 117), (2, iv x2), (3, iv (x3 + 1)), (4, iv x4)]) [1, 2, 0, 3] rfl ?_
        cases h
        exact J39
      replace h := e21
      refine AW.if_ne (tgt := 57) dX12_comesTo_49 (by decide) (fun c18 => ?_) (fun c18 => ?_)
      · replace h := hF h c18
        refine AW.aloadr_n 2 dX12_comesTo_57 rfl ?_
        refine AW.getR af_X12_109_117 sr_117_33 dX12_comesTo_58 ?_
        refine AW.iload 1 dX12_comesTo_61 rfl ?_
        obtain ⟨k19, h⟩ := hK h
        refine AW.iald kc_148 sk_148 k19 dX12_comesTo_63 ?_
        refine AW.sub (lv1 := [(0, rv z 117), (2, iv x2), (3, iv x3), (4, iv x4)]) [2, 3, 4, 5] rfl ?_
        cases h
        exact J49
      · replace h := hT h c18
        refine AW.iload 0 dX12_comesTo_52 rfl ?_
        refine AW.goto (tgt := 64) dX12_comesTo_54 (by decide) ?_
        refine AW.sub (lv1 := [(0, rv z 117), (2, iv x2), (3, iv x3), (4, iv x4)]) [2, 3, 4, 5] rfl ?_
        cases h
        exact J49
theorem M_comesTo_ok {z : AZ} {x1 : Int} {x2 : Int} {g : AG} {r : Int × AG} (h : M_comesTo x1 x2 g = some r) : AMf z yX12_comesTo cX12_comesTo 7 (some .int) 1 [rv z 117, iv x1, iv x2] g r := by
  intro d hdd
  refine AM.of (by decide +kernel) (Nat.le_of_ble_eq_true rfl) ?_
  show AW z (RX12, cX12_comesTo, 7, (some .int)) d (QD (some .int) r) 0 [(0, rv z 117), (1, iv x1), (2, iv x2)] [] g
  unfold M_comesTo at h
  refine AW.iconst dX12_comesTo_0 ?_
  refine AW.istore_n (lv1 := [(3, iv 0), (0, rv z 117), (1, iv x1), (2, iv x2)]) dX12_comesTo_1 (by decide) rfl ?_
  refine AW.iload_n 2 dX12_comesTo_2 rfl ?_
  refine AW.istore (lv1 := [(4, iv x1), (3, iv 0), (0, rv z 117), (1, iv x1), (2, iv x2)]) dX12_comesTo_3 (by decide) rfl ?_
  refine AW.sub (lv1 := [(0, rv z 117), (2, iv x2), (3, iv 0), (4, iv x1)]) [2, 4, 1, 0] rfl ?_
  exact M_comesTo_b_ok hdd _ _ _ _ h
set_option synthInstance.maxHeartbeats 2000000 in
theorem M_serves_b_ok {z : AZ} {d : Nat} (hdd : 2 ≤ d) {x1 : Int} : ∀ (tag : Nat) (x2 : Int) (g : AG) (r : Int × AG), M_serves_b x1 tag x2 g = some r → (tag = 1 → AW z (RX12, cX12_serves, 3, (some .int)) d (QD (some .int) r) 2 [(0, rv z 117), (1, iv x1), (2, iv x2)] [] g) ∧ (tag = 2 → AW z (RX12, cX12_serves, 3, (some .int)) d (QD (some .int) r) 57 [(0, rv z 117), (1, iv x1), (2, iv x2)] [] g) := by
  refine M_serves_b.partial_correctness x1 (fun tag x2 g r => (tag = 1 → AW z (RX12, cX12_serves, 3, (some .int)) d (QD (some .int) r) 2 [(0, rv z 117), (1, iv x1), (2, iv x2)] [] g) ∧ (tag = 2 → AW z (RX12, cX12_serves, 3, (some .int)) d (QD (some .int) r) 57 [(0, rv z 117), (1, iv x1), (2, iv x2)] [] g)) ?_
  intro fb9 ih tag x2 g r h
  refine ⟨fun h9 => ?_, fun h9 => ?_⟩
  · subst h9
    replace h := hT h rfl
    refine AW.iload_n 2 dX12_serves_2 rfl ?_
    refine AW.aloadr_n 0 dX12_serves_3 rfl ?_
    refine AW.getI af_X12_390_117 sr_117_34 dX12_serves_4 ?_
    refine AW.icmp_ge (tgt := 63) dX12_serves_7 (by decide) (fun c1 => ?_) (fun c1 => ?_)
    · replace h := hT h c1
      refine AW.iconst dX12_serves_63 ?_
      exact AW.iret1 rfl dX12_serves_64 h rfl
    · replace h := hF h c1
      refine AW.aloadr_n 0 dX12_serves_10 rfl ?_
      refine AW.getR af_X12_48_117 sr_117_13 dX12_serves_11 ?_
      refine AW.iload_n 2 dX12_serves_14 rfl ?_
      obtain ⟨k2, h⟩ := hK h
      refine AW.iald kc_128 sk_128 k2 dX12_serves_15 ?_
      refine AW.iload_n 1 dX12_serves_16 rfl ?_
      refine AW.icmp_ne (tgt := 57) dX12_serves_17 (by decide) (fun c3 => ?_) (fun c3 => ?_)
      · replace h := hF h c3
        exact (ih _ _ _ _ h).2 rfl
      · replace h := hT h c3
        refine AW.aloadr_n 0 dX12_serves_20 rfl ?_
        refine AW.getR af_X12_63_117 sr_117_18 dX12_serves_21 ?_
        refine AW.iload_n 2 dX12_serves_24 rfl ?_
        refine AW.iald kc_133 sk_133 k2 dX12_serves_25 ?_
        refine AW.aloadr_n 0 dX12_serves_26 rfl ?_
        refine AW.getR af_X12_60_117 sr_117_17 dX12_serves_27 ?_
        refine AW.iload_n 2 dX12_serves_30 rfl ?_
        refine AW.iald kc_132 sk_132 k2 dX12_serves_31 ?_
        refine AW.icmp_eq (tgt := 55) dX12_serves_32 (by decide) (fun c4 => ?_) (fun c4 => ?_)
        · replace h := hT h c4
          refine AW.iload_n 2 dX12_serves_55 rfl ?_
          exact AW.iret1 rfl dX12_serves_56 h rfl
        · replace h := hF h c4
          refine AW.aloadr_n 0 dX12_serves_35 rfl ?_
          refine AW.aloadr_n 0 dX12_serves_36 rfl ?_
          refine AW.getR af_X12_60_117 sr_117_17 dX12_serves_37 ?_
          refine AW.iload_n 2 dX12_serves_40 rfl ?_
          refine AW.iald kc_132 sk_132 k2 dX12_serves_41 ?_
          refine AW.aloadr_n 0 dX12_serves_42 rfl ?_
          refine AW.getR af_X12_63_117 sr_117_18 dX12_serves_43 ?_
          refine AW.iload_n 2 dX12_serves_46 rfl ?_
          refine AW.iald kc_133 sk_133 k2 dX12_serves_47 ?_
          obtain ⟨r5, e6, h⟩ := hC h
          refine AW.callVi (As := [iv (g 132 (ix x2)), iv (g 133 (ix x2))]) (st := []) (M_comesTo_ok e6) cq_X12_397 cr_117_X12_comesTo (Nat.le_trans (by decide) hdd) rfl dX12_serves_48 rfl (Nat.le_of_ble_eq_true rfl) ?_
          refine AW.iconst dX12_serves_51 ?_
          refine AW.icmp_ne (tgt := 57) dX12_serves_52 (by decide) (fun c7 => ?_) (fun c7 => ?_)
          · replace h := hF h c7
            exact (ih _ _ _ _ h).2 rfl
          · replace h := hT h c7
            refine AW.iload_n 2 dX12_serves_55 rfl ?_
            exact AW.iret1 rfl dX12_serves_56 h rfl
  · subst h9
    replace h := hF h (by decide)
    replace h := hT h rfl
    refine AW.iinc (lv1 := [(2, iv (x2 + 1)), (0, rv z 117), (1, iv x1)]) 2 dX12_serves_57 rfl (by decide) rfl ?_
    refine AW.goto (tgt := 2) dX12_serves_60 (by decide) ?_
    refine AW.sub (lv1 := [(0, rv z 117), (1, iv x1), (2, iv (x2 + 1))]) [1, 2, 0] rfl ?_
    exact (ih _ _ _ _ h).1 rfl
theorem M_serves_ok {z : AZ} {x1 : Int} {g : AG} {r : Int × AG} (h : M_serves x1 g = some r) : AMf z yX12_serves cX12_serves 3 (some .int) 2 [rv z 117, iv x1] g r := by
  intro d hdd
  refine AM.of (by decide +kernel) (Nat.le_of_ble_eq_true rfl) ?_
  show AW z (RX12, cX12_serves, 3, (some .int)) d (QD (some .int) r) 0 [(0, rv z 117), (1, iv x1)] [] g
  unfold M_serves at h
  refine AW.iconst dX12_serves_0 ?_
  refine AW.istore_n (lv1 := [(2, iv 0), (0, rv z 117), (1, iv x1)]) dX12_serves_1 (by decide) rfl ?_
  refine AW.sub (lv1 := [(0, rv z 117), (1, iv x1), (2, iv 0)]) [1, 2, 0] rfl ?_
  exact (M_serves_b_ok hdd _ _ _ _ h).1 rfl
theorem M_locksLine_ok {z : AZ} {x1 : Int} {g : AG} {r : Int × AG} (h : M_locksLine x1 g = some r) : AMf z yX12_locksLine cX12_locksLine 2 (some .int) 3 [rv z 117, iv x1] g r := by
  intro d hdd
  refine AM.of (by decide +kernel) (Nat.le_of_ble_eq_true rfl) ?_
  show AW z (RX12, cX12_locksLine, 2, (some .int)) d (QD (some .int) r) 0 [(0, rv z 117), (1, iv x1)] [] g
  unfold M_locksLine at h
  refine AW.aloadr_n 0 dX12_locksLine_0 rfl ?_
  obtain ⟨r1, e2, h⟩ := hC h
  refine AW.callVv (As := []) (st := []) (M_forgets_ok e2) cq_X12_401 cr_117_X12_forgets (Nat.le_trans (by decide) hdd) rfl dX12_locksLine_1 rfl (Nat.le_of_ble_eq_true rfl) ?_
  refine AW.aloadr_n 0 dX12_locksLine_4 rfl ?_
  refine AW.getR af_X12_109_117 sr_117_33 dX12_locksLine_5 ?_
  refine AW.iconst dX12_locksLine_8 ?_
  refine AW.iload_n 1 dX12_locksLine_9 rfl ?_
  refine AW.bipush dX12_locksLine_10 (by decide) (by decide) ?_
  refine AW.irem dX12_locksLine_12 (by decide) ?_
  obtain ⟨g3, e4, h⟩ := hBe h
  refine AW.iast kc_148 sk_148 (by decide) dX12_locksLine_13 e4 ?_
  refine AW.aloadr_n 0 dX12_locksLine_14 rfl ?_
  refine AW.getR af_X12_109_117 sr_117_33 dX12_locksLine_15 ?_
  refine AW.iconst dX12_locksLine_18 ?_
  refine AW.iload_n 1 dX12_locksLine_19 rfl ?_
  refine AW.bipush dX12_locksLine_20 (by decide) (by decide) ?_
  refine AW.idiv dX12_locksLine_22 (by decide) ?_
  obtain ⟨g5, e6, h⟩ := hBe h
  refine AW.iast kc_148 sk_148 (by decide) dX12_locksLine_23 e6 ?_
  refine AW.aloadr_n 0 dX12_locksLine_24 rfl ?_
  refine AW.getR af_X12_109_117 sr_117_33 dX12_locksLine_25 ?_
  refine AW.iconst dX12_locksLine_28 ?_
  refine AW.aloadr_n 0 dX12_locksLine_29 rfl ?_
  refine AW.getI af_X12_44_117 sr_117_10 dX12_locksLine_30 ?_
  obtain ⟨g7, e8, h⟩ := hBe h
  refine AW.iast kc_148 sk_148 (by decide) dX12_locksLine_33 e8 ?_
  refine AW.aloadr_n 0 dX12_locksLine_34 rfl ?_
  refine AW.iconst dX12_locksLine_35 ?_
  obtain ⟨r9, e10, h⟩ := hC h
  refine AW.callVi (As := [iv 0]) (st := []) (M_serves_ok e10) cq_X12_404 cr_117_X12_serves (Nat.le_trans (by decide) hdd) rfl dX12_locksLine_36 rfl (Nat.le_of_ble_eq_true rfl) ?_
  exact AW.iret1 rfl dX12_locksLine_39 h rfl
theorem M_open_ok {z : AZ} {x1 : Int} {x2 : Int} {g : AG} {r : Int × AG} (h : M_open x1 x2 g = some r) : AMf z yX12_open cX12_open 4 (some .int) 4 [rv z 117, iv x1, iv x2] g r := by
  intro d hdd
  refine AM.of (by decide +kernel) (Nat.le_of_ble_eq_true rfl) ?_
  show AW z (RX12, cX12_open, 4, (some .int)) d (QD (some .int) r) 0 [(0, rv z 117), (1, iv x1), (2, iv x2)] [] g
  unfold M_open at h
  refine AW.iload_n 1 dX12_open_0 rfl ?_
  refine AW.iconst dX12_open_1 ?_
  refine AW.bipush dX12_open_2 (by decide) (by decide) ?_
  refine AW.callSi (As := [iv x1, iv 0, iv 13]) (st := []) M_isIn_ok cq_X12_3 st_X12_isIn (Nat.le_trans (by decide) hdd) rfl dX12_open_4 rfl (Nat.le_of_ble_eq_true rfl) ?_
  refine AW.if_eq (tgt := 19) dX12_open_7 (by decide) (fun c1 => ?_) (fun c1 => ?_)
  · replace h := hT h c1
    refine AW.iconst dX12_open_19 ?_
    exact AW.iret1 rfl dX12_open_20 h rfl
  · replace h := hF h c1
    refine AW.iload_n 2 dX12_open_10 rfl ?_
    refine AW.iconst dX12_open_11 ?_
    refine AW.iconst dX12_open_12 ?_
    refine AW.callSi (As := [iv x2, iv 0, iv 1]) (st := []) M_isIn_ok cq_X12_3 st_X12_isIn (Nat.le_trans (by decide) hdd) rfl dX12_open_13 rfl (Nat.le_of_ble_eq_true rfl) ?_
    refine AW.if_ne (tgt := 21) dX12_open_16 (by decide) (fun c2 => ?_) (fun c2 => ?_)
    · replace h := hF h c2
      refine AW.aloadr_n 0 dX12_open_21 rfl ?_
      refine AW.iload_n 1 dX12_open_22 rfl ?_
      obtain ⟨r3, e4, h⟩ := hC h
      refine AW.callVi (As := [iv x1]) (st := []) (M_locksLine_ok e4) cq_X12_407 cr_117_X12_locksLine (Nat.le_trans (by decide) hdd) rfl dX12_open_23 rfl (Nat.le_of_ble_eq_true rfl) ?_
      refine AW.istore_n (lv1 := [(3, iv r3.1), (0, rv z 117), (1, iv x1), (2, iv x2)]) dX12_open_26 (by decide) rfl ?_
      refine AW.iload_n 0 dX12_open_27 rfl ?_
      refine AW.iconst dX12_open_28 ?_
      obtain ⟨r12, e13, h⟩ := hC h
      refine AW.join (tgt := 64) (lv1 := []) (st1 := [iv r12.1]) (g1 := r12.2) ?_ (fun J29 => ?_)
      · exact AW.iret1 rfl dX12_open_64 h rfl
      replace h := e13
      refine AW.icmp_ne (tgt := 45) dX12_open_29 (by decide) (fun c5 => ?_) (fun c5 => ?_)
      · replace h := hF h c5
        refine AW.iload_n 3 dX12_open_45 rfl ?_
        refine AW.if_ne (tgt := 58) dX12_open_46 (by decide) (fun c6 => ?_) (fun c6 => ?_)
        · replace h := hF h c6
          refine AW.aloadr_n 1 dX12_open_58 rfl ?_
          refine AW.getR af_X12_54_117 sr_117_15 dX12_open_59 ?_
          refine AW.iload_n 0 dX12_open_62 rfl ?_
          obtain ⟨k7, h⟩ := hK h
          refine AW.iald kc_130 sk_130 k7 dX12_open_63 ?_
          refine AW.sub (lv1 := []) [] rfl ?_
          cases h
          exact J29
        · replace h := hT h c6
          refine AW.aloadr_n 1 dX12_open_49 rfl ?_
          refine AW.getR af_X12_51_117 sr_117_14 dX12_open_50 ?_
          refine AW.iload_n 0 dX12_open_53 rfl ?_
          obtain ⟨k8, h⟩ := hK h
          refine AW.iald kc_129 sk_129 k8 dX12_open_54 ?_
          refine AW.goto (tgt := 64) dX12_open_55 (by decide) ?_
          refine AW.sub (lv1 := []) [] rfl ?_
          cases h
          exact J29
      · replace h := hT h c5
        refine AW.iload_n 3 dX12_open_32 rfl ?_
        obtain ⟨t9, e10, h⟩ := hBe h
        refine AW.join (tgt := 64) (lv1 := [(3, iv r3.1), (0, rv z 117), (1, iv x1), (2, iv x2)]) (st1 := [iv t9]) (g1 := r3.2) ?_ (fun J33 => ?_)
        · refine AW.sub (lv1 := []) [] rfl ?_
          cases h
          exact J29
        refine AW.if_ne (tgt := 40) dX12_open_33 (by decide) (fun c11 => ?_) (fun c11 => ?_)
        · refine AW.bipush dX12_open_40 (by decide) (by decide) ?_
          refine AW.goto (tgt := 64) dX12_open_42 (by decide) ?_
          exact AW.val (e10.trans (if_neg c11)) J33
        · refine AW.iconst dX12_open_36 ?_
          refine AW.goto (tgt := 64) dX12_open_37 (by decide) ?_
          exact AW.val (e10.trans (if_pos c11)) J33
    · replace h := hT h c2
      refine AW.iconst dX12_open_19 ?_
      exact AW.iret1 rfl dX12_open_20 h rfl
theorem M_isBoat_ok {z : AZ} {x1 : Int} {g : AG} : AMf z yX12_isBoat cX12_isBoat 2 (some .boolean) 1 [rv z 117, iv x1] g ((M_isBoat x1 g), g) := by
  intro d hdd
  refine AM.of (by decide +kernel) (Nat.le_of_ble_eq_true rfl) ?_
  show AW z (RX12, cX12_isBoat, 2, (some .boolean)) d (QD (some .boolean) ((M_isBoat x1 g), g)) 0 [(0, rv z 117), (1, iv x1)] [] g
  refine AW.iload_n 1 dX12_isBoat_0 rfl ?_
  refine AW.iconst dX12_isBoat_1 ?_
  refine AW.aloadr_n 0 dX12_isBoat_2 rfl ?_
  refine AW.getI af_X12_235_117 sr_117_12 dX12_isBoat_3 ?_
  refine AW.iconst dX12_isBoat_6 ?_
  refine AW.isub dX12_isBoat_7 ?_
  refine AW.callSi (As := [iv x1, iv 0, iv ((g 117 12) - 1)]) (st := []) M_isIn_ok cq_X12_3 st_X12_isIn (Nat.le_trans (by decide) hdd) rfl dX12_isBoat_8 rfl (Nat.le_of_ble_eq_true rfl) ?_
  exact AW.zret rfl M_isIn_01 dX12_isBoat_11 ⟨congrArg (fun v => some (iv v)) (show M_isBoat x1 g = (M_isIn x1 0 ((g 117 12) - 1)) from rfl).symm, rfl⟩
theorem M_isTime_ok {z : AZ} {x0 : Int} {g : AG} : AMf z yX12_isTime cX12_isTime 1 (some .boolean) 1 [iv x0] g ((M_isTime x0), g) := by
  intro d hdd
  refine AM.of (by decide +kernel) (Nat.le_of_ble_eq_true rfl) ?_
  show AW z (RX12, cX12_isTime, 1, (some .boolean)) d (QD (some .boolean) ((M_isTime x0), g)) 0 [(0, iv x0)] [] g
  refine AW.iload_n 0 dX12_isTime_0 rfl ?_
  refine AW.iconst dX12_isTime_1 ?_
  refine AW.sipush dX12_isTime_2 (by decide) (by decide) ?_
  refine AW.callSi (As := [iv x0, iv 0, iv 20159]) (st := []) M_isIn_ok cq_X12_3 st_X12_isIn (Nat.le_trans (by decide) hdd) rfl dX12_isTime_5 rfl (Nat.le_of_ble_eq_true rfl) ?_
  exact AW.zret rfl M_isIn_01 dX12_isTime_8 ⟨congrArg (fun v => some (iv v)) (show M_isTime x0  = (M_isIn x0 0 20159) from rfl).symm, rfl⟩
