theorem M_hours_117_143_143_ok {z : AZ} {x2 : Int} {x4 : Int} {g : AG} {r : Int × AG} (h : M_hours_117_143_143 x2 x4 g = some r) : AMf z yX12_hours cX12_hours 5 (some .boolean) 9 [rv z 117, rv z 143, iv x2, rv z 143, iv x4] g r := by
  intro d hdd
  refine AM.of (by decide +kernel) (Nat.le_of_ble_eq_true rfl) ?_
  show AW z (RX12, cX12_hours, 5, (some .boolean)) d (QD (some .boolean) r) 0 [(0, rv z 117), (1, rv z 143), (2, iv x2), (3, rv z 143), (4, iv x4)] [] g
  unfold M_hours_117_143_143 at h
  refine AW.aloadr_n 1 (dcN_0 dcg_559 :) rfl ?_
  refine AW.iload_n 2 (dcN_1 dcg_559 :) rfl ?_
  refine AW.aloadr_n 0 (dcN_2 dcg_559 :) rfl ?_
  refine AW.getI af_X12_318_117 sr_117_41 (dcN_3 dcg_559 :) ?_
  obtain ⟨k1, h⟩ := hK h
  obtain ⟨g2, e3, h⟩ := hBe h
  refine AW.iast kc_143 sk_143 k1 (dcN_4 dcg_559 :) e3 ?_
  refine AW.aloadr_n 0 (dcN_5 dcg_559 :) rfl ?_
  refine AW.iconst (dcN_6 dcg_559 :) ?_
  refine AW.bipush (dcN_7 dcg_559 :) (by decide) (by decide) ?_
  obtain ⟨r4, e5, h⟩ := hC h
  refine AW.callVi (As := [iv 0, iv 24]) (st := []) (M_number_ok e5) cq_X12_349 cr_117_X12_number (Nat.le_trans (by decide) hdd) rfl (dcN_8 dcg_559 :) rfl (Nat.le_of_ble_eq_true rfl) ?_
  refine AW.if_ne (tgt := 19) (dcN_9 dcg_559 :) (by decide) (fun c6 => ?_) (fun c6 => ?_)
  · replace h := hF h c6
    refine AW.aloadr_n 3 (dcN_0 dcg_560 :) rfl ?_
    refine AW.iload 4 (dcN_1 dcg_560 :) rfl ?_
    refine AW.aloadr_n 0 (dcN_2 dcg_560 :) rfl ?_
    refine AW.getI af_X12_318_117 sr_117_41 (dcN_3 dcg_560 :) ?_
    obtain ⟨k7, h⟩ := hK h
    obtain ⟨g8, e9, h⟩ := hBe h
    refine AW.iast kc_143 sk_143 k7 (dcN_4 dcg_560 :) e9 ?_
    refine AW.aloadr_n 0 (dcN_5 dcg_560 :) rfl ?_
    refine AW.iconst (dcN_6 dcg_560 :) ?_
    refine AW.bipush (dcN_7 dcg_560 :) (by decide) (by decide) ?_
    obtain ⟨r10, e11, h⟩ := hC h
    refine AW.callVi (As := [iv 0, iv 24]) (st := []) (M_number_ok e11) cq_X12_349 cr_117_X12_number (Nat.le_trans (by decide) hdd) rfl (dcN_8 dcg_560 :) rfl (Nat.le_of_ble_eq_true rfl) ?_
    obtain ⟨k12, h⟩ := hK h
    exact AW.zret1 rfl k12 (dcN_9 dcg_560 :) h rfl
  · replace h := hT h c6
    refine AW.iconst (dcN_10 dcg_559 :) ?_
    exact AW.zret1 rfl (Or.inl rfl) (dcN_11 dcg_559 :) h rfl
set_option synthInstance.maxHeartbeats 2000000 in
theorem M_aTunnel_b_ok {z : AZ} {d : Nat} (hdd : 10 ≤ d) {x1 : Int} {g : AG} : ∀ (r : Int × AG), M_aTunnel_b x1 g = some r → AW z (RX12, cX12_aTunnel, 3, (some .boolean)) d (QD (some .boolean) r) 41 [(0, rv z 117), (1, iv x1)] [] g := by
  intro r h
  unfold M_aTunnel_b at h
  refine AW.iconst (dcN_5 dcg_562 :) ?_
  refine AW.iload_n 1 (dcN_6 dcg_562 :) rfl ?_
  refine AW.imul (dcN_7 dcg_562 :) ?_
  refine AW.aloadr_n 0 (dcN_8 dcg_562 :) rfl ?_
  refine AW.getI af_X12_306_117 sr_117_39 (dcN_9 dcg_562 :) ?_
  refine AW.bipush (dcN_10 dcg_562 :) (by decide) (by decide) ?_
  obtain ⟨t1, e2, h⟩ := hBe h
  refine AW.join (tgt := 58) (lv1 := [(0, rv z 117), (1, iv x1)]) (st1 := [iv t1, iv (2 * x1)]) (g1 := g) ?_ (fun J50 => ?_)
  · refine AW.iadd (dcN_15 dcg_562 :) ?_
    refine AW.istore_n (lv1 := [(2, iv ((2 * x1) + t1)), (0, rv z 117), (1, iv x1)]) (dcN_16 dcg_562 :) (by decide) rfl ?_
    refine AW.aloadr_n 1 (dcN_17 dcg_562 :) rfl ?_
    refine AW.getR af_X12_100_117 sr_117_30 (dcN_18 dcg_562 :) ?_
    refine AW.iload_n 0 (dcN_0 dcg_563 :) rfl ?_
    obtain ⟨k3, h⟩ := hK h
    refine AW.zald kc_145 sk_145 k3 (dcN_1 dcg_563 :) ?_
    refine AW.if_eq (tgt := 75) (dcN_2 dcg_563 :) (by decide) (fun c4 => ?_) (fun c4 => ?_)
    · replace h := hT h c4
      refine AW.aloadr_n 1 (dcN_7 dcg_563 :) rfl ?_
      refine AW.getR af_X12_100_117 sr_117_30 (dcN_8 dcg_563 :) ?_
      refine AW.iload_n 0 (dcN_9 dcg_563 :) rfl ?_
      refine AW.iconst (dcN_10 dcg_563 :) ?_
      obtain ⟨g5, e6, h⟩ := hBe h
      refine AW.zast kc_145 sk_145 k3 (Or.inr rfl) (dcN_11 dcg_563 :) e6 ?_
      refine AW.aloadr_n 1 (dcN_12 dcg_563 :) rfl ?_
      obtain ⟨r7, e8, h⟩ := hC h
      refine AW.callVv (As := []) (st := []) (M_next0_ok e8) cq_X12_330 cr_117_X12_next0 (Nat.le_trans (by decide) hdd) rfl (dcN_13 dcg_563 :) rfl (Nat.le_of_ble_eq_true rfl) ?_
      refine AW.aloadr_n 1 (dcN_14 dcg_563 :) rfl ?_
      refine AW.aloadr_n 1 (dcN_15 dcg_563 :) rfl ?_
      refine AW.getR af_X12_93_117 sr_117_28 (dcN_16 dcg_563 :) ?_
      refine AW.iconst (dcN_17 dcg_563 :) ?_
      refine AW.iload_n 0 (dcN_18 dcg_563 :) rfl ?_
      refine AW.imul (dcN_19 dcg_563 :) ?_
      refine AW.aloadr_n 1 (dcN_20 dcg_563 :) rfl ?_
      refine AW.getR af_X12_93_117 sr_117_28 (dcN_21 dcg_563 :) ?_
      refine AW.iconst (dcN_0 dcg_564 :) ?_
      refine AW.iload_n 0 (dcN_1 dcg_564 :) rfl ?_
      refine AW.imul (dcN_2 dcg_564 :) ?_
      refine AW.iconst (dcN_3 dcg_564 :) ?_
      refine AW.iadd (dcN_4 dcg_564 :) ?_
      obtain ⟨r9, e10, h⟩ := hC h
      refine AW.callVi (As := [rv z 143, iv (2 * ((2 * x1) + t1)), rv z 143, iv ((2 * ((2 * x1) + t1)) + 1)]) (st := []) (M_hours_117_143_143_ok e10) cq_X12_371 cr_117_X12_hours (Nat.le_trans (by decide) hdd) rfl (dcN_5 dcg_564 :) rfl (Nat.le_of_ble_eq_true rfl) ?_
      obtain ⟨k11, h⟩ := hK h
      exact AW.zret1 rfl k11 (dcN_6 dcg_564 :) h rfl
    · replace h := hF h c4
      refine AW.aloadr_n 1 (dcN_3 dcg_563 :) rfl ?_
      refine AW.iconst (dcN_4 dcg_563 :) ?_
      obtain ⟨r12, e13, h⟩ := hC h
      refine AW.callVi (As := [iv 3]) (st := []) (M_bad_ok e13) cq_X12_327 cr_117_X12_bad (Nat.le_trans (by decide) hdd) rfl (dcN_5 dcg_563 :) rfl (Nat.le_of_ble_eq_true rfl) ?_
      obtain ⟨k14, h⟩ := hK h
      exact AW.zret1 rfl k14 (dcN_6 dcg_563 :) h rfl
  refine AW.icmp_ne (tgt := 57) (dcN_11 dcg_562 :) (by decide) (fun c15 => ?_) (fun c15 => ?_)
  · refine AW.iconst (dcN_14 dcg_562 :) ?_
    exact AW.val (e2.trans (if_neg c15)) J50
  · refine AW.iconst (dcN_12 dcg_562 :) ?_
    refine AW.goto (tgt := 58) (dcN_13 dcg_562 :) (by decide) ?_
    exact AW.val (e2.trans (if_pos c15)) J50
theorem M_aTunnel_ok {z : AZ} {g : AG} {r : Int × AG} (h : M_aTunnel g = some r) : AMf z yX12_aTunnel cX12_aTunnel 3 (some .boolean) 10 [rv z 117] g r := by
  intro d hdd
  refine AM.of (by decide +kernel) (Nat.le_of_ble_eq_true rfl) ?_
  show AW z (RX12, cX12_aTunnel, 3, (some .boolean)) d (QD (some .boolean) r) 0 [(0, rv z 117)] [] g
  unfold M_aTunnel at h
  refine AW.aloadr_n 0 (dcN_0 dcg_561 :) rfl ?_
  refine AW.getI af_X12_318_117 sr_117_41 (dcN_1 dcg_561 :) ?_
  refine AW.istore_n (lv1 := [(1, iv (g 117 41)), (0, rv z 117)]) (dcN_2 dcg_561 :) (by decide) rfl ?_
  refine AW.aloadr_n 1 (dcN_3 dcg_561 :) rfl ?_
  refine AW.iconst (dcN_4 dcg_561 :) ?_
  refine AW.bipush (dcN_5 dcg_561 :) (by decide) (by decide) ?_
  obtain ⟨r1, e2, h⟩ := hC h
  refine AW.callVi (As := [iv 0, iv 14]) (st := []) (M_number_ok e2) cq_X12_349 cr_117_X12_number (Nat.le_trans (by decide) hdd) rfl (dcN_6 dcg_561 :) rfl (Nat.le_of_ble_eq_true rfl) ?_
  refine AW.if_ne (tgt := 17) (dcN_7 dcg_561 :) (by decide) (fun c3 => ?_) (fun c3 => ?_)
  · replace h := hF h c3
    refine AW.aloadr_n 1 (dcN_10 dcg_561 :) rfl ?_
    refine AW.getI af_X12_306_117 sr_117_39 (dcN_11 dcg_561 :) ?_
    refine AW.bipush (dcN_12 dcg_561 :) (by decide) (by decide) ?_
    refine AW.icmp_eq (tgt := 41) (dcN_13 dcg_561 :) (by decide) (fun c4 => ?_) (fun c4 => ?_)
    · replace h := hT h c4
      refine AW.sub (lv1 := [(0, rv z 117), (1, iv (g 117 41))]) [1, 0] rfl ?_
      exact M_aTunnel_b_ok hdd _ h
    · replace h := hF h c4
      refine AW.aloadr_n 1 (dcN_14 dcg_561 :) rfl ?_
      refine AW.getI af_X12_306_117 sr_117_39 (dcN_15 dcg_561 :) ?_
      refine AW.bipush (dcN_16 dcg_561 :) (by decide) (by decide) ?_
      refine AW.icmp_eq (tgt := 41) (dcN_0 dcg_562 :) (by decide) (fun c5 => ?_) (fun c5 => ?_)
      · replace h := hT h c5
        refine AW.sub (lv1 := [(0, rv z 117), (1, iv (g 117 41))]) [1, 0] rfl ?_
        exact M_aTunnel_b_ok hdd _ h
      · replace h := hF h c5
        refine AW.aloadr_n 1 (dcN_1 dcg_562 :) rfl ?_
        refine AW.iconst (dcN_2 dcg_562 :) ?_
        obtain ⟨r6, e7, h⟩ := hC h
        refine AW.callVi (As := [iv 1]) (st := []) (M_bad_ok e7) cq_X12_327 cr_117_X12_bad (Nat.le_trans (by decide) hdd) rfl (dcN_3 dcg_562 :) rfl (Nat.le_of_ble_eq_true rfl) ?_
        obtain ⟨k8, h⟩ := hK h
        exact AW.zret1 rfl k8 (dcN_4 dcg_562 :) h rfl
  · replace h := hT h c3
    refine AW.iconst (dcN_8 dcg_561 :) ?_
    exact AW.zret1 rfl (Or.inl rfl) (dcN_9 dcg_561 :) h rfl
theorem M_need_ok {z : AZ} {x1 : Int} {g : AG} {r : Int × AG} (h : M_need x1 g = some r) : AMf z yX12_need cX12_need 2 (some .boolean) 8 [rv z 117, iv x1] g r := by
  intro d hdd
  refine AM.of (by decide +kernel) (Nat.le_of_ble_eq_true rfl) ?_
  show AW z (RX12, cX12_need, 2, (some .boolean)) d (QD (some .boolean) r) 0 [(0, rv z 117), (1, iv x1)] [] g
  unfold M_need at h
  refine AW.aloadr_n 0 (dcN_0 dcg_533 :) rfl ?_
  refine AW.getI af_X12_306_117 sr_117_39 (dcN_1 dcg_533 :) ?_
  refine AW.iload_n 1 (dcN_2 dcg_533 :) rfl ?_
  refine AW.icmp_eq (tgt := 14) (dcN_3 dcg_533 :) (by decide) (fun c1 => ?_) (fun c1 => ?_)
  · replace h := hT h c1
    refine AW.aloadr_n 0 (dcN_8 dcg_533 :) rfl ?_
    obtain ⟨r2, e3, h⟩ := hC h
    refine AW.callVv (As := []) (st := []) (M_next0_ok e3) cq_X12_330 cr_117_X12_next0 (Nat.le_trans (by decide) hdd) rfl (dcN_9 dcg_533 :) rfl (Nat.le_of_ble_eq_true rfl) ?_
    refine AW.iconst (dcN_10 dcg_533 :) ?_
    exact AW.zret1 rfl (Or.inr rfl) (dcN_11 dcg_533 :) h rfl
  · replace h := hF h c1
    refine AW.aloadr_n 0 (dcN_4 dcg_533 :) rfl ?_
    refine AW.iconst (dcN_5 dcg_533 :) ?_
    obtain ⟨r4, e5, h⟩ := hC h
    refine AW.callVi (As := [iv 1]) (st := []) (M_bad_ok e5) cq_X12_327 cr_117_X12_bad (Nat.le_trans (by decide) hdd) rfl (dcN_6 dcg_533 :) rfl (Nat.le_of_ble_eq_true rfl) ?_
    obtain ⟨k6, h⟩ := hK h
    exact AW.zret1 rfl k6 (dcN_7 dcg_533 :) h rfl
set_option synthInstance.maxHeartbeats 2000000 in
theorem M_every_b_ok {z : AZ} {rec : AG → Option (Int × AG)} {Dr : Nat} (hC9 : 8 ≤ Dr) (hrec : ∀ (g : AG) (r : Int × AG), rec g = some r → AMf z yX12_one cX12_one 2 (some .boolean) Dr [rv z 117] g r) {d : Nat} (hdd : Dr + 1 ≤ d) : ∀ (g : AG) (r : Int × AG), M_every_b rec g = some r → AW z (RX12, cX12_every, 1, (some .boolean)) d (QD (some .boolean) r) 9 [(0, rv z 117)] [] g := by
  refine M_every_b.partial_correctness rec (fun g r => AW z (RX12, cX12_every, 1, (some .boolean)) d (QD (some .boolean) r) 9 [(0, rv z 117)] [] g) ?_
  intro fb9 ih g r h
  refine AW.aloadr_n 0 (dcN_5 dcg_551 :) rfl ?_
  refine AW.getI af_X12_306_117 sr_117_39 (dcN_6 dcg_551 :) ?_
  refine AW.iconst (dcN_7 dcg_551 :) ?_
  refine AW.icmp_ne (tgt := 40) (dcN_8 dcg_551 :) (by decide) (fun c1 => ?_) (fun c1 => ?_)
  · replace h := hF h c1
    refine AW.iconst (dcN_9 dcg_552 :) ?_
    exact AW.zret1 rfl (Or.inr rfl) (dcN_10 dcg_552 :) h rfl
  · replace h := hT h c1
    refine AW.aloadr_n 0 (dcN_9 dcg_551 :) rfl ?_
    obtain ⟨r2, e3, h⟩ := hC h
    refine AW.callVv (As := []) (st := []) (M_next0_ok e3) cq_X12_330 cr_117_X12_next0 (by omega) rfl (dcN_10 dcg_551 :) rfl (Nat.le_of_ble_eq_true rfl) ?_
    refine AW.aloadr_n 0 (dcN_11 dcg_551 :) rfl ?_
    obtain ⟨r4, e5, h⟩ := hC h
    refine AW.callVi (As := []) (st := []) (hrec _ _ e5) cq_X12_356 cr_117_X12_one (by omega) rfl (dcN_0 dcg_552 :) rfl (Nat.le_of_ble_eq_true rfl) ?_
    refine AW.if_ne (tgt := 30) (dcN_1 dcg_552 :) (by decide) (fun c6 => ?_) (fun c6 => ?_)
    · replace h := hF h c6
      refine AW.aloadr_n 0 (dcN_4 dcg_552 :) rfl ?_
      refine AW.bipush (dcN_5 dcg_552 :) (by decide) (by decide) ?_
      refine AW.iconst (dcN_6 dcg_552 :) ?_
      obtain ⟨r7, e8, h⟩ := hC h
      refine AW.callVv (As := [iv 18, iv 0]) (st := []) (M_lay_ok e8) cq_X12_342 cr_117_X12_lay (by omega) rfl (dcN_7 dcg_552 :) rfl (Nat.le_of_ble_eq_true rfl) ?_
      refine AW.goto (tgt := 9) (dcN_8 dcg_552 :) (by decide) ?_
      exact ih _ _ h
    · replace h := hT h c6
      refine AW.iconst (dcN_2 dcg_552 :) ?_
      exact AW.zret1 rfl (Or.inl rfl) (dcN_3 dcg_552 :) h rfl
theorem M_every_ok {z : AZ} {rec : AG → Option (Int × AG)} {Dr : Nat} (hC9 : 8 ≤ Dr) (hrec : ∀ (g : AG) (r : Int × AG), rec g = some r → AMf z yX12_one cX12_one 2 (some .boolean) Dr [rv z 117] g r) {g : AG} {r : Int × AG} (h : M_every rec g = some r) : AMf z yX12_every cX12_every 1 (some .boolean) (Dr + 1) [rv z 117] g r := by
  intro d hdd
  refine AM.of (by decide +kernel) (Nat.le_of_ble_eq_true rfl) ?_
  show AW z (RX12, cX12_every, 1, (some .boolean)) d (QD (some .boolean) r) 0 [(0, rv z 117)] [] g
  unfold M_every at h
  refine AW.aloadr_n 0 (dcN_0 dcg_551 :) rfl ?_
  obtain ⟨r1, e2, h⟩ := hC h
  refine AW.callVi (As := []) (st := []) (hrec _ _ e2) cq_X12_356 cr_117_X12_one (by omega) rfl (dcN_1 dcg_551 :) rfl (Nat.le_of_ble_eq_true rfl) ?_
  refine AW.if_ne (tgt := 9) (dcN_2 dcg_551 :) (by decide) (fun c3 => ?_) (fun c3 => ?_)
  · replace h := hF h c3
    exact M_every_b_ok hC9 hrec hdd _ _ h
  · replace h := hT h c3
    refine AW.iconst (dcN_3 dcg_551 :) ?_
    exact AW.zret1 rfl (Or.inl rfl) (dcN_4 dcg_551 :) h rfl
set_option synthInstance.maxHeartbeats 2000000 in
theorem M_any_b_ok {z : AZ} {rec : AG → Option (Int × AG)} {Dr : Nat} (hC9 : 8 ≤ Dr) (hrec : ∀ (g : AG) (r : Int × AG), rec g = some r → AMf z yX12_one cX12_one 2 (some .boolean) Dr [rv z 117] g r) {d : Nat} (hdd : Dr + 2 ≤ d) : ∀ (g : AG) (r : Int × AG), M_any_b rec g = some r → AW z (RX12, cX12_any, 1, (some .boolean)) d (QD (some .boolean) r) 9 [(0, rv z 117)] [] g := by
  refine M_any_b.partial_correctness rec (fun g r => AW z (RX12, cX12_any, 1, (some .boolean)) d (QD (some .boolean) r) 9 [(0, rv z 117)] [] g) ?_
  intro fb9 ih g r h
  refine AW.aloadr_n 0 (dcN_5 dcg_549 :) rfl ?_
  refine AW.getI af_X12_306_117 sr_117_39 (dcN_6 dcg_549 :) ?_
  refine AW.iconst (dcN_7 dcg_549 :) ?_
  refine AW.icmp_ne (tgt := 40) (dcN_8 dcg_549 :) (by decide) (fun c1 => ?_) (fun c1 => ?_)
  · replace h := hF h c1
    refine AW.iconst (dcN_9 dcg_550 :) ?_
    exact AW.zret1 rfl (Or.inr rfl) (dcN_10 dcg_550 :) h rfl
  · replace h := hT h c1
    refine AW.aloadr_n 0 (dcN_9 dcg_549 :) rfl ?_
    obtain ⟨r2, e3, h⟩ := hC h
    refine AW.callVv (As := []) (st := []) (M_next0_ok e3) cq_X12_330 cr_117_X12_next0 (by omega) rfl (dcN_10 dcg_549 :) rfl (Nat.le_of_ble_eq_true rfl) ?_
    refine AW.aloadr_n 0 (dcN_11 dcg_549 :) rfl ?_
    obtain ⟨r4, e5, h⟩ := hC h
    refine AW.callVi (As := []) (st := []) (M_every_ok (Nat.le_trans (by decide) hC9) hrec e5) cq_X12_353 cr_117_X12_every (by omega) rfl (dcN_0 dcg_550 :) rfl (Nat.le_of_ble_eq_true rfl) ?_
    refine AW.if_ne (tgt := 30) (dcN_1 dcg_550 :) (by decide) (fun c6 => ?_) (fun c6 => ?_)
    · replace h := hF h c6
      refine AW.aloadr_n 0 (dcN_4 dcg_550 :) rfl ?_
      refine AW.bipush (dcN_5 dcg_550 :) (by decide) (by decide) ?_
      refine AW.iconst (dcN_6 dcg_550 :) ?_
      obtain ⟨r7, e8, h⟩ := hC h
      refine AW.callVv (As := [iv 19, iv 0]) (st := []) (M_lay_ok e8) cq_X12_342 cr_117_X12_lay (by omega) rfl (dcN_7 dcg_550 :) rfl (Nat.le_of_ble_eq_true rfl) ?_
      refine AW.goto (tgt := 9) (dcN_8 dcg_550 :) (by decide) ?_
      exact ih _ _ h
    · replace h := hT h c6
      refine AW.iconst (dcN_2 dcg_550 :) ?_
      exact AW.zret1 rfl (Or.inl rfl) (dcN_3 dcg_550 :) h rfl
theorem M_any_ok {z : AZ} {rec : AG → Option (Int × AG)} {Dr : Nat} (hC9 : 8 ≤ Dr) (hrec : ∀ (g : AG) (r : Int × AG), rec g = some r → AMf z yX12_one cX12_one 2 (some .boolean) Dr [rv z 117] g r) {g : AG} {r : Int × AG} (h : M_any rec g = some r) : AMf z yX12_any cX12_any 1 (some .boolean) (Dr + 2) [rv z 117] g r := by
  intro d hdd
  refine AM.of (by decide +kernel) (Nat.le_of_ble_eq_true rfl) ?_
  show AW z (RX12, cX12_any, 1, (some .boolean)) d (QD (some .boolean) r) 0 [(0, rv z 117)] [] g
  unfold M_any at h
  refine AW.aloadr_n 0 (dcN_0 dcg_549 :) rfl ?_
  obtain ⟨r1, e2, h⟩ := hC h
  refine AW.callVi (As := []) (st := []) (M_every_ok (Nat.le_trans (by decide) hC9) hrec e2) cq_X12_353 cr_117_X12_every (by omega) rfl (dcN_1 dcg_549 :) rfl (Nat.le_of_ble_eq_true rfl) ?_
  refine AW.if_ne (tgt := 9) (dcN_2 dcg_549 :) (by decide) (fun c3 => ?_) (fun c3 => ?_)
  · replace h := hF h c3
    exact M_any_b_ok hC9 hrec hdd _ _ h
  · replace h := hT h c3
    refine AW.iconst (dcN_3 dcg_549 :) ?_
    exact AW.zret1 rfl (Or.inl rfl) (dcN_4 dcg_549 :) h rfl
theorem M_opens_ok {z : AZ} {g : AG} {r : Int × AG} (h : M_opens g = some r) : AMf z yX12_opens cX12_opens 1 (some .boolean) 8 [rv z 117] g r := by
  intro d hdd
  refine AM.of (by decide +kernel) (Nat.le_of_ble_eq_true rfl) ?_
  show AW z (RX12, cX12_opens, 1, (some .boolean)) d (QD (some .boolean) r) 0 [(0, rv z 117)] [] g
  unfold M_opens at h
  refine AW.aloadr_n 0 (dcN_0 dcg_538 :) rfl ?_
  refine AW.getI af_X12_336_117 sr_117_45 (dcN_1 dcg_538 :) ?_
  refine AW.bipush (dcN_2 dcg_538 :) (by decide) (by decide) ?_
  refine AW.icmp_ne (tgt := 15) (dcN_3 dcg_538 :) (by decide) (fun c1 => ?_) (fun c1 => ?_)
  · replace h := hF h c1
    refine AW.aloadr_n 0 (dcN_8 dcg_538 :) rfl ?_
    refine AW.duprr (dcN_9 dcg_538 :) ?_
    refine AW.getI af_X12_336_117 sr_117_45 (dcN_10 dcg_538 :) ?_
    refine AW.iconst (dcN_11 dcg_538 :) ?_
    refine AW.iadd (dcN_0 dcg_539 :) ?_
    obtain ⟨g2, e3, h⟩ := hBe h
    refine AW.putI ap_X12_336_117 sr_117_45 (dcN_1 dcg_539 :) e3 ?_
    refine AW.aloadr_n 0 (dcN_2 dcg_539 :) rfl ?_
    obtain ⟨r4, e5, h⟩ := hC h
    refine AW.callVv (As := []) (st := []) (M_next0_ok e5) cq_X12_330 cr_117_X12_next0 (Nat.le_trans (by decide) hdd) rfl (dcN_3 dcg_539 :) rfl (Nat.le_of_ble_eq_true rfl) ?_
    refine AW.iconst (dcN_4 dcg_539 :) ?_
    exact AW.zret1 rfl (Or.inr rfl) (dcN_5 dcg_539 :) h rfl
  · replace h := hT h c1
    refine AW.aloadr_n 0 (dcN_4 dcg_538 :) rfl ?_
    refine AW.iconst (dcN_5 dcg_538 :) ?_
    obtain ⟨r6, e7, h⟩ := hC h
    refine AW.callVi (As := [iv 3]) (st := []) (M_bad_ok e7) cq_X12_327 cr_117_X12_bad (Nat.le_trans (by decide) hdd) rfl (dcN_6 dcg_538 :) rfl (Nat.le_of_ble_eq_true rfl) ?_
    obtain ⟨k8, h⟩ := hK h
    exact AW.zret1 rfl k8 (dcN_7 dcg_538 :) h rfl
theorem M_one_s_ok {z : AZ} {rec : AG → Option (Int × AG)} {Dr : Nat} (hC9 : 11 ≤ Dr) (hrec : ∀ (g : AG) (r : Int × AG), rec g = some r → AMf z yX12_one cX12_one 2 (some .boolean) Dr [rv z 117] g r) {g : AG} {r : Int × AG} (h : M_one_s rec g = some r) : AMf z yX12_one cX12_one 2 (some .boolean) (Dr + 3) [rv z 117] g r := by
  intro d hdd
  refine AM.of (by decide +kernel) (Nat.le_of_ble_eq_true rfl) ?_
  show AW z (RX12, cX12_one, 2, (some .boolean)) d (QD (some .boolean) r) 0 [(0, rv z 117)] [] g
  unfold M_one_s at h
  refine AW.aloadr_n 0 (dcN_0 dcg_553 :) rfl ?_
  refine AW.getI af_X12_306_117 sr_117_39 (dcN_1 dcg_553 :) ?_
  refine AW.bipush (dcN_2 dcg_553 :) (by decide) (by decide) ?_
  refine AW.icmp_ne (tgt := 44) (dcN_3 dcg_553 :) (by decide) (fun c1 => ?_) (fun c1 => ?_)
  · replace h := hF h c1
    refine AW.aloadr_n 0 (dcN_7 dcg_554 :) rfl ?_
    refine AW.getI af_X12_306_117 sr_117_39 (dcN_8 dcg_554 :) ?_
    refine AW.sipush (dcN_9 dcg_554 :) (by decide) (by decide) ?_
    refine AW.icmp_ne (tgt := 92) (dcN_10 dcg_554 :) (by decide) (fun c2 => ?_) (fun c2 => ?_)
    · replace h := hF h c2
      refine AW.aloadr_n 0 (dcN_15 dcg_555 :) rfl ?_
      obtain ⟨r3, e4, h⟩ := hC h
      refine AW.callVi (As := []) (st := []) (M_sumUp_ok e4) cq_X12_368 cr_117_X12_sumUp (by omega) rfl (dcN_16 dcg_555 :) rfl (Nat.le_of_ble_eq_true rfl) ?_
      refine AW.if_ne (tgt := 101) (dcN_0 dcg_556 :) (by decide) (fun c5 => ?_) (fun c5 => ?_)
      · replace h := hF h c5
        refine AW.aloadr_n 0 (dcN_3 dcg_556 :) rfl ?_
        refine AW.getI af_X12_306_117 sr_117_39 (dcN_4 dcg_556 :) ?_
        refine AW.sipush (dcN_5 dcg_556 :) (by decide) (by decide) ?_
        obtain ⟨t6, e7, h⟩ := hBe h
        refine AW.join (tgt := 147) (lv1 := [(0, rv z 117)]) (st1 := [iv t6]) (g1 := r3.2) ?_ (fun J108 => ?_)
        · refine AW.istore_n (lv1 := [(1, iv t6), (0, rv z 117)]) (dcN_8 dcg_557 :) (by decide) rfl ?_
          refine AW.iload_n 0 (dcN_9 dcg_557 :) rfl ?_
          refine AW.iconst (dcN_10 dcg_557 :) ?_
          refine AW.icmp_ne (tgt := 159) (dcN_11 dcg_557 :) (by decide) (fun c8 => ?_) (fun c8 => ?_)
          · replace h := hF h c8
            refine AW.aloadr_n 1 (dcN_16 dcg_557 :) rfl ?_
            obtain ⟨r9, e10, h⟩ := hC h
            refine AW.callVv (As := []) (st := []) (M_next0_ok e10) cq_X12_330 cr_117_X12_next0 (by omega) rfl (dcN_0 dcg_558 :) rfl (Nat.le_of_ble_eq_true rfl) ?_
            refine AW.aloadr_n 1 (dcN_1 dcg_558 :) rfl ?_
            obtain ⟨r11, e12, h⟩ := hC h
            refine AW.callVi (As := []) (st := []) (M_sumUp_ok e12) cq_X12_368 cr_117_X12_sumUp (by omega) rfl (dcN_2 dcg_558 :) rfl (Nat.le_of_ble_eq_true rfl) ?_
            refine AW.if_ne (tgt := 172) (dcN_3 dcg_558 :) (by decide) (fun c13 => ?_) (fun c13 => ?_)
            · replace h := hF h c13
              refine AW.aloadr_n 1 (dcN_6 dcg_558 :) rfl ?_
              refine AW.iload_n 0 (dcN_7 dcg_558 :) rfl ?_
              refine AW.iconst (dcN_8 dcg_558 :) ?_
              obtain ⟨r14, e15, h⟩ := hC h
              refine AW.callVv (As := [iv t6, iv 0]) (st := []) (M_lay_ok e15) cq_X12_342 cr_117_X12_lay (by omega) rfl (dcN_9 dcg_558 :) rfl (Nat.le_of_ble_eq_true rfl) ?_
              refine AW.iconst (dcN_10 dcg_558 :) ?_
              exact AW.zret1 rfl (Or.inr rfl) (dcN_11 dcg_558 :) h rfl
            · replace h := hT h c13
              refine AW.iconst (dcN_4 dcg_558 :) ?_
              exact AW.zret1 rfl (Or.inl rfl) (dcN_5 dcg_558 :) h rfl
          · replace h := hT h c8
            refine AW.aloadr_n 1 (dcN_12 dcg_557 :) rfl ?_
            refine AW.iconst (dcN_13 dcg_557 :) ?_
            obtain ⟨r16, e17, h⟩ := hC h
            refine AW.callVi (As := [iv 1]) (st := []) (M_bad_ok e17) cq_X12_327 cr_117_X12_bad (by omega) rfl (dcN_14 dcg_557 :) rfl (Nat.le_of_ble_eq_true rfl) ?_
            obtain ⟨k18, h⟩ := hK h
            exact AW.zret1 rfl k18 (dcN_15 dcg_557 :) h rfl
        refine AW.icmp_ne (tgt := 116) (dcN_6 dcg_556 :) (by decide) (fun c19 => ?_) (fun c19 => ?_)
        · refine AW.aloadr_n 0 (dcN_9 dcg_556 :) rfl ?_
          refine AW.getI af_X12_306_117 sr_117_39 (dcN_10 dcg_556 :) ?_
          refine AW.sipush (dcN_11 dcg_556 :) (by decide) (by decide) ?_
          refine AW.icmp_ne (tgt := 131) (dcN_12 dcg_556 :) (by decide) (fun c20 => ?_) (fun c20 => ?_)
          · refine AW.aloadr_n 0 (dcN_1 dcg_557 :) rfl ?_
            refine AW.getI af_X12_306_117 sr_117_39 (dcN_2 dcg_557 :) ?_
            refine AW.sipush (dcN_3 dcg_557 :) (by decide) (by decide) ?_
            refine AW.icmp_ne (tgt := 146) (dcN_4 dcg_557 :) (by decide) (fun c21 => ?_) (fun c21 => ?_)
            · refine AW.iconst (dcN_7 dcg_557 :) ?_
              exact AW.val (e7.trans ((if_neg c19).trans ((if_neg c20).trans (if_neg c21)))) J108
            · refine AW.bipush (dcN_5 dcg_557 :) (by decide) (by decide) ?_
              refine AW.goto (tgt := 147) (dcN_6 dcg_557 :) (by decide) ?_
              exact AW.val (e7.trans ((if_neg c19).trans ((if_neg c20).trans (if_pos c21)))) J108
          · refine AW.bipush (dcN_13 dcg_556 :) (by decide) (by decide) ?_
            refine AW.goto (tgt := 147) (dcN_0 dcg_557 :) (by decide) ?_
            exact AW.val (e7.trans ((if_neg c19).trans (if_pos c20))) J108
        · refine AW.bipush (dcN_7 dcg_556 :) (by decide) (by decide) ?_
          refine AW.goto (tgt := 147) (dcN_8 dcg_556 :) (by decide) ?_
          exact AW.val (e7.trans (if_pos c19)) J108
      · replace h := hT h c5
        refine AW.iconst (dcN_1 dcg_556 :) ?_
        exact AW.zret1 rfl (Or.inl rfl) (dcN_2 dcg_556 :) h rfl
    · replace h := hT h c2
      refine AW.aloadr_n 0 (dcN_11 dcg_554 :) rfl ?_
      obtain ⟨r22, e23, h⟩ := hC h
      refine AW.callVi (As := []) (st := []) (M_opens_ok e23) cq_X12_359 cr_117_X12_opens (by omega) rfl (dcN_12 dcg_554 :) rfl (Nat.le_of_ble_eq_true rfl) ?_
      refine AW.if_eq (tgt := 78) (dcN_13 dcg_554 :) (by decide) (fun c24 => ?_) (fun c24 => ?_)
      · replace h := hT h c24
        refine AW.iconst (dcN_5 dcg_555 :) ?_
        exact AW.zret1 rfl (Or.inl rfl) (dcN_6 dcg_555 :) h rfl
      · replace h := hF h c24
        refine AW.aloadr_n 0 (dcN_14 dcg_554 :) rfl ?_
        obtain ⟨r25, e26, h⟩ := hC h
        refine AW.callVi (As := []) (st := []) (M_any_ok (Nat.le_trans (by decide) hC9) hrec e26) cq_X12_362 cr_117_X12_any (by omega) rfl (dcN_15 dcg_554 :) rfl (Nat.le_of_ble_eq_true rfl) ?_
        refine AW.if_eq (tgt := 78) (dcN_0 dcg_555 :) (by decide) (fun c27 => ?_) (fun c27 => ?_)
        · replace h := hT h c27
          refine AW.iconst (dcN_5 dcg_555 :) ?_
          exact AW.zret1 rfl (Or.inl rfl) (dcN_6 dcg_555 :) h rfl
        · replace h := hF h c27
          refine AW.aloadr_n 0 (dcN_1 dcg_555 :) rfl ?_
          refine AW.sipush (dcN_2 dcg_555 :) (by decide) (by decide) ?_
          obtain ⟨r28, e29, h⟩ := hC h
          refine AW.callVi (As := [iv 141]) (st := []) (M_need_ok e29) cq_X12_365 cr_117_X12_need (by omega) rfl (dcN_3 dcg_555 :) rfl (Nat.le_of_ble_eq_true rfl) ?_
          refine AW.if_ne (tgt := 80) (dcN_4 dcg_555 :) (by decide) (fun c30 => ?_) (fun c30 => ?_)
          · replace h := hF h c30
            refine AW.aloadr_n 0 (dcN_7 dcg_555 :) rfl ?_
            refine AW.duprr (dcN_8 dcg_555 :) ?_
            refine AW.getI af_X12_336_117 sr_117_45 (dcN_9 dcg_555 :) ?_
            refine AW.iconst (dcN_10 dcg_555 :) ?_
            refine AW.isub (dcN_11 dcg_555 :) ?_
            obtain ⟨g31, e32, h⟩ := hBe h
            refine AW.putI ap_X12_336_117 sr_117_45 (dcN_12 dcg_555 :) e32 ?_
            refine AW.iconst (dcN_13 dcg_555 :) ?_
            exact AW.zret1 rfl (Or.inr rfl) (dcN_14 dcg_555 :) h rfl
          · replace h := hT h c30
            refine AW.iconst (dcN_5 dcg_555 :) ?_
            exact AW.zret1 rfl (Or.inl rfl) (dcN_6 dcg_555 :) h rfl
  · replace h := hT h c1
    refine AW.aloadr_n 0 (dcN_4 dcg_553 :) rfl ?_
    obtain ⟨r33, e34, h⟩ := hC h
    refine AW.callVi (As := []) (st := []) (M_opens_ok e34) cq_X12_359 cr_117_X12_opens (by omega) rfl (dcN_5 dcg_553 :) rfl (Nat.le_of_ble_eq_true rfl) ?_
    refine AW.if_eq (tgt := 23) (dcN_6 dcg_553 :) (by decide) (fun c35 => ?_) (fun c35 => ?_)
    · replace h := hT h c35
      refine AW.iconst (dcN_10 dcg_553 :) ?_
      exact AW.zret1 rfl (Or.inl rfl) (dcN_11 dcg_553 :) h rfl
    · replace h := hF h c35
      refine AW.aloadr_n 0 (dcN_7 dcg_553 :) rfl ?_
      obtain ⟨r36, e37, h⟩ := hC h
      refine AW.callVi (As := []) (st := []) (hrec _ _ e37) cq_X12_356 cr_117_X12_one (by omega) rfl (dcN_8 dcg_553 :) rfl (Nat.le_of_ble_eq_true rfl) ?_
      refine AW.if_ne (tgt := 25) (dcN_9 dcg_553 :) (by decide) (fun c38 => ?_) (fun c38 => ?_)
      · replace h := hF h c38
        refine AW.aloadr_n 0 (dcN_12 dcg_553 :) rfl ?_
        refine AW.duprr (dcN_13 dcg_553 :) ?_
        refine AW.getI af_X12_336_117 sr_117_45 (dcN_14 dcg_553 :) ?_
        refine AW.iconst (dcN_15 dcg_553 :) ?_
        refine AW.isub (dcN_16 dcg_553 :) ?_
        obtain ⟨g39, e40, h⟩ := hBe h
        refine AW.putI ap_X12_336_117 sr_117_45 (dcN_0 dcg_554 :) e40 ?_
        refine AW.aloadr_n 0 (dcN_1 dcg_554 :) rfl ?_
        refine AW.bipush (dcN_2 dcg_554 :) (by decide) (by decide) ?_
        refine AW.iconst (dcN_3 dcg_554 :) ?_
        obtain ⟨r41, e42, h⟩ := hC h
        refine AW.callVv (As := [iv 17, iv 0]) (st := []) (M_lay_ok e42) cq_X12_342 cr_117_X12_lay (by omega) rfl (dcN_4 dcg_554 :) rfl (Nat.le_of_ble_eq_true rfl) ?_
        refine AW.iconst (dcN_5 dcg_554 :) ?_
        exact AW.zret1 rfl (Or.inr rfl) (dcN_6 dcg_554 :) h rfl
      · replace h := hT h c38
        refine AW.iconst (dcN_10 dcg_553 :) ?_
        exact AW.zret1 rfl (Or.inl rfl) (dcN_11 dcg_553 :) h rfl
theorem M_one_ok {z : AZ} {n : Nat} {g : AG} {r : Int × AG} (h : M_one n g = some r) : AMf z yX12_one cX12_one 2 (some .boolean) (11 + n * 3) [rv z 117] g r := by
  induction n generalizing g r with
  | zero => cases h
  | succ n ih =>
    have q := M_one_s_ok (z := z) (Dr := 11 + n * 3) (Nat.le_add_right _ _) (fun g r h9 => ih h9) h
    rw [show 11 + (n + 1) * 3 = 11 + n * 3 + 3 by rw [Nat.add_mul]; omega]
    exact q
set_option synthInstance.maxHeartbeats 2000000 in
theorem M_aLine_b_ok {z : AZ} {d : Nat} (hdd : 50 ≤ d) {x2 : Int} : ∀ (tag : Nat) (g : AG) (r : Int × AG), M_aLine_b x2 tag g = some r → (tag = 1 → AW z (RX12, cX12_aLine, 3, (some .boolean)) d (QD (some .boolean) r) 155 [(0, rv z 117), (2, iv x2)] [] g) ∧ (tag = 2 → AW z (RX12, cX12_aLine, 3, (some .boolean)) d (QD (some .boolean) r) 186 [(0, rv z 117), (2, iv x2)] [] g) := by
  refine M_aLine_b.partial_correctness x2 (fun tag g r => (tag = 1 → AW z (RX12, cX12_aLine, 3, (some .boolean)) d (QD (some .boolean) r) 155 [(0, rv z 117), (2, iv x2)] [] g) ∧ (tag = 2 → AW z (RX12, cX12_aLine, 3, (some .boolean)) d (QD (some .boolean) r) 186 [(0, rv z 117), (2, iv x2)] [] g)) ?_
  intro fb9 ih tag g r h
  refine ⟨fun h9 => ?_, fun h9 => ?_⟩
  · subst h9
    replace h := hT h rfl
    refine AW.aloadr_n 0 (dcN_13 dcg_569 :) rfl ?_
    refine AW.getR af_X12_81_117 sr_117_24 (dcN_14 dcg_569 :) ?_
    refine AW.iload_n 1 (dcN_15 dcg_569 :) rfl ?_
    refine AW.aloadr_n 0 (dcN_0 dcg_570 :) rfl ?_
    refine AW.getI af_X12_333_117 sr_117_36 (dcN_1 dcg_570 :) ?_
    obtain ⟨k1, h⟩ := hK h
    obtain ⟨g2, e3, h⟩ := hBe h
    refine AW.iast kc_139 sk_139 k1 (dcN_2 dcg_570 :) e3 ?_
    refine AW.aloadr_n 0 (dcN_3 dcg_570 :) rfl ?_
    refine AW.getI af_X12_306_117 sr_117_39 (dcN_4 dcg_570 :) ?_
    refine AW.iconst (dcN_5 dcg_570 :) ?_
    refine AW.icmp_ne (tgt := 186) (dcN_6 dcg_570 :) (by decide) (fun c4 => ?_) (fun c4 => ?_)
    · replace h := hF h c4
      exact (ih _ _ _ h).2 rfl
    · replace h := hT h c4
      refine AW.aloadr_n 0 (dcN_7 dcg_570 :) rfl ?_
      obtain ⟨r5, e6, h⟩ := hC h
      refine AW.callVv (As := []) (st := []) (M_next0_ok e6) cq_X12_330 cr_117_X12_next0 (Nat.le_trans (by decide) hdd) rfl (dcN_8 dcg_570 :) rfl (Nat.le_of_ble_eq_true rfl) ?_
      refine AW.aloadr_n 0 (dcN_9 dcg_570 :) rfl ?_
      obtain ⟨r7, e8, h⟩ := hC h
      refine AW.callVi (As := []) (st := []) (M_any_ok (Dr := 47) (by decide) (fun _ r9 h9 => M_one_ok (n := 12) h9) e8) cq_X12_362 cr_117_X12_any (Nat.le_trans (by decide) hdd) rfl (dcN_10 dcg_570 :) rfl (Nat.le_of_ble_eq_true rfl) ?_
      refine AW.if_ne (tgt := 186) (dcN_11 dcg_570 :) (by decide) (fun c9 => ?_) (fun c9 => ?_)
      · replace h := hF h c9
        exact (ih _ _ _ h).2 rfl
      · replace h := hT h c9
        refine AW.iconst (dcN_12 dcg_570 :) ?_
        exact AW.zret1 rfl (Or.inl rfl) (dcN_13 dcg_570 :) h rfl
  · subst h9
    replace h := hF h (by decide)
    replace h := hT h rfl
    refine AW.aloadr_n 0 (dcN_14 dcg_570 :) rfl ?_
    refine AW.getR af_X12_84_117 sr_117_25 (dcN_15 dcg_570 :) ?_
    refine AW.iload_n 1 (dcN_16 dcg_570 :) rfl ?_
    refine AW.aloadr_n 0 (dcN_17 dcg_570 :) rfl ?_
    refine AW.getI af_X12_333_117 sr_117_36 (dcN_0 dcg_571 :) ?_
    obtain ⟨k1, h⟩ := hK h
    obtain ⟨g2, e3, h⟩ := hBe h
    refine AW.iast kc_140 sk_140 k1 (dcN_1 dcg_571 :) e3 ?_
    refine AW.aloadr_n 0 (dcN_2 dcg_571 :) rfl ?_
    refine AW.sipush (dcN_3 dcg_571 :) (by decide) (by decide) ?_
    obtain ⟨r4, e5, h⟩ := hC h
    refine AW.callVi (As := [iv 159]) (st := []) (M_need_ok e5) cq_X12_365 cr_117_X12_need (Nat.le_trans (by decide) hdd) rfl (dcN_4 dcg_571 :) rfl (Nat.le_of_ble_eq_true rfl) ?_
    obtain ⟨k6, h⟩ := hK h
    exact AW.zret1 rfl k6 (dcN_5 dcg_571 :) h rfl
theorem M_aLine_ok {z : AZ} {g : AG} {r : Int × AG} (h : M_aLine g = some r) : AMf z yX12_aLine cX12_aLine 3 (some .boolean) 50 [rv z 117] g r := by
  intro d hdd
  refine AM.of (by decide +kernel) (Nat.le_of_ble_eq_true rfl) ?_
  show AW z (RX12, cX12_aLine, 3, (some .boolean)) d (QD (some .boolean) r) 0 [(0, rv z 117)] [] g
  unfold M_aLine at h
  refine AW.aloadr_n 0 (dcN_0 dcg_565 :) rfl ?_
  refine AW.getI af_X12_306_117 sr_117_39 (dcN_1 dcg_565 :) ?_
  refine AW.bipush (dcN_2 dcg_565 :) (by decide) (by decide) ?_
  refine AW.bipush (dcN_3 dcg_565 :) (by decide) (by decide) ?_
  refine AW.callSi (As := [iv (g 117 39), iv 20, iv 24]) (st := []) M_isIn_ok cq_X12_3 st_X12_isIn (Nat.le_trans (by decide) hdd) rfl (dcN_4 dcg_565 :) rfl (Nat.le_of_ble_eq_true rfl) ?_
  refine AW.if_ne (tgt := 20) (dcN_5 dcg_565 :) (by decide) (fun c1 => ?_) (fun c1 => ?_)
  · replace h := hF h c1
    refine AW.aloadr_n 0 (dcN_10 dcg_565 :) rfl ?_
    refine AW.getI af_X12_375_117 sr_117_35 (dcN_11 dcg_565 :) ?_
    refine AW.bipush (dcN_12 dcg_565 :) (by decide) (by decide) ?_
    refine AW.icmp_ne (tgt := 35) (dcN_13 dcg_565 :) (by decide) (fun c2 => ?_) (fun c2 => ?_)
    · replace h := hF h c2
      refine AW.aloadr_n 0 (dcN_1 dcg_566 :) rfl ?_
      refine AW.getI af_X12_306_117 sr_117_39 (dcN_2 dcg_566 :) ?_
      refine AW.bipush (dcN_3 dcg_566 :) (by decide) (by decide) ?_
      refine AW.isub (dcN_4 dcg_566 :) ?_
      refine AW.istore_n (lv1 := [(1, iv ((g 117 39) - 20)), (0, rv z 117)]) (dcN_5 dcg_566 :) (by decide) rfl ?_
      refine AW.aloadr_n 1 (dcN_6 dcg_566 :) rfl ?_
      refine AW.getI af_X12_375_117 sr_117_35 (dcN_7 dcg_566 :) ?_
      refine AW.istore_n (lv1 := [(2, iv (g 117 35)), (1, iv ((g 117 39) - 20)), (0, rv z 117)]) (dcN_8 dcg_566 :) (by decide) rfl ?_
      refine AW.aloadr_n 2 (dcN_9 dcg_566 :) rfl ?_
      refine AW.iconst (dcN_10 dcg_566 :) ?_
      obtain ⟨g3, e4, h⟩ := hBe h
      refine AW.putI ap_X12_336_117 sr_117_45 (dcN_11 dcg_566 :) e4 ?_
      refine AW.aloadr_n 2 (dcN_12 dcg_566 :) rfl ?_
      obtain ⟨r5, e6, h⟩ := hC h
      refine AW.callVv (As := []) (st := []) (M_next0_ok e6) cq_X12_330 cr_117_X12_next0 (Nat.le_trans (by decide) hdd) rfl (dcN_13 dcg_566 :) rfl (Nat.le_of_ble_eq_true rfl) ?_
      refine AW.aloadr_n 2 (dcN_14 dcg_566 :) rfl ?_
      refine AW.getR af_X12_69_117 sr_117_20 (dcN_15 dcg_566 :) ?_
      refine AW.iload_n 0 (dcN_16 dcg_566 :) rfl ?_
      refine AW.iload_n 1 (dcN_17 dcg_566 :) rfl ?_
      obtain ⟨k7, h⟩ := hK h
      obtain ⟨g8, e9, h⟩ := hBe h
      refine AW.iast kc_135 sk_135 k7 (dcN_18 dcg_566 :) e9 ?_
      refine AW.aloadr_n 2 (dcN_0 dcg_567 :) rfl ?_
      refine AW.getR af_X12_78_117 sr_117_23 (dcN_1 dcg_567 :) ?_
      refine AW.iload_n 0 (dcN_2 dcg_567 :) rfl ?_
      refine AW.aloadr_n 2 (dcN_3 dcg_567 :) rfl ?_
      refine AW.getI af_X12_333_117 sr_117_36 (dcN_4 dcg_567 :) ?_
      obtain ⟨g10, e11, h⟩ := hBe h
      refine AW.iast kc_138 sk_138 k7 (dcN_5 dcg_567 :) e11 ?_
      refine AW.aloadr_n 2 (dcN_6 dcg_567 :) rfl ?_
      refine AW.getR af_X12_81_117 sr_117_24 (dcN_7 dcg_567 :) ?_
      refine AW.iload_n 0 (dcN_8 dcg_567 :) rfl ?_
      refine AW.aloadr_n 2 (dcN_9 dcg_567 :) rfl ?_
      refine AW.getI af_X12_333_117 sr_117_36 (dcN_10 dcg_567 :) ?_
      obtain ⟨g12, e13, h⟩ := hBe h
      refine AW.iast kc_139 sk_139 k7 (dcN_11 dcg_567 :) e13 ?_
      refine AW.aloadr_n 2 (dcN_12 dcg_567 :) rfl ?_
      refine AW.getR af_X12_84_117 sr_117_25 (dcN_13 dcg_567 :) ?_
      refine AW.iload_n 0 (dcN_14 dcg_567 :) rfl ?_
      refine AW.aloadr_n 2 (dcN_15 dcg_567 :) rfl ?_
      refine AW.getI af_X12_333_117 sr_117_36 (dcN_16 dcg_567 :) ?_
      obtain ⟨g14, e15, h⟩ := hBe h
      refine AW.iast kc_140 sk_140 k7 (dcN_17 dcg_567 :) e15 ?_
      refine AW.iload_n 1 (dcN_18 dcg_567 :) rfl ?_
      refine AW.iconst (dcN_19 dcg_567 :) ?_
      refine AW.icmp_ne (tgt := 122) (dcN_0 dcg_568 :) (by decide) (fun c16 => ?_) (fun c16 => ?_)
      · replace h := hF h c16
        refine AW.iload_n 1 (dcN_12 dcg_568 :) rfl ?_
        refine AW.if_ne (tgt := 146) (dcN_13 dcg_568 :) (by decide) (fun c17 => ?_) (fun c17 => ?_)
        · replace h := hF h c17
          refine AW.aloadr_n 2 (dcN_8 dcg_569 :) rfl ?_
          obtain ⟨r18, e19, h⟩ := hC h
          refine AW.callVi (As := []) (st := []) (M_sumUp_ok e19) cq_X12_368 cr_117_X12_sumUp (Nat.le_trans (by decide) hdd) rfl (dcN_9 dcg_569 :) rfl (Nat.le_of_ble_eq_true rfl) ?_
          refine AW.if_ne (tgt := 155) (dcN_10 dcg_569 :) (by decide) (fun c20 => ?_) (fun c20 => ?_)
          · replace h := hF h c20
            refine AW.sub (lv1 := [(0, rv z 117), (2, iv (g 117 35))]) [2, 0] rfl ?_
            exact (M_aLine_b_ok hdd _ _ _ h).1 rfl
          · replace h := hT h c20
            refine AW.iconst (dcN_11 dcg_569 :) ?_
            exact AW.zret1 rfl (Or.inl rfl) (dcN_12 dcg_569 :) h rfl
        · replace h := hT h c17
          refine AW.aloadr_n 2 (dcN_14 dcg_568 :) rfl ?_
          refine AW.aloadr_n 2 (dcN_15 dcg_568 :) rfl ?_
          refine AW.getR af_X12_72_117 sr_117_21 (dcN_0 dcg_569 :) ?_
          refine AW.iload_n 0 (dcN_1 dcg_569 :) rfl ?_
          refine AW.aloadr_n 2 (dcN_2 dcg_569 :) rfl ?_
          refine AW.getR af_X12_75_117 sr_117_22 (dcN_3 dcg_569 :) ?_
          refine AW.iload_n 0 (dcN_4 dcg_569 :) rfl ?_
          obtain ⟨r21, e22, h⟩ := hC h
          refine AW.callVi (As := [rv z 136, iv (g 117 35), rv z 137, iv (g 117 35)]) (st := []) (M_hours_117_136_137_ok e22) cq_X12_371 cr_117_X12_hours (Nat.le_trans (by decide) hdd) rfl (dcN_5 dcg_569 :) rfl (Nat.le_of_ble_eq_true rfl) ?_
          refine AW.if_ne (tgt := 155) (dcN_6 dcg_569 :) (by decide) (fun c23 => ?_) (fun c23 => ?_)
          · replace h := hF h c23
            refine AW.sub (lv1 := [(0, rv z 117), (2, iv (g 117 35))]) [2, 0] rfl ?_
            exact (M_aLine_b_ok hdd _ _ _ h).1 rfl
          · replace h := hT h c23
            refine AW.goto (tgt := 153) (dcN_7 dcg_569 :) (by decide) ?_
            refine AW.iconst (dcN_11 dcg_569 :) ?_
            exact AW.zret1 rfl (Or.inl rfl) (dcN_12 dcg_569 :) h rfl
      · replace h := hT h c16
        refine AW.aloadr_n 2 (dcN_1 dcg_568 :) rfl ?_
        obtain ⟨r24, e25, h⟩ := hC h
        refine AW.callVi (As := []) (st := []) (M_aTunnel_ok e25) cq_X12_378 cr_117_X12_aTunnel (Nat.le_trans (by decide) hdd) rfl (dcN_2 dcg_568 :) rfl (Nat.le_of_ble_eq_true rfl) ?_
        obtain ⟨r32, e33, h⟩ := hC h
        refine AW.join (tgt := 121) (lv1 := []) (st1 := [iv r32.1]) (g1 := r32.2) ?_ (fun J103 => ?_)
        · obtain ⟨k34, h⟩ := hK h
          exact AW.zret1 rfl k34 (dcN_11 dcg_568 :) h rfl
        replace h := e33
        refine AW.if_eq (tgt := 120) (dcN_3 dcg_568 :) (by decide) (fun c26 => ?_) (fun c26 => ?_)
        · replace h := hT h c26
          refine AW.iconst (dcN_10 dcg_568 :) ?_
          refine AW.sub (lv1 := []) [] rfl ?_
          cases h
          exact J103
        · replace h := hF h c26
          refine AW.aloadr_n 2 (dcN_4 dcg_568 :) rfl ?_
          refine AW.sipush (dcN_5 dcg_568 :) (by decide) (by decide) ?_
          obtain ⟨r27, e28, h⟩ := hC h
          refine AW.callVi (As := [iv 159]) (st := []) (M_need_ok e28) cq_X12_365 cr_117_X12_need (Nat.le_trans (by decide) hdd) rfl (dcN_6 dcg_568 :) rfl (Nat.le_of_ble_eq_true rfl) ?_
          obtain ⟨t29, e30, h⟩ := hBe h
          refine AW.join (tgt := 121) (lv1 := [(2, iv (g 117 35)), (1, iv ((g 117 39) - 20)), (0, rv z 117)]) (st1 := [iv t29]) (g1 := r27.2) ?_ (fun J113 => ?_)
          · refine AW.sub (lv1 := []) [] rfl ?_
            cases h
            exact J103
          refine AW.if_eq (tgt := 120) (dcN_7 dcg_568 :) (by decide) (fun c31 => ?_) (fun c31 => ?_)
          · refine AW.iconst (dcN_10 dcg_568 :) ?_
            exact AW.val (e30.trans (if_pos c31)) J113
          · refine AW.iconst (dcN_8 dcg_568 :) ?_
            refine AW.goto (tgt := 121) (dcN_9 dcg_568 :) (by decide) ?_
            exact AW.val (e30.trans (if_neg c31)) J113
    · replace h := hT h c2
      refine AW.aloadr_n 0 (dcN_14 dcg_565 :) rfl ?_
      refine AW.iconst (dcN_15 dcg_565 :) ?_
      obtain ⟨r35, e36, h⟩ := hC h
      refine AW.callVi (As := [iv 3]) (st := []) (M_bad_ok e36) cq_X12_327 cr_117_X12_bad (Nat.le_trans (by decide) hdd) rfl (dcN_16 dcg_565 :) rfl (Nat.le_of_ble_eq_true rfl) ?_
      obtain ⟨k37, h⟩ := hK h
      exact AW.zret1 rfl k37 (dcN_0 dcg_566 :) h rfl
  · replace h := hT h c1
    refine AW.aloadr_n 0 (dcN_6 dcg_565 :) rfl ?_
    refine AW.iconst (dcN_7 dcg_565 :) ?_
    obtain ⟨r38, e39, h⟩ := hC h
    refine AW.callVi (As := [iv 1]) (st := []) (M_bad_ok e39) cq_X12_327 cr_117_X12_bad (Nat.le_trans (by decide) hdd) rfl (dcN_8 dcg_565 :) rfl (Nat.le_of_ble_eq_true rfl) ?_
    obtain ⟨k40, h⟩ := hK h
    exact AW.zret1 rfl k40 (dcN_9 dcg_565 :) h rfl
set_option synthInstance.maxHeartbeats 2000000 in
theorem M_keeps_b_ok {z : AZ} {d : Nat} (hdd : 0 ≤ d) : ∀ (tag : Nat) (x1 : Int) (g : AG) (r : Int × AG), M_keeps_b tag x1 g = some r → (tag = 1 → AW z (RX12, cX12_keeps, 2, none) d (QD none r) 10 [(0, rv z 117), (1, iv x1)] [] g) ∧ (tag = 2 → AW z (RX12, cX12_keeps, 2, none) d (QD none r) 98 [(0, rv z 117), (1, iv x1)] [] g) ∧ (tag = 3 → AW z (RX12, cX12_keeps, 2, none) d (QD none r) 128 [(0, rv z 117), (1, iv x1)] [] g) ∧ (tag = 4 → AW z (RX12, cX12_keeps, 2, none) d (QD none r) 154 [(0, rv z 117), (1, iv x1)] [] g) := by
  refine M_keeps_b.partial_correctness (fun tag x1 g r => (tag = 1 → AW z (RX12, cX12_keeps, 2, none) d (QD none r) 10 [(0, rv z 117), (1, iv x1)] [] g) ∧ (tag = 2 → AW z (RX12, cX12_keeps, 2, none) d (QD none r) 98 [(0, rv z 117), (1, iv x1)] [] g) ∧ (tag = 3 → AW z (RX12, cX12_keeps, 2, none) d (QD none r) 128 [(0, rv z 117), (1, iv x1)] [] g) ∧ (tag = 4 → AW z (RX12, cX12_keeps, 2, none) d (QD none r) 154 [(0, rv z 117), (1, iv x1)] [] g)) ?_
  intro fb9 ih tag x1 g r h
  refine ⟨fun h9 => ?_, fun h9 => ?_, fun h9 => ?_, fun h9 => ?_⟩
  · subst h9
    replace h := hT h rfl
    refine AW.iload_n 1 (dcN_6 dcg_576 :) rfl ?_
    refine AW.aloadr_n 0 (dcN_7 dcg_576 :) rfl ?_
    refine AW.getI af_X12_390_117 sr_117_34 (dcN_8 dcg_576 :) ?_
    refine AW.icmp_ge (tgt := 96) (dcN_9 dcg_576 :) (by decide) (fun c1 => ?_) (fun c1 => ?_)
    · replace h := hT h c1
      refine AW.iconst (dcN_0 dcg_579 :) ?_
      refine AW.istore_n (lv1 := [(1, iv 0), (0, rv z 117)]) (dcN_1 dcg_579 :) (by decide) rfl ?_
      refine AW.sub (lv1 := [(0, rv z 117), (1, iv 0)]) [1, 0] rfl ?_
      exact (ih _ _ _ _ h).2.1 rfl
    · replace h := hF h c1
      refine AW.aloadr_n 0 (dcN_10 dcg_576 :) rfl ?_
      refine AW.getR af_X12_48_117 sr_117_13 (dcN_11 dcg_576 :) ?_
      refine AW.iload_n 1 (dcN_12 dcg_576 :) rfl ?_
      refine AW.aloadr_n 0 (dcN_13 dcg_576 :) rfl ?_
      refine AW.getR af_X12_69_117 sr_117_20 (dcN_14 dcg_576 :) ?_
      refine AW.iload_n 1 (dcN_15 dcg_576 :) rfl ?_
      obtain ⟨k2, h⟩ := hK h
      refine AW.iald kc_135 sk_135 k2 (dcN_16 dcg_576 :) ?_
      obtain ⟨g3, e4, h⟩ := hBe h
      refine AW.iast kc_128 sk_128 k2 (dcN_17 dcg_576 :) e4 ?_
      refine AW.aloadr_n 0 (dcN_18 dcg_576 :) rfl ?_
      refine AW.getR af_X12_51_117 sr_117_14 (dcN_19 dcg_576 :) ?_
      refine AW.iload_n 1 (dcN_0 dcg_577 :) rfl ?_
      refine AW.aloadr_n 0 (dcN_1 dcg_577 :) rfl ?_
      refine AW.getR af_X12_72_117 sr_117_21 (dcN_2 dcg_577 :) ?_
      refine AW.iload_n 1 (dcN_3 dcg_577 :) rfl ?_
      refine AW.iald kc_136 sk_136 k2 (dcN_4 dcg_577 :) ?_
      obtain ⟨g5, e6, h⟩ := hBe h
      refine AW.iast kc_129 sk_129 k2 (dcN_5 dcg_577 :) e6 ?_
      refine AW.aloadr_n 0 (dcN_6 dcg_577 :) rfl ?_
      refine AW.getR af_X12_54_117 sr_117_15 (dcN_7 dcg_577 :) ?_
      refine AW.iload_n 1 (dcN_8 dcg_577 :) rfl ?_
      refine AW.aloadr_n 0 (dcN_9 dcg_577 :) rfl ?_
      refine AW.getR af_X12_75_117 sr_117_22 (dcN_10 dcg_577 :) ?_
      refine AW.iload_n 1 (dcN_11 dcg_577 :) rfl ?_
      refine AW.iald kc_137 sk_137 k2 (dcN_12 dcg_577 :) ?_
      obtain ⟨g7, e8, h⟩ := hBe h
      refine AW.iast kc_130 sk_130 k2 (dcN_13 dcg_577 :) e8 ?_
      refine AW.aloadr_n 0 (dcN_14 dcg_577 :) rfl ?_
      refine AW.getR af_X12_57_117 sr_117_16 (dcN_15 dcg_577 :) ?_
      refine AW.iload_n 1 (dcN_16 dcg_577 :) rfl ?_
      refine AW.aloadr_n 0 (dcN_17 dcg_577 :) rfl ?_
      refine AW.getR af_X12_78_117 sr_117_23 (dcN_18 dcg_577 :) ?_
      refine AW.iload_n 1 (dcN_19 dcg_577 :) rfl ?_
      refine AW.iald kc_138 sk_138 k2 (dcN_0 dcg_578 :) ?_
      obtain ⟨g9, e10, h⟩ := hBe h
      refine AW.iast kc_131 sk_131 k2 (dcN_1 dcg_578 :) e10 ?_
      refine AW.aloadr_n 0 (dcN_2 dcg_578 :) rfl ?_
      refine AW.getR af_X12_60_117 sr_117_17 (dcN_3 dcg_578 :) ?_
      refine AW.iload_n 1 (dcN_4 dcg_578 :) rfl ?_
      refine AW.aloadr_n 0 (dcN_5 dcg_578 :) rfl ?_
      refine AW.getR af_X12_81_117 sr_117_24 (dcN_6 dcg_578 :) ?_
      refine AW.iload_n 1 (dcN_7 dcg_578 :) rfl ?_
      refine AW.iald kc_139 sk_139 k2 (dcN_8 dcg_578 :) ?_
      obtain ⟨g11, e12, h⟩ := hBe h
      refine AW.iast kc_132 sk_132 k2 (dcN_9 dcg_578 :) e12 ?_
      refine AW.aloadr_n 0 (dcN_10 dcg_578 :) rfl ?_
      refine AW.getR af_X12_63_117 sr_117_18 (dcN_11 dcg_578 :) ?_
      refine AW.iload_n 1 (dcN_12 dcg_578 :) rfl ?_
      refine AW.aloadr_n 0 (dcN_13 dcg_578 :) rfl ?_
      refine AW.getR af_X12_84_117 sr_117_25 (dcN_14 dcg_578 :) ?_
      refine AW.iload_n 1 (dcN_15 dcg_578 :) rfl ?_
      refine AW.iald kc_140 sk_140 k2 (dcN_16 dcg_578 :) ?_
      obtain ⟨g13, e14, h⟩ := hBe h
      refine AW.iast kc_133 sk_133 k2 (dcN_17 dcg_578 :) e14 ?_
      refine AW.iinc (lv1 := [(1, iv (x1 + 1)), (0, rv z 117)]) 1 (dcN_18 dcg_578 :) rfl (by decide) rfl ?_
      refine AW.goto (tgt := 10) (dcN_19 dcg_578 :) (by decide) ?_
      refine AW.sub (lv1 := [(0, rv z 117), (1, iv (x1 + 1))]) [1, 0] rfl ?_
      exact (ih _ _ _ _ h).1 rfl
  · subst h9
    replace h := hF h (by decide)
    replace h := hT h rfl
    refine AW.iload_n 1 (dcN_2 dcg_579 :) rfl ?_
    refine AW.iconst (dcN_3 dcg_579 :) ?_
    refine AW.aloadr_n 0 (dcN_4 dcg_579 :) rfl ?_
    refine AW.getI af_X12_333_117 sr_117_36 (dcN_5 dcg_579 :) ?_
    refine AW.imul (dcN_6 dcg_579 :) ?_
    refine AW.icmp_ge (tgt := 126) (dcN_7 dcg_579 :) (by decide) (fun c1 => ?_) (fun c1 => ?_)
    · replace h := hT h c1
      refine AW.iconst (dcN_18 dcg_579 :) ?_
      refine AW.istore_n (lv1 := [(1, iv 0), (0, rv z 117)]) (dcN_19 dcg_579 :) (by decide) rfl ?_
      refine AW.sub (lv1 := [(0, rv z 117), (1, iv 0)]) [1, 0] rfl ?_
      exact (ih _ _ _ _ h).2.2.1 rfl
    · replace h := hF h c1
      refine AW.aloadr_n 0 (dcN_8 dcg_579 :) rfl ?_
      refine AW.getR af_X12_66_117 sr_117_19 (dcN_9 dcg_579 :) ?_
      refine AW.iload_n 1 (dcN_10 dcg_579 :) rfl ?_
      refine AW.aloadr_n 0 (dcN_11 dcg_579 :) rfl ?_
      refine AW.getR af_X12_87_117 sr_117_26 (dcN_12 dcg_579 :) ?_
      refine AW.iload_n 1 (dcN_13 dcg_579 :) rfl ?_
      obtain ⟨k2, h⟩ := hK h
      refine AW.iald kc_141 sk_141 k2 (dcN_14 dcg_579 :) ?_
      obtain ⟨g3, e4, h⟩ := hBe h
      refine AW.iast kc_134 sk_134 k2 (dcN_15 dcg_579 :) e4 ?_
      refine AW.iinc (lv1 := [(1, iv (x1 + 1)), (0, rv z 117)]) 1 (dcN_16 dcg_579 :) rfl (by decide) rfl ?_
      refine AW.goto (tgt := 98) (dcN_17 dcg_579 :) (by decide) ?_
      refine AW.sub (lv1 := [(0, rv z 117), (1, iv (x1 + 1))]) [1, 0] rfl ?_
      exact (ih _ _ _ _ h).2.1 rfl
  · subst h9
    replace h := hF h (by decide)
    replace h := hF h (by decide)
    replace h := hT h rfl
    refine AW.iload_n 1 (dcN_0 dcg_580 :) rfl ?_
    refine AW.bipush (dcN_1 dcg_580 :) (by decide) (by decide) ?_
    refine AW.icmp_ge (tgt := 152) (dcN_2 dcg_580 :) (by decide) (fun c1 => ?_) (fun c1 => ?_)
    · replace h := hT h c1
      refine AW.iconst (dcN_13 dcg_580 :) ?_
      refine AW.istore_n (lv1 := [(1, iv 0), (0, rv z 117)]) (dcN_14 dcg_580 :) (by decide) rfl ?_
      refine AW.sub (lv1 := [(0, rv z 117), (1, iv 0)]) [1, 0] rfl ?_
      exact (ih _ _ _ _ h).2.2.2 rfl
    · replace h := hF h c1
      refine AW.aloadr_n 0 (dcN_3 dcg_580 :) rfl ?_
      refine AW.getR af_X12_96_117 sr_117_29 (dcN_4 dcg_580 :) ?_
      refine AW.iload_n 1 (dcN_5 dcg_580 :) rfl ?_
      refine AW.aloadr_n 0 (dcN_6 dcg_580 :) rfl ?_
      refine AW.getR af_X12_100_117 sr_117_30 (dcN_7 dcg_580 :) ?_
      refine AW.iload_n 1 (dcN_8 dcg_580 :) rfl ?_
      obtain ⟨k2, h⟩ := hK h
      refine AW.zald kc_145 sk_145 k2 (dcN_9 dcg_580 :) ?_
      obtain ⟨k3, h⟩ := hK h
      obtain ⟨g4, e5, h⟩ := hBe h
      refine AW.zast kc_144 sk_144 k2 k3 (dcN_10 dcg_580 :) e5 ?_
      refine AW.iinc (lv1 := [(1, iv (x1 + 1)), (0, rv z 117)]) 1 (dcN_11 dcg_580 :) rfl (by decide) rfl ?_
      refine AW.goto (tgt := 128) (dcN_12 dcg_580 :) (by decide) ?_
      refine AW.sub (lv1 := [(0, rv z 117), (1, iv (x1 + 1))]) [1, 0] rfl ?_
      exact (ih _ _ _ _ h).2.2.1 rfl
  · subst h9
    replace h := hF h (by decide)
    replace h := hF h (by decide)
    replace h := hF h (by decide)
    replace h := hT h rfl
    refine AW.iload_n 1 (dcN_15 dcg_580 :) rfl ?_
    refine AW.bipush (dcN_16 dcg_580 :) (by decide) (by decide) ?_
    refine AW.icmp_ge (tgt := 178) (dcN_17 dcg_580 :) (by decide) (fun c1 => ?_) (fun c1 => ?_)
    · replace h := hT h c1
      exact AW.vret1 rfl (dcN_10 dcg_581 :) h rfl
    · replace h := hF h c1
      refine AW.aloadr_n 0 (dcN_0 dcg_581 :) rfl ?_
      refine AW.getR af_X12_90_117 sr_117_27 (dcN_1 dcg_581 :) ?_
      refine AW.iload_n 1 (dcN_2 dcg_581 :) rfl ?_
      refine AW.aloadr_n 0 (dcN_3 dcg_581 :) rfl ?_
      refine AW.getR af_X12_93_117 sr_117_28 (dcN_4 dcg_581 :) ?_
      refine AW.iload_n 1 (dcN_5 dcg_581 :) rfl ?_
      obtain ⟨k2, h⟩ := hK h
      refine AW.iald kc_143 sk_143 k2 (dcN_6 dcg_581 :) ?_
      obtain ⟨g3, e4, h⟩ := hBe h
      refine AW.iast kc_142 sk_142 k2 (dcN_7 dcg_581 :) e4 ?_
      refine AW.iinc (lv1 := [(1, iv (x1 + 1)), (0, rv z 117)]) 1 (dcN_8 dcg_581 :) rfl (by decide) rfl ?_
      refine AW.goto (tgt := 154) (dcN_9 dcg_581 :) (by decide) ?_
      refine AW.sub (lv1 := [(0, rv z 117), (1, iv (x1 + 1))]) [1, 0] rfl ?_
      exact (ih _ _ _ _ h).2.2.2 rfl
theorem M_keeps_ok {z : AZ} {g : AG} {r : Int × AG} (h : M_keeps g = some r) : AMf z yX12_keeps cX12_keeps 2 none 0 [rv z 117] g r := by
  intro d hdd
  refine AM.of (by decide +kernel) (Nat.le_of_ble_eq_true rfl) ?_
  show AW z (RX12, cX12_keeps, 2, none) d (QD none r) 0 [(0, rv z 117)] [] g
  unfold M_keeps at h
  refine AW.aloadr_n 0 (dcN_0 dcg_576 :) rfl ?_
  refine AW.aloadr_n 0 (dcN_1 dcg_576 :) rfl ?_
  refine AW.getI af_X12_375_117 sr_117_35 (dcN_2 dcg_576 :) ?_
  obtain ⟨g1, e2, h⟩ := hBe h
  refine AW.putI ap_X12_390_117 sr_117_34 (dcN_3 dcg_576 :) e2 ?_
  refine AW.iconst (dcN_4 dcg_576 :) ?_
  refine AW.istore_n (lv1 := [(1, iv 0), (0, rv z 117)]) (dcN_5 dcg_576 :) (by decide) rfl ?_
  refine AW.sub (lv1 := [(0, rv z 117), (1, iv 0)]) [1, 0] rfl ?_
  exact (M_keeps_b_ok hdd _ _ _ _ h).1 rfl
set_option synthInstance.maxHeartbeats 2000000 in
theorem M_rules_b_ok {z : AZ} {d : Nat} (hdd : 51 ≤ d) : ∀ (tag : Nat) (x1 : Int) (g : AG) (r : Int × AG), M_rules_b tag x1 g = some r → (tag = 1 → AW z (RX12, cX12_rules, 2, (some .int)) d (QD (some .int) r) 22 [(0, rv z 117), (1, iv x1)] [] g) ∧ (tag = 2 → AW z (RX12, cX12_rules, 2, (some .int)) d (QD (some .int) r) 47 [(0, rv z 117), (1, iv x1)] [] g) ∧ (tag = 3 → AW z (RX12, cX12_rules, 2, (some .int)) d (QD (some .int) r) 84 [(0, rv z 117), (1, iv x1)] [] g) := by
  refine M_rules_b.partial_correctness (fun tag x1 g r => (tag = 1 → AW z (RX12, cX12_rules, 2, (some .int)) d (QD (some .int) r) 22 [(0, rv z 117), (1, iv x1)] [] g) ∧ (tag = 2 → AW z (RX12, cX12_rules, 2, (some .int)) d (QD (some .int) r) 47 [(0, rv z 117), (1, iv x1)] [] g) ∧ (tag = 3 → AW z (RX12, cX12_rules, 2, (some .int)) d (QD (some .int) r) 84 [(0, rv z 117), (1, iv x1)] [] g)) ?_
  intro fb9 ih tag x1 g r h
  refine ⟨fun h9 => ?_, fun h9 => ?_, fun h9 => ?_⟩
  · subst h9
    replace h := hT h rfl
    refine AW.iload_n 1 (dcN_14 dcg_572 :) rfl ?_
    refine AW.bipush (dcN_15 dcg_572 :) (by decide) (by decide) ?_
    refine AW.icmp_ge (tgt := 41) (dcN_16 dcg_572 :) (by decide) (fun c1 => ?_) (fun c1 => ?_)
    · replace h := hT h c1
      refine AW.aloadr_n 0 (dcN_5 dcg_573 :) rfl ?_
      obtain ⟨r2, e3, h⟩ := hC h
      refine AW.callVv (As := []) (st := []) (M_next0_ok e3) cq_X12_330 cr_117_X12_next0 (Nat.le_trans (by decide) hdd) rfl (dcN_6 dcg_573 :) rfl (Nat.le_of_ble_eq_true rfl) ?_
      refine AW.iconst (dcN_7 dcg_573 :) ?_
      refine AW.istore_n (lv1 := [(1, iv 1), (0, rv z 117)]) (dcN_8 dcg_573 :) (by decide) rfl ?_
      refine AW.sub (lv1 := [(0, rv z 117), (1, iv 1)]) [1, 0] rfl ?_
      exact (ih _ _ _ _ h).2.1 rfl
    · replace h := hF h c1
      refine AW.aloadr_n 0 (dcN_17 dcg_572 :) rfl ?_
      refine AW.getR af_X12_100_117 sr_117_30 (dcN_18 dcg_572 :) ?_
      refine AW.iload_n 1 (dcN_0 dcg_573 :) rfl ?_
      refine AW.iconst (dcN_1 dcg_573 :) ?_
      obtain ⟨k4, h⟩ := hK h
      obtain ⟨g5, e6, h⟩ := hBe h
      refine AW.zast kc_145 sk_145 k4 (Or.inl rfl) (dcN_2 dcg_573 :) e6 ?_
      refine AW.iinc (lv1 := [(1, iv (x1 + 1)), (0, rv z 117)]) 1 (dcN_3 dcg_573 :) rfl (by decide) rfl ?_
      refine AW.goto (tgt := 22) (dcN_4 dcg_573 :) (by decide) ?_
      refine AW.sub (lv1 := [(0, rv z 117), (1, iv (x1 + 1))]) [1, 0] rfl ?_
      exact (ih _ _ _ _ h).1 rfl
  · subst h9
    replace h := hF h (by decide)
    replace h := hT h rfl
    refine AW.iload_n 1 (dcN_9 dcg_573 :) rfl ?_
    refine AW.if_eq (tgt := 84) (dcN_10 dcg_573 :) (by decide) (fun c1 => ?_) (fun c1 => ?_)
    · replace h := hT h c1
      exact (ih _ _ _ _ h).2.2 rfl
    · replace h := hF h c1
      refine AW.aloadr_n 0 (dcN_11 dcg_573 :) rfl ?_
      refine AW.getI af_X12_306_117 sr_117_39 (dcN_12 dcg_573 :) ?_
      refine AW.if_eq (tgt := 84) (dcN_13 dcg_573 :) (by decide) (fun c2 => ?_) (fun c2 => ?_)
      · replace h := hT h c2
        exact (ih _ _ _ _ h).2.2 rfl
      · replace h := hF h c2
        refine AW.aloadr_n 0 (dcN_14 dcg_573 :) rfl ?_
        obtain ⟨r3, e4, h⟩ := hC h
        refine AW.callVi (As := []) (st := []) (M_aLine_ok e4) cq_X12_381 cr_117_X12_aLine (Nat.le_trans (by decide) hdd) rfl (dcN_15 dcg_573 :) rfl (Nat.le_of_ble_eq_true rfl) ?_
        refine AW.istore_n (lv1 := [(1, iv r3.1), (0, rv z 117)]) (dcN_16 dcg_573 :) (by decide) rfl ?_
        refine AW.aloadr_n 1 (dcN_17 dcg_573 :) rfl ?_
        refine AW.duprr (dcN_0 dcg_574 :) ?_
        refine AW.getI af_X12_375_117 sr_117_35 (dcN_1 dcg_574 :) ?_
        refine AW.iload_n 0 (dcN_2 dcg_574 :) rfl ?_
        obtain ⟨t5, e6, h⟩ := hBe h
        refine AW.join (tgt := 77) (lv1 := [(1, iv r3.1), (0, rv z 117)]) (st1 := [iv t5, iv (r3.2 117 35), rv z 117]) (g1 := r3.2) ?_ (fun J69 => ?_)
        · refine AW.iadd (dcN_7 dcg_574 :) ?_
          obtain ⟨g7, e8, h⟩ := hBe h
          refine AW.putI ap_X12_375_117 sr_117_35 (dcN_8 dcg_574 :) e8 ?_
          refine AW.goto (tgt := 47) (dcN_9 dcg_574 :) (by decide) ?_
          refine AW.sub (lv1 := [(0, rv z 117), (1, iv r3.1)]) [1, 0] rfl ?_
          exact (ih _ _ _ _ h).2.1 rfl
        refine AW.if_eq (tgt := 76) (dcN_3 dcg_574 :) (by decide) (fun c9 => ?_) (fun c9 => ?_)
        · refine AW.iconst (dcN_6 dcg_574 :) ?_
          exact AW.val (e6.trans (if_pos c9)) J69
        · refine AW.iconst (dcN_4 dcg_574 :) ?_
          refine AW.goto (tgt := 77) (dcN_5 dcg_574 :) (by decide) ?_
          exact AW.val (e6.trans (if_neg c9)) J69
  · subst h9
    replace h := hF h (by decide)
    replace h := hF h (by decide)
    replace h := hT h rfl
    refine AW.aloadr_n 0 (dcN_10 dcg_574 :) rfl ?_
    refine AW.iconst (dcN_11 dcg_574 :) ?_
    obtain ⟨g1, e2, h⟩ := hBe h
    refine AW.putI ap_X12_242_117 sr_117_37 (dcN_12 dcg_574 :) e2 ?_
    refine AW.aloadr_n 0 (dcN_13 dcg_574 :) rfl ?_
    refine AW.aloadr_n 0 (dcN_14 dcg_574 :) rfl ?_
    refine AW.getI af_X12_321_117 sr_117_42 (dcN_15 dcg_574 :) ?_
    obtain ⟨g3, e4, h⟩ := hBe h
    refine AW.putI ap_X12_384_117 sr_117_44 (dcN_16 dcg_574 :) e4 ?_
    refine AW.aloadr_n 0 (dcN_0 dcg_575 :) rfl ?_
    refine AW.iload_n 1 (dcN_1 dcg_575 :) rfl ?_
    obtain ⟨t5, e6, h⟩ := hBe h
    refine AW.join (tgt := 110) (lv1 := [(0, rv z 117), (1, iv x1)]) (st1 := [iv t5, rv z 117]) (g1 := g3) ?_ (fun J99 => ?_)
    · obtain ⟨g7, e8, h⟩ := hBe h
      refine AW.putI ap_X12_112_117 sr_117_46 (dcN_7 dcg_575 :) e8 ?_
      refine AW.iload_n 1 (dcN_8 dcg_575 :) rfl ?_
      refine AW.if_ne (tgt := 119) (dcN_9 dcg_575 :) (by decide) (fun c9 => ?_) (fun c9 => ?_)
      · replace h := hF h c9
        refine AW.aloadr_n 0 (dcN_12 dcg_575 :) rfl ?_
        obtain ⟨r10, e11, h⟩ := hC h
        refine AW.callVv (As := []) (st := []) (M_keeps_ok e11) cq_X12_387 cr_117_X12_keeps (Nat.le_trans (by decide) hdd) rfl (dcN_13 dcg_575 :) rfl (Nat.le_of_ble_eq_true rfl) ?_
        refine AW.aloadr_n 0 (dcN_14 dcg_575 :) rfl ?_
        refine AW.getI af_X12_390_117 sr_117_34 (dcN_15 dcg_575 :) ?_
        exact AW.iret1 rfl (dcN_16 dcg_575 :) h rfl
      · replace h := hT h c9
        refine AW.iconst (dcN_10 dcg_575 :) ?_
        exact AW.iret1 rfl (dcN_11 dcg_575 :) h rfl
    refine AW.if_eq (tgt := 106) (dcN_2 dcg_575 :) (by decide) (fun c12 => ?_) (fun c12 => ?_)
    · refine AW.aloadr_n 0 (dcN_5 dcg_575 :) rfl ?_
      refine AW.getI af_X12_324_117 sr_117_43 (dcN_6 dcg_575 :) ?_
      exact AW.val (e6.trans (if_pos c12)) J99
    · refine AW.iconst (dcN_3 dcg_575 :) ?_
      refine AW.goto (tgt := 110) (dcN_4 dcg_575 :) (by decide) ?_
      exact AW.val (e6.trans (if_neg c12)) J99
theorem M_rules_ok {z : AZ} {g : AG} {r : Int × AG} (h : M_rules g = some r) : AMf z yX12_rules cX12_rules 2 (some .int) 51 [rv z 117] g r := by
  intro d hdd
  refine AM.of (by decide +kernel) (Nat.le_of_ble_eq_true rfl) ?_
  show AW z (RX12, cX12_rules, 2, (some .int)) d (QD (some .int) r) 0 [(0, rv z 117)] [] g
  unfold M_rules at h
  refine AW.aloadr_n 0 (dcN_0 dcg_572 :) rfl ?_
  refine AW.iconst (dcN_1 dcg_572 :) ?_
  obtain ⟨g1, e2, h⟩ := hBe h
  refine AW.putI ap_X12_321_117 sr_117_42 (dcN_2 dcg_572 :) e2 ?_
  refine AW.aloadr_n 0 (dcN_3 dcg_572 :) rfl ?_
  refine AW.iconst (dcN_4 dcg_572 :) ?_
  obtain ⟨g3, e4, h⟩ := hBe h
  refine AW.putI ap_X12_245_117 sr_117_38 (dcN_5 dcg_572 :) e4 ?_
  refine AW.aloadr_n 0 (dcN_6 dcg_572 :) rfl ?_
  refine AW.iconst (dcN_7 dcg_572 :) ?_
  obtain ⟨g5, e6, h⟩ := hBe h
  refine AW.putI ap_X12_375_117 sr_117_35 (dcN_8 dcg_572 :) e6 ?_
  refine AW.aloadr_n 0 (dcN_9 dcg_572 :) rfl ?_
  refine AW.iconst (dcN_10 dcg_572 :) ?_
  obtain ⟨g7, e8, h⟩ := hBe h
  refine AW.putI ap_X12_333_117 sr_117_36 (dcN_11 dcg_572 :) e8 ?_
  refine AW.iconst (dcN_12 dcg_572 :) ?_
  refine AW.istore_n (lv1 := [(1, iv 0), (0, rv z 117)]) (dcN_13 dcg_572 :) (by decide) rfl ?_
  refine AW.sub (lv1 := [(0, rv z 117), (1, iv 0)]) [1, 0] rfl ?_
  exact (M_rules_b_ok hdd _ _ _ _ h).1 rfl
theorem M_fault_ok {z : AZ} {x1 : Int} {g : AG} : AMf z yX12_fault cX12_fault 2 (some .int) 0 [rv z 117, iv x1] g ((M_fault x1 g), g) := by
  intro d hdd
  refine AM.of (by decide +kernel) (Nat.le_of_ble_eq_true rfl) ?_
  show AW z (RX12, cX12_fault, 2, (some .int)) d (QD (some .int) ((M_fault x1 g), g)) 0 [(0, rv z 117), (1, iv x1)] [] g
  refine AW.iload_n 1 (dcN_0 dcg_582 :) rfl ?_
  refine AW.join (tgt := 24) (lv1 := [(0, rv z 117), (1, iv x1)]) (st1 := [iv (if nw x1 = 0 then (g 117 44) else (if nw x1 = 1 then (g 117 46) else (-1)))]) (g1 := g) ?_ (fun J1 => ?_)
  · exact AW.iret rfl dX12_fault_24 ⟨congrArg (fun v => some (iv v)) (show M_fault x1 g = (if nw x1 = 0 then (g 117 44) else (if nw x1 = 1 then (g 117 46) else (-1))) from rfl).symm, rfl⟩
  refine AW.if_ne (tgt := 11) (dcN_1 dcg_582 :) (by decide) (fun c1 => ?_) (fun c1 => ?_)
  · refine AW.iload_n 1 (dcN_5 dcg_582 :) rfl ?_
    refine AW.iconst (dcN_6 dcg_582 :) ?_
    refine AW.icmp_ne (tgt := 23) (dcN_7 dcg_582 :) (by decide) (fun c2 => ?_) (fun c2 => ?_)
    · refine AW.iconst (dcN_11 dcg_582 :) ?_
      exact AW.val ((if_neg c1).trans (if_neg c2)) J1
    · refine AW.aloadr_n 0 (dcN_8 dcg_582 :) rfl ?_
      refine AW.getI af_X12_112_117 sr_117_46 (dcN_9 dcg_582 :) ?_
      refine AW.goto (tgt := 24) (dcN_10 dcg_582 :) (by decide) ?_
      exact AW.val ((if_neg c1).trans (if_pos c2)) J1
  · refine AW.aloadr_n 0 (dcN_2 dcg_582 :) rfl ?_
    refine AW.getI af_X12_384_117 sr_117_44 (dcN_3 dcg_582 :) ?_
    refine AW.goto (tgt := 24) (dcN_4 dcg_582 :) (by decide) ?_
    exact AW.val (if_pos c1) J1
set_option synthInstance.maxHeartbeats 2000000 in
theorem M_forgets_b_ok {z : AZ} {d : Nat} (hdd : 0 ≤ d) : ∀ (x1 : Int) (g : AG) (r : Int × AG), M_forgets_b x1 g = some r → AW z (RX12, cX12_forgets, 2, none) d (QD none r) 2 [(0, rv z 117), (1, iv x1)] [] g := by
  refine M_forgets_b.partial_correctness (fun x1 g r => AW z (RX12, cX12_forgets, 2, none) d (QD none r) 2 [(0, rv z 117), (1, iv x1)] [] g) ?_
  intro fb9 ih x1 g r h
  refine AW.iload_n 1 (dcN_2 dcg_596 :) rfl ?_
  refine AW.bipush (dcN_3 dcg_596 :) (by decide) (by decide) ?_
  refine AW.icmp_ge (tgt := 21) (dcN_4 dcg_596 :) (by decide) (fun c1 => ?_) (fun c1 => ?_)
  · replace h := hT h c1
    exact AW.vret1 rfl dX12_forgets_21 h rfl
  · replace h := hF h c1
    refine AW.aloadr_n 0 (dcN_5 dcg_596 :) rfl ?_
    refine AW.getR af_X12_109_117 sr_117_33 (dcN_6 dcg_596 :) ?_
    refine AW.iload_n 1 (dcN_7 dcg_596 :) rfl ?_
    refine AW.iconst (dcN_8 dcg_596 :) ?_
    obtain ⟨k2, h⟩ := hK h
    obtain ⟨g3, e4, h⟩ := hBe h
    refine AW.iast kc_148 sk_148 k2 (dcN_9 dcg_596 :) e4 ?_
    refine AW.iinc (lv1 := [(1, iv (x1 + 1)), (0, rv z 117)]) 1 (dcN_10 dcg_596 :) rfl (by decide) rfl ?_
    refine AW.goto (tgt := 2) (dcN_11 dcg_596 :) (by decide) ?_
    refine AW.sub (lv1 := [(0, rv z 117), (1, iv (x1 + 1))]) [1, 0] rfl ?_
    exact ih _ _ _ h
theorem M_forgets_ok {z : AZ} {g : AG} {r : Int × AG} (h : M_forgets g = some r) : AMf z yX12_forgets cX12_forgets 2 none 0 [rv z 117] g r := by
  intro d hdd
  refine AM.of (by decide +kernel) (Nat.le_of_ble_eq_true rfl) ?_
  show AW z (RX12, cX12_forgets, 2, none) d (QD none r) 0 [(0, rv z 117)] [] g
  unfold M_forgets at h
  refine AW.iconst (dcN_0 dcg_596 :) ?_
  refine AW.istore_n (lv1 := [(1, iv 0), (0, rv z 117)]) (dcN_1 dcg_596 :) (by decide) rfl ?_
  refine AW.sub (lv1 := [(0, rv z 117), (1, iv 0)]) [1, 0] rfl ?_
  exact M_forgets_b_ok hdd _ _ _ h
theorem M_both_ok {z : AZ} {x0 : Int} {x1 : Int} {x2 : Int} {g : AG} : AMf z yX12_both cX12_both 3 (some .int) 0 [iv x0, iv x1, iv x2] g ((M_both x0 x1 x2), g) := by
  intro d hdd
  refine AM.of (by decide +kernel) (Nat.le_of_ble_eq_true rfl) ?_
  show AW z (RX12, cX12_both, 3, (some .int)) d (QD (some .int) ((M_both x0 x1 x2), g)) 0 [(0, iv x0), (1, iv x1), (2, iv x2)] [] g
  refine AW.iload_n 0 (dcN_0 dcg_583 :) rfl ?_
  by_cases c1 : nw x0 = 10
  · refine AW.tsIn (tgt := 52) 10 dX12_both_1 c1 (by decide) (by decide) (by rfl) (by decide) ?_
    refine AW.iload_n 1 (dcN_0 dcg_584 :) rfl ?_
    refine AW.iload_n 2 (dcN_1 dcg_584 :) rfl ?_
    refine AW.iadd (dcN_2 dcg_584 :) ?_
    exact AW.iret rfl (dcN_3 dcg_584 :) ⟨congrArg (fun v => some (iv v)) (show M_both x0 x1 x2  = (x1 + x2) from ((if_pos c1))).symm, rfl⟩
  · by_cases c2 : nw x0 = 11
    · refine AW.tsIn (tgt := 56) 11 dX12_both_1 c2 (by decide) (by decide) (by rfl) (by decide) ?_
      refine AW.iload_n 1 (dcN_4 dcg_584 :) rfl ?_
      refine AW.iload_n 2 (dcN_5 dcg_584 :) rfl ?_
      refine AW.isub (dcN_6 dcg_584 :) ?_
      exact AW.iret rfl (dcN_7 dcg_584 :) ⟨congrArg (fun v => some (iv v)) (show M_both x0 x1 x2  = (x1 - x2) from (((if_neg c1).trans (if_pos c2)))).symm, rfl⟩
    · by_cases c3 : nw x0 = 12
      · refine AW.tsIn (tgt := 60) 12 dX12_both_1 c3 (by decide) (by decide) (by rfl) (by decide) ?_
        refine AW.iload_n 1 (dcN_8 dcg_584 :) rfl ?_
        refine AW.iload_n 2 (dcN_9 dcg_584 :) rfl ?_
        refine AW.imul (dcN_10 dcg_584 :) ?_
        exact AW.iret rfl (dcN_11 dcg_584 :) ⟨congrArg (fun v => some (iv v)) (show M_both x0 x1 x2  = (x1 * x2) from (((if_neg c1).trans ((if_neg c2).trans (if_pos c3))))).symm, rfl⟩
      · by_cases c4 : nw x0 = 13
        · refine AW.tsIn (tgt := 101) 13 dX12_both_1 c4 (by decide) (by decide) (by rfl) (by decide) ?_
          refine AW.iload_n 1 (dcN_5 dcg_586 :) rfl ?_
          refine AW.iload_n 2 (dcN_6 dcg_586 :) rfl ?_
          refine AW.ior (dcN_7 dcg_586 :) ?_
          exact AW.iret rfl (dcN_8 dcg_586 :) ⟨congrArg (fun v => some (iv v)) (show M_both x0 x1 x2  = (orI x1 x2) from (((if_neg c1).trans ((if_neg c2).trans ((if_neg c3).trans (if_pos c4)))))).symm, rfl⟩
        · by_cases c5 : nw x0 = 14
          · refine AW.tsIn (tgt := 64) 14 dX12_both_1 c5 (by decide) (by decide) (by rfl) (by decide) ?_
            refine AW.iload_n 1 (dcN_0 dcg_585 :) rfl ?_
            refine AW.iload_n 2 (dcN_1 dcg_585 :) rfl ?_
            refine AW.join (tgt := 74) (lv1 := [(0, iv x0), (1, iv x1), (2, iv x2)]) (st1 := [iv (if nw x2 ≤ nw x1 then 0 else 1)]) (g1 := g) ?_ (fun J66 => ?_)
            · exact AW.iret rfl (dcN_6 dcg_585 :) ⟨congrArg (fun v => some (iv v)) (show M_both x0 x1 x2  = (if nw x2 ≤ nw x1 then 0 else 1) from (((if_neg c1).trans ((if_neg c2).trans ((if_neg c3).trans ((if_neg c4).trans (if_pos c5))))))).symm, rfl⟩
            refine AW.icmp_ge (tgt := 73) (dcN_2 dcg_585 :) (by decide) (fun c6 => ?_) (fun c6 => ?_)
            · refine AW.iconst (dcN_5 dcg_585 :) ?_
              exact AW.val (if_pos c6) J66
            · refine AW.iconst (dcN_3 dcg_585 :) ?_
              refine AW.goto (tgt := 74) (dcN_4 dcg_585 :) (by decide) ?_
              exact AW.val (if_neg c6) J66
          · by_cases c7 : nw x0 = 15
            · refine AW.tsIn (tgt := 75) 15 dX12_both_1 c7 (by decide) (by decide) (by rfl) (by decide) ?_
              refine AW.iload_n 1 (dcN_7 dcg_585 :) rfl ?_
              refine AW.iload_n 2 (dcN_8 dcg_585 :) rfl ?_
              refine AW.join (tgt := 85) (lv1 := [(0, iv x0), (1, iv x1), (2, iv x2)]) (st1 := [iv (if nw x1 = nw x2 then 1 else 0)]) (g1 := g) ?_ (fun J77 => ?_)
              · exact AW.iret rfl (dcN_13 dcg_585 :) ⟨congrArg (fun v => some (iv v)) (show M_both x0 x1 x2  = (if nw x1 = nw x2 then 1 else 0) from (((if_neg c1).trans ((if_neg c2).trans ((if_neg c3).trans ((if_neg c4).trans ((if_neg c5).trans (if_pos c7)))))))).symm, rfl⟩
              refine AW.icmp_ne (tgt := 84) (dcN_9 dcg_585 :) (by decide) (fun c8 => ?_) (fun c8 => ?_)
              · refine AW.iconst (dcN_12 dcg_585 :) ?_
                exact AW.val (if_neg c8) J77
              · refine AW.iconst (dcN_10 dcg_585 :) ?_
                refine AW.goto (tgt := 85) (dcN_11 dcg_585 :) (by decide) ?_
                exact AW.val (if_pos c8) J77
            · by_cases c9 : nw x0 = 16
              · refine AW.tsIn (tgt := 86) 16 dX12_both_1 c9 (by decide) (by decide) (by rfl) (by decide) ?_
                refine AW.iload_n 1 (dcN_14 dcg_585 :) rfl ?_
                refine AW.iload_n 2 (dcN_15 dcg_585 :) rfl ?_
                refine AW.join (tgt := 96) (lv1 := [(0, iv x0), (1, iv x1), (2, iv x2)]) (st1 := [iv (if nw x1 ≤ nw x2 then 0 else 1)]) (g1 := g) ?_ (fun J88 => ?_)
                · exact AW.iret rfl (dcN_0 dcg_586 :) ⟨congrArg (fun v => some (iv v)) (show M_both x0 x1 x2  = (if nw x1 ≤ nw x2 then 0 else 1) from (((if_neg c1).trans ((if_neg c2).trans ((if_neg c3).trans ((if_neg c4).trans ((if_neg c5).trans ((if_neg c7).trans (if_pos c9))))))))).symm, rfl⟩
                refine AW.icmp_le (tgt := 95) (dcN_16 dcg_585 :) (by decide) (fun c10 => ?_) (fun c10 => ?_)
                · refine AW.iconst (dcN_19 dcg_585 :) ?_
                  exact AW.val (if_pos c10) J88
                · refine AW.iconst (dcN_17 dcg_585 :) ?_
                  refine AW.goto (tgt := 96) (dcN_18 dcg_585 :) (by decide) ?_
                  exact AW.val (if_neg c10) J88
              · by_cases c11 : nw x0 = 17
                · refine AW.tsIn (tgt := 101) 17 dX12_both_1 c11 (by decide) (by decide) (by rfl) (by decide) ?_
                  refine AW.iload_n 1 (dcN_5 dcg_586 :) rfl ?_
                  refine AW.iload_n 2 (dcN_6 dcg_586 :) rfl ?_
                  refine AW.ior (dcN_7 dcg_586 :) ?_
                  exact AW.iret rfl (dcN_8 dcg_586 :) ⟨congrArg (fun v => some (iv v)) (show M_both x0 x1 x2  = (orI x1 x2) from (((if_neg c1).trans ((if_neg c2).trans ((if_neg c3).trans ((if_neg c4).trans ((if_neg c5).trans ((if_neg c7).trans ((if_neg c9).trans (if_pos c11)))))))))).symm, rfl⟩
                · by_cases c12 : nw x0 = 18
                  · refine AW.tsIn (tgt := 97) 18 dX12_both_1 c12 (by decide) (by decide) (by rfl) (by decide) ?_
                    refine AW.iload_n 1 (dcN_1 dcg_586 :) rfl ?_
                    refine AW.iload_n 2 (dcN_2 dcg_586 :) rfl ?_
                    refine AW.iand (dcN_3 dcg_586 :) ?_
                    exact AW.iret rfl (dcN_4 dcg_586 :) ⟨congrArg (fun v => some (iv v)) (show M_both x0 x1 x2  = (andI x1 x2) from (((if_neg c1).trans ((if_neg c2).trans ((if_neg c3).trans ((if_neg c4).trans ((if_neg c5).trans ((if_neg c7).trans ((if_neg c9).trans ((if_neg c11).trans (if_pos c12))))))))))).symm, rfl⟩
                  · refine AW.tsOut (tgt := 101) dX12_both_1 (by omega) (by decide) ?_
                    refine AW.iload_n 1 (dcN_5 dcg_586 :) rfl ?_
                    refine AW.iload_n 2 (dcN_6 dcg_586 :) rfl ?_
                    refine AW.ior (dcN_7 dcg_586 :) ?_
                    exact AW.iret rfl (dcN_8 dcg_586 :) ⟨congrArg (fun v => some (iv v)) (show M_both x0 x1 x2  = (orI x1 x2) from (((if_neg c1).trans ((if_neg c2).trans ((if_neg c3).trans ((if_neg c4).trans ((if_neg c5).trans ((if_neg c7).trans ((if_neg c9).trans ((if_neg c11).trans (if_neg c12))))))))))).symm, rfl⟩
set_option synthInstance.maxHeartbeats 2000000 in
theorem M_comesTo_b_ok {z : AZ} {d : Nat} (hdd : 1 ≤ d) {x2 : Int} : ∀ (x3 : Int) (x4 : Int) (g : AG) (r : Int × AG), M_comesTo_b x2 x3 x4 g = some r → AW z (RX12, cX12_comesTo, 7, (some .int)) d (QD (some .int) r) 5 [(0, rv z 117), (2, iv x2), (3, iv x3), (4, iv x4)] [] g := by
  refine M_comesTo_b.partial_correctness x2 (fun x3 x4 g r => AW z (RX12, cX12_comesTo, 7, (some .int)) d (QD (some .int) r) 5 [(0, rv z 117), (2, iv x2), (3, iv x3), (4, iv x4)] [] g) ?_
  intro fb9 ih x3 x4 g r h
  refine AW.iload 3 (dcN_4 dcg_587 :) rfl ?_
  refine AW.iload_n 1 (dcN_5 dcg_587 :) rfl ?_
  refine AW.icmp_ge (tgt := 158) (dcN_6 dcg_587 :) (by decide) (fun c1 => ?_) (fun c1 => ?_)
  · replace h := hT h c1
    refine AW.aloadr_n 0 (dcN_18 dcg_591 :) rfl ?_
    refine AW.getR af_X12_106_117 sr_117_32 (dcN_19 dcg_591 :) ?_
    refine AW.iconst (dcN_0 dcg_592 :) ?_
    refine AW.iald kc_147 sk_147 (by decide) (dcN_1 dcg_592 :) ?_
    exact AW.iret1 rfl (dcN_2 dcg_592 :) h rfl
  · replace h := hF h c1
    refine AW.aloadr_n 0 (dcN_7 dcg_587 :) rfl ?_
    refine AW.getR af_X12_66_117 sr_117_19 (dcN_8 dcg_587 :) ?_
    refine AW.iconst (dcN_9 dcg_587 :) ?_
    refine AW.iload 3 (dcN_10 dcg_587 :) rfl ?_
    refine AW.imul (dcN_11 dcg_587 :) ?_
    obtain ⟨k2, h⟩ := hK h
    refine AW.iald kc_134 sk_134 k2 (dcN_12 dcg_587 :) ?_
    refine AW.istore (lv1 := [(5, iv (g 134 (ix (2 * x4)))), (0, rv z 117), (2, iv x2), (3, iv x3), (4, iv x4)]) (dcN_13 dcg_587 :) (by decide) rfl ?_
    refine AW.aloadr_n 1 (dcN_14 dcg_587 :) rfl ?_
    refine AW.getR af_X12_66_117 sr_117_19 (dcN_15 dcg_587 :) ?_
    refine AW.iconst (dcN_16 dcg_587 :) ?_
    refine AW.iload 4 (dcN_17 dcg_587 :) rfl ?_
    refine AW.imul (dcN_18 dcg_587 :) ?_
    refine AW.iconst (dcN_19 dcg_587 :) ?_
    refine AW.iadd (dcN_20 dcg_587 :) ?_
    obtain ⟨k3, h⟩ := hK h
    refine AW.iald kc_134 sk_134 k3 (dcN_0 dcg_588 :) ?_
    refine AW.istore (lv1 := [(6, iv (g 134 (ix ((2 * x4) + 1)))), (5, iv (g 134 (ix (2 * x4)))), (0, rv z 117), (2, iv x2), (3, iv x3), (4, iv x4)]) (dcN_1 dcg_588 :) (by decide) rfl ?_
    refine AW.iload 1 (dcN_2 dcg_588 :) rfl ?_
    refine AW.bipush (dcN_3 dcg_588 :) (by decide) (by decide) ?_
    obtain ⟨r25, e26, h⟩ := hC h
    refine AW.join (tgt := 152) (lv1 := [(0, rv z 117), (2, iv x2), (3, iv r25.1), (4, iv x4)]) (st1 := []) (g1 := r25.2) ?_ (fun J39 => ?_)
    · refine AW.iinc (lv1 := [(4, iv (x4 + 1)), (0, rv z 117), (2, iv x2), (3, iv r25.1)]) 3 (dcN_16 dcg_591 :) rfl (by decide) rfl ?_
      refine AW.goto (tgt := 5) (dcN_17 dcg_591 :) (by decide) ?_
      refine AW.sub (lv1 := [(0, rv z 117), (2, iv x2), (3, iv r25.1), (4, iv (x4 + 1))]) [1, 2, 3, 0] rfl ?_
      exact ih _ _ _ _ h
    replace h := e26
    refine AW.icmp_ge (tgt := 71) (dcN_4 dcg_588 :) (by decide) (fun c4 => ?_) (fun c4 => ?_)
    · replace h := hT h c4
      refine AW.iload 1 (dcN_3 dcg_589 :) rfl ?_
      refine AW.bipush (dcN_4 dcg_589 :) (by decide) (by decide) ?_
      refine AW.icmp_ne (tgt := 94) (dcN_5 dcg_589 :) (by decide) (fun c5 => ?_) (fun c5 => ?_)
      · replace h := hF h c5
        refine AW.iload 1 (dcN_17 dcg_589 :) rfl ?_
        refine AW.bipush (dcN_0 dcg_590 :) (by decide) (by decide) ?_
        refine AW.icmp_ne (tgt := 122) (dcN_1 dcg_590 :) (by decide) (fun c6 => ?_) (fun c6 => ?_)
        · replace h := hF h c6
          refine AW.iinc (lv1 := [(3, iv (x3 + (-1))), (6, iv (g 134 (ix ((2 * x4) + 1)))), (5, iv (g 134 (ix (2 * x4)))), (0, rv z 117), (2, iv x2), (4, iv x4)]) 4 (dcN_17 dcg_590 :) rfl (by decide) rfl ?_
          refine AW.aloadr_n 3 (dcN_18 dcg_590 :) rfl ?_
          refine AW.getR af_X12_106_117 sr_117_32 (dcN_19 dcg_590 :) ?_
          refine AW.iload_n 0 (dcN_0 dcg_591 :) rfl ?_
          refine AW.iconst (dcN_1 dcg_591 :) ?_
          refine AW.isub (dcN_2 dcg_591 :) ?_
          refine AW.iload 2 (dcN_3 dcg_591 :) rfl ?_
          refine AW.aloadr_n 3 (dcN_4 dcg_591 :) rfl ?_
          refine AW.getR af_X12_106_117 sr_117_32 (dcN_5 dcg_591 :) ?_
          refine AW.iload_n 0 (dcN_6 dcg_591 :) rfl ?_
          refine AW.iconst (dcN_7 dcg_591 :) ?_
          refine AW.isub (dcN_8 dcg_591 :) ?_
          obtain ⟨k7, h⟩ := hK h
          refine AW.iald kc_147 sk_147 k7 (dcN_9 dcg_591 :) ?_
          refine AW.aloadr_n 3 (dcN_10 dcg_591 :) rfl ?_
          refine AW.getR af_X12_106_117 sr_117_32 (dcN_11 dcg_591 :) ?_
          refine AW.iload_n 0 (dcN_12 dcg_591 :) rfl ?_
          obtain ⟨k8, h⟩ := hK h
          refine AW.iald kc_147 sk_147 k8 (dcN_13 dcg_591 :) ?_
          refine AW.callSi (As := [iv (g 134 (ix (2 * x4))), iv (g 147 (ix ((x3 + (-1)) - 1))), iv (g 147 (ix (x3 + (-1))))]) (st := [iv ((x3 + (-1)) - 1), rv z 147]) M_both_ok cq_X12_393 st_X12_both (Nat.le_trans (by decide) hdd) rfl (dcN_14 dcg_591 :) rfl (Nat.le_of_ble_eq_true rfl) ?_
          obtain ⟨g9, e10, h⟩ := hBe h
          refine AW.iast kc_147 sk_147 k7 (dcN_15 dcg_591 :) e10 ?_
          refine AW.sub (lv1 := [(0, rv z 117), (2, iv x2), (3, iv (x3 + (-1))), (4, iv x4)]) [3, 4, 0, 5] rfl ?_
          cases h
          exact J39
        · replace h := hT h c6
          refine AW.aloadr_n 2 (dcN_2 dcg_590 :) rfl ?_
          refine AW.getR af_X12_106_117 sr_117_32 (dcN_3 dcg_590 :) ?_
          refine AW.iload_n 4 (dcN_4 dcg_590 :) rfl ?_
          refine AW.iconst (dcN_5 dcg_590 :) ?_
          refine AW.isub (dcN_6 dcg_590 :) ?_
          refine AW.iconst (dcN_7 dcg_590 :) ?_
          refine AW.aloadr_n 2 (dcN_8 dcg_590 :) rfl ?_
          refine AW.getR af_X12_106_117 sr_117_32 (dcN_9 dcg_590 :) ?_
          refine AW.iload_n 4 (dcN_10 dcg_590 :) rfl ?_
          refine AW.iconst (dcN_11 dcg_590 :) ?_
          refine AW.isub (dcN_12 dcg_590 :) ?_
          obtain ⟨k11, h⟩ := hK h
          refine AW.iald kc_147 sk_147 k11 (dcN_13 dcg_590 :) ?_
          refine AW.isub (dcN_14 dcg_590 :) ?_
          obtain ⟨g12, e13, h⟩ := hBe h
          refine AW.iast kc_147 sk_147 k11 (dcN_15 dcg_590 :) e13 ?_
          refine AW.goto (tgt := 152) (dcN_16 dcg_590 :) (by decide) ?_
          refine AW.sub (lv1 := [(0, rv z 117), (2, iv x2), (3, iv x3), (4, iv x4)]) [2, 3, 4, 5] rfl ?_
          cases h
          exact J39
      · replace h := hT h c5
        refine AW.aloadr_n 2 (dcN_6 dcg_589 :) rfl ?_
        refine AW.getR af_X12_106_117 sr_117_32 (dcN_7 dcg_589 :) ?_
        refine AW.iload_n 4 (dcN_8 dcg_589 :) rfl ?_
        refine AW.iconst (dcN_9 dcg_589 :) ?_
        refine AW.isub (dcN_10 dcg_589 :) ?_
        refine AW.dup2r (dcN_11 dcg_589 :) ?_
        obtain ⟨k14, h⟩ := hK h
        refine AW.iald kc_147 sk_147 k14 (dcN_12 dcg_589 :) ?_
        refine AW.iload 0 (dcN_13 dcg_589 :) rfl ?_
        obtain ⟨k15, h⟩ := hK h
        refine AW.idiv (dcN_14 dcg_589 :) k15 ?_
        obtain ⟨g16, e17, h⟩ := hBe h
        refine AW.iast kc_147 sk_147 k14 (dcN_15 dcg_589 :) e17 ?_
        refine AW.goto (tgt := 152) (dcN_16 dcg_589 :) (by decide) ?_
        refine AW.sub (lv1 := [(0, rv z 117), (2, iv x2), (3, iv x3), (4, iv x4)]) [2, 3, 4, 5] rfl ?_
        cases h
        exact J39
    · replace h := hF h c4
      refine AW.aloadr_n 2 (dcN_5 dcg_588 :) rfl ?_
      refine AW.getR af_X12_106_117 sr_117_32 (dcN_6 dcg_588 :) ?_
      refine AW.iload_n 4 (dcN_7 dcg_588 :) rfl ?_
      refine AW.iload 1 (dcN_8 dcg_588 :) rfl ?_
      obtain ⟨r20, e21, h⟩ := hC h
      refine AW.join (tgt := 64) (lv1 := [(0, rv z 117), (2, iv x2), (3, iv x3), (4, iv x4)]) (st1 := [iv r20.1, iv x3, rv z 147]) (g1 := r20.2) ?_ (fun J49 => ?_)
      · obtain ⟨k22, h⟩ := hK h
        obtain ⟨g23, e24, h⟩ := hBe h
        refine AW.iast kc_147 sk_147 k22 (dcN_0 dcg_589 :) e24 ?_
        refine AW.iinc (lv1 := [(3, iv (x3 + 1)), (0, rv z 117), (2, iv x2), (4, iv x4)]) 2 (dcN_1 dcg_589 :) rfl (by decide) rfl ?_
        refine AW.goto (tgt := 152) (dcN_2 dcg_589 :) (by decide) ?_
        refine AW.sub (lv1 := [(0, rv z 117), (2, iv x2), (3, iv (x3 + 1)), (4, iv x4)]) [1, 2, 0, 3] rfl ?_
        cases h
        exact J39
      replace h := e21
      refine AW.if_ne (tgt := 57) (dcN_9 dcg_588 :) (by decide) (fun c18 => ?_) (fun c18 => ?_)
      · replace h := hF h c18
        refine AW.aloadr_n 2 (dcN_12 dcg_588 :) rfl ?_
        refine AW.getR af_X12_109_117 sr_117_33 (dcN_13 dcg_588 :) ?_
        refine AW.iload 1 (dcN_14 dcg_588 :) rfl ?_
        obtain ⟨k19, h⟩ := hK h
        refine AW.iald kc_148 sk_148 k19 (dcN_15 dcg_588 :) ?_
        refine AW.sub (lv1 := [(0, rv z 117), (2, iv x2), (3, iv x3), (4, iv x4)]) [2, 3, 4, 5] rfl ?_
        cases h
        exact J49
      · replace h := hT h c18
        refine AW.iload 0 (dcN_10 dcg_588 :) rfl ?_
        refine AW.goto (tgt := 64) (dcN_11 dcg_588 :) (by decide) ?_
        refine AW.sub (lv1 := [(0, rv z 117), (2, iv x2), (3, iv x3), (4, iv x4)]) [2, 3, 4, 5] rfl ?_
        cases h
        exact J49
theorem M_comesTo_ok {z : AZ} {x1 : Int} {x2 : Int} {g : AG} {r : Int × AG} (h : M_comesTo x1 x2 g = some r) : AMf z yX12_comesTo cX12_comesTo 7 (some .int) 1 [rv z 117, iv x1, iv x2] g r := by
  intro d hdd
  refine AM.of (by decide +kernel) (Nat.le_of_ble_eq_true rfl) ?_
  show AW z (RX12, cX12_comesTo, 7, (some .int)) d (QD (some .int) r) 0 [(0, rv z 117), (1, iv x1), (2, iv x2)] [] g
  unfold M_comesTo at h
  refine AW.iconst (dcN_0 dcg_587 :) ?_
  refine AW.istore_n (lv1 := [(3, iv 0), (0, rv z 117), (1, iv x1), (2, iv x2)]) (dcN_1 dcg_587 :) (by decide) rfl ?_
  refine AW.iload_n 2 (dcN_2 dcg_587 :) rfl ?_
  refine AW.istore (lv1 := [(4, iv x1), (3, iv 0), (0, rv z 117), (1, iv x1), (2, iv x2)]) (dcN_3 dcg_587 :) (by decide) rfl ?_
  refine AW.sub (lv1 := [(0, rv z 117), (2, iv x2), (3, iv 0), (4, iv x1)]) [2, 4, 1, 0] rfl ?_
  exact M_comesTo_b_ok hdd _ _ _ _ h
set_option synthInstance.maxHeartbeats 2000000 in
theorem M_serves_b_ok {z : AZ} {d : Nat} (hdd : 2 ≤ d) {x1 : Int} : ∀ (tag : Nat) (x2 : Int) (g : AG) (r : Int × AG), M_serves_b x1 tag x2 g = some r → (tag = 1 → AW z (RX12, cX12_serves, 3, (some .int)) d (QD (some .int) r) 2 [(0, rv z 117), (1, iv x1), (2, iv x2)] [] g) ∧ (tag = 2 → AW z (RX12, cX12_serves, 3, (some .int)) d (QD (some .int) r) 57 [(0, rv z 117), (1, iv x1), (2, iv x2)] [] g) := by
  refine M_serves_b.partial_correctness x1 (fun tag x2 g r => (tag = 1 → AW z (RX12, cX12_serves, 3, (some .int)) d (QD (some .int) r) 2 [(0, rv z 117), (1, iv x1), (2, iv x2)] [] g) ∧ (tag = 2 → AW z (RX12, cX12_serves, 3, (some .int)) d (QD (some .int) r) 57 [(0, rv z 117), (1, iv x1), (2, iv x2)] [] g)) ?_
  intro fb9 ih tag x2 g r h
  refine ⟨fun h9 => ?_, fun h9 => ?_⟩
  · subst h9
    replace h := hT h rfl
    refine AW.iload_n 2 (dcN_2 dcg_593 :) rfl ?_
    refine AW.aloadr_n 0 (dcN_3 dcg_593 :) rfl ?_
    refine AW.getI af_X12_390_117 sr_117_34 (dcN_4 dcg_593 :) ?_
    refine AW.icmp_ge (tgt := 63) (dcN_5 dcg_593 :) (by decide) (fun c1 => ?_) (fun c1 => ?_)
    · replace h := hT h c1
      refine AW.iconst (dcN_17 dcg_594 :) ?_
      exact AW.iret1 rfl (dcN_0 dcg_595 :) h rfl
    · replace h := hF h c1
      refine AW.aloadr_n 0 (dcN_6 dcg_593 :) rfl ?_
      refine AW.getR af_X12_48_117 sr_117_13 (dcN_7 dcg_593 :) ?_
      refine AW.iload_n 2 (dcN_8 dcg_593 :) rfl ?_
      obtain ⟨k2, h⟩ := hK h
      refine AW.iald kc_128 sk_128 k2 (dcN_9 dcg_593 :) ?_
      refine AW.iload_n 1 (dcN_10 dcg_593 :) rfl ?_
      refine AW.icmp_ne (tgt := 57) (dcN_11 dcg_593 :) (by decide) (fun c3 => ?_) (fun c3 => ?_)
      · replace h := hF h c3
        exact (ih _ _ _ _ h).2 rfl
      · replace h := hT h c3
        refine AW.aloadr_n 0 (dcN_12 dcg_593 :) rfl ?_
        refine AW.getR af_X12_63_117 sr_117_18 (dcN_13 dcg_593 :) ?_
        refine AW.iload_n 2 (dcN_14 dcg_593 :) rfl ?_
        refine AW.iald kc_133 sk_133 k2 (dcN_15 dcg_593 :) ?_
        refine AW.aloadr_n 0 (dcN_16 dcg_593 :) rfl ?_
        refine AW.getR af_X12_60_117 sr_117_17 (dcN_17 dcg_593 :) ?_
        refine AW.iload_n 2 (dcN_18 dcg_593 :) rfl ?_
        refine AW.iald kc_132 sk_132 k2 (dcN_19 dcg_593 :) ?_
        refine AW.icmp_eq (tgt := 55) (dcN_0 dcg_594 :) (by decide) (fun c4 => ?_) (fun c4 => ?_)
        · replace h := hT h c4
          refine AW.iload_n 2 (dcN_13 dcg_594 :) rfl ?_
          exact AW.iret1 rfl (dcN_14 dcg_594 :) h rfl
        · replace h := hF h c4
          refine AW.aloadr_n 0 (dcN_1 dcg_594 :) rfl ?_
          refine AW.aloadr_n 0 (dcN_2 dcg_594 :) rfl ?_
          refine AW.getR af_X12_60_117 sr_117_17 (dcN_3 dcg_594 :) ?_
          refine AW.iload_n 2 (dcN_4 dcg_594 :) rfl ?_
          refine AW.iald kc_132 sk_132 k2 (dcN_5 dcg_594 :) ?_
          refine AW.aloadr_n 0 (dcN_6 dcg_594 :) rfl ?_
          refine AW.getR af_X12_63_117 sr_117_18 (dcN_7 dcg_594 :) ?_
          refine AW.iload_n 2 (dcN_8 dcg_594 :) rfl ?_
          refine AW.iald kc_133 sk_133 k2 (dcN_9 dcg_594 :) ?_
          obtain ⟨r5, e6, h⟩ := hC h
          refine AW.callVi (As := [iv (g 132 (ix x2)), iv (g 133 (ix x2))]) (st := []) (M_comesTo_ok e6) cq_X12_397 cr_117_X12_comesTo (Nat.le_trans (by decide) hdd) rfl (dcN_10 dcg_594 :) rfl (Nat.le_of_ble_eq_true rfl) ?_
          refine AW.iconst (dcN_11 dcg_594 :) ?_
          refine AW.icmp_ne (tgt := 57) (dcN_12 dcg_594 :) (by decide) (fun c7 => ?_) (fun c7 => ?_)
          · replace h := hF h c7
            exact (ih _ _ _ _ h).2 rfl
          · replace h := hT h c7
            refine AW.iload_n 2 (dcN_13 dcg_594 :) rfl ?_
            exact AW.iret1 rfl (dcN_14 dcg_594 :) h rfl
  · subst h9
    replace h := hF h (by decide)
    replace h := hT h rfl
    refine AW.iinc (lv1 := [(2, iv (x2 + 1)), (0, rv z 117), (1, iv x1)]) 2 (dcN_15 dcg_594 :) rfl (by decide) rfl ?_
    refine AW.goto (tgt := 2) (dcN_16 dcg_594 :) (by decide) ?_
    refine AW.sub (lv1 := [(0, rv z 117), (1, iv x1), (2, iv (x2 + 1))]) [1, 2, 0] rfl ?_
    exact (ih _ _ _ _ h).1 rfl
theorem M_serves_ok {z : AZ} {x1 : Int} {g : AG} {r : Int × AG} (h : M_serves x1 g = some r) : AMf z yX12_serves cX12_serves 3 (some .int) 2 [rv z 117, iv x1] g r := by
  intro d hdd
  refine AM.of (by decide +kernel) (Nat.le_of_ble_eq_true rfl) ?_
  show AW z (RX12, cX12_serves, 3, (some .int)) d (QD (some .int) r) 0 [(0, rv z 117), (1, iv x1)] [] g
  unfold M_serves at h
  refine AW.iconst (dcN_0 dcg_593 :) ?_
  refine AW.istore_n (lv1 := [(2, iv 0), (0, rv z 117), (1, iv x1)]) (dcN_1 dcg_593 :) (by decide) rfl ?_
  refine AW.sub (lv1 := [(0, rv z 117), (1, iv x1), (2, iv 0)]) [1, 2, 0] rfl ?_
  exact (M_serves_b_ok hdd _ _ _ _ h).1 rfl
theorem M_locksLine_ok {z : AZ} {x1 : Int} {g : AG} {r : Int × AG} (h : M_locksLine x1 g = some r) : AMf z yX12_locksLine cX12_locksLine 2 (some .int) 3 [rv z 117, iv x1] g r := by
  intro d hdd
  refine AM.of (by decide +kernel) (Nat.le_of_ble_eq_true rfl) ?_
  show AW z (RX12, cX12_locksLine, 2, (some .int)) d (QD (some .int) r) 0 [(0, rv z 117), (1, iv x1)] [] g
  unfold M_locksLine at h
  refine AW.aloadr_n 0 (dcN_0 dcg_597 :) rfl ?_
  obtain ⟨r1, e2, h⟩ := hC h
  refine AW.callVv (As := []) (st := []) (M_forgets_ok e2) cq_X12_401 cr_117_X12_forgets (Nat.le_trans (by decide) hdd) rfl (dcN_1 dcg_597 :) rfl (Nat.le_of_ble_eq_true rfl) ?_
  refine AW.aloadr_n 0 (dcN_2 dcg_597 :) rfl ?_
  refine AW.getR af_X12_109_117 sr_117_33 (dcN_3 dcg_597 :) ?_
  refine AW.iconst (dcN_4 dcg_597 :) ?_
  refine AW.iload_n 1 (dcN_5 dcg_597 :) rfl ?_
  refine AW.bipush (dcN_6 dcg_597 :) (by decide) (by decide) ?_
  refine AW.irem (dcN_7 dcg_597 :) (by decide) ?_
  obtain ⟨g3, e4, h⟩ := hBe h
  refine AW.iast kc_148 sk_148 (by decide) (dcN_8 dcg_597 :) e4 ?_
  refine AW.aloadr_n 0 (dcN_9 dcg_597 :) rfl ?_
  refine AW.getR af_X12_109_117 sr_117_33 (dcN_10 dcg_597 :) ?_
  refine AW.iconst (dcN_11 dcg_597 :) ?_
  refine AW.iload_n 1 (dcN_0 dcg_598 :) rfl ?_
  refine AW.bipush (dcN_1 dcg_598 :) (by decide) (by decide) ?_
  refine AW.idiv (dcN_2 dcg_598 :) (by decide) ?_
  obtain ⟨g5, e6, h⟩ := hBe h
  refine AW.iast kc_148 sk_148 (by decide) (dcN_3 dcg_598 :) e6 ?_
  refine AW.aloadr_n 0 (dcN_4 dcg_598 :) rfl ?_
  refine AW.getR af_X12_109_117 sr_117_33 (dcN_5 dcg_598 :) ?_
  refine AW.iconst (dcN_6 dcg_598 :) ?_
  refine AW.aloadr_n 0 (dcN_7 dcg_598 :) rfl ?_
  refine AW.getI af_X12_44_117 sr_117_10 (dcN_8 dcg_598 :) ?_
  obtain ⟨g7, e8, h⟩ := hBe h
  refine AW.iast kc_148 sk_148 (by decide) (dcN_9 dcg_598 :) e8 ?_
  refine AW.aloadr_n 0 (dcN_10 dcg_598 :) rfl ?_
  refine AW.iconst (dcN_11 dcg_598 :) ?_
  obtain ⟨r9, e10, h⟩ := hC h
  refine AW.callVi (As := [iv 0]) (st := []) (M_serves_ok e10) cq_X12_404 cr_117_X12_serves (Nat.le_trans (by decide) hdd) rfl (dcN_0 dcg_599 :) rfl (Nat.le_of_ble_eq_true rfl) ?_
  exact AW.iret1 rfl (dcN_1 dcg_599 :) h rfl
theorem M_open_ok {z : AZ} {x1 : Int} {x2 : Int} {g : AG} {r : Int × AG} (h : M_open x1 x2 g = some r) : AMf z yX12_open cX12_open 4 (some .int) 4 [rv z 117, iv x1, iv x2] g r := by
  intro d hdd
  refine AM.of (by decide +kernel) (Nat.le_of_ble_eq_true rfl) ?_
  show AW z (RX12, cX12_open, 4, (some .int)) d (QD (some .int) r) 0 [(0, rv z 117), (1, iv x1), (2, iv x2)] [] g
  unfold M_open at h
  refine AW.iload_n 1 (dcN_0 dcg_600 :) rfl ?_
  refine AW.iconst (dcN_1 dcg_600 :) ?_
  refine AW.bipush (dcN_2 dcg_600 :) (by decide) (by decide) ?_
  refine AW.callSi (As := [iv x1, iv 0, iv 13]) (st := []) M_isIn_ok cq_X12_3 st_X12_isIn (Nat.le_trans (by decide) hdd) rfl (dcN_3 dcg_600 :) rfl (Nat.le_of_ble_eq_true rfl) ?_
  refine AW.if_eq (tgt := 19) (dcN_4 dcg_600 :) (by decide) (fun c1 => ?_) (fun c1 => ?_)
  · replace h := hT h c1
    refine AW.iconst (dcN_10 dcg_600 :) ?_
    exact AW.iret1 rfl (dcN_11 dcg_600 :) h rfl
  · replace h := hF h c1
    refine AW.iload_n 2 (dcN_5 dcg_600 :) rfl ?_
    refine AW.iconst (dcN_6 dcg_600 :) ?_
    refine AW.iconst (dcN_7 dcg_600 :) ?_
    refine AW.callSi (As := [iv x2, iv 0, iv 1]) (st := []) M_isIn_ok cq_X12_3 st_X12_isIn (Nat.le_trans (by decide) hdd) rfl (dcN_8 dcg_600 :) rfl (Nat.le_of_ble_eq_true rfl) ?_
    refine AW.if_ne (tgt := 21) (dcN_9 dcg_600 :) (by decide) (fun c2 => ?_) (fun c2 => ?_)
    · replace h := hF h c2
      refine AW.aloadr_n 0 (dcN_12 dcg_600 :) rfl ?_
      refine AW.iload_n 1 (dcN_13 dcg_600 :) rfl ?_
      obtain ⟨r3, e4, h⟩ := hC h
      refine AW.callVi (As := [iv x1]) (st := []) (M_locksLine_ok e4) cq_X12_407 cr_117_X12_locksLine (Nat.le_trans (by decide) hdd) rfl (dcN_14 dcg_600 :) rfl (Nat.le_of_ble_eq_true rfl) ?_
      refine AW.istore_n (lv1 := [(3, iv r3.1), (0, rv z 117), (1, iv x1), (2, iv x2)]) (dcN_15 dcg_600 :) (by decide) rfl ?_
      refine AW.iload_n 0 (dcN_16 dcg_600 :) rfl ?_
      refine AW.iconst (dcN_17 dcg_600 :) ?_
      obtain ⟨r12, e13, h⟩ := hC h
      refine AW.join (tgt := 64) (lv1 := []) (st1 := [iv r12.1]) (g1 := r12.2) ?_ (fun J29 => ?_)
      · exact AW.iret1 rfl (dcN_0 dcg_602 :) h rfl
      replace h := e13
      refine AW.icmp_ne (tgt := 45) (dcN_18 dcg_600 :) (by decide) (fun c5 => ?_) (fun c5 => ?_)
      · replace h := hF h c5
        refine AW.iload_n 3 (dcN_6 dcg_601 :) rfl ?_
        refine AW.if_ne (tgt := 58) (dcN_7 dcg_601 :) (by decide) (fun c6 => ?_) (fun c6 => ?_)
        · replace h := hF h c6
          refine AW.aloadr_n 1 (dcN_13 dcg_601 :) rfl ?_
          refine AW.getR af_X12_54_117 sr_117_15 (dcN_14 dcg_601 :) ?_
          refine AW.iload_n 0 (dcN_15 dcg_601 :) rfl ?_
          obtain ⟨k7, h⟩ := hK h
          refine AW.iald kc_130 sk_130 k7 (dcN_16 dcg_601 :) ?_
          refine AW.sub (lv1 := []) [] rfl ?_
          cases h
          exact J29
        · replace h := hT h c6
          refine AW.aloadr_n 1 (dcN_8 dcg_601 :) rfl ?_
          refine AW.getR af_X12_51_117 sr_117_14 (dcN_9 dcg_601 :) ?_
          refine AW.iload_n 0 (dcN_10 dcg_601 :) rfl ?_
          obtain ⟨k8, h⟩ := hK h
          refine AW.iald kc_129 sk_129 k8 (dcN_11 dcg_601 :) ?_
          refine AW.goto (tgt := 64) (dcN_12 dcg_601 :) (by decide) ?_
          refine AW.sub (lv1 := []) [] rfl ?_
          cases h
          exact J29
      · replace h := hT h c5
        refine AW.iload_n 3 (dcN_0 dcg_601 :) rfl ?_
        obtain ⟨t9, e10, h⟩ := hBe h
        refine AW.join (tgt := 64) (lv1 := [(3, iv r3.1), (0, rv z 117), (1, iv x1), (2, iv x2)]) (st1 := [iv t9]) (g1 := r3.2) ?_ (fun J33 => ?_)
        · refine AW.sub (lv1 := []) [] rfl ?_
          cases h
          exact J29
        refine AW.if_ne (tgt := 40) (dcN_1 dcg_601 :) (by decide) (fun c11 => ?_) (fun c11 => ?_)
        · refine AW.bipush (dcN_4 dcg_601 :) (by decide) (by decide) ?_
          refine AW.goto (tgt := 64) (dcN_5 dcg_601 :) (by decide) ?_
          exact AW.val (e10.trans (if_neg c11)) J33
        · refine AW.iconst (dcN_2 dcg_601 :) ?_
          refine AW.goto (tgt := 64) (dcN_3 dcg_601 :) (by decide) ?_
          exact AW.val (e10.trans (if_pos c11)) J33
    · replace h := hT h c2
      refine AW.iconst (dcN_10 dcg_600 :) ?_
      exact AW.iret1 rfl (dcN_11 dcg_600 :) h rfl
theorem M_isBoat_ok {z : AZ} {x1 : Int} {g : AG} : AMf z yX12_isBoat cX12_isBoat 2 (some .boolean) 1 [rv z 117, iv x1] g ((M_isBoat x1 g), g) := by
  intro d hdd
  refine AM.of (by decide +kernel) (Nat.le_of_ble_eq_true rfl) ?_
  show AW z (RX12, cX12_isBoat, 2, (some .boolean)) d (QD (some .boolean) ((M_isBoat x1 g), g)) 0 [(0, rv z 117), (1, iv x1)] [] g
  refine AW.iload_n 1 (dcN_0 dcg_496 :) rfl ?_
  refine AW.iconst (dcN_1 dcg_496 :) ?_
  refine AW.aloadr_n 0 (dcN_2 dcg_496 :) rfl ?_
  refine AW.getI af_X12_235_117 sr_117_12 (dcN_3 dcg_496 :) ?_
  refine AW.iconst (dcN_4 dcg_496 :) ?_
  refine AW.isub (dcN_5 dcg_496 :) ?_
  refine AW.callSi (As := [iv x1, iv 0, iv ((g 117 12) - 1)]) (st := []) M_isIn_ok cq_X12_3 st_X12_isIn (Nat.le_trans (by decide) hdd) rfl (dcN_6 dcg_496 :) rfl (Nat.le_of_ble_eq_true rfl) ?_
  exact AW.zret rfl M_isIn_01 (dcN_7 dcg_496 :) ⟨congrArg (fun v => some (iv v)) (show M_isBoat x1 g = (M_isIn x1 0 ((g 117 12) - 1)) from rfl).symm, rfl⟩
theorem M_isTime_ok {z : AZ} {x0 : Int} {g : AG} : AMf z yX12_isTime cX12_isTime 1 (some .boolean) 1 [iv x0] g ((M_isTime x0), g) := by
  intro d hdd
  refine AM.of (by decide +kernel) (Nat.le_of_ble_eq_true rfl) ?_
  show AW z (RX12, cX12_isTime, 1, (some .boolean)) d (QD (some .boolean) ((M_isTime x0), g)) 0 [(0, iv x0)] [] g
  refine AW.iload_n 0 (dcN_0 dcg_468 :) rfl ?_
  refine AW.iconst (dcN_1 dcg_468 :) ?_
  refine AW.sipush (dcN_2 dcg_468 :) (by decide) (by decide) ?_
  refine AW.callSi (As := [iv x0, iv 0, iv 20159]) (st := []) M_isIn_ok cq_X12_3 st_X12_isIn (Nat.le_trans (by decide) hdd) rfl (dcN_3 dcg_468 :) rfl (Nat.le_of_ble_eq_true rfl) ?_
  exact AW.zret rfl M_isIn_01 (dcN_4 dcg_468 :) ⟨congrArg (fun v => some (iv v)) (show M_isTime x0  = (M_isIn x0 0 20159) from rfl).symm, rfl⟩
