theorem M_isIn_ok {z : AZ} {x0 : Int} {x1 : Int} {x2 : Int} {g : AG} : AMf z yX12_isIn cX12_isIn 3 (some .boolean) 0 [iv x0, iv x1, iv x2] g ((M_isIn x0 x1 x2), g) := by
  intro d hdd
  refine AM.of (by decide +kernel) (Nat.le_of_ble_eq_true rfl) ?_
  show AW z (RX12, cX12_isIn, 3, (some .boolean)) d (QD (some .boolean) ((M_isIn x0 x1 x2), g)) 0 [(0, iv x0), (1, iv x1), (2, iv x2)] [] g
  refine AW.iload_n 0 (dcN_0 dcg_466 :) rfl ?_
  refine AW.iload_n 1 (dcN_1 dcg_466 :) rfl ?_
  refine AW.join (tgt := 15) (lv1 := [(0, iv x0), (1, iv x1), (2, iv x2)]) (st1 := [iv (if nw x0 < nw x1 then 0 else (if nw x2 < nw x0 then 0 else 1))]) (g1 := g) ?_ (fun J2 => ?_)
  · exact AW.zret rfl (by (repeat' split) <;> first | exact Or.inl rfl | exact Or.inr rfl) (dcN_9 dcg_466 :) ⟨congrArg (fun v => some (iv v)) (show M_isIn x0 x1 x2  = (if nw x0 < nw x1 then 0 else (if nw x2 < nw x0 then 0 else 1)) from rfl).symm, rfl⟩
  refine AW.icmp_lt (tgt := 14) (dcN_2 dcg_466 :) (by decide) (fun c1 => ?_) (fun c1 => ?_)
  · refine AW.iconst (dcN_8 dcg_466 :) ?_
    exact AW.val (if_pos c1) J2
  · refine AW.iload_n 0 (dcN_3 dcg_466 :) rfl ?_
    refine AW.iload_n 2 (dcN_4 dcg_466 :) rfl ?_
    refine AW.icmp_gt (tgt := 14) (dcN_5 dcg_466 :) (by decide) (fun c2 => ?_) (fun c2 => ?_)
    · refine AW.iconst (dcN_8 dcg_466 :) ?_
      exact AW.val ((if_neg c1).trans (if_pos c2)) J2
    · refine AW.iconst (dcN_6 dcg_466 :) ?_
      refine AW.goto (tgt := 15) (dcN_7 dcg_466 :) (by decide) ?_
      exact AW.val ((if_neg c1).trans (if_neg c2)) J2
theorem M_stretch_ok {z : AZ} {x1 : Int} {x2 : Int} {x3 : Int} {x4 : Int} {g : AG} {r : Int × AG} (h : M_stretch x1 x2 x3 x4 g = some r) : AMf z yX12_stretch cX12_stretch 5 (some .boolean) 1 [rv z 117, iv x1, iv x2, iv x3, iv x4] g r := by
  intro d hdd
  refine AM.of (by decide +kernel) (Nat.le_of_ble_eq_true rfl) ?_
  show AW z (RX12, cX12_stretch, 5, (some .boolean)) d (QD (some .boolean) r) 0 [(0, rv z 117), (1, iv x1), (2, iv x2), (3, iv x3), (4, iv x4)] [] g
  unfold M_stretch at h
  refine AW.iload_n 1 (dcN_0 dcg_488 :) rfl ?_
  refine AW.iconst (dcN_1 dcg_488 :) ?_
  refine AW.bipush (dcN_2 dcg_488 :) (by decide) (by decide) ?_
  refine AW.callSi (As := [iv x1, iv 0, iv 14]) (st := []) M_isIn_ok cq_X12_3 st_X12_isIn (Nat.le_trans (by decide) hdd) rfl (dcN_3 dcg_488 :) rfl (Nat.le_of_ble_eq_true rfl) ?_
  refine AW.if_eq (tgt := 41) (dcN_4 dcg_488 :) (by decide) (fun c1 => ?_) (fun c1 => ?_)
  · replace h := hT h c1
    refine AW.iconst (dcN_4 dcg_489 :) ?_
    exact AW.zret1 rfl (Or.inl rfl) (dcN_5 dcg_489 :) h rfl
  · replace h := hF h c1
    refine AW.iload_n 2 (dcN_5 dcg_488 :) rfl ?_
    refine AW.iconst (dcN_6 dcg_488 :) ?_
    refine AW.bipush (dcN_7 dcg_488 :) (by decide) (by decide) ?_
    refine AW.callSi (As := [iv x2, iv 0, iv 9]) (st := []) M_isIn_ok cq_X12_3 st_X12_isIn (Nat.le_trans (by decide) hdd) rfl (dcN_8 dcg_488 :) rfl (Nat.le_of_ble_eq_true rfl) ?_
    refine AW.if_eq (tgt := 41) (dcN_9 dcg_488 :) (by decide) (fun c2 => ?_) (fun c2 => ?_)
    · replace h := hT h c2
      refine AW.iconst (dcN_4 dcg_489 :) ?_
      exact AW.zret1 rfl (Or.inl rfl) (dcN_5 dcg_489 :) h rfl
    · replace h := hF h c2
      refine AW.iload_n 3 (dcN_10 dcg_488 :) rfl ?_
      refine AW.iconst (dcN_11 dcg_488 :) ?_
      refine AW.bipush (dcN_12 dcg_488 :) (by decide) (by decide) ?_
      refine AW.callSi (As := [iv x3, iv 0, iv 9]) (st := []) M_isIn_ok cq_X12_3 st_X12_isIn (Nat.le_trans (by decide) hdd) rfl (dcN_13 dcg_488 :) rfl (Nat.le_of_ble_eq_true rfl) ?_
      refine AW.if_eq (tgt := 41) (dcN_14 dcg_488 :) (by decide) (fun c3 => ?_) (fun c3 => ?_)
      · replace h := hT h c3
        refine AW.iconst (dcN_4 dcg_489 :) ?_
        exact AW.zret1 rfl (Or.inl rfl) (dcN_5 dcg_489 :) h rfl
      · replace h := hF h c3
        refine AW.iload 4 (dcN_15 dcg_488 :) rfl ?_
        refine AW.iconst (dcN_0 dcg_489 :) ?_
        refine AW.bipush (dcN_1 dcg_489 :) (by decide) (by decide) ?_
        refine AW.callSi (As := [iv x4, iv 1, iv 99]) (st := []) M_isIn_ok cq_X12_3 st_X12_isIn (Nat.le_trans (by decide) hdd) rfl (dcN_2 dcg_489 :) rfl (Nat.le_of_ble_eq_true rfl) ?_
        refine AW.if_ne (tgt := 43) (dcN_3 dcg_489 :) (by decide) (fun c4 => ?_) (fun c4 => ?_)
        · replace h := hF h c4
          refine AW.aloadr_n 0 (dcN_6 dcg_489 :) rfl ?_
          refine AW.getR af_X12_13_117 sr_117_0 (dcN_7 dcg_489 :) ?_
          refine AW.iload_n 1 (dcN_8 dcg_489 :) rfl ?_
          refine AW.iload_n 2 (dcN_9 dcg_489 :) rfl ?_
          obtain ⟨k5, h⟩ := hK h
          obtain ⟨g6, e7, h⟩ := hBe h
          refine AW.iast kc_118 sk_118 k5 (dcN_10 dcg_489 :) e7 ?_
          refine AW.aloadr_n 0 (dcN_11 dcg_489 :) rfl ?_
          refine AW.getR af_X12_17_117 sr_117_1 (dcN_12 dcg_489 :) ?_
          refine AW.iload_n 1 (dcN_13 dcg_489 :) rfl ?_
          refine AW.iload_n 3 (dcN_14 dcg_489 :) rfl ?_
          obtain ⟨g8, e9, h⟩ := hBe h
          refine AW.iast kc_119 sk_119 k5 (dcN_15 dcg_489 :) e9 ?_
          refine AW.aloadr_n 0 (dcN_16 dcg_489 :) rfl ?_
          refine AW.getR af_X12_20_117 sr_117_2 (dcN_17 dcg_489 :) ?_
          refine AW.iload_n 1 (dcN_18 dcg_489 :) rfl ?_
          refine AW.iload 4 (dcN_19 dcg_489 :) rfl ?_
          obtain ⟨g10, e11, h⟩ := hBe h
          refine AW.iast kc_120 sk_120 k5 (dcN_0 dcg_490 :) e11 ?_
          refine AW.iconst (dcN_1 dcg_490 :) ?_
          exact AW.zret1 rfl (Or.inr rfl) (dcN_2 dcg_490 :) h rfl
        · replace h := hT h c4
          refine AW.iconst (dcN_4 dcg_489 :) ?_
          exact AW.zret1 rfl (Or.inl rfl) (dcN_5 dcg_489 :) h rfl
theorem M_water_ok {z : AZ} {x1 : Int} {g : AG} {r : Int × AG} (h : M_water x1 g = some r) : AMf z yX12_water cX12_water 2 (some .boolean) 1 [rv z 117, iv x1] g r := by
  intro d hdd
  refine AM.of (by decide +kernel) (Nat.le_of_ble_eq_true rfl) ?_
  show AW z (RX12, cX12_water, 2, (some .boolean)) d (QD (some .boolean) r) 0 [(0, rv z 117), (1, iv x1)] [] g
  unfold M_water at h
  refine AW.iload_n 1 (dcN_0 dcg_491 :) rfl ?_
  refine AW.iconst (dcN_1 dcg_491 :) ?_
  refine AW.sipush (dcN_2 dcg_491 :) (by decide) (by decide) ?_
  refine AW.callSi (As := [iv x1, iv 0, iv 999]) (st := []) M_isIn_ok cq_X12_3 st_X12_isIn (Nat.le_trans (by decide) hdd) rfl (dcN_3 dcg_491 :) rfl (Nat.le_of_ble_eq_true rfl) ?_
  refine AW.if_ne (tgt := 13) (dcN_4 dcg_491 :) (by decide) (fun c1 => ?_) (fun c1 => ?_)
  · replace h := hF h c1
    refine AW.aloadr_n 0 (dcN_7 dcg_491 :) rfl ?_
    refine AW.iload_n 1 (dcN_8 dcg_491 :) rfl ?_
    obtain ⟨g2, e3, h⟩ := hBe h
    refine AW.putI ap_X12_44_117 sr_117_10 (dcN_9 dcg_491 :) e3 ?_
    refine AW.iconst (dcN_10 dcg_491 :) ?_
    exact AW.zret1 rfl (Or.inr rfl) (dcN_11 dcg_491 :) h rfl
  · replace h := hT h c1
    refine AW.iconst (dcN_5 dcg_491 :) ?_
    exact AW.zret1 rfl (Or.inl rfl) (dcN_6 dcg_491 :) h rfl
theorem M_stoppage_ok {z : AZ} {x1 : Int} {x2 : Int} {x3 : Int} {g : AG} {r : Int × AG} (h : M_stoppage x1 x2 x3 g = some r) : AMf z yX12_stoppage cX12_stoppage 4 (some .int) 1 [rv z 117, iv x1, iv x2, iv x3] g r := by
  intro d hdd
  refine AM.of (by decide +kernel) (Nat.le_of_ble_eq_true rfl) ?_
  show AW z (RX12, cX12_stoppage, 4, (some .int)) d (QD (some .int) r) 0 [(0, rv z 117), (1, iv x1), (2, iv x2), (3, iv x3)] [] g
  unfold M_stoppage at h
  refine AW.iload_n 1 (dcN_0 dcg_492 :) rfl ?_
  refine AW.iconst (dcN_1 dcg_492 :) ?_
  refine AW.icmp_ne (tgt := 12) (dcN_2 dcg_492 :) (by decide) (fun c1 => ?_) (fun c1 => ?_)
  · replace h := hF h c1
    refine AW.iload_n 1 (dcN_8 dcg_492 :) rfl ?_
    refine AW.iconst (dcN_9 dcg_492 :) ?_
    refine AW.bipush (dcN_10 dcg_492 :) (by decide) (by decide) ?_
    refine AW.callSi (As := [iv x1, iv 0, iv 14]) (st := []) M_isIn_ok cq_X12_3 st_X12_isIn (Nat.le_trans (by decide) hdd) rfl (dcN_11 dcg_492 :) rfl (Nat.le_of_ble_eq_true rfl) ?_
    refine AW.if_eq (tgt := 51) (dcN_12 dcg_492 :) (by decide) (fun c2 => ?_) (fun c2 => ?_)
    · replace h := hT h c2
      refine AW.iconst (dcN_9 dcg_493 :) ?_
      exact AW.iret1 rfl (dcN_10 dcg_493 :) h rfl
    · replace h := hF h c2
      refine AW.iload_n 2 (dcN_13 dcg_492 :) rfl ?_
      refine AW.iconst (dcN_14 dcg_492 :) ?_
      refine AW.bipush (dcN_15 dcg_492 :) (by decide) (by decide) ?_
      refine AW.callSi (As := [iv x2, iv 0, iv 13]) (st := []) M_isIn_ok cq_X12_3 st_X12_isIn (Nat.le_trans (by decide) hdd) rfl (dcN_16 dcg_492 :) rfl (Nat.le_of_ble_eq_true rfl) ?_
      refine AW.if_eq (tgt := 51) (dcN_17 dcg_492 :) (by decide) (fun c3 => ?_) (fun c3 => ?_)
      · replace h := hT h c3
        refine AW.iconst (dcN_9 dcg_493 :) ?_
        exact AW.iret1 rfl (dcN_10 dcg_493 :) h rfl
      · replace h := hF h c3
        refine AW.iload_n 3 (dcN_0 dcg_493 :) rfl ?_
        refine AW.iload_n 2 (dcN_1 dcg_493 :) rfl ?_
        refine AW.bipush (dcN_2 dcg_493 :) (by decide) (by decide) ?_
        refine AW.callSi (As := [iv x3, iv x2, iv 13]) (st := []) M_isIn_ok cq_X12_3 st_X12_isIn (Nat.le_trans (by decide) hdd) rfl (dcN_3 dcg_493 :) rfl (Nat.le_of_ble_eq_true rfl) ?_
        refine AW.if_eq (tgt := 51) (dcN_4 dcg_493 :) (by decide) (fun c4 => ?_) (fun c4 => ?_)
        · replace h := hT h c4
          refine AW.iconst (dcN_9 dcg_493 :) ?_
          exact AW.iret1 rfl (dcN_10 dcg_493 :) h rfl
        · replace h := hF h c4
          refine AW.aloadr_n 0 (dcN_5 dcg_493 :) rfl ?_
          refine AW.getI af_X12_232_117 sr_117_11 (dcN_6 dcg_493 :) ?_
          refine AW.bipush (dcN_7 dcg_493 :) (by decide) (by decide) ?_
          refine AW.icmp_ne (tgt := 53) (dcN_8 dcg_493 :) (by decide) (fun c5 => ?_) (fun c5 => ?_)
          · replace h := hF h c5
            refine AW.aloadr_n 0 (dcN_11 dcg_493 :) rfl ?_
            refine AW.getR af_X12_23_117 sr_117_3 (dcN_12 dcg_493 :) ?_
            refine AW.aloadr_n 0 (dcN_13 dcg_493 :) rfl ?_
            refine AW.getI af_X12_232_117 sr_117_11 (dcN_14 dcg_493 :) ?_
            refine AW.iload_n 1 (dcN_15 dcg_493 :) rfl ?_
            obtain ⟨k6, h⟩ := hK h
            obtain ⟨g7, e8, h⟩ := hBe h
            refine AW.iast kc_121 sk_121 k6 (dcN_16 dcg_493 :) e8 ?_
            refine AW.aloadr_n 0 (dcN_17 dcg_493 :) rfl ?_
            refine AW.getR af_X12_26_117 sr_117_4 (dcN_0 dcg_494 :) ?_
            refine AW.aloadr_n 0 (dcN_1 dcg_494 :) rfl ?_
            refine AW.getI af_X12_232_117 sr_117_11 (dcN_2 dcg_494 :) ?_
            refine AW.iload_n 2 (dcN_3 dcg_494 :) rfl ?_
            obtain ⟨k9, h⟩ := hK h
            obtain ⟨g10, e11, h⟩ := hBe h
            refine AW.iast kc_122 sk_122 k9 (dcN_4 dcg_494 :) e11 ?_
            refine AW.aloadr_n 0 (dcN_5 dcg_494 :) rfl ?_
            refine AW.getR af_X12_29_117 sr_117_5 (dcN_6 dcg_494 :) ?_
            refine AW.aloadr_n 0 (dcN_7 dcg_494 :) rfl ?_
            refine AW.getI af_X12_232_117 sr_117_11 (dcN_8 dcg_494 :) ?_
            refine AW.iload_n 3 (dcN_9 dcg_494 :) rfl ?_
            obtain ⟨k12, h⟩ := hK h
            obtain ⟨g13, e14, h⟩ := hBe h
            refine AW.iast kc_123 sk_123 k12 (dcN_10 dcg_494 :) e14 ?_
            refine AW.aloadr_n 0 (dcN_11 dcg_494 :) rfl ?_
            refine AW.duprr (dcN_12 dcg_494 :) ?_
            refine AW.getI af_X12_232_117 sr_117_11 (dcN_13 dcg_494 :) ?_
            refine AW.iconst (dcN_14 dcg_494 :) ?_
            refine AW.iadd (dcN_15 dcg_494 :) ?_
            obtain ⟨g15, e16, h⟩ := hBe h
            refine AW.putI ap_X12_232_117 sr_117_11 (dcN_16 dcg_494 :) e16 ?_
            refine AW.aloadr_n 0 (dcN_17 dcg_494 :) rfl ?_
            refine AW.getI af_X12_232_117 sr_117_11 (dcN_18 dcg_494 :) ?_
            exact AW.iret1 rfl (dcN_0 dcg_495 :) h rfl
          · replace h := hT h c5
            refine AW.iconst (dcN_9 dcg_493 :) ?_
            exact AW.iret1 rfl (dcN_10 dcg_493 :) h rfl
  · replace h := hT h c1
    refine AW.aloadr_n 0 (dcN_3 dcg_492 :) rfl ?_
    refine AW.iconst (dcN_4 dcg_492 :) ?_
    obtain ⟨g17, e18, h⟩ := hBe h
    refine AW.putI ap_X12_232_117 sr_117_11 (dcN_5 dcg_492 :) e18 ?_
    refine AW.iconst (dcN_6 dcg_492 :) ?_
    exact AW.iret1 rfl (dcN_7 dcg_492 :) h rfl
theorem M_isPoint_ok {z : AZ} {x0 : Int} {g : AG} : AMf z yX12_isPoint cX12_isPoint 1 (some .boolean) 1 [iv x0] g ((M_isPoint x0), g) := by
  intro d hdd
  refine AM.of (by decide +kernel) (Nat.le_of_ble_eq_true rfl) ?_
  show AW z (RX12, cX12_isPoint, 1, (some .boolean)) d (QD (some .boolean) ((M_isPoint x0), g)) 0 [(0, iv x0)] [] g
  refine AW.iload_n 0 (dcN_0 dcg_467 :) rfl ?_
  refine AW.iconst (dcN_1 dcg_467 :) ?_
  refine AW.bipush (dcN_2 dcg_467 :) (by decide) (by decide) ?_
  refine AW.callSi (As := [iv x0, iv 0, iv 15]) (st := []) M_isIn_ok cq_X12_3 st_X12_isIn (Nat.le_trans (by decide) hdd) rfl (dcN_3 dcg_467 :) rfl (Nat.le_of_ble_eq_true rfl) ?_
  exact AW.zret rfl M_isIn_01 (dcN_4 dcg_467 :) ⟨congrArg (fun v => some (iv v)) (show M_isPoint x0  = (M_isIn x0 0 15) from rfl).symm, rfl⟩
theorem M_boat_ok {z : AZ} {x1 : Int} {x2 : Int} {x3 : Int} {x4 : Int} {g : AG} {r : Int × AG} (h : M_boat x1 x2 x3 x4 g = some r) : AMf z yX12_boat cX12_boat 5 (some .int) 2 [rv z 117, iv x1, iv x2, iv x3, iv x4] g r := by
  intro d hdd
  refine AM.of (by decide +kernel) (Nat.le_of_ble_eq_true rfl) ?_
  show AW z (RX12, cX12_boat, 5, (some .int)) d (QD (some .int) r) 0 [(0, rv z 117), (1, iv x1), (2, iv x2), (3, iv x3), (4, iv x4)] [] g
  unfold M_boat at h
  refine AW.iload_n 1 (dcN_0 dcg_497 :) rfl ?_
  refine AW.iconst (dcN_1 dcg_497 :) ?_
  refine AW.bipush (dcN_2 dcg_497 :) (by decide) (by decide) ?_
  refine AW.callSi (As := [iv x1, iv 2, iv 12]) (st := []) M_isIn_ok cq_X12_3 st_X12_isIn (Nat.le_trans (by decide) hdd) rfl (dcN_3 dcg_497 :) rfl (Nat.le_of_ble_eq_true rfl) ?_
  refine AW.if_eq (tgt := 47) (dcN_4 dcg_497 :) (by decide) (fun c1 => ?_) (fun c1 => ?_)
  · replace h := hT h c1
    refine AW.iconst (dcN_6 dcg_498 :) ?_
    exact AW.iret1 rfl (dcN_7 dcg_498 :) h rfl
  · replace h := hF h c1
    refine AW.iload_n 2 (dcN_5 dcg_497 :) rfl ?_
    refine AW.iconst (dcN_6 dcg_497 :) ?_
    refine AW.bipush (dcN_7 dcg_497 :) (by decide) (by decide) ?_
    refine AW.callSi (As := [iv x2, iv 0, iv 99]) (st := []) M_isIn_ok cq_X12_3 st_X12_isIn (Nat.le_trans (by decide) hdd) rfl (dcN_8 dcg_497 :) rfl (Nat.le_of_ble_eq_true rfl) ?_
    refine AW.if_eq (tgt := 47) (dcN_9 dcg_497 :) (by decide) (fun c2 => ?_) (fun c2 => ?_)
    · replace h := hT h c2
      refine AW.iconst (dcN_6 dcg_498 :) ?_
      exact AW.iret1 rfl (dcN_7 dcg_498 :) h rfl
    · replace h := hF h c2
      refine AW.iload_n 3 (dcN_10 dcg_497 :) rfl ?_
      refine AW.callSi (As := [iv x3]) (st := []) M_isPoint_ok cq_X12_238 st_X12_isPoint (Nat.le_trans (by decide) hdd) rfl (dcN_11 dcg_497 :) rfl (Nat.le_of_ble_eq_true rfl) ?_
      refine AW.if_eq (tgt := 47) (dcN_12 dcg_497 :) (by decide) (fun c3 => ?_) (fun c3 => ?_)
      · replace h := hT h c3
        refine AW.iconst (dcN_6 dcg_498 :) ?_
        exact AW.iret1 rfl (dcN_7 dcg_498 :) h rfl
      · replace h := hF h c3
        refine AW.iload 4 (dcN_13 dcg_497 :) rfl ?_
        refine AW.iconst (dcN_14 dcg_497 :) ?_
        refine AW.bipush (dcN_15 dcg_497 :) (by decide) (by decide) ?_
        refine AW.callSi (As := [iv x4, iv 0, iv 60]) (st := []) M_isIn_ok cq_X12_3 st_X12_isIn (Nat.le_trans (by decide) hdd) rfl (dcN_0 dcg_498 :) rfl (Nat.le_of_ble_eq_true rfl) ?_
        refine AW.if_eq (tgt := 47) (dcN_1 dcg_498 :) (by decide) (fun c4 => ?_) (fun c4 => ?_)
        · replace h := hT h c4
          refine AW.iconst (dcN_6 dcg_498 :) ?_
          exact AW.iret1 rfl (dcN_7 dcg_498 :) h rfl
        · replace h := hF h c4
          refine AW.aloadr_n 0 (dcN_2 dcg_498 :) rfl ?_
          refine AW.getI af_X12_235_117 sr_117_12 (dcN_3 dcg_498 :) ?_
          refine AW.bipush (dcN_4 dcg_498 :) (by decide) (by decide) ?_
          refine AW.icmp_ne (tgt := 49) (dcN_5 dcg_498 :) (by decide) (fun c5 => ?_) (fun c5 => ?_)
          · replace h := hF h c5
            refine AW.aloadr_n 0 (dcN_8 dcg_498 :) rfl ?_
            refine AW.getR af_X12_32_117 sr_117_6 (dcN_9 dcg_498 :) ?_
            refine AW.aloadr_n 0 (dcN_10 dcg_498 :) rfl ?_
            refine AW.getI af_X12_235_117 sr_117_12 (dcN_11 dcg_498 :) ?_
            refine AW.iload_n 1 (dcN_12 dcg_498 :) rfl ?_
            obtain ⟨k6, h⟩ := hK h
            obtain ⟨g7, e8, h⟩ := hBe h
            refine AW.iast kc_124 sk_124 k6 (dcN_13 dcg_498 :) e8 ?_
            refine AW.aloadr_n 0 (dcN_14 dcg_498 :) rfl ?_
            refine AW.getR af_X12_35_117 sr_117_7 (dcN_15 dcg_498 :) ?_
            refine AW.aloadr_n 0 (dcN_16 dcg_498 :) rfl ?_
            refine AW.getI af_X12_235_117 sr_117_12 (dcN_0 dcg_499 :) ?_
            refine AW.iload_n 2 (dcN_1 dcg_499 :) rfl ?_
            obtain ⟨k9, h⟩ := hK h
            obtain ⟨g10, e11, h⟩ := hBe h
            refine AW.iast kc_125 sk_125 k9 (dcN_2 dcg_499 :) e11 ?_
            refine AW.aloadr_n 0 (dcN_3 dcg_499 :) rfl ?_
            refine AW.getR af_X12_38_117 sr_117_8 (dcN_4 dcg_499 :) ?_
            refine AW.aloadr_n 0 (dcN_5 dcg_499 :) rfl ?_
            refine AW.getI af_X12_235_117 sr_117_12 (dcN_6 dcg_499 :) ?_
            refine AW.iload_n 3 (dcN_7 dcg_499 :) rfl ?_
            obtain ⟨k12, h⟩ := hK h
            obtain ⟨g13, e14, h⟩ := hBe h
            refine AW.iast kc_126 sk_126 k12 (dcN_8 dcg_499 :) e14 ?_
            refine AW.aloadr_n 0 (dcN_9 dcg_499 :) rfl ?_
            refine AW.getR af_X12_41_117 sr_117_9 (dcN_10 dcg_499 :) ?_
            refine AW.aloadr_n 0 (dcN_11 dcg_499 :) rfl ?_
            refine AW.getI af_X12_235_117 sr_117_12 (dcN_12 dcg_499 :) ?_
            refine AW.iload 4 (dcN_13 dcg_499 :) rfl ?_
            obtain ⟨k15, h⟩ := hK h
            obtain ⟨g16, e17, h⟩ := hBe h
            refine AW.iast kc_127 sk_127 k15 (dcN_14 dcg_499 :) e17 ?_
            refine AW.aloadr_n 0 (dcN_15 dcg_499 :) rfl ?_
            refine AW.duprr (dcN_16 dcg_499 :) ?_
            refine AW.getI af_X12_235_117 sr_117_12 (dcN_17 dcg_499 :) ?_
            refine AW.iconst (dcN_18 dcg_499 :) ?_
            refine AW.iadd (dcN_0 dcg_500 :) ?_
            obtain ⟨g18, e19, h⟩ := hBe h
            refine AW.putI ap_X12_235_117 sr_117_12 (dcN_1 dcg_500 :) e19 ?_
            refine AW.aloadr_n 0 (dcN_2 dcg_500 :) rfl ?_
            refine AW.getI af_X12_235_117 sr_117_12 (dcN_3 dcg_500 :) ?_
            refine AW.iconst (dcN_4 dcg_500 :) ?_
            refine AW.isub (dcN_5 dcg_500 :) ?_
            exact AW.iret1 rfl (dcN_6 dcg_500 :) h rfl
          · replace h := hT h c5
            refine AW.iconst (dcN_6 dcg_498 :) ?_
            exact AW.iret1 rfl (dcN_7 dcg_498 :) h rfl
set_option synthInstance.maxHeartbeats 2000000 in
theorem M_feed_b_ok {z : AZ} {d : Nat} (hdd : 0 ≤ d) {x1 : Int} {x2 : Int} {x3 : Int} {x4 : Int} {x5 : Int} : ∀ (x6 : Int) (g : AG) (r : Int × AG), M_feed_b x1 x2 x3 x4 x5 x6 g = some r → AW z (RX12, cX12_feed, 8, (some .int)) d (QD (some .int) r) 18 [(0, rv z 117), (1, iv x1), (2, iv x2), (3, iv x3), (4, iv x4), (5, iv x5), (6, iv x6)] [] g := by
  refine M_feed_b.partial_correctness x1 x2 x3 x4 x5 (fun x6 g r => AW z (RX12, cX12_feed, 8, (some .int)) d (QD (some .int) r) 18 [(0, rv z 117), (1, iv x1), (2, iv x2), (3, iv x3), (4, iv x4), (5, iv x5), (6, iv x6)] [] g) ?_
  intro fb9 ih x6 g r h
  refine AW.iload 6 (dcN_10 dcg_501 :) rfl ?_
  refine AW.bipush (dcN_11 dcg_501 :) (by decide) (by decide) ?_
  refine AW.icmp_ge (tgt := 115) (dcN_12 dcg_501 :) (by decide) (fun c1 => ?_) (fun c1 => ?_)
  · replace h := hT h c1
    refine AW.aloadr_n 0 (dcN_10 dcg_504 :) rfl ?_
    refine AW.getI af_X12_242_117 sr_117_37 (dcN_11 dcg_504 :) ?_
    exact AW.iret1 rfl (dcN_12 dcg_504 :) h rfl
  · replace h := hF h c1
    refine AW.iload 6 (dcN_13 dcg_501 :) rfl ?_
    refine AW.iconst (dcN_14 dcg_501 :) ?_
    obtain ⟨t2, e3, h⟩ := hBe h
    refine AW.join (tgt := 71) (lv1 := [(0, rv z 117), (1, iv x1), (2, iv x2), (3, iv x3), (4, iv x4), (5, iv x5), (6, iv x6)]) (st1 := [iv t2]) (g1 := g) ?_ (fun J28 => ?_)
    · refine AW.istore (lv1 := [(7, iv t2), (0, rv z 117), (1, iv x1), (2, iv x2), (3, iv x3), (4, iv x4), (5, iv x5), (6, iv x6)]) (dcN_3 dcg_503 :) (by decide) rfl ?_
      refine AW.aloadr_n 1 (dcN_4 dcg_503 :) rfl ?_
      refine AW.getR af_X12_103_117 sr_117_31 (dcN_5 dcg_503 :) ?_
      refine AW.aloadr_n 1 (dcN_6 dcg_503 :) rfl ?_
      refine AW.getI af_X12_242_117 sr_117_37 (dcN_7 dcg_503 :) ?_
      refine AW.iload 0 (dcN_8 dcg_503 :) rfl ?_
      refine AW.bipush (dcN_9 dcg_503 :) (by decide) (by decide) ?_
      refine AW.bipush (dcN_10 dcg_503 :) (by decide) (by decide) ?_
      refine AW.iload 7 (dcN_11 dcg_503 :) rfl ?_
      refine AW.iconst (dcN_12 dcg_503 :) ?_
      refine AW.irem (dcN_13 dcg_503 :) (by decide) ?_
      refine AW.imul (dcN_14 dcg_503 :) ?_
      refine AW.isub (dcN_15 dcg_503 :) ?_
      refine AW.ishr (dcN_16 dcg_503 :) ?_
      refine AW.sipush (dcN_17 dcg_503 :) (by decide) (by decide) ?_
      refine AW.iand (dcN_0 dcg_504 :) ?_
      obtain ⟨k4, h⟩ := hK h
      obtain ⟨g5, e6, h⟩ := hBe h
      refine AW.iast kc_146 sk_146 k4 (dcN_1 dcg_504 :) e6 ?_
      refine AW.aloadr_n 1 (dcN_2 dcg_504 :) rfl ?_
      refine AW.duprr (dcN_3 dcg_504 :) ?_
      refine AW.getI af_X12_242_117 sr_117_37 (dcN_4 dcg_504 :) ?_
      refine AW.iconst (dcN_5 dcg_504 :) ?_
      refine AW.iadd (dcN_6 dcg_504 :) ?_
      obtain ⟨g7, e8, h⟩ := hBe h
      refine AW.putI ap_X12_242_117 sr_117_37 (dcN_7 dcg_504 :) e8 ?_
      refine AW.iinc (lv1 := [(6, iv (x6 + 1)), (7, iv t2), (0, rv z 117), (1, iv x1), (2, iv x2), (3, iv x3), (4, iv x4), (5, iv x5)]) 7 (dcN_8 dcg_504 :) rfl (by decide) rfl ?_
      refine AW.goto (tgt := 18) (dcN_9 dcg_504 :) (by decide) ?_
      refine AW.sub (lv1 := [(0, rv z 117), (1, iv x1), (2, iv x2), (3, iv x3), (4, iv x4), (5, iv x5), (6, iv (x6 + 1))]) [2, 3, 4, 5, 6, 7, 0] rfl ?_
      exact ih _ _ _ h
    refine AW.icmp_ge (tgt := 35) (dcN_15 dcg_501 :) (by decide) (fun c9 => ?_) (fun c9 => ?_)
    · refine AW.iload 6 (dcN_1 dcg_502 :) rfl ?_
      refine AW.bipush (dcN_2 dcg_502 :) (by decide) (by decide) ?_
      refine AW.icmp_ge (tgt := 46) (dcN_3 dcg_502 :) (by decide) (fun c10 => ?_) (fun c10 => ?_)
      · refine AW.iload 6 (dcN_6 dcg_502 :) rfl ?_
        refine AW.bipush (dcN_7 dcg_502 :) (by decide) (by decide) ?_
        refine AW.icmp_ge (tgt := 57) (dcN_8 dcg_502 :) (by decide) (fun c11 => ?_) (fun c11 => ?_)
        · refine AW.iload 6 (dcN_11 dcg_502 :) rfl ?_
          refine AW.bipush (dcN_12 dcg_502 :) (by decide) (by decide) ?_
          refine AW.icmp_ge (tgt := 69) (dcN_13 dcg_502 :) (by decide) (fun c12 => ?_) (fun c12 => ?_)
          · refine AW.iload 5 (dcN_2 dcg_503 :) rfl ?_
            exact AW.val (e3.trans ((if_pos c9).trans ((if_pos c10).trans ((if_pos c11).trans (if_pos c12))))) J28
          · refine AW.iload 4 (dcN_0 dcg_503 :) rfl ?_
            refine AW.goto (tgt := 71) (dcN_1 dcg_503 :) (by decide) ?_
            exact AW.val (e3.trans ((if_pos c9).trans ((if_pos c10).trans ((if_pos c11).trans (if_neg c12))))) J28
        · refine AW.iload_n 3 (dcN_9 dcg_502 :) rfl ?_
          refine AW.goto (tgt := 71) (dcN_10 dcg_502 :) (by decide) ?_
          exact AW.val (e3.trans ((if_pos c9).trans ((if_pos c10).trans (if_neg c11)))) J28
      · refine AW.iload_n 2 (dcN_4 dcg_502 :) rfl ?_
        refine AW.goto (tgt := 71) (dcN_5 dcg_502 :) (by decide) ?_
        exact AW.val (e3.trans ((if_pos c9).trans (if_neg c10))) J28
    · refine AW.iload_n 1 (dcN_16 dcg_501 :) rfl ?_
      refine AW.goto (tgt := 71) (dcN_0 dcg_502 :) (by decide) ?_
      exact AW.val (e3.trans (if_neg c9)) J28
theorem M_feed_ok {z : AZ} {x1 : Int} {x2 : Int} {x3 : Int} {x4 : Int} {x5 : Int} {g : AG} {r : Int × AG} (h : M_feed x1 x2 x3 x4 x5 g = some r) : AMf z yX12_feed cX12_feed 8 (some .int) 0 [rv z 117, iv x1, iv x2, iv x3, iv x4, iv x5] g r := by
  intro d hdd
  refine AM.of (by decide +kernel) (Nat.le_of_ble_eq_true rfl) ?_
  show AW z (RX12, cX12_feed, 8, (some .int)) d (QD (some .int) r) 0 [(0, rv z 117), (1, iv x1), (2, iv x2), (3, iv x3), (4, iv x4), (5, iv x5)] [] g
  unfold M_feed at h
  refine AW.aloadr_n 0 (dcN_0 dcg_501 :) rfl ?_
  refine AW.getI af_X12_242_117 sr_117_37 (dcN_1 dcg_501 :) ?_
  refine AW.bipush (dcN_2 dcg_501 :) (by decide) (by decide) ?_
  refine AW.iadd (dcN_3 dcg_501 :) ?_
  refine AW.sipush (dcN_4 dcg_501 :) (by decide) (by decide) ?_
  refine AW.icmp_le (tgt := 15) (dcN_5 dcg_501 :) (by decide) (fun c1 => ?_) (fun c1 => ?_)
  · replace h := hT h c1
    refine AW.iconst (dcN_8 dcg_501 :) ?_
    refine AW.istore (lv1 := [(6, iv 0), (0, rv z 117), (1, iv x1), (2, iv x2), (3, iv x3), (4, iv x4), (5, iv x5)]) (dcN_9 dcg_501 :) (by decide) rfl ?_
    refine AW.sub (lv1 := [(0, rv z 117), (1, iv x1), (2, iv x2), (3, iv x3), (4, iv x4), (5, iv x5), (6, iv 0)]) [1, 2, 3, 4, 5, 6, 0] rfl ?_
    exact M_feed_b_ok hdd _ _ _ h
  · replace h := hF h c1
    refine AW.iconst (dcN_6 dcg_501 :) ?_
    exact AW.iret1 rfl (dcN_7 dcg_501 :) h rfl
theorem M_end_ok {z : AZ} {x1 : Int} {g : AG} {r : Int × AG} (h : M_end x1 g = some r) : AMf z yX12_end cX12_end 2 (some .boolean) 1 [rv z 117, iv x1] g r := by
  intro d hdd
  refine AM.of (by decide +kernel) (Nat.le_of_ble_eq_true rfl) ?_
  show AW z (RX12, cX12_end, 2, (some .boolean)) d (QD (some .boolean) r) 0 [(0, rv z 117), (1, iv x1)] [] g
  unfold M_end at h
  refine AW.iload_n 1 (dcN_0 dcg_505 :) rfl ?_
  refine AW.iconst (dcN_1 dcg_505 :) ?_
  refine AW.aloadr_n 0 (dcN_2 dcg_505 :) rfl ?_
  refine AW.getI af_X12_242_117 sr_117_37 (dcN_3 dcg_505 :) ?_
  refine AW.callSi (As := [iv x1, iv 0, iv (g 117 37)]) (st := []) M_isIn_ok cq_X12_3 st_X12_isIn (Nat.le_trans (by decide) hdd) rfl (dcN_4 dcg_505 :) rfl (Nat.le_of_ble_eq_true rfl) ?_
  refine AW.if_ne (tgt := 14) (dcN_5 dcg_505 :) (by decide) (fun c1 => ?_) (fun c1 => ?_)
  · replace h := hF h c1
    refine AW.aloadr_n 0 (dcN_8 dcg_505 :) rfl ?_
    refine AW.iload_n 1 (dcN_9 dcg_505 :) rfl ?_
    obtain ⟨g2, e3, h⟩ := hBe h
    refine AW.putI ap_X12_242_117 sr_117_37 (dcN_10 dcg_505 :) e3 ?_
    refine AW.iconst (dcN_11 dcg_505 :) ?_
    exact AW.zret1 rfl (Or.inr rfl) dX12_end_20 h rfl
  · replace h := hT h c1
    refine AW.iconst (dcN_6 dcg_505 :) ?_
    exact AW.zret1 rfl (Or.inl rfl) (dcN_7 dcg_505 :) h rfl
theorem M_see_ok {z : AZ} {x1 : Int} {g : AG} {r : Int} (h : M_see x1 g = some r) : AMf z yX12_see cX12_see 2 (some .int) 0 [rv z 117, iv x1] g (r, g) := by
  intro d hdd
  refine AM.of (by decide +kernel) (Nat.le_of_ble_eq_true rfl) ?_
  show AW z (RX12, cX12_see, 2, (some .int)) d (QD (some .int) (r, g)) 0 [(0, rv z 117), (1, iv x1)] [] g
  unfold M_see at h
  refine AW.iload_n 1 (dcN_0 dcg_506 :) rfl ?_
  refine AW.aloadr_n 0 (dcN_1 dcg_506 :) rfl ?_
  refine AW.getI af_X12_242_117 sr_117_37 (dcN_2 dcg_506 :) ?_
  obtain ⟨r3, e4, h⟩ := hC h
  refine AW.join (tgt := 18) (lv1 := []) (st1 := [iv r3]) (g1 := g) ?_ (fun J5 => ?_)
  · exact AW.iret2 rfl (dcN_10 dcg_506 :) h rfl
  replace h := e4
  refine AW.icmp_ge (tgt := 17) (dcN_3 dcg_506 :) (by decide) (fun c1 => ?_) (fun c1 => ?_)
  · replace h := hT h c1
    refine AW.iconst (dcN_9 dcg_506 :) ?_
    refine AW.sub (lv1 := []) [] rfl ?_
    cases h
    exact J5
  · replace h := hF h c1
    refine AW.aloadr_n 0 (dcN_4 dcg_506 :) rfl ?_
    refine AW.getR af_X12_103_117 sr_117_31 (dcN_5 dcg_506 :) ?_
    refine AW.iload_n 1 (dcN_6 dcg_506 :) rfl ?_
    obtain ⟨k2, h⟩ := hK h
    refine AW.iald kc_146 sk_146 k2 (dcN_7 dcg_506 :) ?_
    refine AW.goto (tgt := 18) (dcN_8 dcg_506 :) (by decide) ?_
    refine AW.sub (lv1 := []) [] rfl ?_
    cases h
    exact J5
theorem M_isLetter_ok {z : AZ} {x0 : Int} {g : AG} : AMf z yX12_isLetter cX12_isLetter 1 (some .boolean) 1 [iv x0] g ((M_isLetter x0), g) := by
  intro d hdd
  refine AM.of (by decide +kernel) (Nat.le_of_ble_eq_true rfl) ?_
  show AW z (RX12, cX12_isLetter, 1, (some .boolean)) d (QD (some .boolean) ((M_isLetter x0), g)) 0 [(0, iv x0)] [] g
  refine AW.iload_n 0 (dcN_0 dcg_507 :) rfl ?_
  refine AW.bipush (dcN_1 dcg_507 :) (by decide) (by decide) ?_
  refine AW.bipush (dcN_2 dcg_507 :) (by decide) (by decide) ?_
  refine AW.callSi (As := [iv x0, iv 97, iv 122]) (st := []) M_isIn_ok cq_X12_3 st_X12_isIn (Nat.le_trans (by decide) hdd) rfl (dcN_3 dcg_507 :) rfl (Nat.le_of_ble_eq_true rfl) ?_
  refine AW.join (tgt := 27) (lv1 := [(0, iv x0)]) (st1 := [iv (if nw (M_isIn x0 97 122) = 0 then (if nw (M_isIn x0 65 90) = 0 then 0 else 1) else 1)]) (g1 := g) ?_ (fun J8 => ?_)
  · exact AW.zret rfl (by (repeat' split) <;> first | exact Or.inl rfl | exact Or.inr rfl) (dcN_1 dcg_508 :) ⟨congrArg (fun v => some (iv v)) (show M_isLetter x0  = (if nw (M_isIn x0 97 122) = 0 then (if nw (M_isIn x0 65 90) = 0 then 0 else 1) else 1) from rfl).symm, rfl⟩
  refine AW.if_ne (tgt := 22) (dcN_4 dcg_507 :) (by decide) (fun c1 => ?_) (fun c1 => ?_)
  · refine AW.iconst (dcN_10 dcg_507 :) ?_
    refine AW.goto (tgt := 27) (dcN_11 dcg_507 :) (by decide) ?_
    exact AW.val (if_neg c1) J8
  · refine AW.iload_n 0 (dcN_5 dcg_507 :) rfl ?_
    refine AW.bipush (dcN_6 dcg_507 :) (by decide) (by decide) ?_
    refine AW.bipush (dcN_7 dcg_507 :) (by decide) (by decide) ?_
    refine AW.callSi (As := [iv x0, iv 65, iv 90]) (st := []) M_isIn_ok cq_X12_3 st_X12_isIn (Nat.le_trans (by decide) hdd) rfl (dcN_8 dcg_507 :) rfl (Nat.le_of_ble_eq_true rfl) ?_
    refine AW.if_eq (tgt := 26) (dcN_9 dcg_507 :) (by decide) (fun c2 => ?_) (fun c2 => ?_)
    · refine AW.iconst (dcN_0 dcg_508 :) ?_
      exact AW.val ((if_pos c1).trans (if_pos c2)) J8
    · refine AW.iconst (dcN_10 dcg_507 :) ?_
      refine AW.goto (tgt := 27) (dcN_11 dcg_507 :) (by decide) ?_
      exact AW.val ((if_pos c1).trans (if_neg c2)) J8
theorem M_isDigit_ok {z : AZ} {x0 : Int} {g : AG} : AMf z yX12_isDigit cX12_isDigit 1 (some .boolean) 1 [iv x0] g ((M_isDigit x0), g) := by
  intro d hdd
  refine AM.of (by decide +kernel) (Nat.le_of_ble_eq_true rfl) ?_
  show AW z (RX12, cX12_isDigit, 1, (some .boolean)) d (QD (some .boolean) ((M_isDigit x0), g)) 0 [(0, iv x0)] [] g
  refine AW.iload_n 0 (dcN_0 dcg_509 :) rfl ?_
  refine AW.bipush (dcN_1 dcg_509 :) (by decide) (by decide) ?_
  refine AW.bipush (dcN_2 dcg_509 :) (by decide) (by decide) ?_
  refine AW.callSi (As := [iv x0, iv 48, iv 57]) (st := []) M_isIn_ok cq_X12_3 st_X12_isIn (Nat.le_trans (by decide) hdd) rfl (dcN_3 dcg_509 :) rfl (Nat.le_of_ble_eq_true rfl) ?_
  exact AW.zret rfl M_isIn_01 (dcN_4 dcg_509 :) ⟨congrArg (fun v => some (iv v)) (show M_isDigit x0  = (M_isIn x0 48 57) from rfl).symm, rfl⟩
set_option synthInstance.maxHeartbeats 2000000 in
theorem M_is_b_ok {z : AZ} {s1 : Nat} (hs : s1 < 22) {d : Nat} (hdd : 5 ≤ d) {g : AG} : ∀ (x2 : Int) (x3 : Int) (r : Int), M_is_b s1 g x2 x3 = some r → AW z (RX12, cX12_is, 4, (some .boolean)) d (QD (some .boolean) (r, g)) 24 [(0, rv z 117), (1, sv z s1), (2, iv x2), (3, iv x3)] [] g := by
  refine M_is_b.partial_correctness s1 g (fun x2 x3 r => AW z (RX12, cX12_is, 4, (some .boolean)) d (QD (some .boolean) (r, g)) 24 [(0, rv z 117), (1, sv z s1), (2, iv x2), (3, iv x3)] [] g) ?_
  intro fb9 ih x2 x3 r h
  refine AW.iload_n 3 (dcN_14 dcg_510 :) rfl ?_
  refine AW.aloads_n 1 (dcN_15 dcg_510 :) rfl ?_
  refine AW.tLen cq_X12_251 hs (Nat.le_trans (by decide) hdd) (dcN_16 dcg_510 :) (Nat.le_of_ble_eq_true rfl) ?_
  refine AW.icmp_ge (tgt := 67) (dcN_17 dcg_510 :) (by decide) (fun c1 => ?_) (fun c1 => ?_)
  · replace h := hT h c1
    refine AW.iload_n 2 (dcN_1 dcg_512 :) rfl ?_
    obtain ⟨k2, h⟩ := hK h
    exact AW.zret2 rfl k2 (dcN_2 dcg_512 :) h rfl
  · replace h := hF h c1
    refine AW.iload_n 2 (dcN_0 dcg_511 :) rfl ?_
    refine AW.if_eq (tgt := 67) (dcN_1 dcg_511 :) (by decide) (fun c3 => ?_) (fun c3 => ?_)
    · replace h := hT h c3
      refine AW.iload_n 2 (dcN_1 dcg_512 :) rfl ?_
      obtain ⟨k4, h⟩ := hK h
      exact AW.zret2 rfl k4 (dcN_2 dcg_512 :) h rfl
    · replace h := hF h c3
      refine AW.aloadr_n 0 (dcN_2 dcg_511 :) rfl ?_
      refine AW.getR af_X12_103_117 sr_117_31 (dcN_3 dcg_511 :) ?_
      refine AW.aloadr_n 0 (dcN_4 dcg_511 :) rfl ?_
      refine AW.getI af_X12_248_117 sr_117_40 (dcN_5 dcg_511 :) ?_
      refine AW.iload_n 3 (dcN_6 dcg_511 :) rfl ?_
      refine AW.iadd (dcN_7 dcg_511 :) ?_
      obtain ⟨k5, h⟩ := hK h
      refine AW.iald kc_146 sk_146 k5 (dcN_8 dcg_511 :) ?_
      refine AW.aloads_n 1 (dcN_9 dcg_511 :) rfl ?_
      refine AW.iload_n 3 (dcN_10 dcg_511 :) rfl ?_
      obtain ⟨k6, h⟩ := hK h
      refine AW.tCh cq_X12_257 hs k6 (Nat.le_trans (by decide) hdd) (dcN_11 dcg_511 :) (Nat.le_of_ble_eq_true rfl) ?_
      obtain ⟨t7, e8, h⟩ := hBe h
      refine AW.join (tgt := 60) (lv1 := [(0, rv z 117), (1, sv z s1), (2, iv x2), (3, iv x3)]) (st1 := [iv t7]) (g1 := g) ?_ (fun J52 => ?_)
      · refine AW.istore_n (lv1 := [(2, iv t7), (0, rv z 117), (1, sv z s1), (3, iv x3)]) (dcN_16 dcg_511 :) (by decide) rfl ?_
        refine AW.iinc (lv1 := [(3, iv (x3 + 1)), (2, iv t7), (0, rv z 117), (1, sv z s1)]) 3 (dcN_17 dcg_511 :) rfl (by decide) rfl ?_
        refine AW.goto (tgt := 24) (dcN_0 dcg_512 :) (by decide) ?_
        refine AW.sub (lv1 := [(0, rv z 117), (1, sv z s1), (2, iv t7), (3, iv (x3 + 1))]) [2, 3, 1, 0] rfl ?_
        exact ih _ _ _ h
      refine AW.icmp_ne (tgt := 59) (dcN_12 dcg_511 :) (by decide) (fun c9 => ?_) (fun c9 => ?_)
      · refine AW.iconst (dcN_15 dcg_511 :) ?_
        exact AW.val (e8.trans (if_neg c9)) J52
      · refine AW.iconst (dcN_13 dcg_511 :) ?_
        refine AW.goto (tgt := 60) (dcN_14 dcg_511 :) (by decide) ?_
        exact AW.val (e8.trans (if_pos c9)) J52
theorem M_is_ok {z : AZ} {s1 : Nat} {g : AG} {r : Int} (hs : s1 < 22) (h : M_is s1 g = some r) : AMf z yX12_is cX12_is 4 (some .boolean) 5 [rv z 117, sv z s1] g (r, g) := by
  intro d hdd
  refine AM.of (by decide +kernel) (Nat.le_of_ble_eq_true rfl) ?_
  show AW z (RX12, cX12_is, 4, (some .boolean)) d (QD (some .boolean) (r, g)) 0 [(0, rv z 117), (1, sv z s1)] [] g
  unfold M_is at h
  refine AW.aloadr_n 0 (dcN_0 dcg_510 :) rfl ?_
  refine AW.getI af_X12_245_117 sr_117_38 (dcN_1 dcg_510 :) ?_
  refine AW.aloadr_n 0 (dcN_2 dcg_510 :) rfl ?_
  refine AW.getI af_X12_248_117 sr_117_40 (dcN_3 dcg_510 :) ?_
  refine AW.isub (dcN_4 dcg_510 :) ?_
  refine AW.aloads_n 1 (dcN_5 dcg_510 :) rfl ?_
  refine AW.tLen cq_X12_251 hs (Nat.le_trans (by decide) hdd) (dcN_6 dcg_510 :) (Nat.le_of_ble_eq_true rfl) ?_
  obtain ⟨t1, e2, h⟩ := hBe h
  refine AW.join (tgt := 21) (lv1 := [(0, rv z 117), (1, sv z s1)]) (st1 := [iv t1]) (g1 := g) ?_ (fun J13 => ?_)
  · refine AW.istore_n (lv1 := [(2, iv t1), (0, rv z 117), (1, sv z s1)]) (dcN_11 dcg_510 :) (by decide) rfl ?_
    refine AW.iconst (dcN_12 dcg_510 :) ?_
    refine AW.istore_n (lv1 := [(3, iv 0), (2, iv t1), (0, rv z 117), (1, sv z s1)]) (dcN_13 dcg_510 :) (by decide) rfl ?_
    refine AW.sub (lv1 := [(0, rv z 117), (1, sv z s1), (2, iv t1), (3, iv 0)]) [2, 3, 1, 0] rfl ?_
    exact M_is_b_ok hs hdd _ _ _ h
  refine AW.icmp_ne (tgt := 20) (dcN_7 dcg_510 :) (by decide) (fun c3 => ?_) (fun c3 => ?_)
  · refine AW.iconst (dcN_10 dcg_510 :) ?_
    exact AW.val (e2.trans (if_neg c3)) J13
  · refine AW.iconst (dcN_8 dcg_510 :) ?_
    refine AW.goto (tgt := 21) (dcN_9 dcg_510 :) (by decide) ?_
    exact AW.val (e2.trans (if_pos c3)) J13
theorem M_word_ok {z : AZ} {g : AG} {r : Int} (h : M_word g = some r) : AMf z yX12_word cX12_word 1 (some .int) 6 [rv z 117] g (r, g) := by
  intro d hdd
  refine AM.of (by decide +kernel) (Nat.le_of_ble_eq_true rfl) ?_
  show AW z (RX12, cX12_word, 1, (some .int)) d (QD (some .int) (r, g)) 0 [(0, rv z 117)] [] g
  unfold M_word at h
  refine AW.aloadr_n 0 (dcN_0 dcg_513 :) rfl ?_
  refine AW.ldcSw (dcN_1 dcg_513 :) sw_X12_261 ?_
  obtain ⟨r1, e2, h⟩ := hC h
  refine AW.callVi (As := [sv z 2]) (st := []) (M_is_ok (by decide) e2) cq_X12_262 cr_117_X12_is (Nat.le_trans (by decide) hdd) rfl (dcN_2 dcg_513 :) rfl (Nat.le_of_ble_eq_true rfl) ?_
  refine AW.if_eq (tgt := 13) (dcN_3 dcg_513 :) (by decide) (fun c3 => ?_) (fun c3 => ?_)
  · replace h := hT h c3
    refine AW.aloadr_n 0 (dcN_6 dcg_513 :) rfl ?_
    refine AW.ldcSw (dcN_7 dcg_513 :) sw_X12_266 ?_
    obtain ⟨r4, e5, h⟩ := hC h
    refine AW.callVi (As := [sv z 3]) (st := []) (M_is_ok (by decide) e5) cq_X12_262 cr_117_X12_is (Nat.le_trans (by decide) hdd) rfl (dcN_8 dcg_513 :) rfl (Nat.le_of_ble_eq_true rfl) ?_
    refine AW.if_eq (tgt := 26) (dcN_9 dcg_513 :) (by decide) (fun c6 => ?_) (fun c6 => ?_)
    · replace h := hT h c6
      refine AW.aloadr_n 0 (dcN_12 dcg_513 :) rfl ?_
      refine AW.ldcSw (dcN_13 dcg_513 :) sw_X12_267 ?_
      obtain ⟨r7, e8, h⟩ := hC h
      refine AW.callVi (As := [sv z 4]) (st := []) (M_is_ok (by decide) e8) cq_X12_262 cr_117_X12_is (Nat.le_trans (by decide) hdd) rfl (dcN_14 dcg_513 :) rfl (Nat.le_of_ble_eq_true rfl) ?_
      refine AW.if_eq (tgt := 39) (dcN_0 dcg_514 :) (by decide) (fun c9 => ?_) (fun c9 => ?_)
      · replace h := hT h c9
        refine AW.aloadr_n 0 (dcN_3 dcg_514 :) rfl ?_
        refine AW.ldcSw (dcN_4 dcg_514 :) sw_X12_269 ?_
        obtain ⟨r10, e11, h⟩ := hC h
        refine AW.callVi (As := [sv z 5]) (st := []) (M_is_ok (by decide) e11) cq_X12_262 cr_117_X12_is (Nat.le_trans (by decide) hdd) rfl (dcN_5 dcg_514 :) rfl (Nat.le_of_ble_eq_true rfl) ?_
        refine AW.if_eq (tgt := 52) (dcN_6 dcg_514 :) (by decide) (fun c12 => ?_) (fun c12 => ?_)
        · replace h := hT h c12
          refine AW.aloadr_n 0 (dcN_9 dcg_514 :) rfl ?_
          refine AW.ldcSw (dcN_10 dcg_514 :) sw_X12_271 ?_
          obtain ⟨r13, e14, h⟩ := hC h
          refine AW.callVi (As := [sv z 6]) (st := []) (M_is_ok (by decide) e14) cq_X12_262 cr_117_X12_is (Nat.le_trans (by decide) hdd) rfl (dcN_11 dcg_514 :) rfl (Nat.le_of_ble_eq_true rfl) ?_
          refine AW.if_eq (tgt := 65) (dcN_12 dcg_514 :) (by decide) (fun c15 => ?_) (fun c15 => ?_)
          · replace h := hT h c15
            refine AW.aloadr_n 0 (dcN_1 dcg_515 :) rfl ?_
            refine AW.ldcSw (dcN_2 dcg_515 :) sw_X12_273 ?_
            obtain ⟨r16, e17, h⟩ := hC h
            refine AW.callVi (As := [sv z 7]) (st := []) (M_is_ok (by decide) e17) cq_X12_262 cr_117_X12_is (Nat.le_trans (by decide) hdd) rfl (dcN_3 dcg_515 :) rfl (Nat.le_of_ble_eq_true rfl) ?_
            refine AW.if_eq (tgt := 78) (dcN_4 dcg_515 :) (by decide) (fun c18 => ?_) (fun c18 => ?_)
            · replace h := hT h c18
              refine AW.aloadr_n 0 (dcN_7 dcg_515 :) rfl ?_
              refine AW.ldcSw (dcN_8 dcg_515 :) sw_X12_275 ?_
              obtain ⟨r19, e20, h⟩ := hC h
              refine AW.callVi (As := [sv z 8]) (st := []) (M_is_ok (by decide) e20) cq_X12_262 cr_117_X12_is (Nat.le_trans (by decide) hdd) rfl (dcN_9 dcg_515 :) rfl (Nat.le_of_ble_eq_true rfl) ?_
              refine AW.if_eq (tgt := 91) (dcN_10 dcg_515 :) (by decide) (fun c21 => ?_) (fun c21 => ?_)
              · replace h := hT h c21
                refine AW.aloadr_n 0 (dcN_13 dcg_515 :) rfl ?_
                refine AW.ldcSw (dcN_14 dcg_515 :) sw_X12_277 ?_
                obtain ⟨r22, e23, h⟩ := hC h
                refine AW.callVi (As := [sv z 9]) (st := []) (M_is_ok (by decide) e23) cq_X12_262 cr_117_X12_is (Nat.le_trans (by decide) hdd) rfl (dcN_15 dcg_515 :) rfl (Nat.le_of_ble_eq_true rfl) ?_
                refine AW.if_eq (tgt := 104) (dcN_0 dcg_516 :) (by decide) (fun c24 => ?_) (fun c24 => ?_)
                · replace h := hT h c24
                  refine AW.aloadr_n 0 (dcN_3 dcg_516 :) rfl ?_
                  refine AW.ldcSw (dcN_4 dcg_516 :) sw_X12_279 ?_
                  obtain ⟨r25, e26, h⟩ := hC h
                  refine AW.callVi (As := [sv z 10]) (st := []) (M_is_ok (by decide) e26) cq_X12_262 cr_117_X12_is (Nat.le_trans (by decide) hdd) rfl (dcN_5 dcg_516 :) rfl (Nat.le_of_ble_eq_true rfl) ?_
                  refine AW.if_eq (tgt := 116) (dcN_6 dcg_516 :) (by decide) (fun c27 => ?_) (fun c27 => ?_)
                  · replace h := hT h c27
                    refine AW.aloadr_n 0 (dcN_9 dcg_516 :) rfl ?_
                    refine AW.ldcSw (dcN_10 dcg_516 :) sw_X12_281 ?_
                    obtain ⟨r28, e29, h⟩ := hC h
                    refine AW.callVi (As := [sv z 11]) (st := []) (M_is_ok (by decide) e29) cq_X12_262 cr_117_X12_is (Nat.le_trans (by decide) hdd) rfl (dcN_11 dcg_516 :) rfl (Nat.le_of_ble_eq_true rfl) ?_
                    refine AW.if_eq (tgt := 128) (dcN_12 dcg_516 :) (by decide) (fun c30 => ?_) (fun c30 => ?_)
                    · replace h := hT h c30
                      refine AW.aloadr_n 0 (dcN_0 dcg_517 :) rfl ?_
                      refine AW.ldcSw (dcN_1 dcg_517 :) sw_X12_283 ?_
                      obtain ⟨r31, e32, h⟩ := hC h
                      refine AW.callVi (As := [sv z 12]) (st := []) (M_is_ok (by decide) e32) cq_X12_262 cr_117_X12_is (Nat.le_trans (by decide) hdd) rfl (dcN_2 dcg_517 :) rfl (Nat.le_of_ble_eq_true rfl) ?_
                      refine AW.if_eq (tgt := 140) (dcN_3 dcg_517 :) (by decide) (fun c33 => ?_) (fun c33 => ?_)
                      · replace h := hT h c33
                        refine AW.aloadr_n 0 (dcN_6 dcg_517 :) rfl ?_
                        refine AW.ldcSw (dcN_7 dcg_517 :) sw_X12_285 ?_
                        obtain ⟨r34, e35, h⟩ := hC h
                        refine AW.callVi (As := [sv z 13]) (st := []) (M_is_ok (by decide) e35) cq_X12_262 cr_117_X12_is (Nat.le_trans (by decide) hdd) rfl (dcN_8 dcg_517 :) rfl (Nat.le_of_ble_eq_true rfl) ?_
                        refine AW.if_eq (tgt := 153) (dcN_9 dcg_517 :) (by decide) (fun c36 => ?_) (fun c36 => ?_)
                        · replace h := hT h c36
                          refine AW.aloadr_n 0 (dcN_12 dcg_517 :) rfl ?_
                          refine AW.ldcSw (dcN_13 dcg_517 :) sw_X12_287 ?_
                          obtain ⟨r37, e38, h⟩ := hC h
                          refine AW.callVi (As := [sv z 14]) (st := []) (M_is_ok (by decide) e38) cq_X12_262 cr_117_X12_is (Nat.le_trans (by decide) hdd) rfl (dcN_14 dcg_517 :) rfl (Nat.le_of_ble_eq_true rfl) ?_
                          refine AW.if_eq (tgt := 166) (dcN_0 dcg_518 :) (by decide) (fun c39 => ?_) (fun c39 => ?_)
                          · replace h := hT h c39
                            refine AW.aloadr_n 0 (dcN_3 dcg_518 :) rfl ?_
                            refine AW.ldcSw (dcN_4 dcg_518 :) sw_X12_289 ?_
                            obtain ⟨r40, e41, h⟩ := hC h
                            refine AW.callVi (As := [sv z 15]) (st := []) (M_is_ok (by decide) e41) cq_X12_262 cr_117_X12_is (Nat.le_trans (by decide) hdd) rfl (dcN_5 dcg_518 :) rfl (Nat.le_of_ble_eq_true rfl) ?_
                            refine AW.if_eq (tgt := 179) (dcN_6 dcg_518 :) (by decide) (fun c42 => ?_) (fun c42 => ?_)
                            · replace h := hT h c42
                              refine AW.aloadr_n 0 (dcN_9 dcg_518 :) rfl ?_
                              refine AW.ldcSw (dcN_10 dcg_518 :) sw_X12_291 ?_
                              obtain ⟨r43, e44, h⟩ := hC h
                              refine AW.callVi (As := [sv z 16]) (st := []) (M_is_ok (by decide) e44) cq_X12_262 cr_117_X12_is (Nat.le_trans (by decide) hdd) rfl (dcN_11 dcg_518 :) rfl (Nat.le_of_ble_eq_true rfl) ?_
                              refine AW.if_eq (tgt := 192) (dcN_12 dcg_518 :) (by decide) (fun c45 => ?_) (fun c45 => ?_)
                              · replace h := hT h c45
                                refine AW.aloadr_n 0 (dcN_0 dcg_519 :) rfl ?_
                                refine AW.ldcSw (dcN_1 dcg_519 :) sw_X12_292 ?_
                                obtain ⟨r46, e47, h⟩ := hC h
                                refine AW.callVi (As := [sv z 17]) (st := []) (M_is_ok (by decide) e47) cq_X12_262 cr_117_X12_is (Nat.le_trans (by decide) hdd) rfl (dcN_2 dcg_519 :) rfl (Nat.le_of_ble_eq_true rfl) ?_
                                refine AW.if_eq (tgt := 205) (dcN_3 dcg_519 :) (by decide) (fun c48 => ?_) (fun c48 => ?_)
                                · replace h := hT h c48
                                  refine AW.aloadr_n 0 (dcN_6 dcg_519 :) rfl ?_
                                  refine AW.ldcSw (dcN_7 dcg_519 :) sw_X12_294 ?_
                                  obtain ⟨r49, e50, h⟩ := hC h
                                  refine AW.callVi (As := [sv z 18]) (st := []) (M_is_ok (by decide) e50) cq_X12_262 cr_117_X12_is (Nat.le_trans (by decide) hdd) rfl (dcN_8 dcg_519 :) rfl (Nat.le_of_ble_eq_true rfl) ?_
                                  refine AW.if_eq (tgt := 218) (dcN_9 dcg_519 :) (by decide) (fun c51 => ?_) (fun c51 => ?_)
                                  · replace h := hT h c51
                                    refine AW.aloadr_n 0 (dcN_12 dcg_519 :) rfl ?_
                                    refine AW.ldcSw (dcN_13 dcg_519 :) sw_X12_296 ?_
                                    obtain ⟨r52, e53, h⟩ := hC h
                                    refine AW.callVi (As := [sv z 19]) (st := []) (M_is_ok (by decide) e53) cq_X12_262 cr_117_X12_is (Nat.le_trans (by decide) hdd) rfl (dcN_14 dcg_519 :) rfl (Nat.le_of_ble_eq_true rfl) ?_
                                    refine AW.if_eq (tgt := 231) (dcN_0 dcg_520 :) (by decide) (fun c54 => ?_) (fun c54 => ?_)
                                    · replace h := hT h c54
                                      refine AW.aloadr_n 0 (dcN_3 dcg_520 :) rfl ?_
                                      refine AW.ldcSw (dcN_4 dcg_520 :) sw_X12_298 ?_
                                      obtain ⟨r55, e56, h⟩ := hC h
                                      refine AW.callVi (As := [sv z 20]) (st := []) (M_is_ok (by decide) e56) cq_X12_262 cr_117_X12_is (Nat.le_trans (by decide) hdd) rfl (dcN_5 dcg_520 :) rfl (Nat.le_of_ble_eq_true rfl) ?_
                                      refine AW.if_eq (tgt := 244) (dcN_6 dcg_520 :) (by decide) (fun c57 => ?_) (fun c57 => ?_)
                                      · replace h := hT h c57
                                        refine AW.aloadr_n 0 (dcN_9 dcg_520 :) rfl ?_
                                        refine AW.ldcSw (dcN_10 dcg_520 :) sw_X12_300 ?_
                                        obtain ⟨r58, e59, h⟩ := hC h
                                        refine AW.callVi (As := [sv z 21]) (st := []) (M_is_ok (by decide) e59) cq_X12_262 cr_117_X12_is (Nat.le_trans (by decide) hdd) rfl (dcN_11 dcg_520 :) rfl (Nat.le_of_ble_eq_true rfl) ?_
                                        obtain ⟨t60, e61, h⟩ := hBe h
                                        refine AW.join (tgt := 260) (lv1 := [(0, rv z 117)]) (st1 := [iv t60]) (g1 := g) ?_ (fun J251 => ?_)
                                        · exact AW.iret2 rfl (dcN_2 dcg_521 :) h rfl
                                        refine AW.if_eq (tgt := 259) (dcN_12 dcg_520 :) (by decide) (fun c62 => ?_) (fun c62 => ?_)
                                        · refine AW.iconst (dcN_1 dcg_521 :) ?_
                                          exact AW.val (e61.trans (if_pos c62)) J251
                                        · refine AW.bipush (dcN_13 dcg_520 :) (by decide) (by decide) ?_
                                          refine AW.goto (tgt := 260) (dcN_0 dcg_521 :) (by decide) ?_
                                          exact AW.val (e61.trans (if_neg c62)) J251
                                      · replace h := hF h c57
                                        refine AW.bipush (dcN_7 dcg_520 :) (by decide) (by decide) ?_
                                        exact AW.iret2 rfl (dcN_8 dcg_520 :) h rfl
                                    · replace h := hF h c54
                                      refine AW.bipush (dcN_1 dcg_520 :) (by decide) (by decide) ?_
                                      exact AW.iret2 rfl (dcN_2 dcg_520 :) h rfl
                                  · replace h := hF h c51
                                    refine AW.bipush (dcN_10 dcg_519 :) (by decide) (by decide) ?_
                                    exact AW.iret2 rfl (dcN_11 dcg_519 :) h rfl
                                · replace h := hF h c48
                                  refine AW.bipush (dcN_4 dcg_519 :) (by decide) (by decide) ?_
                                  exact AW.iret2 rfl (dcN_5 dcg_519 :) h rfl
                              · replace h := hF h c45
                                refine AW.bipush (dcN_13 dcg_518 :) (by decide) (by decide) ?_
                                exact AW.iret2 rfl (dcN_14 dcg_518 :) h rfl
                            · replace h := hF h c42
                              refine AW.bipush (dcN_7 dcg_518 :) (by decide) (by decide) ?_
                              exact AW.iret2 rfl (dcN_8 dcg_518 :) h rfl
                          · replace h := hF h c39
                            refine AW.bipush (dcN_1 dcg_518 :) (by decide) (by decide) ?_
                            exact AW.iret2 rfl (dcN_2 dcg_518 :) h rfl
                        · replace h := hF h c36
                          refine AW.bipush (dcN_10 dcg_517 :) (by decide) (by decide) ?_
                          exact AW.iret2 rfl (dcN_11 dcg_517 :) h rfl
                      · replace h := hF h c33
                        refine AW.iconst (dcN_4 dcg_517 :) ?_
                        exact AW.iret2 rfl (dcN_5 dcg_517 :) h rfl
                    · replace h := hF h c30
                      refine AW.iconst (dcN_13 dcg_516 :) ?_
                      exact AW.iret2 rfl (dcN_14 dcg_516 :) h rfl
                  · replace h := hF h c27
                    refine AW.iconst (dcN_7 dcg_516 :) ?_
                    exact AW.iret2 rfl (dcN_8 dcg_516 :) h rfl
                · replace h := hF h c24
                  refine AW.bipush (dcN_1 dcg_516 :) (by decide) (by decide) ?_
                  exact AW.iret2 rfl (dcN_2 dcg_516 :) h rfl
              · replace h := hF h c21
                refine AW.bipush (dcN_11 dcg_515 :) (by decide) (by decide) ?_
                exact AW.iret2 rfl (dcN_12 dcg_515 :) h rfl
            · replace h := hF h c18
              refine AW.bipush (dcN_5 dcg_515 :) (by decide) (by decide) ?_
              exact AW.iret2 rfl (dcN_6 dcg_515 :) h rfl
          · replace h := hF h c15
            refine AW.bipush (dcN_13 dcg_514 :) (by decide) (by decide) ?_
            exact AW.iret2 rfl (dcN_0 dcg_515 :) h rfl
        · replace h := hF h c12
          refine AW.bipush (dcN_7 dcg_514 :) (by decide) (by decide) ?_
          exact AW.iret2 rfl (dcN_8 dcg_514 :) h rfl
      · replace h := hF h c9
        refine AW.bipush (dcN_1 dcg_514 :) (by decide) (by decide) ?_
        exact AW.iret2 rfl (dcN_2 dcg_514 :) h rfl
    · replace h := hF h c6
      refine AW.bipush (dcN_10 dcg_513 :) (by decide) (by decide) ?_
      exact AW.iret2 rfl (dcN_11 dcg_513 :) h rfl
  · replace h := hF h c3
    refine AW.bipush (dcN_4 dcg_513 :) (by decide) (by decide) ?_
    exact AW.iret2 rfl (dcN_5 dcg_513 :) h rfl
set_option synthInstance.maxHeartbeats 2000000 in
theorem M_next0_b_ok {z : AZ} {d : Nat} (hdd : 7 ≤ d) : ∀ (tag : Nat) (g : AG) (r : Int × AG), M_next0_b tag g = some r → (tag = 1 → AW z (RX12, cX12_next0, 3, none) d (QD none r) 0 [(0, rv z 117)] [] g) ∧ (tag = 2 → AW z (RX12, cX12_next0, 3, none) d (QD none r) 26 [(0, rv z 117)] [] g) ∧ (tag = 3 → AW z (RX12, cX12_next0, 3, none) d (QD none r) 76 [(0, rv z 117)] [] g) ∧ (tag = 4 → AW z (RX12, cX12_next0, 3, none) d (QD none r) 126 [(0, rv z 117)] [] g) := by
  refine M_next0_b.partial_correctness (fun tag g r => (tag = 1 → AW z (RX12, cX12_next0, 3, none) d (QD none r) 0 [(0, rv z 117)] [] g) ∧ (tag = 2 → AW z (RX12, cX12_next0, 3, none) d (QD none r) 26 [(0, rv z 117)] [] g) ∧ (tag = 3 → AW z (RX12, cX12_next0, 3, none) d (QD none r) 76 [(0, rv z 117)] [] g) ∧ (tag = 4 → AW z (RX12, cX12_next0, 3, none) d (QD none r) 126 [(0, rv z 117)] [] g)) ?_
  intro fb9 ih tag g r h
  refine ⟨fun h9 => ?_, fun h9 => ?_, fun h9 => ?_, fun h9 => ?_⟩
  · subst h9
    replace h := hT h rfl
    refine AW.aloadr_n 0 (dcN_0 dcg_522 :) rfl ?_
    refine AW.aloadr_n 0 (dcN_1 dcg_522 :) rfl ?_
    refine AW.getI af_X12_245_117 sr_117_38 (dcN_2 dcg_522 :) ?_
    obtain ⟨r1, e2, h⟩ := hC h
    refine AW.callVi (As := [iv (g 117 38)]) (st := []) (M_see_ok e2) cq_X12_302 cr_117_X12_see (Nat.le_trans (by decide) hdd) rfl (dcN_3 dcg_522 :) rfl (Nat.le_of_ble_eq_true rfl) ?_
    refine AW.bipush (dcN_4 dcg_522 :) (by decide) (by decide) ?_
    refine AW.icmp_eq (tgt := 26) (dcN_5 dcg_522 :) (by decide) (fun c3 => ?_) (fun c3 => ?_)
    · replace h := hT h c3
      exact (ih _ _ _ h).2.1 rfl
    · replace h := hF h c3
      refine AW.aloadr_n 0 (dcN_6 dcg_522 :) rfl ?_
      refine AW.aloadr_n 0 (dcN_7 dcg_522 :) rfl ?_
      refine AW.getI af_X12_245_117 sr_117_38 (dcN_8 dcg_522 :) ?_
      obtain ⟨r4, e5, h⟩ := hC h
      refine AW.callVi (As := [iv (g 117 38)]) (st := []) (M_see_ok e5) cq_X12_302 cr_117_X12_see (Nat.le_trans (by decide) hdd) rfl (dcN_9 dcg_522 :) rfl (Nat.le_of_ble_eq_true rfl) ?_
      refine AW.bipush (dcN_10 dcg_522 :) (by decide) (by decide) ?_
      refine AW.icmp_ne (tgt := 39) (dcN_11 dcg_522 :) (by decide) (fun c6 => ?_) (fun c6 => ?_)
      · replace h := hF h c6
        refine AW.aloadr_n 0 (dcN_3 dcg_523 :) rfl ?_
        refine AW.aloadr_n 0 (dcN_4 dcg_523 :) rfl ?_
        refine AW.getI af_X12_245_117 sr_117_38 (dcN_5 dcg_523 :) ?_
        obtain ⟨g7, e8, h⟩ := hBe h
        refine AW.putI ap_X12_248_117 sr_117_40 (dcN_6 dcg_523 :) e8 ?_
        refine AW.aloadr_n 0 (dcN_7 dcg_523 :) rfl ?_
        refine AW.aloadr_n 0 (dcN_8 dcg_523 :) rfl ?_
        refine AW.getI af_X12_245_117 sr_117_38 (dcN_9 dcg_523 :) ?_
        obtain ⟨r9, e10, h⟩ := hC h
        refine AW.callVi (As := [iv (g7 117 38)]) (st := []) (M_see_ok e10) cq_X12_302 cr_117_X12_see (Nat.le_trans (by decide) hdd) rfl (dcN_10 dcg_523 :) rfl (Nat.le_of_ble_eq_true rfl) ?_
        refine AW.istore_n (lv1 := [(1, iv r9), (0, rv z 117)]) (dcN_11 dcg_523 :) (by decide) rfl ?_
        refine AW.iload_n 0 (dcN_12 dcg_523 :) rfl ?_
        refine AW.iconst (dcN_13 dcg_523 :) ?_
        refine AW.icmp_ne (tgt := 69) (dcN_14 dcg_523 :) (by decide) (fun c11 => ?_) (fun c11 => ?_)
        · replace h := hF h c11
          refine AW.iload_n 0 (dcN_1 dcg_524 :) rfl ?_
          refine AW.callSi (As := [iv r9]) (st := []) M_isLetter_ok cq_X12_309 st_X12_isLetter (Nat.le_trans (by decide) hdd) rfl (dcN_2 dcg_524 :) rfl (Nat.le_of_ble_eq_true rfl) ?_
          refine AW.if_eq (tgt := 114) (dcN_3 dcg_524 :) (by decide) (fun c12 => ?_) (fun c12 => ?_)
          · replace h := hT h c12
            refine AW.iload_n 0 (dcN_8 dcg_525 :) rfl ?_
            refine AW.callSi (As := [iv r9]) (st := []) M_isDigit_ok cq_X12_315 st_X12_isDigit (Nat.le_trans (by decide) hdd) rfl (dcN_9 dcg_525 :) rfl (Nat.le_of_ble_eq_true rfl) ?_
            refine AW.if_eq (tgt := 214) (dcN_10 dcg_525 :) (by decide) (fun c13 => ?_) (fun c13 => ?_)
            · replace h := hT h c13
              refine AW.aloadr_n 1 (dcN_10 dcg_528 :) rfl ?_
              refine AW.duprr (dcN_11 dcg_528 :) ?_
              refine AW.getI af_X12_245_117 sr_117_38 (dcN_12 dcg_528 :) ?_
              refine AW.iconst (dcN_13 dcg_528 :) ?_
              refine AW.iadd (dcN_14 dcg_528 :) ?_
              obtain ⟨g14, e15, h⟩ := hBe h
              refine AW.putI ap_X12_245_117 sr_117_38 (dcN_15 dcg_528 :) e15 ?_
              refine AW.iload_n 0 (dcN_0 dcg_529 :) rfl ?_
              refine AW.bipush (dcN_1 dcg_529 :) (by decide) (by decide) ?_
              obtain ⟨t16, e17, h⟩ := hBe h
              refine AW.join (tgt := 289) (lv1 := [(1, iv r9), (0, rv z 117)]) (st1 := [iv t16]) (g1 := g14) ?_ (fun J227 => ?_)
              · refine AW.istore_n (lv1 := [(2, iv t16), (1, iv r9), (0, rv z 117)]) (dcN_1 dcg_531 :) (by decide) rfl ?_
                refine AW.aloadr_n 2 (dcN_2 dcg_531 :) rfl ?_
                refine AW.iload_n 0 (dcN_3 dcg_531 :) rfl ?_
                obtain ⟨t18, e19, h⟩ := hBe h
                refine AW.join (tgt := 303) (lv1 := [(2, iv t16), (1, iv r9), (0, rv z 117)]) (st1 := [iv t18, rv z 117]) (g1 := g14) ?_ (fun J292 => ?_)
                · obtain ⟨g20, e21, h⟩ := hBe h
                  refine AW.putI ap_X12_306_117 sr_117_39 (dcN_10 dcg_531 :) e21 ?_
                  exact AW.vret1 rfl (dcN_11 dcg_531 :) h rfl
                refine AW.if_eq (tgt := 302) (dcN_4 dcg_531 :) (by decide) (fun c22 => ?_) (fun c22 => ?_)
                · refine AW.iconst (dcN_9 dcg_531 :) ?_
                  exact AW.val (e19.trans (if_pos c22)) J292
                · refine AW.bipush (dcN_5 dcg_531 :) (by decide) (by decide) ?_
                  refine AW.iload_n 1 (dcN_6 dcg_531 :) rfl ?_
                  refine AW.iadd (dcN_7 dcg_531 :) ?_
                  refine AW.goto (tgt := 303) (dcN_8 dcg_531 :) (by decide) ?_
                  exact AW.val (e19.trans (if_neg c22)) J292
              refine AW.icmp_eq (tgt := 284) (dcN_2 dcg_529 :) (by decide) (fun c23 => ?_) (fun c23 => ?_)
              · refine AW.iconst (dcN_13 dcg_530 :) ?_
                refine AW.goto (tgt := 289) (dcN_14 dcg_530 :) (by decide) ?_
                exact AW.val (e17.trans (if_pos c23)) J227
              · refine AW.iload_n 0 (dcN_3 dcg_529 :) rfl ?_
                refine AW.bipush (dcN_4 dcg_529 :) (by decide) (by decide) ?_
                refine AW.icmp_eq (tgt := 284) (dcN_5 dcg_529 :) (by decide) (fun c24 => ?_) (fun c24 => ?_)
                · refine AW.iconst (dcN_13 dcg_530 :) ?_
                  refine AW.goto (tgt := 289) (dcN_14 dcg_530 :) (by decide) ?_
                  exact AW.val (e17.trans ((if_neg c23).trans (if_pos c24))) J227
                · refine AW.iload_n 0 (dcN_6 dcg_529 :) rfl ?_
                  refine AW.bipush (dcN_7 dcg_529 :) (by decide) (by decide) ?_
                  refine AW.icmp_eq (tgt := 284) (dcN_8 dcg_529 :) (by decide) (fun c25 => ?_) (fun c25 => ?_)
                  · refine AW.iconst (dcN_13 dcg_530 :) ?_
                    refine AW.goto (tgt := 289) (dcN_14 dcg_530 :) (by decide) ?_
                    exact AW.val (e17.trans ((if_neg c23).trans ((if_neg c24).trans (if_pos c25)))) J227
                  · refine AW.iload_n 0 (dcN_9 dcg_529 :) rfl ?_
                    refine AW.bipush (dcN_10 dcg_529 :) (by decide) (by decide) ?_
                    refine AW.icmp_eq (tgt := 284) (dcN_11 dcg_529 :) (by decide) (fun c26 => ?_) (fun c26 => ?_)
                    · refine AW.iconst (dcN_13 dcg_530 :) ?_
                      refine AW.goto (tgt := 289) (dcN_14 dcg_530 :) (by decide) ?_
                      exact AW.val (e17.trans ((if_neg c23).trans ((if_neg c24).trans ((if_neg c25).trans (if_pos c26))))) J227
                    · refine AW.iload_n 0 (dcN_12 dcg_529 :) rfl ?_
                      refine AW.bipush (dcN_13 dcg_529 :) (by decide) (by decide) ?_
                      refine AW.icmp_eq (tgt := 284) (dcN_14 dcg_529 :) (by decide) (fun c27 => ?_) (fun c27 => ?_)
                      · refine AW.iconst (dcN_13 dcg_530 :) ?_
                        refine AW.goto (tgt := 289) (dcN_14 dcg_530 :) (by decide) ?_
                        exact AW.val (e17.trans ((if_neg c23).trans ((if_neg c24).trans ((if_neg c25).trans ((if_neg c26).trans (if_pos c27)))))) J227
                      · refine AW.iload_n 0 (dcN_15 dcg_529 :) rfl ?_
                        refine AW.bipush (dcN_16 dcg_529 :) (by decide) (by decide) ?_
                        refine AW.icmp_eq (tgt := 284) (dcN_0 dcg_530 :) (by decide) (fun c28 => ?_) (fun c28 => ?_)
                        · refine AW.iconst (dcN_13 dcg_530 :) ?_
                          refine AW.goto (tgt := 289) (dcN_14 dcg_530 :) (by decide) ?_
                          exact AW.val (e17.trans ((if_neg c23).trans ((if_neg c24).trans ((if_neg c25).trans ((if_neg c26).trans ((if_neg c27).trans (if_pos c28))))))) J227
                        · refine AW.iload_n 0 (dcN_1 dcg_530 :) rfl ?_
                          refine AW.bipush (dcN_2 dcg_530 :) (by decide) (by decide) ?_
                          refine AW.icmp_eq (tgt := 284) (dcN_3 dcg_530 :) (by decide) (fun c29 => ?_) (fun c29 => ?_)
                          · refine AW.iconst (dcN_13 dcg_530 :) ?_
                            refine AW.goto (tgt := 289) (dcN_14 dcg_530 :) (by decide) ?_
                            exact AW.val (e17.trans ((if_neg c23).trans ((if_neg c24).trans ((if_neg c25).trans ((if_neg c26).trans ((if_neg c27).trans ((if_neg c28).trans (if_pos c29)))))))) J227
                          · refine AW.iload_n 0 (dcN_4 dcg_530 :) rfl ?_
                            refine AW.bipush (dcN_5 dcg_530 :) (by decide) (by decide) ?_
                            refine AW.icmp_eq (tgt := 284) (dcN_6 dcg_530 :) (by decide) (fun c30 => ?_) (fun c30 => ?_)
                            · refine AW.iconst (dcN_13 dcg_530 :) ?_
                              refine AW.goto (tgt := 289) (dcN_14 dcg_530 :) (by decide) ?_
                              exact AW.val (e17.trans ((if_neg c23).trans ((if_neg c24).trans ((if_neg c25).trans ((if_neg c26).trans ((if_neg c27).trans ((if_neg c28).trans ((if_neg c29).trans (if_pos c30))))))))) J227
                            · refine AW.iload_n 0 (dcN_7 dcg_530 :) rfl ?_
                              refine AW.bipush (dcN_8 dcg_530 :) (by decide) (by decide) ?_
                              refine AW.icmp_eq (tgt := 284) (dcN_9 dcg_530 :) (by decide) (fun c31 => ?_) (fun c31 => ?_)
                              · refine AW.iconst (dcN_13 dcg_530 :) ?_
                                refine AW.goto (tgt := 289) (dcN_14 dcg_530 :) (by decide) ?_
                                exact AW.val (e17.trans ((if_neg c23).trans ((if_neg c24).trans ((if_neg c25).trans ((if_neg c26).trans ((if_neg c27).trans ((if_neg c28).trans ((if_neg c29).trans ((if_neg c30).trans (if_pos c31)))))))))) J227
                              · refine AW.iload_n 0 (dcN_10 dcg_530 :) rfl ?_
                                refine AW.bipush (dcN_11 dcg_530 :) (by decide) (by decide) ?_
                                refine AW.icmp_ne (tgt := 288) (dcN_12 dcg_530 :) (by decide) (fun c32 => ?_) (fun c32 => ?_)
                                · refine AW.iconst (dcN_0 dcg_531 :) ?_
                                  exact AW.val (e17.trans ((if_neg c23).trans ((if_neg c24).trans ((if_neg c25).trans ((if_neg c26).trans ((if_neg c27).trans ((if_neg c28).trans ((if_neg c29).trans ((if_neg c30).trans ((if_neg c31).trans (if_neg c32))))))))))) J227
                                · refine AW.iconst (dcN_13 dcg_530 :) ?_
                                  refine AW.goto (tgt := 289) (dcN_14 dcg_530 :) (by decide) ?_
                                  exact AW.val (e17.trans ((if_neg c23).trans ((if_neg c24).trans ((if_neg c25).trans ((if_neg c26).trans ((if_neg c27).trans ((if_neg c28).trans ((if_neg c29).trans ((if_neg c30).trans ((if_neg c31).trans (if_pos c32))))))))))) J227
            · replace h := hF h c13
              refine AW.aloadr_n 1 (dcN_11 dcg_525 :) rfl ?_
              refine AW.iconst (dcN_12 dcg_525 :) ?_
              obtain ⟨g33, e34, h⟩ := hBe h
              refine AW.putI ap_X12_318_117 sr_117_41 (dcN_13 dcg_525 :) e34 ?_
              refine AW.sub (lv1 := [(0, rv z 117)]) [1] rfl ?_
              exact (ih _ _ _ h).2.2.2 rfl
          · replace h := hF h c12
            refine AW.sub (lv1 := [(0, rv z 117)]) [1] rfl ?_
            exact (ih _ _ _ h).2.2.1 rfl
        · replace h := hT h c11
          refine AW.aloadr_n 1 (dcN_15 dcg_523 :) rfl ?_
          refine AW.iconst (dcN_16 dcg_523 :) ?_
          obtain ⟨g35, e36, h⟩ := hBe h
          refine AW.putI ap_X12_306_117 sr_117_39 (dcN_17 dcg_523 :) e36 ?_
          refine AW.goto (tgt := 306) (dcN_0 dcg_524 :) (by decide) ?_
          exact AW.vret1 rfl (dcN_11 dcg_531 :) h rfl
      · replace h := hT h c6
        exact (ih _ _ _ h).2.1 rfl
  · subst h9
    replace h := hF h (by decide)
    replace h := hT h rfl
    refine AW.aloadr_n 0 (dcN_12 dcg_522 :) rfl ?_
    refine AW.duprr (dcN_13 dcg_522 :) ?_
    refine AW.getI af_X12_245_117 sr_117_38 (dcN_14 dcg_522 :) ?_
    refine AW.iconst (dcN_15 dcg_522 :) ?_
    refine AW.iadd (dcN_0 dcg_523 :) ?_
    obtain ⟨g1, e2, h⟩ := hBe h
    refine AW.putI ap_X12_245_117 sr_117_38 (dcN_1 dcg_523 :) e2 ?_
    refine AW.goto (tgt := 0) (dcN_2 dcg_523 :) (by decide) ?_
    exact (ih _ _ _ h).1 rfl
  · subst h9
    replace h := hF h (by decide)
    replace h := hF h (by decide)
    replace h := hT h rfl
    refine AW.aloadr_n 0 (dcN_4 dcg_524 :) rfl ?_
    refine AW.aloadr_n 0 (dcN_5 dcg_524 :) rfl ?_
    refine AW.getI af_X12_245_117 sr_117_38 (dcN_6 dcg_524 :) ?_
    obtain ⟨r1, e2, h⟩ := hC h
    refine AW.callVi (As := [iv (g 117 38)]) (st := []) (M_see_ok e2) cq_X12_302 cr_117_X12_see (Nat.le_trans (by decide) hdd) rfl (dcN_7 dcg_524 :) rfl (Nat.le_of_ble_eq_true rfl) ?_
    refine AW.callSi (As := [iv r1]) (st := []) M_isLetter_ok cq_X12_309 st_X12_isLetter (Nat.le_trans (by decide) hdd) rfl (dcN_8 dcg_524 :) rfl (Nat.le_of_ble_eq_true rfl) ?_
    refine AW.if_eq (tgt := 103) (dcN_9 dcg_524 :) (by decide) (fun c3 => ?_) (fun c3 => ?_)
    · replace h := hT h c3
      refine AW.aloadr_n 0 (dcN_3 dcg_525 :) rfl ?_
      refine AW.aloadr_n 0 (dcN_4 dcg_525 :) rfl ?_
      obtain ⟨r4, e5, h⟩ := hC h
      refine AW.callVi (As := []) (st := [rv z 117]) (M_word_ok e5) cq_X12_312 cr_117_X12_word (Nat.le_trans (by decide) hdd) rfl (dcN_5 dcg_525 :) rfl (Nat.le_of_ble_eq_true rfl) ?_
      obtain ⟨g6, e7, h⟩ := hBe h
      refine AW.putI ap_X12_306_117 sr_117_39 (dcN_6 dcg_525 :) e7 ?_
      refine AW.goto (tgt := 306) (dcN_7 dcg_525 :) (by decide) ?_
      exact AW.vret1 rfl (dcN_11 dcg_531 :) h rfl
    · replace h := hF h c3
      refine AW.aloadr_n 0 (dcN_10 dcg_524 :) rfl ?_
      refine AW.duprr (dcN_11 dcg_524 :) ?_
      refine AW.getI af_X12_245_117 sr_117_38 (dcN_12 dcg_524 :) ?_
      refine AW.iconst (dcN_13 dcg_524 :) ?_
      refine AW.iadd (dcN_0 dcg_525 :) ?_
      obtain ⟨g8, e9, h⟩ := hBe h
      refine AW.putI ap_X12_245_117 sr_117_38 (dcN_1 dcg_525 :) e9 ?_
      refine AW.goto (tgt := 76) (dcN_2 dcg_525 :) (by decide) ?_
      exact (ih _ _ _ h).2.2.1 rfl
  · subst h9
    replace h := hF h (by decide)
    replace h := hF h (by decide)
    replace h := hF h (by decide)
    replace h := hT h rfl
    refine AW.aloadr_n 0 (dcN_14 dcg_525 :) rfl ?_
    refine AW.aloadr_n 0 (dcN_15 dcg_525 :) rfl ?_
    refine AW.getI af_X12_245_117 sr_117_38 (dcN_0 dcg_526 :) ?_
    obtain ⟨r1, e2, h⟩ := hC h
    refine AW.callVi (As := [iv (g 117 38)]) (st := []) (M_see_ok e2) cq_X12_302 cr_117_X12_see (Nat.le_trans (by decide) hdd) rfl (dcN_1 dcg_526 :) rfl (Nat.le_of_ble_eq_true rfl) ?_
    refine AW.callSi (As := [iv r1]) (st := []) M_isDigit_ok cq_X12_315 st_X12_isDigit (Nat.le_trans (by decide) hdd) rfl (dcN_2 dcg_526 :) rfl (Nat.le_of_ble_eq_true rfl) ?_
    refine AW.if_eq (tgt := 189) (dcN_3 dcg_526 :) (by decide) (fun c3 => ?_) (fun c3 => ?_)
    · replace h := hT h c3
      refine AW.aloadr_n 0 (dcN_16 dcg_527 :) rfl ?_
      refine AW.aloadr_n 0 (dcN_17 dcg_527 :) rfl ?_
      refine AW.getI af_X12_245_117 sr_117_38 (dcN_18 dcg_527 :) ?_
      refine AW.aloadr_n 0 (dcN_0 dcg_528 :) rfl ?_
      refine AW.getI af_X12_248_117 sr_117_40 (dcN_1 dcg_528 :) ?_
      refine AW.isub (dcN_2 dcg_528 :) ?_
      refine AW.iconst (dcN_3 dcg_528 :) ?_
      obtain ⟨t4, e5, h⟩ := hBe h
      refine AW.join (tgt := 208) (lv1 := [(0, rv z 117)]) (st1 := [iv t4, rv z 117]) (g1 := g) ?_ (fun J200 => ?_)
      · obtain ⟨g6, e7, h⟩ := hBe h
        refine AW.putI ap_X12_306_117 sr_117_39 (dcN_8 dcg_528 :) e7 ?_
        refine AW.goto (tgt := 306) (dcN_9 dcg_528 :) (by decide) ?_
        exact AW.vret1 rfl (dcN_11 dcg_531 :) h rfl
      refine AW.icmp_ge (tgt := 207) (dcN_4 dcg_528 :) (by decide) (fun c8 => ?_) (fun c8 => ?_)
      · refine AW.iconst (dcN_7 dcg_528 :) ?_
        exact AW.val (e5.trans (if_pos c8)) J200
      · refine AW.iconst (dcN_5 dcg_528 :) ?_
        refine AW.goto (tgt := 208) (dcN_6 dcg_528 :) (by decide) ?_
        exact AW.val (e5.trans (if_neg c8)) J200
    · replace h := hF h c3
      refine AW.aloadr_n 0 (dcN_4 dcg_526 :) rfl ?_
      refine AW.getI af_X12_245_117 sr_117_38 (dcN_5 dcg_526 :) ?_
      refine AW.aloadr_n 0 (dcN_6 dcg_526 :) rfl ?_
      refine AW.getI af_X12_248_117 sr_117_40 (dcN_7 dcg_526 :) ?_
      refine AW.iconst (dcN_8 dcg_526 :) ?_
      refine AW.iadd (dcN_9 dcg_526 :) ?_
      obtain ⟨r14, e15, h⟩ := hC h
      refine AW.join (tgt := 176) (lv1 := [(0, rv z 117)]) (st1 := []) (g1 := r14) ?_ (fun J150 => ?_)
      · refine AW.aloadr_n 0 (dcN_9 dcg_527 :) rfl ?_
        refine AW.duprr (dcN_10 dcg_527 :) ?_
        refine AW.getI af_X12_245_117 sr_117_38 (dcN_11 dcg_527 :) ?_
        refine AW.iconst (dcN_12 dcg_527 :) ?_
        refine AW.iadd (dcN_13 dcg_527 :) ?_
        obtain ⟨g16, e17, h⟩ := hBe h
        refine AW.putI ap_X12_245_117 sr_117_38 (dcN_14 dcg_527 :) e17 ?_
        refine AW.goto (tgt := 126) (dcN_15 dcg_527 :) (by decide) ?_
        exact (ih _ _ _ h).2.2.2 rfl
      replace h := e15
      refine AW.icmp_ge (tgt := 176) (dcN_10 dcg_526 :) (by decide) (fun c9 => ?_) (fun c9 => ?_)
      · replace h := hT h c9
        cases h
        exact J150
      · replace h := hF h c9
        refine AW.aloadr_n 0 (dcN_11 dcg_526 :) rfl ?_
        refine AW.bipush (dcN_12 dcg_526 :) (by decide) (by decide) ?_
        refine AW.aloadr_n 0 (dcN_13 dcg_526 :) rfl ?_
        refine AW.getI af_X12_318_117 sr_117_41 (dcN_14 dcg_526 :) ?_
        refine AW.imul (dcN_0 dcg_527 :) ?_
        refine AW.aloadr_n 0 (dcN_1 dcg_527 :) rfl ?_
        refine AW.aloadr_n 0 (dcN_2 dcg_527 :) rfl ?_
        refine AW.getI af_X12_245_117 sr_117_38 (dcN_3 dcg_527 :) ?_
        obtain ⟨r10, e11, h⟩ := hC h
        refine AW.callVi (As := [iv (g 117 38)]) (st := [iv (10 * (g 117 41)), rv z 117]) (M_see_ok e11) cq_X12_302 cr_117_X12_see (Nat.le_trans (by decide) hdd) rfl (dcN_4 dcg_527 :) rfl (Nat.le_of_ble_eq_true rfl) ?_
        refine AW.iadd (dcN_5 dcg_527 :) ?_
        refine AW.bipush (dcN_6 dcg_527 :) (by decide) (by decide) ?_
        refine AW.isub (dcN_7 dcg_527 :) ?_
        obtain ⟨g12, e13, h⟩ := hBe h
        refine AW.putI ap_X12_318_117 sr_117_41 (dcN_8 dcg_527 :) e13 ?_
        cases h
        exact J150
theorem M_next0_ok {z : AZ} {g : AG} {r : Int × AG} (h : M_next0 g = some r) : AMf z yX12_next0 cX12_next0 3 none 7 [rv z 117] g r := by
  intro d hdd
  refine AM.of (by decide +kernel) (Nat.le_of_ble_eq_true rfl) ?_
  show AW z (RX12, cX12_next0, 3, none) d (QD none r) 0 [(0, rv z 117)] [] g
  unfold M_next0 at h
  exact (M_next0_b_ok hdd _ _ _ h).1 rfl
theorem M_bad_ok {z : AZ} {x1 : Int} {g : AG} {r : Int × AG} (h : M_bad x1 g = some r) : AMf z yX12_bad cX12_bad 2 (some .boolean) 0 [rv z 117, iv x1] g r := by
  intro d hdd
  refine AM.of (by decide +kernel) (Nat.le_of_ble_eq_true rfl) ?_
  show AW z (RX12, cX12_bad, 2, (some .boolean)) d (QD (some .boolean) r) 0 [(0, rv z 117), (1, iv x1)] [] g
  unfold M_bad at h
  refine AW.aloadr_n 0 (dcN_0 dcg_532 :) rfl ?_
  refine AW.iload_n 1 (dcN_1 dcg_532 :) rfl ?_
  obtain ⟨g1, e2, h⟩ := hBe h
  refine AW.putI ap_X12_321_117 sr_117_42 (dcN_2 dcg_532 :) e2 ?_
  refine AW.aloadr_n 0 (dcN_3 dcg_532 :) rfl ?_
  refine AW.aloadr_n 0 (dcN_4 dcg_532 :) rfl ?_
  refine AW.getI af_X12_248_117 sr_117_40 (dcN_5 dcg_532 :) ?_
  obtain ⟨g3, e4, h⟩ := hBe h
  refine AW.putI ap_X12_324_117 sr_117_43 (dcN_6 dcg_532 :) e4 ?_
  refine AW.iconst (dcN_7 dcg_532 :) ?_
  exact AW.zret1 rfl (Or.inl rfl) (dcN_8 dcg_532 :) h rfl
theorem M_lay_ok {z : AZ} {x1 : Int} {x2 : Int} {g : AG} {r : Int × AG} (h : M_lay x1 x2 g = some r) : AMf z yX12_lay cX12_lay 3 none 0 [rv z 117, iv x1, iv x2] g r := by
  intro d hdd
  refine AM.of (by decide +kernel) (Nat.le_of_ble_eq_true rfl) ?_
  show AW z (RX12, cX12_lay, 3, none) d (QD none r) 0 [(0, rv z 117), (1, iv x1), (2, iv x2)] [] g
  unfold M_lay at h
  refine AW.aloadr_n 0 (dcN_0 dcg_536 :) rfl ?_
  refine AW.getR af_X12_87_117 sr_117_26 (dcN_1 dcg_536 :) ?_
  refine AW.iconst (dcN_2 dcg_536 :) ?_
  refine AW.aloadr_n 0 (dcN_3 dcg_536 :) rfl ?_
  refine AW.getI af_X12_333_117 sr_117_36 (dcN_4 dcg_536 :) ?_
  refine AW.imul (dcN_5 dcg_536 :) ?_
  refine AW.iload_n 1 (dcN_6 dcg_536 :) rfl ?_
  obtain ⟨k1, h⟩ := hK h
  obtain ⟨g2, e3, h⟩ := hBe h
  refine AW.iast kc_141 sk_141 k1 (dcN_7 dcg_536 :) e3 ?_
  refine AW.aloadr_n 0 (dcN_8 dcg_536 :) rfl ?_
  refine AW.getR af_X12_87_117 sr_117_26 (dcN_9 dcg_536 :) ?_
  refine AW.iconst (dcN_10 dcg_536 :) ?_
  refine AW.aloadr_n 0 (dcN_11 dcg_536 :) rfl ?_
  refine AW.getI af_X12_333_117 sr_117_36 (dcN_0 dcg_537 :) ?_
  refine AW.imul (dcN_1 dcg_537 :) ?_
  refine AW.iconst (dcN_2 dcg_537 :) ?_
  refine AW.iadd (dcN_3 dcg_537 :) ?_
  refine AW.iload_n 2 (dcN_4 dcg_537 :) rfl ?_
  obtain ⟨k4, h⟩ := hK h
  obtain ⟨g5, e6, h⟩ := hBe h
  refine AW.iast kc_141 sk_141 k4 (dcN_5 dcg_537 :) e6 ?_
  refine AW.aloadr_n 0 (dcN_6 dcg_537 :) rfl ?_
  refine AW.duprr (dcN_7 dcg_537 :) ?_
  refine AW.getI af_X12_333_117 sr_117_36 (dcN_8 dcg_537 :) ?_
  refine AW.iconst (dcN_9 dcg_537 :) ?_
  refine AW.iadd (dcN_10 dcg_537 :) ?_
  obtain ⟨g7, e8, h⟩ := hBe h
  refine AW.putI ap_X12_333_117 sr_117_36 (dcN_11 dcg_537 :) e8 ?_
  exact AW.vret1 rfl dX12_lay_36 h rfl
set_option synthInstance.maxHeartbeats 2000000 in
theorem M_unit_b_ok {z : AZ} {d : Nat} (hdd : 8 ≤ d) {x1 : Int} {g : AG} : ∀ (r : Int × AG), M_unit_b x1 g = some r → AW z (RX12, cX12_unit, 2, (some .boolean)) d (QD (some .boolean) r) 30 [(0, rv z 117), (1, iv x1)] [] g := by
  intro r h
  unfold M_unit_b at h
  refine AW.aloadr_n 0 (dcN_16 dcg_547 :) rfl ?_
  refine AW.iload_n 1 (dcN_17 dcg_547 :) rfl ?_
  obtain ⟨t1, e2, h⟩ := hBe h
  refine AW.join (tgt := 46) (lv1 := [(0, rv z 117), (1, iv x1)]) (st1 := [iv t1, rv z 117]) (g1 := g) ?_ (fun J32 => ?_)
  · refine AW.aloadr_n 0 (dcN_7 dcg_548 :) rfl ?_
    refine AW.getI af_X12_318_117 sr_117_41 (dcN_8 dcg_548 :) ?_
    obtain ⟨r3, e4, h⟩ := hC h
    refine AW.callVv (As := [iv t1, iv (g 117 41)]) (st := []) (M_lay_ok e4) cq_X12_342 cr_117_X12_lay (Nat.le_trans (by decide) hdd) rfl (dcN_9 dcg_548 :) rfl (Nat.le_of_ble_eq_true rfl) ?_
    refine AW.aloadr_n 0 (dcN_10 dcg_548 :) rfl ?_
    obtain ⟨r5, e6, h⟩ := hC h
    refine AW.callVv (As := []) (st := []) (M_next0_ok e6) cq_X12_330 cr_117_X12_next0 (Nat.le_trans (by decide) hdd) rfl (dcN_11 dcg_548 :) rfl (Nat.le_of_ble_eq_true rfl) ?_
    refine AW.iconst (dcN_12 dcg_548 :) ?_
    exact AW.zret1 rfl (Or.inr rfl) (dcN_13 dcg_548 :) h rfl
  refine AW.if_eq (tgt := 45) (dcN_0 dcg_548 :) (by decide) (fun c7 => ?_) (fun c7 => ?_)
  · refine AW.iconst (dcN_6 dcg_548 :) ?_
    exact AW.val (e2.trans (if_pos c7)) J32
  · refine AW.aloadr_n 0 (dcN_1 dcg_548 :) rfl ?_
    refine AW.getI af_X12_306_117 sr_117_39 (dcN_2 dcg_548 :) ?_
    refine AW.bipush (dcN_3 dcg_548 :) (by decide) (by decide) ?_
    refine AW.isub (dcN_4 dcg_548 :) ?_
    refine AW.goto (tgt := 46) (dcN_5 dcg_548 :) (by decide) ?_
    exact AW.val (e2.trans (if_neg c7)) J32
theorem M_unit_ok {z : AZ} {g : AG} {r : Int × AG} (h : M_unit g = some r) : AMf z yX12_unit cX12_unit 2 (some .boolean) 8 [rv z 117] g r := by
  intro d hdd
  refine AM.of (by decide +kernel) (Nat.le_of_ble_eq_true rfl) ?_
  show AW z (RX12, cX12_unit, 2, (some .boolean)) d (QD (some .boolean) r) 0 [(0, rv z 117)] [] g
  unfold M_unit at h
  refine AW.aloadr_n 0 (dcN_0 dcg_547 :) rfl ?_
  refine AW.getI af_X12_306_117 sr_117_39 (dcN_1 dcg_547 :) ?_
  refine AW.bipush (dcN_2 dcg_547 :) (by decide) (by decide) ?_
  refine AW.bipush (dcN_3 dcg_547 :) (by decide) (by decide) ?_
  refine AW.callSi (As := [iv (g 117 39), iv 41, iv 49]) (st := []) M_isIn_ok cq_X12_3 st_X12_isIn (Nat.le_trans (by decide) hdd) rfl (dcN_4 dcg_547 :) rfl (Nat.le_of_ble_eq_true rfl) ?_
  refine AW.istore_n (lv1 := [(1, iv (M_isIn (g 117 39) 41 49)), (0, rv z 117)]) (dcN_5 dcg_547 :) (by decide) rfl ?_
  refine AW.aloadr_n 1 (dcN_6 dcg_547 :) rfl ?_
  refine AW.getI af_X12_306_117 sr_117_39 (dcN_7 dcg_547 :) ?_
  refine AW.iconst (dcN_8 dcg_547 :) ?_
  refine AW.icmp_eq (tgt := 30) (dcN_9 dcg_547 :) (by decide) (fun c1 => ?_) (fun c1 => ?_)
  · replace h := hT h c1
    refine AW.sub (lv1 := [(0, rv z 117), (1, iv (M_isIn (g 117 39) 41 49))]) [1, 0] rfl ?_
    exact M_unit_b_ok hdd _ h
  · replace h := hF h c1
    refine AW.iload_n 0 (dcN_10 dcg_547 :) rfl ?_
    refine AW.if_ne (tgt := 30) (dcN_11 dcg_547 :) (by decide) (fun c2 => ?_) (fun c2 => ?_)
    · replace h := hF h c2
      refine AW.sub (lv1 := [(0, rv z 117), (1, iv (M_isIn (g 117 39) 41 49))]) [1, 0] rfl ?_
      exact M_unit_b_ok hdd _ h
    · replace h := hT h c2
      refine AW.aloadr_n 1 (dcN_12 dcg_547 :) rfl ?_
      refine AW.iconst (dcN_13 dcg_547 :) ?_
      obtain ⟨r3, e4, h⟩ := hC h
      refine AW.callVi (As := [iv 1]) (st := []) (M_bad_ok e4) cq_X12_327 cr_117_X12_bad (Nat.le_trans (by decide) hdd) rfl (dcN_14 dcg_547 :) rfl (Nat.le_of_ble_eq_true rfl) ?_
      obtain ⟨k5, h⟩ := hK h
      exact AW.zret1 rfl k5 (dcN_15 dcg_547 :) h rfl
theorem M_number_ok {z : AZ} {x1 : Int} {x2 : Int} {g : AG} {r : Int × AG} (h : M_number x1 x2 g = some r) : AMf z yX12_number cX12_number 3 (some .boolean) 8 [rv z 117, iv x1, iv x2] g r := by
  intro d hdd
  refine AM.of (by decide +kernel) (Nat.le_of_ble_eq_true rfl) ?_
  show AW z (RX12, cX12_number, 3, (some .boolean)) d (QD (some .boolean) r) 0 [(0, rv z 117), (1, iv x1), (2, iv x2)] [] g
  unfold M_number at h
  refine AW.aloadr_n 0 (dcN_0 dcg_534 :) rfl ?_
  refine AW.getI af_X12_306_117 sr_117_39 (dcN_1 dcg_534 :) ?_
  refine AW.iconst (dcN_2 dcg_534 :) ?_
  refine AW.icmp_eq (tgt := 14) (dcN_3 dcg_534 :) (by decide) (fun c1 => ?_) (fun c1 => ?_)
  · replace h := hT h c1
    refine AW.aloadr_n 0 (dcN_8 dcg_534 :) rfl ?_
    refine AW.getI af_X12_318_117 sr_117_41 (dcN_9 dcg_534 :) ?_
    refine AW.iload_n 1 (dcN_10 dcg_534 :) rfl ?_
    refine AW.iload_n 2 (dcN_11 dcg_534 :) rfl ?_
    refine AW.callSi (As := [iv (g 117 41), iv x1, iv x2]) (st := []) M_isIn_ok cq_X12_3 st_X12_isIn (Nat.le_trans (by decide) hdd) rfl (dcN_0 dcg_535 :) rfl (Nat.le_of_ble_eq_true rfl) ?_
    refine AW.if_ne (tgt := 32) (dcN_1 dcg_535 :) (by decide) (fun c2 => ?_) (fun c2 => ?_)
    · replace h := hF h c2
      refine AW.aloadr_n 0 (dcN_6 dcg_535 :) rfl ?_
      obtain ⟨r3, e4, h⟩ := hC h
      refine AW.callVv (As := []) (st := []) (M_next0_ok e4) cq_X12_330 cr_117_X12_next0 (Nat.le_trans (by decide) hdd) rfl (dcN_7 dcg_535 :) rfl (Nat.le_of_ble_eq_true rfl) ?_
      refine AW.iconst (dcN_8 dcg_535 :) ?_
      exact AW.zret1 rfl (Or.inr rfl) (dcN_9 dcg_535 :) h rfl
    · replace h := hT h c2
      refine AW.aloadr_n 0 (dcN_2 dcg_535 :) rfl ?_
      refine AW.iconst (dcN_3 dcg_535 :) ?_
      obtain ⟨r5, e6, h⟩ := hC h
      refine AW.callVi (As := [iv 2]) (st := []) (M_bad_ok e6) cq_X12_327 cr_117_X12_bad (Nat.le_trans (by decide) hdd) rfl (dcN_4 dcg_535 :) rfl (Nat.le_of_ble_eq_true rfl) ?_
      obtain ⟨k7, h⟩ := hK h
      exact AW.zret1 rfl k7 (dcN_5 dcg_535 :) h rfl
  · replace h := hF h c1
    refine AW.aloadr_n 0 (dcN_4 dcg_534 :) rfl ?_
    refine AW.iconst (dcN_5 dcg_534 :) ?_
    obtain ⟨r8, e9, h⟩ := hC h
    refine AW.callVi (As := [iv 1]) (st := []) (M_bad_ok e9) cq_X12_327 cr_117_X12_bad (Nat.le_trans (by decide) hdd) rfl (dcN_6 dcg_534 :) rfl (Nat.le_of_ble_eq_true rfl) ?_
    obtain ⟨k10, h⟩ := hK h
    exact AW.zret1 rfl k10 (dcN_7 dcg_534 :) h rfl
set_option synthInstance.maxHeartbeats 2000000 in
theorem M_product_b_ok {z : AZ} {d : Nat} (hdd : 9 ≤ d) : ∀ (tag : Nat) (g : AG) (r : Int × AG), M_product_b tag g = some r → (tag = 1 → AW z (RX12, cX12_product, 3, (some .boolean)) d (QD (some .boolean) r) 9 [(0, rv z 117)] [] g) ∧ (tag = 2 → AW z (RX12, cX12_product, 3, (some .boolean)) d (QD (some .boolean) r) 29 [(0, rv z 117)] [] g) ∧ (tag = 3 → AW z (RX12, cX12_product, 3, (some .boolean)) d (QD (some .boolean) r) 97 [(0, rv z 117)] [] g) := by
  refine M_product_b.partial_correctness (fun tag g r => (tag = 1 → AW z (RX12, cX12_product, 3, (some .boolean)) d (QD (some .boolean) r) 9 [(0, rv z 117)] [] g) ∧ (tag = 2 → AW z (RX12, cX12_product, 3, (some .boolean)) d (QD (some .boolean) r) 29 [(0, rv z 117)] [] g) ∧ (tag = 3 → AW z (RX12, cX12_product, 3, (some .boolean)) d (QD (some .boolean) r) 97 [(0, rv z 117)] [] g)) ?_
  intro fb9 ih tag g r h
  refine ⟨fun h9 => ?_, fun h9 => ?_, fun h9 => ?_⟩
  · subst h9
    replace h := hT h rfl
    refine AW.aloadr_n 0 (dcN_5 dcg_543 :) rfl ?_
    refine AW.getI af_X12_306_117 sr_117_39 (dcN_6 dcg_543 :) ?_
    refine AW.sipush (dcN_7 dcg_543 :) (by decide) (by decide) ?_
    refine AW.icmp_eq (tgt := 29) (dcN_8 dcg_543 :) (by decide) (fun c1 => ?_) (fun c1 => ?_)
    · replace h := hT h c1
      exact (ih _ _ _ h).2.1 rfl
    · replace h := hF h c1
      refine AW.aloadr_n 0 (dcN_9 dcg_543 :) rfl ?_
      refine AW.getI af_X12_306_117 sr_117_39 (dcN_10 dcg_543 :) ?_
      refine AW.sipush (dcN_11 dcg_543 :) (by decide) (by decide) ?_
      refine AW.icmp_ne (tgt := 100) (dcN_12 dcg_543 :) (by decide) (fun c2 => ?_) (fun c2 => ?_)
      · replace h := hF h c2
        refine AW.iconst (dcN_1 dcg_546 :) ?_
        exact AW.zret1 rfl (Or.inr rfl) (dcN_2 dcg_546 :) h rfl
      · replace h := hT h c2
        exact (ih _ _ _ h).2.1 rfl
  · subst h9
    replace h := hF h (by decide)
    replace h := hT h rfl
    refine AW.aloadr_n 0 (dcN_13 dcg_543 :) rfl ?_
    refine AW.getI af_X12_306_117 sr_117_39 (dcN_14 dcg_543 :) ?_
    refine AW.sipush (dcN_0 dcg_544 :) (by decide) (by decide) ?_
    obtain ⟨t1, e2, h⟩ := hBe h
    refine AW.join (tgt := 44) (lv1 := [(0, rv z 117)]) (st1 := [iv t1]) (g1 := g) ?_ (fun J36 => ?_)
    · refine AW.istore_n (lv1 := [(1, iv t1), (0, rv z 117)]) (dcN_5 dcg_544 :) (by decide) rfl ?_
      refine AW.aloadr_n 1 (dcN_6 dcg_544 :) rfl ?_
      obtain ⟨r3, e4, h⟩ := hC h
      refine AW.callVv (As := []) (st := []) (M_next0_ok e4) cq_X12_330 cr_117_X12_next0 (Nat.le_trans (by decide) hdd) rfl (dcN_7 dcg_544 :) rfl (Nat.le_of_ble_eq_true rfl) ?_
      refine AW.iload_n 0 (dcN_8 dcg_544 :) rfl ?_
      refine AW.if_eq (tgt := 81) (dcN_9 dcg_544 :) (by decide) (fun c5 => ?_) (fun c5 => ?_)
      · replace h := hT h c5
        refine AW.aloadr_n 1 (dcN_8 dcg_545 :) rfl ?_
        obtain ⟨r6, e7, h⟩ := hC h
        refine AW.callVi (As := []) (st := []) (M_unit_ok e7) cq_X12_346 cr_117_X12_unit (Nat.le_trans (by decide) hdd) rfl (dcN_9 dcg_545 :) rfl (Nat.le_of_ble_eq_true rfl) ?_
        refine AW.if_ne (tgt := 90) (dcN_10 dcg_545 :) (by decide) (fun c8 => ?_) (fun c8 => ?_)
        · replace h := hF h c8
          refine AW.aloadr_n 1 (dcN_13 dcg_545 :) rfl ?_
          refine AW.bipush (dcN_14 dcg_545 :) (by decide) (by decide) ?_
          refine AW.iconst (dcN_15 dcg_545 :) ?_
          obtain ⟨r9, e10, h⟩ := hC h
          refine AW.callVv (As := [iv 12, iv 0]) (st := []) (M_lay_ok e10) cq_X12_342 cr_117_X12_lay (Nat.le_trans (by decide) hdd) rfl (dcN_16 dcg_545 :) rfl (Nat.le_of_ble_eq_true rfl) ?_
          refine AW.sub (lv1 := [(0, rv z 117)]) [1] rfl ?_
          exact (ih _ _ _ h).2.2 rfl
        · replace h := hT h c8
          refine AW.iconst (dcN_11 dcg_545 :) ?_
          exact AW.zret1 rfl (Or.inl rfl) (dcN_12 dcg_545 :) h rfl
      · replace h := hF h c5
        refine AW.aloadr_n 1 (dcN_10 dcg_544 :) rfl ?_
        refine AW.getI af_X12_318_117 sr_117_41 (dcN_11 dcg_544 :) ?_
        refine AW.istore_n (lv1 := [(2, iv (r3.2 117 41)), (1, iv t1), (0, rv z 117)]) (dcN_12 dcg_544 :) (by decide) rfl ?_
        refine AW.aloadr_n 2 (dcN_13 dcg_544 :) rfl ?_
        refine AW.iconst (dcN_14 dcg_544 :) ?_
        refine AW.sipush (dcN_15 dcg_544 :) (by decide) (by decide) ?_
        obtain ⟨r11, e12, h⟩ := hC h
        refine AW.callVi (As := [iv 1, iv 9999]) (st := []) (M_number_ok e12) cq_X12_349 cr_117_X12_number (Nat.le_trans (by decide) hdd) rfl (dcN_16 dcg_544 :) rfl (Nat.le_of_ble_eq_true rfl) ?_
        refine AW.if_ne (tgt := 71) (dcN_0 dcg_545 :) (by decide) (fun c13 => ?_) (fun c13 => ?_)
        · replace h := hF h c13
          refine AW.aloadr_n 2 (dcN_3 dcg_545 :) rfl ?_
          refine AW.bipush (dcN_4 dcg_545 :) (by decide) (by decide) ?_
          refine AW.iload_n 0 (dcN_5 dcg_545 :) rfl ?_
          obtain ⟨r14, e15, h⟩ := hC h
          refine AW.callVv (As := [iv 13, iv (r3.2 117 41)]) (st := []) (M_lay_ok e15) cq_X12_342 cr_117_X12_lay (Nat.le_trans (by decide) hdd) rfl (dcN_6 dcg_545 :) rfl (Nat.le_of_ble_eq_true rfl) ?_
          refine AW.goto (tgt := 97) (dcN_7 dcg_545 :) (by decide) ?_
          refine AW.sub (lv1 := [(0, rv z 117)]) [2] rfl ?_
          exact (ih _ _ _ h).2.2 rfl
        · replace h := hT h c13
          refine AW.iconst (dcN_1 dcg_545 :) ?_
          exact AW.zret1 rfl (Or.inl rfl) (dcN_2 dcg_545 :) h rfl
    refine AW.icmp_ne (tgt := 43) (dcN_1 dcg_544 :) (by decide) (fun c16 => ?_) (fun c16 => ?_)
    · refine AW.iconst (dcN_4 dcg_544 :) ?_
      exact AW.val (e2.trans (if_neg c16)) J36
    · refine AW.iconst (dcN_2 dcg_544 :) ?_
      refine AW.goto (tgt := 44) (dcN_3 dcg_544 :) (by decide) ?_
      exact AW.val (e2.trans (if_pos c16)) J36
  · subst h9
    replace h := hF h (by decide)
    replace h := hF h (by decide)
    replace h := hT h rfl
    refine AW.goto (tgt := 9) (dcN_0 dcg_546 :) (by decide) ?_
    exact (ih _ _ _ h).1 rfl
theorem M_product_ok {z : AZ} {g : AG} {r : Int × AG} (h : M_product g = some r) : AMf z yX12_product cX12_product 3 (some .boolean) 9 [rv z 117] g r := by
  intro d hdd
  refine AM.of (by decide +kernel) (Nat.le_of_ble_eq_true rfl) ?_
  show AW z (RX12, cX12_product, 3, (some .boolean)) d (QD (some .boolean) r) 0 [(0, rv z 117)] [] g
  unfold M_product at h
  refine AW.aloadr_n 0 (dcN_0 dcg_543 :) rfl ?_
  obtain ⟨r1, e2, h⟩ := hC h
  refine AW.callVi (As := []) (st := []) (M_unit_ok e2) cq_X12_346 cr_117_X12_unit (Nat.le_trans (by decide) hdd) rfl (dcN_1 dcg_543 :) rfl (Nat.le_of_ble_eq_true rfl) ?_
  refine AW.if_ne (tgt := 9) (dcN_2 dcg_543 :) (by decide) (fun c3 => ?_) (fun c3 => ?_)
  · replace h := hF h c3
    exact (M_product_b_ok hdd _ _ _ h).1 rfl
  · replace h := hT h c3
    refine AW.iconst (dcN_3 dcg_543 :) ?_
    exact AW.zret1 rfl (Or.inl rfl) (dcN_4 dcg_543 :) h rfl
set_option synthInstance.maxHeartbeats 2000000 in
theorem M_sumUp_b_ok {z : AZ} {d : Nat} (hdd : 10 ≤ d) : ∀ (tag : Nat) (g : AG) (r : Int × AG), M_sumUp_b tag g = some r → (tag = 1 → AW z (RX12, cX12_sumUp, 2, (some .boolean)) d (QD (some .boolean) r) 9 [(0, rv z 117)] [] g) ∧ (tag = 2 → AW z (RX12, cX12_sumUp, 2, (some .boolean)) d (QD (some .boolean) r) 29 [(0, rv z 117)] [] g) := by
  refine M_sumUp_b.partial_correctness (fun tag g r => (tag = 1 → AW z (RX12, cX12_sumUp, 2, (some .boolean)) d (QD (some .boolean) r) 9 [(0, rv z 117)] [] g) ∧ (tag = 2 → AW z (RX12, cX12_sumUp, 2, (some .boolean)) d (QD (some .boolean) r) 29 [(0, rv z 117)] [] g)) ?_
  intro fb9 ih tag g r h
  refine ⟨fun h9 => ?_, fun h9 => ?_⟩
  · subst h9
    replace h := hT h rfl
    refine AW.aloadr_n 0 (dcN_5 dcg_540 :) rfl ?_
    refine AW.getI af_X12_306_117 sr_117_39 (dcN_6 dcg_540 :) ?_
    refine AW.sipush (dcN_7 dcg_540 :) (by decide) (by decide) ?_
    refine AW.icmp_eq (tgt := 29) (dcN_8 dcg_540 :) (by decide) (fun c1 => ?_) (fun c1 => ?_)
    · replace h := hT h c1
      exact (ih _ _ _ h).2 rfl
    · replace h := hF h c1
      refine AW.aloadr_n 0 (dcN_9 dcg_540 :) rfl ?_
      refine AW.getI af_X12_306_117 sr_117_39 (dcN_10 dcg_540 :) ?_
      refine AW.sipush (dcN_11 dcg_540 :) (by decide) (by decide) ?_
      refine AW.icmp_ne (tgt := 69) (dcN_12 dcg_540 :) (by decide) (fun c2 => ?_) (fun c2 => ?_)
      · replace h := hF h c2
        refine AW.iconst (dcN_1 dcg_542 :) ?_
        exact AW.zret1 rfl (Or.inr rfl) (dcN_2 dcg_542 :) h rfl
      · replace h := hT h c2
        exact (ih _ _ _ h).2 rfl
  · subst h9
    replace h := hF h (by decide)
    replace h := hT h rfl
    refine AW.aloadr_n 0 (dcN_13 dcg_540 :) rfl ?_
    refine AW.getI af_X12_306_117 sr_117_39 (dcN_14 dcg_540 :) ?_
    refine AW.sipush (dcN_0 dcg_541 :) (by decide) (by decide) ?_
    obtain ⟨t1, e2, h⟩ := hBe h
    refine AW.join (tgt := 46) (lv1 := [(0, rv z 117)]) (st1 := [iv t1]) (g1 := g) ?_ (fun J36 => ?_)
    · refine AW.istore_n (lv1 := [(1, iv t1), (0, rv z 117)]) (dcN_5 dcg_541 :) (by decide) rfl ?_
      refine AW.aloadr_n 1 (dcN_6 dcg_541 :) rfl ?_
      obtain ⟨r3, e4, h⟩ := hC h
      refine AW.callVv (As := []) (st := []) (M_next0_ok e4) cq_X12_330 cr_117_X12_next0 (Nat.le_trans (by decide) hdd) rfl (dcN_7 dcg_541 :) rfl (Nat.le_of_ble_eq_true rfl) ?_
      refine AW.aloadr_n 1 (dcN_8 dcg_541 :) rfl ?_
      obtain ⟨r5, e6, h⟩ := hC h
      refine AW.callVi (As := []) (st := []) (M_product_ok e6) cq_X12_338 cr_117_X12_product (Nat.le_trans (by decide) hdd) rfl (dcN_9 dcg_541 :) rfl (Nat.le_of_ble_eq_true rfl) ?_
      refine AW.if_ne (tgt := 60) (dcN_10 dcg_541 :) (by decide) (fun c7 => ?_) (fun c7 => ?_)
      · replace h := hF h c7
        refine AW.aloadr_n 1 (dcN_13 dcg_541 :) rfl ?_
        refine AW.iload_n 0 (dcN_14 dcg_541 :) rfl ?_
        refine AW.iconst (dcN_15 dcg_541 :) ?_
        obtain ⟨r8, e9, h⟩ := hC h
        refine AW.callVv (As := [iv t1, iv 0]) (st := []) (M_lay_ok e9) cq_X12_342 cr_117_X12_lay (Nat.le_trans (by decide) hdd) rfl (dcN_16 dcg_541 :) rfl (Nat.le_of_ble_eq_true rfl) ?_
        refine AW.goto (tgt := 9) (dcN_0 dcg_542 :) (by decide) ?_
        refine AW.sub (lv1 := [(0, rv z 117)]) [1] rfl ?_
        exact (ih _ _ _ h).1 rfl
      · replace h := hT h c7
        refine AW.iconst (dcN_11 dcg_541 :) ?_
        exact AW.zret1 rfl (Or.inl rfl) (dcN_12 dcg_541 :) h rfl
    refine AW.icmp_ne (tgt := 44) (dcN_1 dcg_541 :) (by decide) (fun c10 => ?_) (fun c10 => ?_)
    · refine AW.bipush (dcN_4 dcg_541 :) (by decide) (by decide) ?_
      exact AW.val (e2.trans (if_neg c10)) J36
    · refine AW.bipush (dcN_2 dcg_541 :) (by decide) (by decide) ?_
      refine AW.goto (tgt := 46) (dcN_3 dcg_541 :) (by decide) ?_
      exact AW.val (e2.trans (if_pos c10)) J36
theorem M_sumUp_ok {z : AZ} {g : AG} {r : Int × AG} (h : M_sumUp g = some r) : AMf z yX12_sumUp cX12_sumUp 2 (some .boolean) 10 [rv z 117] g r := by
  intro d hdd
  refine AM.of (by decide +kernel) (Nat.le_of_ble_eq_true rfl) ?_
  show AW z (RX12, cX12_sumUp, 2, (some .boolean)) d (QD (some .boolean) r) 0 [(0, rv z 117)] [] g
  unfold M_sumUp at h
  refine AW.aloadr_n 0 (dcN_0 dcg_540 :) rfl ?_
  obtain ⟨r1, e2, h⟩ := hC h
  refine AW.callVi (As := []) (st := []) (M_product_ok e2) cq_X12_338 cr_117_X12_product (Nat.le_trans (by decide) hdd) rfl (dcN_1 dcg_540 :) rfl (Nat.le_of_ble_eq_true rfl) ?_
  refine AW.if_ne (tgt := 9) (dcN_2 dcg_540 :) (by decide) (fun c3 => ?_) (fun c3 => ?_)
  · replace h := hF h c3
    exact (M_sumUp_b_ok hdd _ _ _ h).1 rfl
  · replace h := hT h c3
    refine AW.iconst (dcN_3 dcg_540 :) ?_
    exact AW.zret1 rfl (Or.inl rfl) (dcN_4 dcg_540 :) h rfl
theorem M_hours_117_136_137_ok {z : AZ} {x2 : Int} {x4 : Int} {g : AG} {r : Int × AG} (h : M_hours_117_136_137 x2 x4 g = some r) : AMf z yX12_hours cX12_hours 5 (some .boolean) 9 [rv z 117, rv z 136, iv x2, rv z 137, iv x4] g r := by
  intro d hdd
  refine AM.of (by decide +kernel) (Nat.le_of_ble_eq_true rfl) ?_
  show AW z (RX12, cX12_hours, 5, (some .boolean)) d (QD (some .boolean) r) 0 [(0, rv z 117), (1, rv z 136), (2, iv x2), (3, rv z 137), (4, iv x4)] [] g
  unfold M_hours_117_136_137 at h
  refine AW.aloadr_n 1 (dcN_0 dcg_559 :) rfl ?_
  refine AW.iload_n 2 (dcN_1 dcg_559 :) rfl ?_
  refine AW.aloadr_n 0 (dcN_2 dcg_559 :) rfl ?_
  refine AW.getI af_X12_318_117 sr_117_41 (dcN_3 dcg_559 :) ?_
  obtain ⟨k1, h⟩ := hK h
  obtain ⟨g2, e3, h⟩ := hBe h
  refine AW.iast kc_136 sk_136 k1 (dcN_4 dcg_559 :) e3 ?_
  refine AW.aloadr_n 0 (dcN_5 dcg_559 :) rfl ?_
  refine AW.iconst (dcN_6 dcg_559 :) ?_
  refine AW.bipush (dcN_7 dcg_559 :) (by decide) (by decide) ?_
  obtain ⟨r4, e5, h⟩ := hC h
  refine AW.callVi (As := [iv 0, iv 24]) (st := []) (M_number_ok e5) cq_X12_349 cr_117_X12_number (Nat.le_trans (by decide) hdd) rfl (dcN_8 dcg_559 :) rfl (Nat.le_of_ble_eq_true rfl) ?_
  refine AW.if_ne (tgt := 19) (dcN_9 dcg_559 :) (by decide) (fun c6 => ?_) (fun c6 => ?_)
  · replace h := hF h c6
    refine AW.aloadr_n 3 (dcN_0 dcg_560 :) rfl ?_
    refine AW.iload 4 (dcN_1 dcg_560 :) rfl ?_
    refine AW.aloadr_n 0 (dcN_2 dcg_560 :) rfl ?_
    refine AW.getI af_X12_318_117 sr_117_41 (dcN_3 dcg_560 :) ?_
    obtain ⟨k7, h⟩ := hK h
    obtain ⟨g8, e9, h⟩ := hBe h
    refine AW.iast kc_137 sk_137 k7 (dcN_4 dcg_560 :) e9 ?_
    refine AW.aloadr_n 0 (dcN_5 dcg_560 :) rfl ?_
    refine AW.iconst (dcN_6 dcg_560 :) ?_
    refine AW.bipush (dcN_7 dcg_560 :) (by decide) (by decide) ?_
    obtain ⟨r10, e11, h⟩ := hC h
    refine AW.callVi (As := [iv 0, iv 24]) (st := []) (M_number_ok e11) cq_X12_349 cr_117_X12_number (Nat.le_trans (by decide) hdd) rfl (dcN_8 dcg_560 :) rfl (Nat.le_of_ble_eq_true rfl) ?_
    obtain ⟨k12, h⟩ := hK h
    exact AW.zret1 rfl k12 (dcN_9 dcg_560 :) h rfl
  · replace h := hT h c6
    refine AW.iconst (dcN_10 dcg_559 :) ?_
    exact AW.zret1 rfl (Or.inl rfl) (dcN_11 dcg_559 :) h rfl
