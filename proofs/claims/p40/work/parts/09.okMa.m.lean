section
theorem M_isIn_ok {z : AZ} {x0 : Int} {x1 : Int} {x2 : Int} {g : AG} : AMf z yX12_isIn cX12_isIn 3 (some .boolean) 0 [iv x0, iv x1, iv x2] g ((M_isIn x0 x1 x2), g) := by
  intro d hdd
  refine AM.of (by decide +kernel) (Nat.le_of_ble_eq_true rfl) ?_
  show AW z (RX12, cX12_isIn, 3, (some .boolean)) d (QD (some .boolean) ((M_isIn x0 x1 x2), g)) 0 [(0, iv x0), (1, iv x1), (2, iv x2)] [] g
  refine AW.iload_n 0 (dcN_0 dcg_466 :) rfl ?_
  refine AW.iload_n 1 (dcN_1 dcg_466 :) rfl ?_
  refine AW.join (tgt := 15) (lv1 := [(0, iv x0), (1, iv x1), (2, iv x2)]) (st1 := [iv (if nw x0 < nw x1 then 0 else (if nw x2 < nw x0 then 0 else 1))]) (g1 := g) ?_ (fun J2 => ?_)
  · exact AW.zret rfl (by (repeat' split) <;> first | exact Or.inl rfl | exact Or.inr rfl) (dcN_9 dcg_466 :) ⟨congrArg (fun v => some (iv v)) (show M_isIn x0 x1 x2  = (if nw x0 < nw x1 then 0 else (if nw x2 < nw x0 then 0 else 1)) from rfl).symm, rfl⟩
  refine AW.icmp_lt (tgt := 14) (dcN_2 dcg_466 :) (by decide) (fun c1 => ?_) (fun c1 => ?_)
  · refine AW.iconst (dcN_8 dcg_466 :) ?_
    exact AW.val (if_pos c1) J2
  · refine AW.iload_n 0 (dcN_3 dcg_466 :) rfl ?_
    refine AW.iload_n 2 (dcN_4 dcg_466 :) rfl ?_
    refine AW.icmp_gt (tgt := 14) (dcN_5 dcg_466 :) (by decide) (fun c2 => ?_) (fun c2 => ?_)
    · refine AW.iconst (dcN_8 dcg_466 :) ?_
      exact AW.val ((if_neg c1).trans (if_pos c2)) J2
    · refine AW.iconst (dcN_6 dcg_466 :) ?_
      refine AW.goto (tgt := 15) (dcN_7 dcg_466 :) (by decide) ?_
      exact AW.val ((if_neg c1).trans (if_neg c2)) J2
theorem M_stretch_ok {z : AZ} {x1 : Int} {x2 : Int} {x3 : Int} {x4 : Int} {g : AG} {r : Int × AG} (h : M_stretch x1 x2 x3 x4 g = some r) : AMf z yX12_stretch cX12_stretch 5 (some .boolean) 1 [rv z 117, iv x1, iv x2, iv x3, iv x4] g r := by
  intro d hdd
  refine AM.of (by decide +kernel) (Nat.le_of_ble_eq_true rfl) ?_
  show AW z (RX12, cX12_stretch, 5, (some .boolean)) d (QD (some .boolean) r) 0 [(0, rv z 117), (1, iv x1), (2, iv x2), (3, iv x3), (4, iv x4)] [] g
  unfold M_stretch at h
  refine AW.iload_n 1 (dcN_0 dcg_488 :) rfl ?_
  refine AW.iconst (dcN_1 dcg_488 :) ?_
  refine AW.bipush (dcN_2 dcg_488 :) (by decide) (by decide) ?_
  refine AW.callSi (As := [iv x1, iv 0, iv 14]) (st := []) M_isIn_ok cq_X12_3 st_X12_isIn (Nat.le_trans (by decide) hdd) rfl (dcN_3 dcg_488 :) rfl (Nat.le_of_ble_eq_true rfl) ?_
  refine AW.if_eq (tgt := 41) (dcN_4 dcg_488 :) (by decide) (fun c1 => ?_) (fun c1 => ?_)
  · replace h := hT h c1
    refine AW.iconst (dcN_4 dcg_489 :) ?_
    exact AW.zret1 rfl (Or.inl rfl) (dcN_5 dcg_489 :) h rfl
  · replace h := hF h c1
    refine AW.iload_n 2 (dcN_5 dcg_488 :) rfl ?_
    refine AW.iconst (dcN_6 dcg_488 :) ?_
    refine AW.bipush (dcN_7 dcg_488 :) (by decide) (by decide) ?_
    refine AW.callSi (As := [iv x2, iv 0, iv 9]) (st := []) M_isIn_ok cq_X12_3 st_X12_isIn (Nat.le_trans (by decide) hdd) rfl (dcN_8 dcg_488 :) rfl (Nat.le_of_ble_eq_true rfl) ?_
    refine AW.if_eq (tgt := 41) (dcN_9 dcg_488 :) (by decide) (fun c2 => ?_) (fun c2 => ?_)
    · replace h := hT h c2
      refine AW.iconst (dcN_4 dcg_489 :) ?_
      exact AW.zret1 rfl (Or.inl rfl) (dcN_5 dcg_489 :) h rfl
    · replace h := hF h c2
      refine AW.iload_n 3 (dcN_10 dcg_488 :) rfl ?_
      refine AW.iconst (dcN_11 dcg_488 :) ?_
      refine AW.bipush (dcN_12 dcg_488 :) (by decide) (by decide) ?_
      refine AW.callSi (As := [iv x3, iv 0, iv 9]) (st := []) M_isIn_ok cq_X12_3 st_X12_isIn (Nat.le_trans (by decide) hdd) rfl (dcN_13 dcg_488 :) rfl (Nat.le_of_ble_eq_true rfl) ?_
      refine AW.if_eq (tgt := 41) (dcN_14 dcg_488 :) (by decide) (fun c3 => ?_) (fun c3 => ?_)
      · replace h := hT h c3
        refine AW.iconst (dcN_4 dcg_489 :) ?_
        exact AW.zret1 rfl (Or.inl rfl) (dcN_5 dcg_489 :) h rfl
      · replace h := hF h c3
        refine AW.iload 4 (dcN_15 dcg_488 :) rfl ?_
        refine AW.iconst (dcN_0 dcg_489 :) ?_
        refine AW.bipush (dcN_1 dcg_489 :) (by decide) (by decide) ?_
        refine AW.callSi (As := [iv x4, iv 1, iv 99]) (st := []) M_isIn_ok cq_X12_3 st_X12_isIn (Nat.le_trans (by decide) hdd) rfl (dcN_2 dcg_489 :) rfl (Nat.le_of_ble_eq_true rfl) ?_
        refine AW.if_ne (tgt := 43) (dcN_3 dcg_489 :) (by decide) (fun c4 => ?_) (fun c4 => ?_)
        · replace h := hF h c4
          refine AW.aloadr_n 0 (dcN_6 dcg_489 :) rfl ?_
          refine AW.getR af_X12_13_117 sr_117_0 (dcN_7 dcg_489 :) ?_
          refine AW.iload_n 1 (dcN_8 dcg_489 :) rfl ?_
          refine AW.iload_n 2 (dcN_9 dcg_489 :) rfl ?_
          obtain ⟨k5, h⟩ := hK h
          obtain ⟨g6, e7, h⟩ := hBe h
          refine AW.iast kc_118 sk_118 k5 (dcN_10 dcg_489 :) e7 ?_
          refine AW.aloadr_n 0 (dcN_11 dcg_489 :) rfl ?_
          refine AW.getR af_X12_17_117 sr_117_1 (dcN_12 dcg_489 :) ?_
          refine AW.iload_n 1 (dcN_13 dcg_489 :) rfl ?_
          refine AW.iload_n 3 (dcN_14 dcg_489 :) rfl ?_
          obtain ⟨g8, e9, h⟩ := hBe h
          refine AW.iast kc_119 sk_119 k5 (dcN_15 dcg_489 :) e9 ?_
          refine AW.aloadr_n 0 (dcN_16 dcg_489 :) rfl ?_
          refine AW.getR af_X12_20_117 sr_117_2 (dcN_17 dcg_489 :) ?_
          refine AW.iload_n 1 (dcN_18 dcg_489 :) rfl ?_
          refine AW.iload 4 (dcN_19 dcg_489 :) rfl ?_
          obtain ⟨g10, e11, h⟩ := hBe h
          refine AW.iast kc_120 sk_120 k5 (dcN_0 dcg_490 :) e11 ?_
          refine AW.iconst (dcN_1 dcg_490 :) ?_
          exact AW.zret1 rfl (Or.inr rfl) (dcN_2 dcg_490 :) h rfl
        · replace h := hT h c4
          refine AW.iconst (dcN_4 dcg_489 :) ?_
          exact AW.zret1 rfl (Or.inl rfl) (dcN_5 dcg_489 :) h rfl
theorem M_water_ok {z : AZ} {x1 : Int} {g : AG} {r : Int × AG} (h : M_water x1 g = some r) : AMf z yX12_water cX12_water 2 (some .boolean) 1 [rv z 117, iv x1] g r := by
  intro d hdd
  refine AM.of (by decide +kernel) (Nat.le_of_ble_eq_true rfl) ?_
  show AW z (RX12, cX12_water, 2, (some .boolean)) d (QD (some .boolean) r) 0 [(0, rv z 117), (1, iv x1)] [] g
  unfold M_water at h
  refine AW.iload_n 1 (dcN_0 dcg_491 :) rfl ?_
  refine AW.iconst (dcN_1 dcg_491 :) ?_
  refine AW.sipush (dcN_2 dcg_491 :) (by decide) (by decide) ?_
  refine AW.callSi (As := [iv x1, iv 0, iv 999]) (st := []) M_isIn_ok cq_X12_3 st_X12_isIn (Nat.le_trans (by decide) hdd) rfl (dcN_3 dcg_491 :) rfl (Nat.le_of_ble_eq_true rfl) ?_
  refine AW.if_ne (tgt := 13) (dcN_4 dcg_491 :) (by decide) (fun c1 => ?_) (fun c1 => ?_)
  · replace h := hF h c1
    refine AW.aloadr_n 0 (dcN_7 dcg_491 :) rfl ?_
    refine AW.iload_n 1 (dcN_8 dcg_491 :) rfl ?_
    obtain ⟨g2, e3, h⟩ := hBe h
    refine AW.putI ap_X12_44_117 sr_117_10 (dcN_9 dcg_491 :) e3 ?_
    refine AW.iconst (dcN_10 dcg_491 :) ?_
    exact AW.zret1 rfl (Or.inr rfl) (dcN_11 dcg_491 :) h rfl
  · replace h := hT h c1
    refine AW.iconst (dcN_5 dcg_491 :) ?_
    exact AW.zret1 rfl (Or.inl rfl) (dcN_6 dcg_491 :) h rfl
theorem M_stoppage_ok {z : AZ} {x1 : Int} {x2 : Int} {x3 : Int} {g : AG} {r : Int × AG} (h : M_stoppage x1 x2 x3 g = some r) : AMf z yX12_stoppage cX12_stoppage 4 (some .int) 1 [rv z 117, iv x1, iv x2, iv x3] g r := by
  intro d hdd
  refine AM.of (by decide +kernel) (Nat.le_of_ble_eq_true rfl) ?_
  show AW z (RX12, cX12_stoppage, 4, (some .int)) d (QD (some .int) r) 0 [(0, rv z 117), (1, iv x1), (2, iv x2), (3, iv x3)] [] g
  unfold M_stoppage at h
  refine AW.iload_n 1 (dcN_0 dcg_492 :) rfl ?_
  refine AW.iconst (dcN_1 dcg_492 :) ?_
  refine AW.icmp_ne (tgt := 12) (dcN_2 dcg_492 :) (by decide) (fun c1 => ?_) (fun c1 => ?_)
  · replace h := hF h c1
    refine AW.iload_n 1 (dcN_8 dcg_492 :) rfl ?_
    refine AW.iconst (dcN_9 dcg_492 :) ?_
    refine AW.bipush (dcN_10 dcg_492 :) (by decide) (by decide) ?_
    refine AW.callSi (As := [iv x1, iv 0, iv 14]) (st := []) M_isIn_ok cq_X12_3 st_X12_isIn (Nat.le_trans (by decide) hdd) rfl (dcN_11 dcg_492 :) rfl (Nat.le_of_ble_eq_true rfl) ?_
    refine AW.if_eq (tgt := 51) (dcN_12 dcg_492 :) (by decide) (fun c2 => ?_) (fun c2 => ?_)
    · replace h := hT h c2
      refine AW.iconst (dcN_9 dcg_493 :) ?_
      exact AW.iret1 rfl (dcN_10 dcg_493 :) h rfl
    · replace h := hF h c2
      refine AW.iload_n 2 (dcN_13 dcg_492 :) rfl ?_
      refine AW.iconst (dcN_14 dcg_492 :) ?_
      refine AW.bipush (dcN_15 dcg_492 :) (by decide) (by decide) ?_
      refine AW.callSi (As := [iv x2, iv 0, iv 13]) (st := []) M_isIn_ok cq_X12_3 st_X12_isIn (Nat.le_trans (by decide) hdd) rfl (dcN_16 dcg_492 :) rfl (Nat.le_of_ble_eq_true rfl) ?_
      refine AW.if_eq (tgt := 51) (dcN_17 dcg_492 :) (by decide) (fun c3 => ?_) (fun c3 => ?_)
      · replace h := hT h c3
        refine AW.iconst (dcN_9 dcg_493 :) ?_
        exact AW.iret1 rfl (dcN_10 dcg_493 :) h rfl
      · replace h := hF h c3
        refine AW.iload_n 3 (dcN_0 dcg_493 :) rfl ?_
        refine AW.iload_n 2 (dcN_1 dcg_493 :) rfl ?_
        refine AW.bipush (dcN_2 dcg_493 :) (by decide) (by decide) ?_
        refine AW.callSi (As := [iv x3, iv x2, iv 13]) (st := []) M_isIn_ok cq_X12_3 st_X12_isIn (Nat.le_trans (by decide) hdd) rfl (dcN_3 dcg_493 :) rfl (Nat.le_of_ble_eq_true rfl) ?_
        refine AW.if_eq (tgt := 51) (dcN_4 dcg_493 :) (by decide) (fun c4 => ?_) (fun c4 => ?_)
        · replace h := hT h c4
          refine AW.iconst (dcN_9 dcg_493 :) ?_
          exact AW.iret1 rfl (dcN_10 dcg_493 :) h rfl
        · replace h := hF h c4
          refine AW.aloadr_n 0 (dcN_5 dcg_493 :) rfl ?_
          refine AW.getI af_X12_232_117 sr_117_11 (dcN_6 dcg_493 :) ?_
          refine AW.bipush (dcN_7 dcg_493 :) (by decide) (by decide) ?_
          refine AW.icmp_ne (tgt := 53) (dcN_8 dcg_493 :) (by decide) (fun c5 => ?_) (fun c5 => ?_)
          · replace h := hF h c5
            refine AW.aloadr_n 0 (dcN_11 dcg_493 :) rfl ?_
            refine AW.getR af_X12_23_117 sr_117_3 (dcN_12 dcg_493 :) ?_
            refine AW.aloadr_n 0 (dcN_13 dcg_493 :) rfl ?_
            refine AW.getI af_X12_232_117 sr_117_11 (dcN_14 dcg_493 :) ?_
            refine AW.iload_n 1 (dcN_15 dcg_493 :) rfl ?_
            obtain ⟨k6, h⟩ := hK h
            obtain ⟨g7, e8, h⟩ := hBe h
            refine AW.iast kc_121 sk_121 k6 (dcN_16 dcg_493 :) e8 ?_
            refine AW.aloadr_n 0 (dcN_17 dcg_493 :) rfl ?_
            refine AW.getR af_X12_26_117 sr_117_4 (dcN_0 dcg_494 :) ?_
            refine AW.aloadr_n 0 (dcN_1 dcg_494 :) rfl ?_
            refine AW.getI af_X12_232_117 sr_117_11 (dcN_2 dcg_494 :) ?_
            refine AW.iload_n 2 (dcN_3 dcg_494 :) rfl ?_
            obtain ⟨k9, h⟩ := hK h
            obtain ⟨g10, e11, h⟩ := hBe h
            refine AW.iast kc_122 sk_122 k9 (dcN_4 dcg_494 :) e11 ?_
            refine AW.aloadr_n 0 (dcN_5 dcg_494 :) rfl ?_
            refine AW.getR af_X12_29_117 sr_117_5 (dcN_6 dcg_494 :) ?_
            refine AW.aloadr_n 0 (dcN_7 dcg_494 :) rfl ?_
            refine AW.getI af_X12_232_117 sr_117_11 (dcN_8 dcg_494 :) ?_
            refine AW.iload_n 3 (dcN_9 dcg_494 :) rfl ?_
            obtain ⟨k12, h⟩ := hK h
            obtain ⟨g13, e14, h⟩ := hBe h
            refine AW.iast kc_123 sk_123 k12 (dcN_10 dcg_494 :) e14 ?_
            refine AW.aloadr_n 0 (dcN_11 dcg_494 :) rfl ?_
            refine AW.duprr (dcN_12 dcg_494 :) ?_
            refine AW.getI af_X12_232_117 sr_117_11 (dcN_13 dcg_494 :) ?_
            refine AW.iconst (dcN_14 dcg_494 :) ?_
            refine AW.iadd (dcN_15 dcg_494 :) ?_
            obtain ⟨g15, e16, h⟩ := hBe h
            refine AW.putI ap_X12_232_117 sr_117_11 (dcN_16 dcg_494 :) e16 ?_
            refine AW.aloadr_n 0 (dcN_17 dcg_494 :) rfl ?_
            refine AW.getI af_X12_232_117 sr_117_11 (dcN_18 dcg_494 :) ?_
            exact AW.iret1 rfl (dcN_0 dcg_495 :) h rfl
          · replace h := hT h c5
            refine AW.iconst (dcN_9 dcg_493 :) ?_
            exact AW.iret1 rfl (dcN_10 dcg_493 :) h rfl
  · replace h := hT h c1
    refine AW.aloadr_n 0 (dcN_3 dcg_492 :) rfl ?_
    refine AW.iconst (dcN_4 dcg_492 :) ?_
    obtain ⟨g17, e18, h⟩ := hBe h
    refine AW.putI ap_X12_232_117 sr_117_11 (dcN_5 dcg_492 :) e18 ?_
    refine AW.iconst (dcN_6 dcg_492 :) ?_
    exact AW.iret1 rfl (dcN_7 dcg_492 :) h rfl
theorem M_isPoint_ok {z : AZ} {x0 : Int} {g : AG} : AMf z yX12_isPoint cX12_isPoint 1 (some .boolean) 1 [iv x0] g ((M_isPoint x0), g) := by
  intro d hdd
  refine AM.of (by decide +kernel) (Nat.le_of_ble_eq_true rfl) ?_
  show AW z (RX12, cX12_isPoint, 1, (some .boolean)) d (QD (some .boolean) ((M_isPoint x0), g)) 0 [(0, iv x0)] [] g
  refine AW.iload_n 0 (dcN_0 dcg_467 :) rfl ?_
  refine AW.iconst (dcN_1 dcg_467 :) ?_
  refine AW.bipush (dcN_2 dcg_467 :) (by decide) (by decide) ?_
  refine AW.callSi (As := [iv x0, iv 0, iv 15]) (st := []) M_isIn_ok cq_X12_3 st_X12_isIn (Nat.le_trans (by decide) hdd) rfl (dcN_3 dcg_467 :) rfl (Nat.le_of_ble_eq_true rfl) ?_
  exact AW.zret rfl M_isIn_01 (dcN_4 dcg_467 :) ⟨congrArg (fun v => some (iv v)) (show M_isPoint x0  = (M_isIn x0 0 15) from rfl).symm, rfl⟩
theorem M_boat_ok {z : AZ} {x1 : Int} {x2 : Int} {x3 : Int} {x4 : Int} {g : AG} {r : Int × AG} (h : M_boat x1 x2 x3 x4 g = some r) : AMf z yX12_boat cX12_boat 5 (some .int) 2 [rv z 117, iv x1, iv x2, iv x3, iv x4] g r := by
  intro d hdd
  refine AM.of (by decide +kernel) (Nat.le_of_ble_eq_true rfl) ?_
  show AW z (RX12, cX12_boat, 5, (some .int)) d (QD (some .int) r) 0 [(0, rv z 117), (1, iv x1), (2, iv x2), (3, iv x3), (4, iv x4)] [] g
  unfold M_boat at h
  refine AW.iload_n 1 (dcN_0 dcg_497 :) rfl ?_
  refine AW.iconst (dcN_1 dcg_497 :) ?_
  refine AW.bipush (dcN_2 dcg_497 :) (by decide) (by decide) ?_
  refine AW.callSi (As := [iv x1, iv 2, iv 12]) (st := []) M_isIn_ok cq_X12_3 st_X12_isIn (Nat.le_trans (by decide) hdd) rfl (dcN_3 dcg_497 :) rfl (Nat.le_of_ble_eq_true rfl) ?_
  refine AW.if_eq (tgt := 47) (dcN_4 dcg_497 :) (by decide) (fun c1 => ?_) (fun c1 => ?_)
  · replace h := hT h c1
    refine AW.iconst (dcN_6 dcg_498 :) ?_
    exact AW.iret1 rfl (dcN_7 dcg_498 :) h rfl
  · replace h := hF h c1
    refine AW.iload_n 2 (dcN_5 dcg_497 :) rfl ?_
    refine AW.iconst (dcN_6 dcg_497 :) ?_
    refine AW.bipush (dcN_7 dcg_497 :) (by decide) (by decide) ?_
    refine AW.callSi (As := [iv x2, iv 0, iv 99]) (st := []) M_isIn_ok cq_X12_3 st_X12_isIn (Nat.le_trans (by decide) hdd) rfl (dcN_8 dcg_497 :) rfl (Nat.le_of_ble_eq_true rfl) ?_
    refine AW.if_eq (tgt := 47) (dcN_9 dcg_497 :) (by decide) (fun c2 => ?_) (fun c2 => ?_)
    · replace h := hT h c2
      refine AW.iconst (dcN_6 dcg_498 :) ?_
      exact AW.iret1 rfl (dcN_7 dcg_498 :) h rfl
    · replace h := hF h c2
      refine AW.iload_n 3 (dcN_10 dcg_497 :) rfl ?_
      refine AW.callSi (As := [iv x3]) (st := []) M_isPoint_ok cq_X12_238 st_X12_isPoint (Nat.le_trans (by decide) hdd) rfl (dcN_11 dcg_497 :) rfl (Nat.le_of_ble_eq_true rfl) ?_
      refine AW.if_eq (tgt := 47) (dcN_12 dcg_497 :) (by decide) (fun c3 => ?_) (fun c3 => ?_)
      · replace h := hT h c3
        refine AW.iconst (dcN_6 dcg_498 :) ?_
        exact AW.iret1 rfl (dcN_7 dcg_498 :) h rfl
      · replace h := hF h c3
        refine AW.iload 4 (dcN_13 dcg_497 :) rfl ?_
        refine AW.iconst (dcN_14 dcg_497 :) ?_
        refine AW.bipush (dcN_15 dcg_497 :) (by decide) (by decide) ?_
        refine AW.callSi (As := [iv x4, iv 0, iv 60]) (st := []) M_isIn_ok cq_X12_3 st_X12_isIn (Nat.le_trans (by decide) hdd) rfl (dcN_0 dcg_498 :) rfl (Nat.le_of_ble_eq_true rfl) ?_
        refine AW.if_eq (tgt := 47) (dcN_1 dcg_498 :) (by decide) (fun c4 => ?_) (fun c4 => ?_)
        · replace h := hT h c4
          refine AW.iconst (dcN_6 dcg_498 :) ?_
          exact AW.iret1 rfl (dcN_7 dcg_498 :) h rfl
        · replace h := hF h c4
          refine AW.aloadr_n 0 (dcN_2 dcg_498 :) rfl ?_
          refine AW.getI af_X12_235_117 sr_117_12 (dcN_3 dcg_498 :) ?_
          refine AW.bipush (dcN_4 dcg_498 :) (by decide) (by decide) ?_
          refine AW.icmp_ne (tgt := 49) (dcN_5 dcg_498 :) (by decide) (fun c5 => ?_) (fun c5 => ?_)
          · replace h := hF h c5
            refine AW.aloadr_n 0 (dcN_8 dcg_498 :) rfl ?_
            refine AW.getR af_X12_32_117 sr_117_6 (dcN_9 dcg_498 :) ?_
            refine AW.aloadr_n 0 (dcN_10 dcg_498 :) rfl ?_
            refine AW.getI af_X12_235_117 sr_117_12 (dcN_11 dcg_498 :) ?_
            refine AW.iload_n 1 (dcN_12 dcg_498 :) rfl ?_
            obtain ⟨k6, h⟩ := hK h
            obtain ⟨g7, e8, h⟩ := hBe h
            refine AW.iast kc_124 sk_124 k6 (dcN_13 dcg_498 :) e8 ?_
            refine AW.aloadr_n 0 (dcN_14 dcg_498 :) rfl ?_
            refine AW.getR af_X12_35_117 sr_117_7 (dcN_15 dcg_498 :) ?_
            refine AW.aloadr_n 0 (dcN_16 dcg_498 :) rfl ?_
            refine AW.getI af_X12_235_117 sr_117_12 (dcN_0 dcg_499 :) ?_
            refine AW.iload_n 2 (dcN_1 dcg_499 :) rfl ?_
            obtain ⟨k9, h⟩ := hK h
            obtain ⟨g10, e11, h⟩ := hBe h
            refine AW.iast kc_125 sk_125 k9 (dcN_2 dcg_499 :) e11 ?_
            refine AW.aloadr_n 0 (dcN_3 dcg_499 :) rfl ?_
            refine AW.getR af_X12_38_117 sr_117_8 (dcN_4 dcg_499 :) ?_
            refine AW.aloadr_n 0 (dcN_5 dcg_499 :) rfl ?_
            refine AW.getI af_X12_235_117 sr_117_12 (dcN_6 dcg_499 :) ?_
            refine AW.iload_n 3 (dcN_7 dcg_499 :) rfl ?_
            obtain ⟨k12, h⟩ := hK h
            obtain ⟨g13, e14, h⟩ := hBe h
            refine AW.iast kc_126 sk_126 k12 (dcN_8 dcg_499 :) e14 ?_
            refine AW.aloadr_n 0 (dcN_9 dcg_499 :) rfl ?_
            refine AW.getR af_X12_41_117 sr_117_9 (dcN_10 dcg_499 :) ?_
            refine AW.aloadr_n 0 (dcN_11 dcg_499 :) rfl ?_
            refine AW.getI af_X12_235_117 sr_117_12 (dcN_12 dcg_499 :) ?_
            refine AW.iload 4 (dcN_13 dcg_499 :) rfl ?_
            obtain ⟨k15, h⟩ := hK h
            obtain ⟨g16, e17, h⟩ := hBe h
            refine AW.iast kc_127 sk_127 k15 (dcN_14 dcg_499 :) e17 ?_
            refine AW.aloadr_n 0 (dcN_15 dcg_499 :) rfl ?_
            refine AW.duprr (dcN_16 dcg_499 :) ?_
            refine AW.getI af_X12_235_117 sr_117_12 (dcN_17 dcg_499 :) ?_
            refine AW.iconst (dcN_18 dcg_499 :) ?_
            refine AW.iadd (dcN_0 dcg_500 :) ?_
            obtain ⟨g18, e19, h⟩ := hBe h
            refine AW.putI ap_X12_235_117 sr_117_12 (dcN_1 dcg_500 :) e19 ?_
            refine AW.aloadr_n 0 (dcN_2 dcg_500 :) rfl ?_
            refine AW.getI af_X12_235_117 sr_117_12 (dcN_3 dcg_500 :) ?_
            refine AW.iconst (dcN_4 dcg_500 :) ?_
            refine AW.isub (dcN_5 dcg_500 :) ?_
            exact AW.iret1 rfl (dcN_6 dcg_500 :) h rfl
          · replace h := hT h c5
            refine AW.iconst (dcN_6 dcg_498 :) ?_
            exact AW.iret1 rfl (dcN_7 dcg_498 :) h rfl
set_option synthInstance.maxHeartbeats 2000000 in
theorem M_feed_b_ok {z : AZ} {d : Nat} (hdd : 0 ≤ d) {x1 : Int} {x2 : Int} {x3 : Int} {x4 : Int} {x5 : Int} : ∀ (x6 : Int) (g : AG) (r : Int × AG), M_feed_b x1 x2 x3 x4 x5 x6 g = some r → AW z (RX12, cX12_feed, 8, (some .int)) d (QD (some .int) r) 18 [(0, rv z 117), (1, iv x1), (2, iv x2), (3, iv x3), (4, iv x4), (5, iv x5), (6, iv x6)] [] g := by
  refine M_feed_b.partial_correctness x1 x2 x3 x4 x5 (fun x6 g r => AW z (RX12, cX12_feed, 8, (some .int)) d (QD (some .int) r) 18 [(0, rv z 117), (1, iv x1), (2, iv x2), (3, iv x3), (4, iv x4), (5, iv x5), (6, iv x6)] [] g) ?_
  intro fb9 ih x6 g r h
  refine AW.iload 6 (dcN_10 dcg_501 :) rfl ?_
  refine AW.bipush (dcN_11 dcg_501 :) (by decide) (by decide) ?_
  refine AW.icmp_ge (tgt := 115) (dcN_12 dcg_501 :) (by decide) (fun c1 => ?_) (fun c1 => ?_)
  · replace h := hT h c1
    refine AW.aloadr_n 0 (dcN_10 dcg_504 :) rfl ?_
    refine AW.getI af_X12_242_117 sr_117_37 (dcN_11 dcg_504 :) ?_
    exact AW.iret1 rfl (dcN_12 dcg_504 :) h rfl
  · replace h := hF h c1
    refine AW.iload 6 (dcN_13 dcg_501 :) rfl ?_
    refine AW.iconst (dcN_14 dcg_501 :) ?_
    obtain ⟨t2, e3, h⟩ := hBe h
    refine AW.join (tgt := 71) (lv1 := [(0, rv z 117), (1, iv x1), (2, iv x2), (3, iv x3), (4, iv x4), (5, iv x5), (6, iv x6)]) (st1 := [iv t2]) (g1 := g) ?_ (fun J28 => ?_)
    · refine AW.istore (lv1 := [(7, iv t2), (0, rv z 117), (1, iv x1), (2, iv x2), (3, iv x3), (4, iv x4), (5, iv x5), (6, iv x6)]) (dcN_3 dcg_503 :) (by decide) rfl ?_
      refine AW.aloadr_n 1 (dcN_4 dcg_503 :) rfl ?_
      refine AW.getR af_X12_103_117 sr_117_31 (dcN_5 dcg_503 :) ?_
      refine AW.aloadr_n 1 (dcN_6 dcg_503 :) rfl ?_
      refine AW.getI af_X12_242_117 sr_117_37 (dcN_7 dcg_503 :) ?_
      refine AW.iload 0 (dcN_8 dcg_503 :) rfl ?_
      refine AW.bipush (dcN_9 dcg_503 :) (by decide) (by decide) ?_
      refine AW.bipush (dcN_10 dcg_503 :) (by decide) (by decide) ?_
      refine AW.iload 7 (dcN_11 dcg_503 :) rfl ?_
      refine AW.iconst (dcN_12 dcg_503 :) ?_
      refine AW.irem (dcN_13 dcg_503 :) (by decide) ?_
      refine AW.imul (dcN_14 dcg_503 :) ?_
      refine AW.isub (dcN_15 dcg_503 :) ?_
      refine AW.ishr (dcN_16 dcg_503 :) ?_
      refine AW.sipush (dcN_17 dcg_503 :) (by decide) (by decide) ?_
      refine AW.iand (dcN_0 dcg_504 :) ?_
      obtain ⟨k4, h⟩ := hK h
      obtain ⟨g5, e6, h⟩ := hBe h
      refine AW.iast kc_146 sk_146 k4 (dcN_1 dcg_504 :) e6 ?_
      refine AW.aloadr_n 1 (dcN_2 dcg_504 :) rfl ?_
      refine AW.duprr (dcN_3 dcg_504 :) ?_
      refine AW.getI af_X12_242_117 sr_117_37 (dcN_4 dcg_504 :) ?_
      refine AW.iconst (dcN_5 dcg_504 :) ?_
      refine AW.iadd (dcN_6 dcg_504 :) ?_
      obtain ⟨g7, e8, h⟩ := hBe h
      refine AW.putI ap_X12_242_117 sr_117_37 (dcN_7 dcg_504 :) e8 ?_
      refine AW.iinc (lv1 := [(6, iv (x6 + 1)), (7, iv t2), (0, rv z 117), (1, iv x1), (2, iv x2), (3, iv x3), (4, iv x4), (5, iv x5)]) 7 (dcN_8 dcg_504 :) rfl (by decide) rfl ?_
      refine AW.goto (tgt := 18) (dcN_9 dcg_504 :) (by decide) ?_
      refine AW.sub (lv1 := [(0, rv z 117), (1, iv x1), (2, iv x2), (3, iv x3), (4, iv x4), (5, iv x5), (6, iv (x6 + 1))]) [2, 3, 4, 5, 6, 7, 0] rfl ?_
      exact ih _ _ _ h
    refine AW.icmp_ge (tgt := 35) (dcN_15 dcg_501 :) (by decide) (fun c9 => ?_) (fun c9 => ?_)
    · refine AW.iload 6 (dcN_1 dcg_502 :) rfl ?_
      refine AW.bipush (dcN_2 dcg_502 :) (by decide) (by decide) ?_
      refine AW.icmp_ge (tgt := 46) (dcN_3 dcg_502 :) (by decide) (fun c10 => ?_) (fun c10 => ?_)
      · refine AW.iload 6 (dcN_6 dcg_502 :) rfl ?_
        refine AW.bipush (dcN_7 dcg_502 :) (by decide) (by decide) ?_
        refine AW.icmp_ge (tgt := 57) (dcN_8 dcg_502 :) (by decide) (fun c11 => ?_) (fun c11 => ?_)
        · refine AW.iload 6 (dcN_11 dcg_502 :) rfl ?_
          refine AW.bipush (dcN_12 dcg_502 :) (by decide) (by decide) ?_
          refine AW.icmp_ge (tgt := 69) (dcN_13 dcg_502 :) (by decide) (fun c12 => ?_) (fun c12 => ?_)
          · refine AW.iload 5 (dcN_2 dcg_503 :) rfl ?_
            exact AW.val (e3.trans ((if_pos c9).trans ((if_pos c10).trans ((if_pos c11).trans (if_pos c12))))) J28
          · refine AW.iload 4 (dcN_0 dcg_503 :) rfl ?_
            refine AW.goto (tgt := 71) (dcN_1 dcg_503 :) (by decide) ?_
            exact AW.val (e3.trans ((if_pos c9).trans ((if_pos c10).trans ((if_pos c11).trans (if_neg c12))))) J28
        · refine AW.iload_n 3 (dcN_9 dcg_502 :) rfl ?_
          refine AW.goto (tgt := 71) (dcN_10 dcg_502 :) (by decide) ?_
          exact AW.val (e3.trans ((if_pos c9).trans ((if_pos c10).trans (if_neg c11)))) J28
      · refine AW.iload_n 2 (dcN_4 dcg_502 :) rfl ?_
        refine AW.goto (tgt := 71) (dcN_5 dcg_502 :) (by decide) ?_
        exact AW.val (e3.trans ((if_pos c9).trans (if_neg c10))) J28
    · refine AW.iload_n 1 (dcN_16 dcg_501 :) rfl ?_
      refine AW.goto (tgt := 71) (dcN_0 dcg_502 :) (by decide) ?_
      exact AW.val (e3.trans (if_neg c9)) J28
theorem M_feed_ok {z : AZ} {x1 : Int} {x2 : Int} {x3 : Int} {x4 : Int} {x5 : Int} {g : AG} {r : Int × AG} (h : M_feed x1 x2 x3 x4 x5 g = some r) : AMf z yX12_feed cX12_feed 8 (some .int) 0 [rv z 117, iv x1, iv x2, iv x3, iv x4, iv x5] g r := by
  intro d hdd
  refine AM.of (by decide +kernel) (Nat.le_of_ble_eq_true rfl) ?_
  show AW z (RX12, cX12_feed, 8, (some .int)) d (QD (some .int) r) 0 [(0, rv z 117), (1, iv x1), (2, iv x2), (3, iv x3), (4, iv x4), (5, iv x5)] [] g
  unfold M_feed at h
  refine AW.aloadr_n 0 (dcN_0 dcg_501 :) rfl ?_
  refine AW.getI af_X12_242_117 sr_117_37 (dcN_1 dcg_501 :) ?_
  refine AW.bipush (dcN_2 dcg_501 :) (by decide) (by decide) ?_
  refine AW.iadd (dcN_3 dcg_501 :) ?_
  refine AW.sipush (dcN_4 dcg_501 :) (by decide) (by decide) ?_
  refine AW.icmp_le (tgt := 15) (dcN_5 dcg_501 :) (by decide) (fun c1 => ?_) (fun c1 => ?_)
  · replace h := hT h c1
    refine AW.iconst (dcN_8 dcg_501 :) ?_
    refine AW.istore (lv1 := [(6, iv 0), (0, rv z 117), (1, iv x1), (2, iv x2), (3, iv x3), (4, iv x4), (5, iv x5)]) (dcN_9 dcg_501 :) (by decide) rfl ?_
    refine AW.sub (lv1 := [(0, rv z 117), (1, iv x1), (2, iv x2), (3, iv x3), (4, iv x4), (5, iv x5), (6, iv 0)]) [1, 2, 3, 4, 5, 6, 0] rfl ?_
    exact M_feed_b_ok hdd _ _ _ h
  · replace h := hF h c1
    refine AW.iconst (dcN_6 dcg_501 :) ?_
    exact AW.iret1 rfl (dcN_7 dcg_501 :) h rfl
theorem M_end_ok {z : AZ} {x1 : Int} {g : AG} {r : Int × AG} (h : M_end x1 g = some r) : AMf z yX12_end cX12_end 2 (some .boolean) 1 [rv z 117, iv x1] g r := by
  intro d hdd
  refine AM.of (by decide +kernel) (Nat.le_of_ble_eq_true rfl) ?_
  show AW z (RX12, cX12_end, 2, (some .boolean)) d (QD (some .boolean) r) 0 [(0, rv z 117), (1, iv x1)] [] g
  unfold M_end at h
  refine AW.iload_n 1 (dcN_0 dcg_505 :) rfl ?_
  refine AW.iconst (dcN_1 dcg_505 :) ?_
  refine AW.aloadr_n 0 (dcN_2 dcg_505 :) rfl ?_
  refine AW.getI af_X12_242_117 sr_117_37 (dcN_3 dcg_505 :) ?_
  refine AW.callSi (As := [iv x1, iv 0, iv (g 117 37)]) (st := []) M_isIn_ok cq_X12_3 st_X12_isIn (Nat.le_trans (by decide) hdd) rfl (dcN_4 dcg_505 :) rfl (Nat.le_of_ble_eq_true rfl) ?_
  refine AW.if_ne (tgt := 14) (dcN_5 dcg_505 :) (by decide) (fun c1 => ?_) (fun c1 => ?_)
  · replace h := hF h c1
    refine AW.aloadr_n 0 (dcN_8 dcg_505 :) rfl ?_
    refine AW.iload_n 1 (dcN_9 dcg_505 :) rfl ?_
    obtain ⟨g2, e3, h⟩ := hBe h
    refine AW.putI ap_X12_242_117 sr_117_37 (dcN_10 dcg_505 :) e3 ?_
    refine AW.iconst (dcN_11 dcg_505 :) ?_
    exact AW.zret1 rfl (Or.inr rfl) dX12_end_20 h rfl
  · replace h := hT h c1
    refine AW.iconst (dcN_6 dcg_505 :) ?_
    exact AW.zret1 rfl (Or.inl rfl) (dcN_7 dcg_505 :) h rfl
theorem M_see_ok {z : AZ} {x1 : Int} {g : AG} {r : Int} (h : M_see x1 g = some r) : AMf z yX12_see cX12_see 2 (some .int) 0 [rv z 117, iv x1] g (r, g) := by
  intro d hdd
  refine AM.of (by decide +kernel) (Nat.le_of_ble_eq_true rfl) ?_
  show AW z (RX12, cX12_see, 2, (some .int)) d (QD (some .int) (r, g)) 0 [(0, rv z 117), (1, iv x1)] [] g
  unfold M_see at h
  refine AW.iload_n 1 (dcN_0 dcg_506 :) rfl ?_
  refine AW.aloadr_n 0 (dcN_1 dcg_506 :) rfl ?_
  refine AW.getI af_X12_242_117 sr_117_37 (dcN_2 dcg_506 :) ?_
  obtain ⟨r3, e4, h⟩ := hC h
  refine AW.join (tgt := 18) (lv1 := []) (st1 := [iv r3]) (g1 := g) ?_ (fun J5 => ?_)
  · exact AW.iret2 rfl (dcN_10 dcg_506 :) h rfl
  replace h := e4
  refine AW.icmp_ge (tgt := 17) (dcN_3 dcg_506 :) (by decide) (fun c1 => ?_) (fun c1 => ?_)
  · replace h := hT h c1
    refine AW.iconst (dcN_9 dcg_506 :) ?_
    refine AW.sub (lv1 := []) [] rfl ?_
    cases h
    exact J5
  · replace h := hF h c1
    refine AW.aloadr_n 0 (dcN_4 dcg_506 :) rfl ?_
    refine AW.getR af_X12_103_117 sr_117_31 (dcN_5 dcg_506 :) ?_
    refine AW.iload_n 1 (dcN_6 dcg_506 :) rfl ?_
    obtain ⟨k2, h⟩ := hK h
    refine AW.iald kc_146 sk_146 k2 (dcN_7 dcg_506 :) ?_
    refine AW.goto (tgt := 18) (dcN_8 dcg_506 :) (by decide) ?_
    refine AW.sub (lv1 := []) [] rfl ?_
    cases h
    exact J5
theorem M_isLetter_ok {z : AZ} {x0 : Int} {g : AG} : AMf z yX12_isLetter cX12_isLetter 1 (some .boolean) 1 [iv x0] g ((M_isLetter x0), g) := by
  intro d hdd
  refine AM.of (by decide +kernel) (Nat.le_of_ble_eq_true rfl) ?_
  show AW z (RX12, cX12_isLetter, 1, (some .boolean)) d (QD (some .boolean) ((M_isLetter x0), g)) 0 [(0, iv x0)] [] g
  refine AW.iload_n 0 (dcN_0 dcg_507 :) rfl ?_
  refine AW.bipush (dcN_1 dcg_507 :) (by decide) (by decide) ?_
  refine AW.bipush (dcN_2 dcg_507 :) (by decide) (by decide) ?_
  refine AW.callSi (As := [iv x0, iv 97, iv 122]) (st := []) M_isIn_ok cq_X12_3 st_X12_isIn (Nat.le_trans (by decide) hdd) rfl (dcN_3 dcg_507 :) rfl (Nat.le_of_ble_eq_true rfl) ?_
  refine AW.join (tgt := 27) (lv1 := [(0, iv x0)]) (st1 := [iv (if nw (M_isIn x0 97 122) = 0 then (if nw (M_isIn x0 65 90) = 0 then 0 else 1) else 1)]) (g1 := g) ?_ (fun J8 => ?_)
  · exact AW.zret rfl (by (repeat' split) <;> first | exact Or.inl rfl | exact Or.inr rfl) (dcN_1 dcg_508 :) ⟨congrArg (fun v => some (iv v)) (show M_isLetter x0  = (if nw (M_isIn x0 97 122) = 0 then (if nw (M_isIn x0 65 90) = 0 then 0 else 1) else 1) from rfl).symm, rfl⟩
  refine AW.if_ne (tgt := 22) (dcN_4 dcg_507 :) (by decide) (fun c1 => ?_) (fun c1 => ?_)
  · refine AW.iconst (dcN_10 dcg_507 :) ?_
    refine AW.goto (tgt := 27) (dcN_11 dcg_507 :) (by decide) ?_
    exact AW.val (if_neg c1) J8
  · refine AW.iload_n 0 (dcN_5 dcg_507 :) rfl ?_
    refine AW.bipush (dcN_6 dcg_507 :) (by decide) (by decide) ?_
    refine AW.bipush (dcN_7 dcg_507 :) (by decide) (by decide) ?_
    refine AW.callSi (As := [iv x0, iv 65, iv 90]) (st := []) M_isIn_ok cq_X12_3 st_X12_isIn (Nat.le_trans (by decide) hdd) rfl (dcN_8 dcg_507 :) rfl (Nat.le_of_ble_eq_true rfl) ?_
    refine AW.if_eq (tgt := 26) (dcN_9 dcg_507 :) (by decide) (fun c2 => ?_) (fun c2 => ?_)
    · refine AW.iconst (dcN_0 dcg_508 :) ?_
      exact AW.val ((if_pos c1).trans (if_pos c2)) J8
    · refine AW.iconst (dcN_10 dcg_507 :) ?_
      refine AW.goto (tgt := 27) (dcN_11 dcg_507 :) (by decide) ?_
      exact AW.val ((if_pos c1).trans (if_neg c2)) J8
theorem M_isDigit_ok {z : AZ} {x0 : Int} {g : AG} : AMf z yX12_isDigit cX12_isDigit 1 (some .boolean) 1 [iv x0] g ((M_isDigit x0), g) := by
  intro d hdd
  refine AM.of (by decide +kernel) (Nat.le_of_ble_eq_true rfl) ?_
  show AW z (RX12, cX12_isDigit, 1, (some .boolean)) d (QD (some .boolean) ((M_isDigit x0), g)) 0 [(0, iv x0)] [] g
  refine AW.iload_n 0 (dcN_0 dcg_509 :) rfl ?_
  refine AW.bipush (dcN_1 dcg_509 :) (by decide) (by decide) ?_
  refine AW.bipush (dcN_2 dcg_509 :) (by decide) (by decide) ?_
  refine AW.callSi (As := [iv x0, iv 48, iv 57]) (st := []) M_isIn_ok cq_X12_3 st_X12_isIn (Nat.le_trans (by decide) hdd) rfl (dcN_3 dcg_509 :) rfl (Nat.le_of_ble_eq_true rfl) ?_
  exact AW.zret rfl M_isIn_01 (dcN_4 dcg_509 :) ⟨congrArg (fun v => some (iv v)) (show M_isDigit x0  = (M_isIn x0 48 57) from rfl).symm, rfl⟩
set_option synthInstance.maxHeartbeats 2000000 in
theorem M_is_b_ok {z : AZ} {s1 : Nat} (hs : s1 < 22) {d : Nat} (hdd : 5 ≤ d) {g : AG} : ∀ (x2 : Int) (x3 : Int) (r : Int), M_is_b s1 g x2 x3 = some r → AW z (RX12, cX12_is, 4, (some .boolean)) d (QD (some .boolean) (r, g)) 24 [(0, rv z 117), (1, sv z s1), (2, iv x2), (3, iv x3)] [] g := by
  refine M_is_b.partial_correctness s1 g (fun x2 x3 r => AW z (RX12, cX12_is, 4, (some .boolean)) d (QD (some .boolean) (r, g)) 24 [(0, rv z 117), (1, sv z s1), (2, iv x2), (3, iv x3)] [] g) ?_
  intro fb9 ih x2 x3 r h
  refine AW.iload_n 3 (dcN_14 dcg_510 :) rfl ?_
  refine AW.aloads_n 1 (dcN_15 dcg_510 :) rfl ?_
  refine AW.tLen cq_X12_251 hs (Nat.le_trans (by decide) hdd) (dcN_16 dcg_510 :) (Nat.le_of_ble_eq_true rfl) ?_
  refine AW.icmp_ge (tgt := 67) (dcN_17 dcg_510 :) (by decide) (fun c1 => ?_) (fun c1 => ?_)
  · replace h := hT h c1
    refine AW.iload_n 2 (dcN_1 dcg_512 :) rfl ?_
    obtain ⟨k2, h⟩ := hK h
    exact AW.zret2 rfl k2 (dcN_2 dcg_512 :) h rfl
  · replace h := hF h c1
    refine AW.iload_n 2 (dcN_0 dcg_511 :) rfl ?_
    refine AW.if_eq (tgt := 67) (dcN_1 dcg_511 :) (by decide) (fun c3 => ?_) (fun c3 => ?_)
    · replace h := hT h c3
      refine AW.iload_n 2 (dcN_1 dcg_512 :) rfl ?_
      obtain ⟨k4, h⟩ := hK h
      exact AW.zret2 rfl k4 (dcN_2 dcg_512 :) h rfl
    · replace h := hF h c3
      refine AW.aloadr_n 0 (dcN_2 dcg_511 :) rfl ?_
      refine AW.getR af_X12_103_117 sr_117_31 (dcN_3 dcg_511 :) ?_
      refine AW.aloadr_n 0 (dcN_4 dcg_511 :) rfl ?_
      refine AW.getI af_X12_248_117 sr_117_40 (dcN_5 dcg_511 :) ?_
      refine AW.iload_n 3 (dcN_6 dcg_511 :) rfl ?_
      refine AW.iadd (dcN_7 dcg_511 :) ?_
      obtain ⟨k5, h⟩ := hK h
      refine AW.iald kc_146 sk_146 k5 (dcN_8 dcg_511 :) ?_
      refine AW.aloads_n 1 (dcN_9 dcg_511 :) rfl ?_
      refine AW.iload_n 3 (dcN_10 dcg_511 :) rfl ?_
      obtain ⟨k6, h⟩ := hK h
      refine AW.tCh cq_X12_257 hs k6 (Nat.le_trans (by decide) hdd) (dcN_11 dcg_511 :) (Nat.le_of_ble_eq_true rfl) ?_
      obtain ⟨t7, e8, h⟩ := hBe h
      refine AW.join (tgt := 60) (lv1 := [(0, rv z 117), (1, sv z s1), (2, iv x2), (3, iv x3)]) (st1 := [iv t7]) (g1 := g) ?_ (fun J52 => ?_)
      · refine AW.istore_n (lv1 := [(2, iv t7), (0, rv z 117), (1, sv z s1), (3, iv x3)]) (dcN_16 dcg_511 :) (by decide) rfl ?_
        refine AW.iinc (lv1 := [(3, iv (x3 + 1)), (2, iv t7), (0, rv z 117), (1, sv z s1)]) 3 (dcN_17 dcg_511 :) rfl (by decide) rfl ?_
        refine AW.goto (tgt := 24) (dcN_0 dcg_512 :) (by decide) ?_
        refine AW.sub (lv1 := [(0, rv z 117), (1, sv z s1), (2, iv t7), (3, iv (x3 + 1))]) [2, 3, 1, 0] rfl ?_
        exact ih _ _ _ h
      refine AW.icmp_ne (tgt := 59) (dcN_12 dcg_511 :) (by decide) (fun c9 => ?_) (fun c9 => ?_)
      · refine AW.iconst (dcN_15 dcg_511 :) ?_
        exact AW.val (e8.trans (if_neg c9)) J52
      · refine AW.iconst (dcN_13 dcg_511 :) ?_
        refine AW.goto (tgt := 60) (dcN_14 dcg_511 :) (by decide) ?_
        exact AW.val (e8.trans (if_pos c9)) J52
theorem M_is_ok {z : AZ} {s1 : Nat} {g : AG} {r : Int} (hs : s1 < 22) (h : M_is s1 g = some r) : AMf z yX12_is cX12_is 4 (some .boolean) 5 [rv z 117, sv z s1] g (r, g) := by
  intro d hdd
  refine AM.of (by decide +kernel) (Nat.le_of_ble_eq_true rfl) ?_
  show AW z (RX12, cX12_is, 4, (some .boolean)) d (QD (some .boolean) (r, g)) 0 [(0, rv z 117), (1, sv z s1)] [] g
  unfold M_is at h
  refine AW.aloadr_n 0 (dcN_0 dcg_510 :) rfl ?_
  refine AW.getI af_X12_245_117 sr_117_38 (dcN_1 dcg_510 :) ?_
  refine AW.aloadr_n 0 (dcN_2 dcg_510 :) rfl ?_
  refine AW.getI af_X12_248_117 sr_117_40 (dcN_3 dcg_510 :) ?_
  refine AW.isub (dcN_4 dcg_510 :) ?_
  refine AW.aloads_n 1 (dcN_5 dcg_510 :) rfl ?_
  refine AW.tLen cq_X12_251 hs (Nat.le_trans (by decide) hdd) (dcN_6 dcg_510 :) (Nat.le_of_ble_eq_true rfl) ?_
  obtain ⟨t1, e2, h⟩ := hBe h
  refine AW.join (tgt := 21) (lv1 := [(0, rv z 117), (1, sv z s1)]) (st1 := [iv t1]) (g1 := g) ?_ (fun J13 => ?_)
  · refine AW.istore_n (lv1 := [(2, iv t1), (0, rv z 117), (1, sv z s1)]) (dcN_11 dcg_510 :) (by decide) rfl ?_
    refine AW.iconst (dcN_12 dcg_510 :) ?_
    refine AW.istore_n (lv1 := [(3, iv 0), (2, iv t1), (0, rv z 117), (1, sv z s1)]) (dcN_13 dcg_510 :) (by decide) rfl ?_
    refine AW.sub (lv1 := [(0, rv z 117), (1, sv z s1), (2, iv t1), (3, iv 0)]) [2, 3, 1, 0] rfl ?_
    exact M_is_b_ok hs hdd _ _ _ h
  refine AW.icmp_ne (tgt := 20) (dcN_7 dcg_510 :) (by decide) (fun c3 => ?_) (fun c3 => ?_)
  · refine AW.iconst (dcN_10 dcg_510 :) ?_
    exact AW.val (e2.trans (if_neg c3)) J13
  · refine AW.iconst (dcN_8 dcg_510 :) ?_
    refine AW.goto (tgt := 21) (dcN_9 dcg_510 :) (by decide) ?_
    exact AW.val (e2.trans (if_pos c3)) J13
theorem M_word_ok {z : AZ} {g : AG} {r : Int} (h : M_word g = some r) : AMf z yX12_word cX12_word 1 (some .int) 6 [rv z 117] g (r, g) := by
  intro d hdd
  refine AM.of (by decide +kernel) (Nat.le_of_ble_eq_true rfl) ?_
  show AW z (RX12, cX12_word, 1, (some .int)) d (QD (some .int) (r, g)) 0 [(0, rv z 117)] [] g
  unfold M_word at h
  refine AW.aloadr_n 0 (dcN_0 dcg_513 :) rfl ?_
  refine AW.ldcSw (dcN_1 dcg_513 :) sw_X12_261 ?_
  obtain ⟨r1, e2, h⟩ := hC h
  refine AW.callVi (As := [sv z 2]) (st := []) (M_is_ok (by decide) e2) cq_X12_262 cr_117_X12_is (Nat.le_trans (by decide) hdd) rfl (dcN_2 dcg_513 :) rfl (Nat.le_of_ble_eq_true rfl) ?_
  refine AW.if_eq (tgt := 13) (dcN_3 dcg_513 :) (by decide) (fun c3 => ?_) (fun c3 => ?_)
  · replace h := hT h c3
    refine AW.aloadr_n 0 (dcN_6 dcg_513 :) rfl ?_
    refine AW.ldcSw (dcN_7 dcg_513 :) sw_X12_266 ?_
    obtain ⟨r4, e5, h⟩ := hC h
    refine AW.callVi (As := [sv z 3]) (st := []) (M_is_ok (by decide) e5) cq_X12_262 cr_117_X12_is (Nat.le_trans (by decide) hdd) rfl (dcN_8 dcg_513 :) rfl (Nat.le_of_ble_eq_true rfl) ?_
    refine AW.if_eq (tgt := 26) (dcN_9 dcg_513 :) (by decide) (fun c6 => ?_) (fun c6 => ?_)
    · replace h := hT h c6
      refine AW.aloadr_n 0 (dcN_12 dcg_513 :) rfl ?_
      refine AW.ldcSw (dcN_13 dcg_513 :) sw_X12_267 ?_
      obtain ⟨r7, e8, h⟩ := hC h
      refine AW.callVi (As := [sv z 4]) (st := []) (M_is_ok (by decide) e8) cq_X12_262 cr_117_X12_is (Nat.le_trans (by decide) hdd) rfl (dcN_14 dcg_513 :) rfl (Nat.le_of_ble_eq_true rfl) ?_
      refine AW.if_eq (tgt := 39) (dcN_0 dcg_514 :) (by decide) (fun c9 => ?_) (fun c9 => ?_)
      · replace h := hT h c9
        refine AW.aloadr_n 0 (dcN_3 dcg_514 :) rfl ?_
        refine AW.ldcSw (dcN_4 dcg_514 :) sw_X12_269 ?_
        obtain ⟨r10, e11, h⟩ := hC h
        refine AW.callVi (As := [sv z 5]) (st := []) (M_is_ok (by decide) e11) cq_X12_262 cr_117_X12_is (Nat.le_trans (by decide) hdd) rfl (dcN_5 dcg_514 :) rfl (Nat.le_of_ble_eq_true rfl) ?_
        refine AW.if_eq (tgt := 52) (dcN_6 dcg_514 :) (by decide) (fun c12 => ?_) (fun c12 => ?_)
        · replace h := hT h c12
          refine AW.aloadr_n 0 (dcN_9 dcg_514 :) rfl ?_
          refine AW.ldcSw (dcN_10 dcg_514 :) sw_X12_271 ?_
          obtain ⟨r13, e14, h⟩ := hC h
          refine AW.callVi (As := [sv z 6]) (st := []) (M_is_ok (by decide) e14) cq_X12_262 cr_117_X12_is (Nat.le_trans (by decide) hdd) rfl (dcN_11 dcg_514 :) rfl (Nat.le_of_ble_eq_true rfl) ?_
          refine AW.if_eq (tgt := 65) (dcN_12 dcg_514 :) (by decide) (fun c15 => ?_) (fun c15 => ?_)
          · replace h := hT h c15
            refine AW.aloadr_n 0 (dcN_1 dcg_515 :) rfl ?_
            refine AW.ldcSw (dcN_2 dcg_515 :) sw_X12_273 ?_
            obtain ⟨r16, e17, h⟩ := hC h
            refine AW.callVi (As := [sv z 7]) (st := []) (M_is_ok (by decide) e17) cq_X12_262 cr_117_X12_is (Nat.le_trans (by decide) hdd) rfl (dcN_3 dcg_515 :) rfl (Nat.le_of_ble_eq_true rfl) ?_
            refine AW.if_eq (tgt := 78) (dcN_4 dcg_515 :) (by decide) (fun c18 => ?_) (fun c18 => ?_)
            · replace h := hT h c18
              refine AW.aloadr_n 0 (dcN_7 dcg_515 :) rfl ?_
              refine AW.ldcSw (dcN_8 dcg_515 :) sw_X12_275 ?_
              obtain ⟨r19, e20, h⟩ := hC h
              refine AW.callVi (As := [sv z 8]) (st := []) (M_is_ok (by decide) e20) cq_X12_262 cr_117_X12_is (Nat.le_trans (by decide) hdd) rfl (dcN_9 dcg_515 :) rfl (Nat.le_of_ble_eq_true rfl) ?_
              refine AW.if_eq (tgt := 91) (dcN_10 dcg_515 :) (by decide) (fun c21 => ?_) (fun c21 => ?_)
              · replace h := hT h c21
                refine AW.aloadr_n 0 (dcN_13 dcg_515 :) rfl ?_
                refine AW.ldcSw (dcN_14 dcg_515 :) sw_X12_277 ?_
                obtain ⟨r22, e23, h⟩ := hC h
                refine AW.callVi (As := [sv z 9]) (st := []) (M_is_ok (by decide) e23) cq_X12_262 cr_117_X12_is (Nat.le_trans (by decide) hdd) rfl (dcN_15 dcg_515 :) rfl (Nat.le_of_ble_eq_true rfl) ?_
                refine AW.if_eq (tgt := 104) (dcN_0 dcg_516 :) (by decide) (fun c24 => ?_) (fun c24 => ?_)
                · replace h := hT h c24
                  refine AW.aloadr_n 0 (dcN_3 dcg_516 :) rfl ?_
                  refine AW.ldcSw (dcN_4 dcg_516 :) sw_X12_279 ?_
                  obtain ⟨r25, e26, h⟩ := hC h
                  refine AW.callVi (As := [sv z 10]) (st := []) (M_is_ok (by decide) e26) cq_X12_262 cr_117_X12_is (Nat.le_trans (by decide) hdd) rfl (dcN_5 dcg_516 :) rfl (Nat.le_of_ble_eq_true rfl) ?_
                  refine AW.if_eq (tgt := 116) (dcN_6 dcg_516 :) (by decide) (fun c27 => ?_) (fun c27 => ?_)
                  · replace h := hT h c27
                    refine AW.aloadr_n 0 (dcN_9 dcg_516 :) rfl ?_
                    refine AW.ldcSw (dcN_10 dcg_516 :) sw_X12_281 ?_
                    obtain ⟨r28, e29, h⟩ := hC h
                    refine AW.callVi (As := [sv z 11]) (st := []) (M_is_ok (by decide) e29) cq_X12_262 cr_117_X12_is (Nat.le_trans (by decide) hdd) rfl (dcN_11 dcg_516 :) rfl (Nat.le_of_ble_eq_true rfl) ?_
                    refine AW.if_eq (tgt := 128) (dcN_12 dcg_516 :) (by decide) (fun c30 => ?_) (fun c30 => ?_)
                    · replace h := hT h c30
                      refine AW.aloadr_n 0 (dcN_0 dcg_517 :) rfl ?_
                      refine AW.ldcSw (dcN_1 dcg_517 :) sw_X12_283 ?_
                      obtain ⟨r31, e32, h⟩ := hC h
                      refine AW.callVi (As := [sv z 12]) (st := []) (M_is_ok (by decide) e32) cq_X12_262 cr_117_X12_is (Nat.le_trans (by decide) hdd) rfl (dcN_2 dcg_517 :) rfl (Nat.le_of_ble_eq_true rfl) ?_
                      refine AW.if_eq (tgt := 140) (dcN_3 dcg_517 :) (by decide) (fun c33 => ?_) (fun c33 => ?_)
                      · replace h := hT h c33
                        refine AW.aloadr_n 0 (dcN_6 dcg_517 :) rfl ?_
                        refine AW.ldcSw (dcN_7 dcg_517 :) sw_X12_285 ?_
                        obtain ⟨r34, e35, h⟩ := hC h
                        refine AW.callVi (As := [sv z 13]) (st := []) (M_is_ok (by decide) e35) cq_X12_262 cr_117_X12_is (Nat.le_trans (by decide) hdd) rfl (dcN_8 dcg_517 :) rfl (Nat.le_of_ble_eq_true rfl) ?_
                        refine AW.if_eq (tgt := 153) (dcN_9 dcg_517 :) (by decide) (fun c36 => ?_) (fun c36 => ?_)
                        · replace h := hT h c36
                          refine AW.aloadr_n 0 (dcN_12 dcg_517 :) rfl ?_
                          refine AW.ldcSw (dcN_13 dcg_517 :) sw_X12_287 ?_
                          obtain ⟨r37, e38, h⟩ := hC h
                          refine AW.callVi (As := [sv z 14]) (st := []) (M_is_ok (by decide) e38) cq_X12_262 cr_117_X12_is (Nat.le_trans (by decide) hdd) rfl (dcN_14 dcg_517 :) rfl (Nat.le_of_ble_eq_true rfl) ?_
                          refine AW.if_eq (tgt := 166) (dcN_0 dcg_518 :) (by decide) (fun c39 => ?_) (fun c39 => ?_)
                          · replace h := hT h c39
                            refine AW.aloadr_n 0 (dcN_3 dcg_518 :) rfl ?_
                            refine AW.ldcSw (dcN_4 dcg_518 :) sw_X12_289 ?_
                            obtain ⟨r40, e41, h⟩ := hC h
                            refine AW.callVi (As := [sv z 15]) (st := []) (M_is_ok (by decide) e41) cq_X12_262 cr_117_X12_is (Nat.le_trans (by decide) hdd) rfl (dcN_5 dcg_518 :) rfl (Nat.le_of_ble_eq_true rfl) ?_
                            refine AW.if_eq (tgt := 179) (dcN_6 dcg_518 :) (by decide) (fun c42 => ?_) (fun c42 => ?_)
                            · replace h := hT h c42
                              refine AW.aloadr_n 0 (dcN_9 dcg_518 :) rfl ?_
                              refine AW.ldcSw (dcN_10 dcg_518 :) sw_X12_291 ?_
                              obtain ⟨r43, e44, h⟩ := hC h
                              refine AW.callVi (As := [sv z 16]) (st := []) (M_is_ok (by decide) e44) cq_X12_262 cr_117_X12_is (Nat.le_trans (by decide) hdd) rfl (dcN_11 dcg_518 :) rfl (Nat.le_of_ble_eq_true rfl) ?_
                              refine AW.if_eq (tgt := 192) (dcN_12 dcg_518 :) (by decide) (fun c45 => ?_) (fun c45 => ?_)
                              · replace h := hT h c45
                                refine AW.aloadr_n 0 (dcN_0 dcg_519 :) rfl ?_
                                refine AW.ldcSw (dcN_1 dcg_519 :) sw_X12_292 ?_
                                obtain ⟨r46, e47, h⟩ := hC h
                                refine AW.callVi (As := [sv z 17]) (st := []) (M_is_ok (by decide) e47) cq_X12_262 cr_117_X12_is (Nat.le_trans (by decide) hdd) rfl (dcN_2 dcg_519 :) rfl (Nat.le_of_ble_eq_true rfl) ?_
                                refine AW.if_eq (tgt := 205) (dcN_3 dcg_519 :) (by decide) (fun c48 => ?_) (fun c48 => ?_)
                                · replace h := hT h c48
                                  refine AW.aloadr_n 0 (dcN_6 dcg_519 :) rfl ?_
                                  refine AW.ldcSw (dcN_7 dcg_519 :) sw_X12_294 ?_
                                  obtain ⟨r49, e50, h⟩ := hC h
                                  refine AW.callVi (As := [sv z 18]) (st := []) (M_is_ok (by decide) e50) cq_X12_262 cr_117_X12_is (Nat.le_trans (by decide) hdd) rfl (dcN_8 dcg_519 :) rfl (Nat.le_of_ble_eq_true rfl) ?_
                                  refine AW.if_eq (tgt := 218) (dcN_9 dcg_519 :) (by decide) (fun c51 => ?_) (fun c51 => ?_)
                                  · replace h := hT h c51
                                    refine AW.aloadr_n 0 (dcN_12 dcg_519 :) rfl ?_
                                    refine AW.ldcSw (dcN_13 dcg_519 :) sw_X12_296 ?_
                                    obtain ⟨r52, e53, h⟩ := hC h
                                    refine AW.callVi (As := [sv z 19]) (st := []) (M_is_ok (by decide) e53) cq_X12_262 cr_117_X12_is (Nat.le_trans (by decide) hdd) rfl (dcN_14 dcg_519 :) rfl (Nat.le_of_ble_eq_true rfl) ?_
                                    refine AW.if_eq (tgt := 231) (dcN_0 dcg_520 :) (by decide) (fun c54 => ?_) (fun c54 => ?_)
                                    · replace h := hT h c54
                                      refine AW.aloadr_n 0 (dcN_3 dcg_520 :) rfl ?_
                                      refine AW.ldcSw (dcN_4 dcg_520 :) sw_X12_298 ?_
                                      obtain ⟨r55, e56, h⟩ := hC h
                                      refine AW.callVi (As := [sv z 20]) (st := []) (M_is_ok (by decide) e56) cq_X12_262 cr_117_X12_is (Nat.le_trans (by decide) hdd) rfl (dcN_5 dcg_520 :) rfl (Nat.le_of_ble_eq_true rfl) ?_
                                      refine AW.if_eq (tgt := 244) (dcN_6 dcg_520 :) (by decide) (fun c57 => ?_) (fun c57 => ?_)
                                      · replace h := hT h c57
                                        refine AW.aloadr_n 0 (dcN_9 dcg_520 :) rfl ?_
                                        refine AW.ldcSw (dcN_10 dcg_520 :) sw_X12_300 ?_
                                        obtain ⟨r58, e59, h⟩ := hC h
                                        refine AW.callVi (As := [sv z 21]) (st := []) (M_is_ok (by decide) e59) cq_X12_262 cr_117_X12_is (Nat.le_trans (by decide) hdd) rfl (dcN_11 dcg_520 :) rfl (Nat.le_of_ble_eq_true rfl) ?_
                                        obtain ⟨t60, e61, h⟩ := hBe h
                                        refine AW.join (tgt := 260) (lv1 := [(0, rv z 117)]) (st1 := [iv t60]) (g1 := g) ?_ (fun J251 => ?_)
                                        · exact AW.iret2 rfl (dcN_2 dcg_521 :) h rfl
                                        refine AW.if_eq (tgt := 259) (dcN_12 dcg_520 :) (by decide) (fun c62 => ?_) (fun c62 => ?_)
                                        · refine AW.iconst (dcN_1 dcg_521 :) ?_
                                          exact AW.val (e61.trans (if_pos c62)) J251
                                        · refine AW.bipush (dcN_13 dcg_520 :) (by decide) (by decide) ?_
                                          refine AW.goto (tgt := 260) (dcN_0 dcg_521 :) (by decide) ?_
                                          exact AW.val (e61.trans (if_neg c62)) J251
                                      · replace h := hF h c57
                                        refine AW.bipush (dcN_7 dcg_520 :) (by decide) (by decide) ?_
                                        exact AW.iret2 rfl (dcN_8 dcg_520 :) h rfl
                                    · replace h := hF h c54
                                      refine AW.bipush (dcN_1 dcg_520 :) (by decide) (by decide) ?_
                                      exact AW.iret2 rfl (dcN_2 dcg_520 :) h rfl
                                  · replace h := hF h c51
                                    refine AW.bipush (dcN_10 dcg_519 :) (by decide) (by decide) ?_
                                    exact AW.iret2 rfl (dcN_11 dcg_519 :) h rfl
                                · replace h := hF h c48
                                  refine AW.bipush (dcN_4 dcg_519 :) (by decide) (by decide) ?_
                                  exact AW.iret2 rfl (dcN_5 dcg_519 :) h rfl
                              · replace h := hF h c45
                                refine AW.bipush (dcN_13 dcg_518 :) (by decide) (by decide) ?_
                                exact AW.iret2 rfl (dcN_14 dcg_518 :) h rfl
                            · replace h := hF h c42
                              refine AW.bipush (dcN_7 dcg_518 :) (by decide) (by decide) ?_
                              exact AW.iret2 rfl (dcN_8 dcg_518 :) h rfl
                          · replace h := hF h c39
                            refine AW.bipush (dcN_1 dcg_518 :) (by decide) (by decide) ?_
                            exact AW.iret2 rfl (dcN_2 dcg_518 :) h rfl
                        · replace h := hF h c36
                          refine AW.bipush (dcN_10 dcg_517 :) (by decide) (by decide) ?_
                          exact AW.iret2 rfl (dcN_11 dcg_517 :) h rfl
                      · replace h := hF h c33
                        refine AW.iconst (dcN_4 dcg_517 :) ?_
                        exact AW.iret2 rfl (dcN_5 dcg_517 :) h rfl
                    · replace h := hF h c30
                      refine AW.iconst (dcN_13 dcg_516 :) ?_
                      exact AW.iret2 rfl (dcN_14 dcg_516 :) h rfl
                  · replace h := hF h c27
                    refine AW.iconst (dcN_7 dcg_516 :) ?_
                    exact AW.iret2 rfl (dcN_8 dcg_516 :) h rfl
                · replace h := hF h c24
                  refine AW.bipush (dcN_1 dcg_516 :) (by decide) (by decide) ?_
                  exact AW.iret2 rfl (dcN_2 dcg_516 :) h rfl
              · replace h := hF h c21
                refine AW.bipush (dcN_11 dcg_515 :) (by decide) (by decide) ?_
                exact AW.iret2 rfl (dcN_12 dcg_515 :) h rfl
            · replace h := hF h c18
              refine AW.bipush (dcN_5 dcg_515 :) (by decide) (by decide) ?_
              exact AW.iret2 rfl (dcN_6 dcg_515 :) h rfl
          · replace h := hF h c15
            refine AW.bipush (dcN_13 dcg_514 :) (by decide) (by decide) ?_
            exact AW.iret2 rfl (dcN_0 dcg_515 :) h rfl
        · replace h := hF h c12
          refine AW.bipush (dcN_7 dcg_514 :) (by decide) (by decide) ?_
          exact AW.iret2 rfl (dcN_8 dcg_514 :) h rfl
      · replace h := hF h c9
        refine AW.bipush (dcN_1 dcg_514 :) (by decide) (by decide) ?_
        exact AW.iret2 rfl (dcN_2 dcg_514 :) h rfl
    · replace h := hF h c6
      refine AW.bipush (dcN_10 dcg_513 :) (by decide) (by decide) ?_
      exact AW.iret2 rfl (dcN_11 dcg_513 :) h rfl
  · replace h := hF h c3
    refine AW.bipush (dcN_4 dcg_513 :) (by decide) (by decide) ?_
    exact AW.iret2 rfl (dcN_5 dcg_513 :) h rfl
set_option synthInstance.maxHeartbeats 2000000 in
theorem M_next0_b_ok {z : AZ} {d : Nat} (hdd : 7 ≤ d) : ∀ (tag : Nat) (g : AG) (r : Int × AG), M_next0_b tag g = some r → (tag = 1 → AW z (RX12, cX12_next0, 3, none) d (QD none r) 0 [(0, rv z 117)] [] g) ∧ (tag = 2 → AW z (RX12, cX12_next0, 3, none) d (QD none r) 26 [(0, rv z 117)] [] g) ∧ (tag = 3 → AW z (RX12, cX12_next0, 3, none) d (QD none r) 76 [(0, rv z 117)] [] g) ∧ (tag = 4 → AW z (RX12, cX12_next0, 3, none) d (QD none r) 126 [(0, rv z 117)] [] g) := by
  refine M_next0_b.partial_correctness (fun tag g r => (tag = 1 → AW z (RX12, cX12_next0, 3, none) d (QD none r) 0 [(0, rv z 117)] [] g) ∧ (tag = 2 → AW z (RX12, cX12_next0, 3, none) d (QD none r) 26 [(0, rv z 117)] [] g) ∧ (tag = 3 → AW z (RX12, cX12_next0, 3, none) d (QD none r) 76 [(0, rv z 117)] [] g) ∧ (tag = 4 → AW z (RX12, cX12_next0, 3, none) d (QD none r) 126 [(0, rv z 117)] [] g)) ?_
  intro fb9 ih tag g r h
  refine ⟨fun h9 => ?_, fun h9 => ?_, fun h9 => ?_, fun h9 => ?_⟩
  · subst h9
    replace h := hT h rfl
    refine AW.aloadr_n 0 (dcN_0 dcg_522 :) rfl ?_
    refine AW.aloadr_n 0 (dcN_1 dcg_522 :) rfl ?_
    refine AW.getI af_X12_245_117 sr_117_38 (dcN_2 dcg_522 :) ?_
    obtain ⟨r1, e2, h⟩ := hC h
    refine AW.callVi (As := [iv (g 117 38)]) (st := []) (M_see_ok e2) cq_X12_302 cr_117_X12_see (Nat.le_trans (by decide) hdd) rfl (dcN_3 dcg_522 :) rfl (Nat.le_of_ble_eq_true rfl) ?_
    refine AW.bipush (dcN_4 dcg_522 :) (by decide) (by decide) ?_
    refine AW.icmp_eq (tgt := 26) (dcN_5 dcg_522 :) (by decide) (fun c3 => ?_) (fun c3 => ?_)
    · replace h := hT h c3
      exact (ih _ _ _ h).2.1 rfl
    · replace h := hF h c3
      refine AW.aloadr_n 0 (dcN_6 dcg_522 :) rfl ?_
      refine AW.aloadr_n 0 (dcN_7 dcg_522 :) rfl ?_
      refine AW.getI af_X12_245_117 sr_117_38 (dcN_8 dcg_522 :) ?_
      obtain ⟨r4, e5, h⟩ := hC h
      refine AW.callVi (As := [iv (g 117 38)]) (st := []) (M_see_ok e5) cq_X12_302 cr_117_X12_see (Nat.le_trans (by decide) hdd) rfl (dcN_9 dcg_522 :) rfl (Nat.le_of_ble_eq_true rfl) ?_
      refine AW.bipush (dcN_10 dcg_522 :) (by decide) (by decide) ?_
      refine AW.icmp_ne (tgt := 39) (dcN_11 dcg_522 :) (by decide) (fun c6 => ?_) (fun c6 => ?_)
      · replace h := hF h c6
        refine AW.aloadr_n 0 (dcN_3 dcg_523 :) rfl ?_
        refine AW.aloadr_n 0 (dcN_4 dcg_523 :) rfl ?_
        refine AW.getI af_X12_245_117 sr_117_38 (dcN_5 dcg_523 :) ?_
        obtain ⟨g7, e8, h⟩ := hBe h
        refine AW.putI ap_X12_248_117 sr_117_40 (dcN_6 dcg_523 :) e8 ?_
        refine AW.aloadr_n 0 (dcN_7 dcg_523 :) rfl ?_
        refine AW.aloadr_n 0 (dcN_8 dcg_523 :) rfl ?_
        refine AW.getI af_X12_245_117 sr_117_38 (dcN_9 dcg_523 :) ?_
        obtain ⟨r9, e10, h⟩ := hC h
        refine AW.callVi (As := [iv (g7 117 38)]) (st := []) (M_see_ok e10) cq_X12_302 cr_117_X12_see (Nat.le_trans (by decide) hdd) rfl (dcN_10 dcg_523 :) rfl (Nat.le_of_ble_eq_true rfl) ?_
        refine AW.istore_n (lv1 := [(1, iv r9), (0, rv z 117)]) (dcN_11 dcg_523 :) (by decide) rfl ?_
        refine AW.iload_n 0 (dcN_12 dcg_523 :) rfl ?_
        refine AW.iconst (dcN_13 dcg_523 :) ?_
        refine AW.icmp_ne (tgt := 69) (dcN_14 dcg_523 :) (by decide) (fun c11 => ?_) (fun c11 => ?_)
        · replace h := hF h c11
          refine AW.iload_n 0 (dcN_1 dcg_524 :) rfl ?_
          refine AW.callSi (As := [iv r9]) (st := []) M_isLetter_ok cq_X12_309 st_X12_isLetter (Nat.le_trans (by decide) hdd) rfl (dcN_2 dcg_524 :) rfl (Nat.le_of_ble_eq_true rfl) ?_
          refine AW.if_eq (tgt := 114) (dcN_3 dcg_524 :) (by decide) (fun c12 => ?_) (fun c12 => ?_)
          · replace h := hT h c12
            refine AW.iload_n 0 (dcN_8 dcg_525 :) rfl ?_
            refine AW.callSi (As := [iv r9]) (st := []) M_isDigit_ok cq_X12_315 st_X12_isDigit (Nat.le_trans (by decide) hdd) rfl (dcN_9 dcg_525 :) rfl (Nat.le_of_ble_eq_true rfl) ?_
            refine AW.if_eq (tgt := 214) (dcN_10 dcg_525 :) (by decide) (fun c13 => ?_) (fun c13 => ?_)
            · replace h := hT h c13
              refine AW.aloadr_n 1 (dcN_10 dcg_528 :) rfl ?_
              refine AW.duprr (dcN_11 dcg_528 :) ?_
              refine AW.getI af_X12_245_117 sr_117_38 (dcN_12 dcg_528 :) ?_
              refine AW.iconst (dcN_13 dcg_528 :) ?_
              refine AW.iadd (dcN_14 dcg_528 :) ?_
              obtain ⟨g14, e15, h⟩ := hBe h
              refine AW.putI ap_X12_245_117 sr_117_38 (dcN_15 dcg_528 :) e15 ?_
              refine AW.iload_n 0 (dcN_0 dcg_529 :) rfl ?_
              refine AW.bipush (dcN_1 dcg_529 :) (by decide) (by decide) ?_
              obtain ⟨t16, e17, h⟩ := hBe h
              refine AW.join (tgt := 289) (lv1 := [(1, iv r9), (0, rv z 117)]) (st1 := [iv t16]) (g1 := g14) ?_ (fun J227 => ?_)
              · refine AW.istore_n (lv1 := [(2, iv t16), (1, iv r9), (0, rv z 117)]) (dcN_1 dcg_531 :) (by decide) rfl ?_
                refine AW.aloadr_n 2 (dcN_2 dcg_531 :) rfl ?_
                refine AW.iload_n 0 (dcN_3 dcg_531 :) rfl ?_
                obtain ⟨t18, e19, h⟩ := hBe h
                refine AW.join (tgt := 303) (lv1 := [(2, iv t16), (1, iv r9), (0, rv z 117)]) (st1 := [iv t18, rv z 117]) (g1 := g14) ?_ (fun J292 => ?_)
                · obtain ⟨g20, e21, h⟩ := hBe h
                  refine AW.putI ap_X12_306_117 sr_117_39 (dcN_10 dcg_531 :) e21 ?_
                  exact AW.vret1 rfl (dcN_11 dcg_531 :) h rfl
                refine AW.if_eq (tgt := 302) (dcN_4 dcg_531 :) (by decide) (fun c22 => ?_) (fun c22 => ?_)
                · refine AW.iconst (dcN_9 dcg_531 :) ?_
                  exact AW.val (e19.trans (if_pos c22)) J292
                · refine AW.bipush (dcN_5 dcg_531 :) (by decide) (by decide) ?_
                  refine AW.iload_n 1 (dcN_6 dcg_531 :) rfl ?_
                  refine AW.iadd (dcN_7 dcg_531 :) ?_
                  refine AW.goto (tgt := 303) (dcN_8 dcg_531 :) (by decide) ?_
                  exact AW.val (e19.trans (if_neg c22)) J292
              refine AW.icmp_eq (tgt := 284) (dcN_2 dcg_529 :) (by decide) (fun c23 => ?_) (fun c23 => ?_)
              · refine AW.iconst (dcN_13 dcg_530 :) ?_
                refine AW.goto (tgt := 289) (dcN_14 dcg_530 :) (by decide) ?_
                exact AW.val (e17.trans (if_pos c23)) J227
              · refine AW.iload_n 0 (dcN_3 dcg_529 :) rfl ?_
                refine AW.bipush (dcN_4 dcg_529 :) (by decide) (by decide) ?_
                refine AW.icmp_eq (tgt := 284) (dcN_5 dcg_529 :) (by decide) (fun c24 => ?_) (fun c24 => ?_)
                · refine AW.iconst (dcN_13 dcg_530 :) ?_
                  refine AW.goto (tgt := 289) (dcN_14 dcg_530 :) (by decide) ?_
                  exact AW.val (e17.trans ((if_neg c23).trans (if_pos c24))) J227
                · refine AW.iload_n 0 (dcN_6 dcg_529 :) rfl ?_
                  refine AW.bipush (dcN_7 dcg_529 :) (by decide) (by decide) ?_
                  refine AW.icmp_eq (tgt := 284) (dcN_8 dcg_529 :) (by decide) (fun c25 => ?_) (fun c25 => ?_)
                  · refine AW.iconst (dcN_13 dcg_530 :) ?_
                    refine AW.goto (tgt := 289) (dcN_14 dcg_530 :) (by decide) ?_
                    exact AW.val (e17.trans ((if_neg c23).trans ((if_neg c24).trans (if_pos c25)))) J227
                  · refine AW.iload_n 0 (dcN_9 dcg_529 :) rfl ?_
                    refine AW.bipush (dcN_10 dcg_529 :) (by decide) (by decide) ?_
                    refine AW.icmp_eq (tgt := 284) (dcN_11 dcg_529 :) (by decide) (fun c26 => ?_) (fun c26 => ?_)
                    · refine AW.iconst (dcN_13 dcg_530 :) ?_
                      refine AW.goto (tgt := 289) (dcN_14 dcg_530 :) (by decide) ?_
                      exact AW.val (e17.trans ((if_neg c23).trans ((if_neg c24).trans ((if_neg c25).trans (if_pos c26))))) J227
                    · refine AW.iload_n 0 (dcN_12 dcg_529 :) rfl ?_
                      refine AW.bipush (dcN_13 dcg_529 :) (by decide) (by decide) ?_
                      refine AW.icmp_eq (tgt := 284) (dcN_14 dcg_529 :) (by decide) (fun c27 => ?_) (fun c27 => ?_)
                      · refine AW.iconst (dcN_13 dcg_530 :) ?_
                        refine AW.goto (tgt := 289) (dcN_14 dcg_530 :) (by decide) ?_
                        exact AW.val (e17.trans ((if_neg c23).trans ((if_neg c24).trans ((if_neg c25).trans ((if_neg c26).trans (if_pos c27)))))) J227
                      · refine AW.iload_n 0 (dcN_15 dcg_529 :) rfl ?_
                        refine AW.bipush (dcN_16 dcg_529 :) (by decide) (by decide) ?_
                        refine AW.icmp_eq (tgt := 284) (dcN_0 dcg_530 :) (by decide) (fun c28 => ?_) (fun c28 => ?_)
                        · refine AW.iconst (dcN_13 dcg_530 :) ?_
                          refine AW.goto (tgt := 289) (dcN_14 dcg_530 :) (by decide) ?_
                          exact AW.val (e17.trans ((if_neg c23).trans ((if_neg c24).trans ((if_neg c25).trans ((if_neg c26).trans ((if_neg c27).trans (if_pos c28))))))) J227
                        · refine AW.iload_n 0 (dcN_1 dcg_530 :) rfl ?_
                          refine AW.bipush (dcN_2 dcg_530 :) (by decide) (by decide) ?_
                          refine AW.icmp_eq (tgt := 284) (dcN_3 dcg_530 :) (by decide) (fun c29 => ?_) (fun c29 => ?_)
                          · refine AW.iconst (dcN_13 dcg_530 :) ?_
                            refine AW.goto (tgt := 289) (dcN_14 dcg_530 :) (by decide) ?_
                            exact AW.val (e17.trans ((if_neg c23).trans ((if_neg c24).trans ((if_neg c25).trans ((if_neg c26).trans ((if_neg c27).trans ((if_neg c28).trans (if_pos c29)))))))) J227
                          · refine AW.iload_n 0 (dcN_4 dcg_530 :) rfl ?_
                            refine AW.bipush (dcN_5 dcg_530 :) (by decide) (by decide) ?_
                            refine AW.icmp_eq (tgt := 284) (dcN_6 dcg_530 :) (by decide) (fun c30 => ?_) (fun c30 => ?_)
                            · refine AW.iconst (dcN_13 dcg_530 :) ?_
                              refine AW.goto (tgt := 289) (dcN_14 dcg_530 :) (by decide) ?_
                              exact AW.val (e17.trans ((if_neg c23).trans ((if_neg c24).trans ((if_neg c25).trans ((if_neg c26).trans ((if_neg c27).trans ((if_neg c28).trans ((if_neg c29).trans (if_pos c30))))))))) J227
                            · refine AW.iload_n 0 (dcN_7 dcg_530 :) rfl ?_
                              refine AW.bipush (dcN_8 dcg_530 :) (by decide) (by decide) ?_
                              refine AW.icmp_eq (tgt := 284) (dcN_9 dcg_530 :) (by decide) (fun c31 => ?_) (fun c31 => ?_)
                              · refine AW.iconst (dcN_13 dcg_530 :) ?_
                                refine AW.goto (tgt := 289) (dcN_14 dcg_530 :) (by decide) ?_
                                exact AW.val (e17.trans ((if_neg c23).trans ((if_neg c24).trans ((if_neg c25).trans ((if_neg c26).trans ((if_neg c27).trans ((if_neg c28).trans ((if_neg c29).trans ((if_neg c30).trans (if_pos c31)))))))))) J227
                              · refine AW.iload_n 0 (dcN_10 dcg_530 :) rfl ?_
                                refine AW.bipush (dcN_11 dcg_530 :) (by decide) (by decide) ?_
                                refine AW.icmp_ne (tgt := 288) (dcN_12 dcg_530 :) (by decide) (fun c32 => ?_) (fun c32 => ?_)
                                · refine AW.iconst (dcN_0 dcg_531 :) ?_
                                  exact AW.val (e17.trans ((if_neg c23).trans ((if_neg c24).trans ((if_neg c25).trans ((if_neg c26).trans ((if_neg c27).trans ((if_neg c28).trans ((if_neg c29).trans ((if_neg c30).trans ((if_neg c31).trans (if_neg c32))))))))))) J227
                                · refine AW.iconst (dcN_13 dcg_530 :) ?_
                                  refine AW.goto (tgt := 289) (dcN_14 dcg_530 :) (by decide) ?_
                                  exact AW.val (e17.trans ((if_neg c23).trans ((if_neg c24).trans ((if_neg c25).trans ((if_neg c26).trans ((if_neg c27).trans ((if_neg c28).trans ((if_neg c29).trans ((if_neg c30).trans ((if_neg c31).trans (if_pos c32))))))))))) J227
            · replace h := hF h c13
              refine AW.aloadr_n 1 (dcN_11 dcg_525 :) rfl ?_
              refine AW.iconst (dcN_12 dcg_525 :) ?_
              obtain ⟨g33, e34, h⟩ := hBe h
              refine AW.putI ap_X12_318_117 sr_117_41 (dcN_13 dcg_525 :) e34 ?_
              refine AW.sub (lv1 := [(0, rv z 117)]) [1] rfl ?_
              exact (ih _ _ _ h).2.2.2 rfl
          · replace h := hF h c12
            refine AW.sub (lv1 := [(0, rv z 117)]) [1] rfl ?_
            exact (ih _ _ _ h).2.2.1 rfl
        · replace h := hT h c11
          refine AW.aloadr_n 1 (dcN_15 dcg_523 :) rfl ?_
          refine AW.iconst (dcN_16 dcg_523 :) ?_
          obtain ⟨g35, e36, h⟩ := hBe h
          refine AW.putI ap_X12_306_117 sr_117_39 (dcN_17 dcg_523 :) e36 ?_
          refine AW.goto (tgt := 306) (dcN_0 dcg_524 :) (by decide) ?_
          exact AW.vret1 rfl (dcN_11 dcg_531 :) h rfl
      · replace h := hT h c6
        exact (ih _ _ _ h).2.1 rfl
  · subst h9
    replace h := hF h (by decide)
    replace h := hT h rfl
    refine AW.aloadr_n 0 (dcN_12 dcg_522 :) rfl ?_
    refine AW.duprr (dcN_13 dcg_522 :) ?_
    refine AW.getI af_X12_245_117 sr_117_38 (dcN_14 dcg_522 :) ?_
    refine AW.iconst (dcN_15 dcg_522 :) ?_
    refine AW.iadd (dcN_0 dcg_523 :) ?_
    obtain ⟨g1, e2, h⟩ := hBe h
    refine AW.putI ap_X12_245_117 sr_117_38 (dcN_1 dcg_523 :) e2 ?_
    refine AW.goto (tgt := 0) (dcN_2 dcg_523 :) (by decide) ?_
    exact (ih _ _ _ h).1 rfl
  · subst h9
    replace h := hF h (by decide)
    replace h := hF h (by decide)
    replace h := hT h rfl
    refine AW.aloadr_n 0 (dcN_4 dcg_524 :) rfl ?_
    refine AW.aloadr_n 0 (dcN_5 dcg_524 :) rfl ?_
    refine AW.getI af_X12_245_117 sr_117_38 (dcN_6 dcg_524 :) ?_
    obtain ⟨r1, e2, h⟩ := hC h
    refine AW.callVi (As := [iv (g 117 38)]) (st := []) (M_see_ok e2) cq_X12_302 cr_117_X12_see (Nat.le_trans (by decide) hdd) rfl (dcN_7 dcg_524 :) rfl (Nat.le_of_ble_eq_true rfl) ?_
    refine AW.callSi (As := [iv r1]) (st := []) M_isLetter_ok cq_X12_309 st_X12_isLetter (Nat.le_trans (by decide) hdd) rfl (dcN_8 dcg_524 :) rfl (Nat.le_of_ble_eq_true rfl) ?_
    refine AW.if_eq (tgt := 103) (dcN_9 dcg_524 :) (by decide) (fun c3 => ?_) (fun c3 => ?_)
    · replace h := hT h c3
      refine AW.aloadr_n 0 (dcN_3 dcg_525 :) rfl ?_
      refine AW.aloadr_n 0 (dcN_4 dcg_525 :) rfl ?_
      obtain ⟨r4, e5, h⟩ := hC h
      refine AW.callVi (As := []) (st := [rv z 117]) (M_word_ok e5) cq_X12_312 cr_117_X12_word (Nat.le_trans (by decide) hdd) rfl (dcN_5 dcg_525 :) rfl (Nat.le_of_ble_eq_true rfl) ?_
      obtain ⟨g6, e7, h⟩ := hBe h
      refine AW.putI ap_X12_306_117 sr_117_39 (dcN_6 dcg_525 :) e7 ?_
      refine AW.goto (tgt := 306) (dcN_7 dcg_525 :) (by decide) ?_
      exact AW.vret1 rfl (dcN_11 dcg_531 :) h rfl
    · replace h := hF h c3
      refine AW.aloadr_n 0 (dcN_10 dcg_524 :) rfl ?_
      refine AW.duprr (dcN_11 dcg_524 :) ?_
      refine AW.getI af_X12_245_117 sr_117_38 (dcN_12 dcg_524 :) ?_
      refine AW.iconst (dcN_13 dcg_524 :) ?_
      refine AW.iadd (dcN_0 dcg_525 :) ?_
      obtain ⟨g8, e9, h⟩ := hBe h
      refine AW.putI ap_X12_245_117 sr_117_38 (dcN_1 dcg_525 :) e9 ?_
      refine AW.goto (tgt := 76) (dcN_2 dcg_525 :) (by decide) ?_
      exact (ih _ _ _ h).2.2.1 rfl
  · subst h9
    replace h := hF h (by decide)
    replace h := hF h (by decide)
    replace h := hF h (by decide)
    replace h := hT h rfl
    refine AW.aloadr_n 0 (dcN_14 dcg_525 :) rfl ?_
    refine AW.aloadr_n 0 (dcN_15 dcg_525 :) rfl ?_
    refine AW.getI af_X12_245_117 sr_117_38 (dcN_0 dcg_526 :) ?_
    obtain ⟨r1, e2, h⟩ := hC h
    refine AW.callVi (As := [iv (g 117 38)]) (st := []) (M_see_ok e2) cq_X12_302 cr_117_X12_see (Nat.le_trans (by decide) hdd) rfl (dcN_1 dcg_526 :) rfl (Nat.le_of_ble_eq_true rfl) ?_
    refine AW.callSi (As := [iv r1]) (st := []) M_isDigit_ok cq_X12_315 st_X12_isDigit (Nat.le_trans (by decide) hdd) rfl (dcN_2 dcg_526 :) rfl (Nat.le_of_ble_eq_true rfl) ?_
    refine AW.if_eq (tgt := 189) (dcN_3 dcg_526 :) (by decide) (fun c3 => ?_) (fun c3 => ?_)
    · replace h := hT h c3
      refine AW.aloadr_n 0 (dcN_16 dcg_527 :) rfl ?_
      refine AW.aloadr_n 0 (dcN_17 dcg_527 :) rfl ?_
      refine AW.getI af_X12_245_117 sr_117_38 (dcN_18 dcg_527 :) ?_
      refine AW.aloadr_n 0 (dcN_0 dcg_528 :) rfl ?_
      refine AW.getI af_X12_248_117 sr_117_40 (dcN_1 dcg_528 :) ?_
      refine AW.isub (dcN_2 dcg_528 :) ?_
      refine AW.iconst (dcN_3 dcg_528 :) ?_
      obtain ⟨t4, e5, h⟩ := hBe h
      refine AW.join (tgt := 208) (lv1 := [(0, rv z 117)]) (st1 := [iv t4, rv z 117]) (g1 := g) ?_ (fun J200 => ?_)
      · obtain ⟨g6, e7, h⟩ := hBe h
        refine AW.putI ap_X12_306_117 sr_117_39 (dcN_8 dcg_528 :) e7 ?_
        refine AW.goto (tgt := 306) (dcN_9 dcg_528 :) (by decide) ?_
        exact AW.vret1 rfl (dcN_11 dcg_531 :) h rfl
      refine AW.icmp_ge (tgt := 207) (dcN_4 dcg_528 :) (by decide) (fun c8 => ?_) (fun c8 => ?_)
      · refine AW.iconst (dcN_7 dcg_528 :) ?_
        exact AW.val (e5.trans (if_pos c8)) J200
      · refine AW.iconst (dcN_5 dcg_528 :) ?_
        refine AW.goto (tgt := 208) (dcN_6 dcg_528 :) (by decide) ?_
        exact AW.val (e5.trans (if_neg c8)) J200
    · replace h := hF h c3
      refine AW.aloadr_n 0 (dcN_4 dcg_526 :) rfl ?_
      refine AW.getI af_X12_245_117 sr_117_38 (dcN_5 dcg_526 :) ?_
      refine AW.aloadr_n 0 (dcN_6 dcg_526 :) rfl ?_
      refine AW.getI af_X12_248_117 sr_117_40 (dcN_7 dcg_526 :) ?_
      refine AW.iconst (dcN_8 dcg_526 :) ?_
      refine AW.iadd (dcN_9 dcg_526 :) ?_
      obtain ⟨r14, e15, h⟩ := hC h
      refine AW.join (tgt := 176) (lv1 := [(0, rv z 117)]) (st1 := []) (g1 := r14) ?_ (fun J150 => ?_)
      · refine AW.aloadr_n 0 (dcN_9 dcg_527 :) rfl ?_
        refine AW.duprr (dcN_10 dcg_527 :) ?_
        refine AW.getI af_X12_245_117 sr_117_38 (dcN_11 dcg_527 :) ?_
        refine AW.iconst (dcN_12 dcg_527 :) ?_
        refine AW.iadd (dcN_13 dcg_527 :) ?_
        obtain ⟨g16, e17, h⟩ := hBe h
        refine AW.putI ap_X12_245_117 sr_117_38 (dcN_14 dcg_527 :) e17 ?_
        refine AW.goto (tgt := 126) (dcN_15 dcg_527 :) (by decide) ?_
        exact (ih _ _ _ h).2.2.2 rfl
      replace h := e15
      refine AW.icmp_ge (tgt := 176) (dcN_10 dcg_526 :) (by decide) (fun c9 => ?_) (fun c9 => ?_)
      · replace h := hT h c9
        cases h
        exact J150
      · replace h := hF h c9
        refine AW.aloadr_n 0 (dcN_11 dcg_526 :) rfl ?_
        refine AW.bipush (dcN_12 dcg_526 :) (by decide) (by decide) ?_
        refine AW.aloadr_n 0 (dcN_13 dcg_526 :) rfl ?_
        refine AW.getI af_X12_318_117 sr_117_41 (dcN_14 dcg_526 :) ?_
        refine AW.imul (dcN_0 dcg_527 :) ?_
        refine AW.aloadr_n 0 (dcN_1 dcg_527 :) rfl ?_
        refine AW.aloadr_n 0 (dcN_2 dcg_527 :) rfl ?_
        refine AW.getI af_X12_245_117 sr_117_38 (dcN_3 dcg_527 :) ?_
        obtain ⟨r10, e11, h⟩ := hC h
        refine AW.callVi (As := [iv (g 117 38)]) (st := [iv (10 * (g 117 41)), rv z 117]) (M_see_ok e11) cq_X12_302 cr_117_X12_see (Nat.le_trans (by decide) hdd) rfl (dcN_4 dcg_527 :) rfl (Nat.le_of_ble_eq_true rfl) ?_
        refine AW.iadd (dcN_5 dcg_527 :) ?_
        refine AW.bipush (dcN_6 dcg_527 :) (by decide) (by decide) ?_
        refine AW.isub (dcN_7 dcg_527 :) ?_
        obtain ⟨g12, e13, h⟩ := hBe h
        refine AW.putI ap_X12_318_117 sr_117_41 (dcN_8 dcg_527 :) e13 ?_
        cases h
        exact J150
theorem M_next0_ok {z : AZ} {g : AG} {r : Int × AG} (h : M_next0 g = some r) : AMf z yX12_next0 cX12_next0 3 none 7 [rv z 117] g r := by
  intro d hdd
  refine AM.of (by decide +kernel) (Nat.le_of_ble_eq_true rfl) ?_
  show AW z (RX12, cX12_next0, 3, none) d (QD none r) 0 [(0, rv z 117)] [] g
  unfold M_next0 at h
  exact (M_next0_b_ok hdd _ _ _ h).1 rfl
theorem M_bad_ok {z : AZ} {x1 : Int} {g : AG} {r : Int × AG} (h : M_bad x1 g = some r) : AMf z yX12_bad cX12_bad 2 (some .boolean) 0 [rv z 117, iv x1] g r := by
  intro d hdd
  refine AM.of (by decide +kernel) (Nat.le_of_ble_eq_true rfl) ?_
  show AW z (RX12, cX12_bad, 2, (some .boolean)) d (QD (some .boolean) r) 0 [(0, rv z 117), (1, iv x1)] [] g
  unfold M_bad at h
  refine AW.aloadr_n 0 (dcN_0 dcg_532 :) rfl ?_
  refine AW.iload_n 1 (dcN_1 dcg_532 :) rfl ?_
  obtain ⟨g1, e2, h⟩ := hBe h
  refine AW.putI ap_X12_321_117 sr_117_42 (dcN_2 dcg_532 :) e2 ?_
  refine AW.aloadr_n 0 (dcN_3 dcg_532 :) rfl ?_
  refine AW.aloadr_n 0 (dcN_4 dcg_532 :) rfl ?_
  refine AW.getI af_X12_248_117 sr_117_40 (dcN_5 dcg_532 :) ?_
  obtain ⟨g3, e4, h⟩ := hBe h
  refine AW.putI ap_X12_324_117 sr_117_43 (dcN_6 dcg_532 :) e4 ?_
  refine AW.iconst (dcN_7 dcg_532 :) ?_
  exact AW.zret1 rfl (Or.inl rfl) (dcN_8 dcg_532 :) h rfl
theorem M_lay_ok {z : AZ} {x1 : Int} {x2 : Int} {g : AG} {r : Int × AG} (h : M_lay x1 x2 g = some r) : AMf z yX12_lay cX12_lay 3 none 0 [rv z 117, iv x1, iv x2] g r := by
  intro d hdd
  refine AM.of (by decide +kernel) (Nat.le_of_ble_eq_true rfl) ?_
  show AW z (RX12, cX12_lay, 3, none) d (QD none r) 0 [(0, rv z 117), (1, iv x1), (2, iv x2)] [] g
  unfold M_lay at h
  refine AW.aloadr_n 0 (dcN_0 dcg_536 :) rfl ?_
  refine AW.getR af_X12_87_117 sr_117_26 (dcN_1 dcg_536 :) ?_
  refine AW.iconst (dcN_2 dcg_536 :) ?_
  refine AW.aloadr_n 0 (dcN_3 dcg_536 :) rfl ?_
  refine AW.getI af_X12_333_117 sr_117_36 (dcN_4 dcg_536 :) ?_
  refine AW.imul (dcN_5 dcg_536 :) ?_
  refine AW.iload_n 1 (dcN_6 dcg_536 :) rfl ?_
  obtain ⟨k1, h⟩ := hK h
  obtain ⟨g2, e3, h⟩ := hBe h
  refine AW.iast kc_141 sk_141 k1 (dcN_7 dcg_536 :) e3 ?_
  refine AW.aloadr_n 0 (dcN_8 dcg_536 :) rfl ?_
  refine AW.getR af_X12_87_117 sr_117_26 (dcN_9 dcg_536 :) ?_
  refine AW.iconst (dcN_10 dcg_536 :) ?_
  refine AW.aloadr_n 0 (dcN_11 dcg_536 :) rfl ?_
  refine AW.getI af_X12_333_117 sr_117_36 (dcN_0 dcg_537 :) ?_
  refine AW.imul (dcN_1 dcg_537 :) ?_
  refine AW.iconst (dcN_2 dcg_537 :) ?_
  refine AW.iadd (dcN_3 dcg_537 :) ?_
  refine AW.iload_n 2 (dcN_4 dcg_537 :) rfl ?_
  obtain ⟨k4, h⟩ := hK h
  obtain ⟨g5, e6, h⟩ := hBe h
  refine AW.iast kc_141 sk_141 k4 (dcN_5 dcg_537 :) e6 ?_
  refine AW.aloadr_n 0 (dcN_6 dcg_537 :) rfl ?_
  refine AW.duprr (dcN_7 dcg_537 :) ?_
  refine AW.getI af_X12_333_117 sr_117_36 (dcN_8 dcg_537 :) ?_
  refine AW.iconst (dcN_9 dcg_537 :) ?_
  refine AW.iadd (dcN_10 dcg_537 :) ?_
  obtain ⟨g7, e8, h⟩ := hBe h
  refine AW.putI ap_X12_333_117 sr_117_36 (dcN_11 dcg_537 :) e8 ?_
  exact AW.vret1 rfl dX12_lay_36 h rfl
set_option synthInstance.maxHeartbeats 2000000 in
theorem M_unit_b_ok {z : AZ} {d : Nat} (hdd : 8 ≤ d) {x1 : Int} {g : AG} : ∀ (r : Int × AG), M_unit_b x1 g = some r → AW z (RX12, cX12_unit, 2, (some .boolean)) d (QD (some .boolean) r) 30 [(0, rv z 117), (1, iv x1)] [] g := by
  intro r h
  unfold M_unit_b at h
  refine AW.aloadr_n 0 (dcN_16 dcg_547 :) rfl ?_
  refine AW.iload_n 1 (dcN_17 dcg_547 :) rfl ?_
  obtain ⟨t1, e2, h⟩ := hBe h
  refine AW.join (tgt := 46) (lv1 := [(0, rv z 117), (1, iv x1)]) (st1 := [iv t1, rv z 117]) (g1 := g) ?_ (fun J32 => ?_)
  · refine AW.aloadr_n 0 (dcN_7 dcg_548 :) rfl ?_
    refine AW.getI af_X12_318_117 sr_117_41 (dcN_8 dcg_548 :) ?_
    obtain ⟨r3, e4, h⟩ := hC h
    refine AW.callVv (As := [iv t1, iv (g 117 41)]) (st := []) (M_lay_ok e4) cq_X12_342 cr_117_X12_lay (Nat.le_trans (by decide) hdd) rfl (dcN_9 dcg_548 :) rfl (Nat.le_of_ble_eq_true rfl) ?_
    refine AW.aloadr_n 0 (dcN_10 dcg_548 :) rfl ?_
    obtain ⟨r5, e6, h⟩ := hC h
    refine AW.callVv (As := []) (st := []) (M_next0_ok e6) cq_X12_330 cr_117_X12_next0 (Nat.le_trans (by decide) hdd) rfl (dcN_11 dcg_548 :) rfl (Nat.le_of_ble_eq_true rfl) ?_
    refine AW.iconst (dcN_12 dcg_548 :) ?_
    exact AW.zret1 rfl (Or.inr rfl) (dcN_13 dcg_548 :) h rfl
  refine AW.if_eq (tgt := 45) (dcN_0 dcg_548 :) (by decide) (fun c7 => ?_) (fun c7 => ?_)
  · refine AW.iconst (dcN_6 dcg_548 :) ?_
    exact AW.val (e2.trans (if_pos c7)) J32
  · refine AW.aloadr_n 0 (dcN_1 dcg_548 :) rfl ?_
    refine AW.getI af_X12_306_117 sr_117_39 (dcN_2 dcg_548 :) ?_
    refine AW.bipush (dcN_3 dcg_548 :) (by decide) (by decide) ?_
    refine AW.isub (dcN_4 dcg_548 :) ?_
    refine AW.goto (tgt := 46) (dcN_5 dcg_548 :) (by decide) ?_
    exact AW.val (e2.trans (if_neg c7)) J32
theorem M_unit_ok {z : AZ} {g : AG} {r : Int × AG} (h : M_unit g = some r) : AMf z yX12_unit cX12_unit 2 (some .boolean) 8 [rv z 117] g r := by
  intro d hdd
  refine AM.of (by decide +kernel) (Nat.le_of_ble_eq_true rfl) ?_
  show AW z (RX12, cX12_unit, 2, (some .boolean)) d (QD (some .boolean) r) 0 [(0, rv z 117)] [] g
  unfold M_unit at h
  refine AW.aloadr_n 0 (dcN_0 dcg_547 :) rfl ?_
  refine AW.getI af_X12_306_117 sr_117_39 (dcN_1 dcg_547 :) ?_
  refine AW.bipush (dcN_2 dcg_547 :) (by decide) (by decide) ?_
  refine AW.bipush (dcN_3 dcg_547 :) (by decide) (by decide) ?_
  refine AW.callSi (As := [iv (g 117 39), iv 41, iv 49]) (st := []) M_isIn_ok cq_X12_3 st_X12_isIn (Nat.le_trans (by decide) hdd) rfl (dcN_4 dcg_547 :) rfl (Nat.le_of_ble_eq_true rfl) ?_
  refine AW.istore_n (lv1 := [(1, iv (M_isIn (g 117 39) 41 49)), (0, rv z 117)]) (dcN_5 dcg_547 :) (by decide) rfl ?_
  refine AW.aloadr_n 1 (dcN_6 dcg_547 :) rfl ?_
  refine AW.getI af_X12_306_117 sr_117_39 (dcN_7 dcg_547 :) ?_
  refine AW.iconst (dcN_8 dcg_547 :) ?_
  refine AW.icmp_eq (tgt := 30) (dcN_9 dcg_547 :) (by decide) (fun c1 => ?_) (fun c1 => ?_)
  · replace h := hT h c1
    refine AW.sub (lv1 := [(0, rv z 117), (1, iv (M_isIn (g 117 39) 41 49))]) [1, 0] rfl ?_
    exact M_unit_b_ok hdd _ h
  · replace h := hF h c1
    refine AW.iload_n 0 (dcN_10 dcg_547 :) rfl ?_
    refine AW.if_ne (tgt := 30) (dcN_11 dcg_547 :) (by decide) (fun c2 => ?_) (fun c2 => ?_)
    · replace h := hF h c2
      refine AW.sub (lv1 := [(0, rv z 117), (1, iv (M_isIn (g 117 39) 41 49))]) [1, 0] rfl ?_
      exact M_unit_b_ok hdd _ h
    · replace h := hT h c2
      refine AW.aloadr_n 1 (dcN_12 dcg_547 :) rfl ?_
      refine AW.iconst (dcN_13 dcg_547 :) ?_
      obtain ⟨r3, e4, h⟩ := hC h
      refine AW.callVi (As := [iv 1]) (st := []) (M_bad_ok e4) cq_X12_327 cr_117_X12_bad (Nat.le_trans (by decide) hdd) rfl (dcN_14 dcg_547 :) rfl (Nat.le_of_ble_eq_true rfl) ?_
      obtain ⟨k5, h⟩ := hK h
      exact AW.zret1 rfl k5 (dcN_15 dcg_547 :) h rfl
theorem M_number_ok {z : AZ} {x1 : Int} {x2 : Int} {g : AG} {r : Int × AG} (h : M_number x1 x2 g = some r) : AMf z yX12_number cX12_number 3 (some .boolean) 8 [rv z 117, iv x1, iv x2] g r := by
  intro d hdd
  refine AM.of (by decide +kernel) (Nat.le_of_ble_eq_true rfl) ?_
  show AW z (RX12, cX12_number, 3, (some .boolean)) d (QD (some .boolean) r) 0 [(0, rv z 117), (1, iv x1), (2, iv x2)] [] g
  unfold M_number at h
  refine AW.aloadr_n 0 (dcN_0 dcg_534 :) rfl ?_
  refine AW.getI af_X12_306_117 sr_117_39 (dcN_1 dcg_534 :) ?_
  refine AW.iconst (dcN_2 dcg_534 :) ?_
  refine AW.icmp_eq (tgt := 14) (dcN_3 dcg_534 :) (by decide) (fun c1 => ?_) (fun c1 => ?_)
  · replace h := hT h c1
    refine AW.aloadr_n 0 (dcN_8 dcg_534 :) rfl ?_
    refine AW.getI af_X12_318_117 sr_117_41 (dcN_9 dcg_534 :) ?_
    refine AW.iload_n 1 (dcN_10 dcg_534 :) rfl ?_
    refine AW.iload_n 2 (dcN_11 dcg_534 :) rfl ?_
    refine AW.callSi (As := [iv (g 117 41), iv x1, iv x2]) (st := []) M_isIn_ok cq_X12_3 st_X12_isIn (Nat.le_trans (by decide) hdd) rfl (dcN_0 dcg_535 :) rfl (Nat.le_of_ble_eq_true rfl) ?_
    refine AW.if_ne (tgt := 32) (dcN_1 dcg_535 :) (by decide) (fun c2 => ?_) (fun c2 => ?_)
    · replace h := hF h c2
      refine AW.aloadr_n 0 (dcN_6 dcg_535 :) rfl ?_
      obtain ⟨r3, e4, h⟩ := hC h
      refine AW.callVv (As := []) (st := []) (M_next0_ok e4) cq_X12_330 cr_117_X12_next0 (Nat.le_trans (by decide) hdd) rfl (dcN_7 dcg_535 :) rfl (Nat.le_of_ble_eq_true rfl) ?_
      refine AW.iconst (dcN_8 dcg_535 :) ?_
      exact AW.zret1 rfl (Or.inr rfl) (dcN_9 dcg_535 :) h rfl
    · replace h := hT h c2
      refine AW.aloadr_n 0 (dcN_2 dcg_535 :) rfl ?_
      refine AW.iconst (dcN_3 dcg_535 :) ?_
      obtain ⟨r5, e6, h⟩ := hC h
      refine AW.callVi (As := [iv 2]) (st := []) (M_bad_ok e6) cq_X12_327 cr_117_X12_bad (Nat.le_trans (by decide) hdd) rfl (dcN_4 dcg_535 :) rfl (Nat.le_of_ble_eq_true rfl) ?_
      obtain ⟨k7, h⟩ := hK h
      exact AW.zret1 rfl k7 (dcN_5 dcg_535 :) h rfl
  · replace h := hF h c1
    refine AW.aloadr_n 0 (dcN_4 dcg_534 :) rfl ?_
    refine AW.iconst (dcN_5 dcg_534 :) ?_
    obtain ⟨r8, e9, h⟩ := hC h
    refine AW.callVi (As := [iv 1]) (st := []) (M_bad_ok e9) cq_X12_327 cr_117_X12_bad (Nat.le_trans (by decide) hdd) rfl (dcN_6 dcg_534 :) rfl (Nat.le_of_ble_eq_true rfl) ?_
    obtain ⟨k10, h⟩ := hK h
    exact AW.zret1 rfl k10 (dcN_7 dcg_534 :) h rfl
set_option synthInstance.maxHeartbeats 2000000 in
theorem M_product_b_ok {z : AZ} {d : Nat} (hdd : 9 ≤ d) : ∀ (tag : Nat) (g : AG) (r : Int × AG), M_product_b tag g = some r → (tag = 1 → AW z (RX12, cX12_product, 3, (some .boolean)) d (QD (some .boolean) r) 9 [(0, rv z 117)] [] g) ∧ (tag = 2 → AW z (RX12, cX12_product, 3, (some .boolean)) d (QD (some .boolean) r) 29 [(0, rv z 117)] [] g) ∧ (tag = 3 → AW z (RX12, cX12_product, 3, (some .boolean)) d (QD (some .boolean) r) 97 [(0, rv z 117)] [] g) := by
  refine M_product_b.partial_correctness (fun tag g r => (tag = 1 → AW z (RX12, cX12_product, 3, (some .boolean)) d (QD (some .boolean) r) 9 [(0, rv z 117)] [] g) ∧ (tag = 2 → AW z (RX12, cX12_product, 3, (some .boolean)) d (QD (some .boolean) r) 29 [(0, rv z 117)] [] g) ∧ (tag = 3 → AW z (RX12, cX12_product, 3, (some .boolean)) d (QD (some .boolean) r) 97 [(0, rv z 117)] [] g)) ?_
  intro fb9 ih tag g r h
  refine ⟨fun h9 => ?_, fun h9 => ?_, fun h9 => ?_⟩
  · subst h9
    replace h := hT h rfl
    refine AW.aloadr_n 0 (dcN_5 dcg_543 :) rfl ?_
    refine AW.getI af_X12_306_117 sr_117_39 (dcN_6 dcg_543 :) ?_
    refine AW.sipush (dcN_7 dcg_543 :) (by decide) (by decide) ?_
    refine AW.icmp_eq (tgt := 29) (dcN_8 dcg_543 :) (by decide) (fun c1 => ?_) (fun c1 => ?_)
    · replace h := hT h c1
      exact (ih _ _ _ h).2.1 rfl
    · replace h := hF h c1
      refine AW.aloadr_n 0 (dcN_9 dcg_543 :) rfl ?_
      refine AW.getI af_X12_306_117 sr_117_39 (dcN_10 dcg_543 :) ?_
      refine AW.sipush (dcN_11 dcg_543 :) (by decide) (by decide) ?_
      refine AW.icmp_ne (tgt := 100) (dcN_12 dcg_543 :) (by decide) (fun c2 => ?_) (fun c2 => ?_)
      · replace h := hF h c2
        refine AW.iconst (dcN_1 dcg_546 :) ?_
        exact AW.zret1 rfl (Or.inr rfl) (dcN_2 dcg_546 :) h rfl
      · replace h := hT h c2
        exact (ih _ _ _ h).2.1 rfl
  · subst h9
    replace h := hF h (by decide)
    replace h := hT h rfl
    refine AW.aloadr_n 0 (dcN_13 dcg_543 :) rfl ?_
    refine AW.getI af_X12_306_117 sr_117_39 (dcN_14 dcg_543 :) ?_
    refine AW.sipush (dcN_0 dcg_544 :) (by decide) (by decide) ?_
    obtain ⟨t1, e2, h⟩ := hBe h
    refine AW.join (tgt := 44) (lv1 := [(0, rv z 117)]) (st1 := [iv t1]) (g1 := g) ?_ (fun J36 => ?_)
    · refine AW.istore_n (lv1 := [(1, iv t1), (0, rv z 117)]) (dcN_5 dcg_544 :) (by decide) rfl ?_
      refine AW.aloadr_n 1 (dcN_6 dcg_544 :) rfl ?_
      obtain ⟨r3, e4, h⟩ := hC h
      refine AW.callVv (As := []) (st := []) (M_next0_ok e4) cq_X12_330 cr_117_X12_next0 (Nat.le_trans (by decide) hdd) rfl (dcN_7 dcg_544 :) rfl (Nat.le_of_ble_eq_true rfl) ?_
      refine AW.iload_n 0 (dcN_8 dcg_544 :) rfl ?_
      refine AW.if_eq (tgt := 81) (dcN_9 dcg_544 :) (by decide) (fun c5 => ?_) (fun c5 => ?_)
      · replace h := hT h c5
        refine AW.aloadr_n 1 (dcN_8 dcg_545 :) rfl ?_
        obtain ⟨r6, e7, h⟩ := hC h
        refine AW.callVi (As := []) (st := []) (M_unit_ok e7) cq_X12_346 cr_117_X12_unit (Nat.le_trans (by decide) hdd) rfl (dcN_9 dcg_545 :) rfl (Nat.le_of_ble_eq_true rfl) ?_
        refine AW.if_ne (tgt := 90) (dcN_10 dcg_545 :) (by decide) (fun c8 => ?_) (fun c8 => ?_)
        · replace h := hF h c8
          refine AW.aloadr_n 1 (dcN_13 dcg_545 :) rfl ?_
          refine AW.bipush (dcN_14 dcg_545 :) (by decide) (by decide) ?_
          refine AW.iconst (dcN_15 dcg_545 :) ?_
          obtain ⟨r9, e10, h⟩ := hC h
          refine AW.callVv (As := [iv 12, iv 0]) (st := []) (M_lay_ok e10) cq_X12_342 cr_117_X12_lay (Nat.le_trans (by decide) hdd) rfl (dcN_16 dcg_545 :) rfl (Nat.le_of_ble_eq_true rfl) ?_
          refine AW.sub (lv1 := [(0, rv z 117)]) [1] rfl ?_
          exact (ih _ _ _ h).2.2 rfl
        · replace h := hT h c8
          refine AW.iconst (dcN_11 dcg_545 :) ?_
          exact AW.zret1 rfl (Or.inl rfl) (dcN_12 dcg_545 :) h rfl
      · replace h := hF h c5
        refine AW.aloadr_n 1 (dcN_10 dcg_544 :) rfl ?_
        refine AW.getI af_X12_318_117 sr_117_41 (dcN_11 dcg_544 :) ?_
        refine AW.istore_n (lv1 := [(2, iv (r3.2 117 41)), (1, iv t1), (0, rv z 117)]) (dcN_12 dcg_544 :) (by decide) rfl ?_
        refine AW.aloadr_n 2 (dcN_13 dcg_544 :) rfl ?_
        refine AW.iconst (dcN_14 dcg_544 :) ?_
        refine AW.sipush (dcN_15 dcg_544 :) (by decide) (by decide) ?_
        obtain ⟨r11, e12, h⟩ := hC h
        refine AW.callVi (As := [iv 1, iv 9999]) (st := []) (M_number_ok e12) cq_X12_349 cr_117_X12_number (Nat.le_trans (by decide) hdd) rfl (dcN_16 dcg_544 :) rfl (Nat.le_of_ble_eq_true rfl) ?_
        refine AW.if_ne (tgt := 71) (dcN_0 dcg_545 :) (by decide) (fun c13 => ?_) (fun c13 => ?_)
        · replace h := hF h c13
          refine AW.aloadr_n 2 (dcN_3 dcg_545 :) rfl ?_
          refine AW.bipush (dcN_4 dcg_545 :) (by decide) (by decide) ?_
          refine AW.iload_n 0 (dcN_5 dcg_545 :) rfl ?_
          obtain ⟨r14, e15, h⟩ := hC h
          refine AW.callVv (As := [iv 13, iv (r3.2 117 41)]) (st := []) (M_lay_ok e15) cq_X12_342 cr_117_X12_lay (Nat.le_trans (by decide) hdd) rfl (dcN_6 dcg_545 :) rfl (Nat.le_of_ble_eq_true rfl) ?_
          refine AW.goto (tgt := 97) (dcN_7 dcg_545 :) (by decide) ?_
          refine AW.sub (lv1 := [(0, rv z 117)]) [2] rfl ?_
          exact (ih _ _ _ h).2.2 rfl
        · replace h := hT h c13
          refine AW.iconst (dcN_1 dcg_545 :) ?_
          exact AW.zret1 rfl (Or.inl rfl) (dcN_2 dcg_545 :) h rfl
    refine AW.icmp_ne (tgt := 43) (dcN_1 dcg_544 :) (by decide) (fun c16 => ?_) (fun c16 => ?_)
    · refine AW.iconst (dcN_4 dcg_544 :) ?_
      exact AW.val (e2.trans (if_neg c16)) J36
    · refine AW.iconst (dcN_2 dcg_544 :) ?_
      refine AW.goto (tgt := 44) (dcN_3 dcg_544 :) (by decide) ?_
      exact AW.val (e2.trans (if_pos c16)) J36
  · subst h9
    replace h := hF h (by decide)
    replace h := hF h (by decide)
    replace h := hT h rfl
    refine AW.goto (tgt := 9) (dcN_0 dcg_546 :) (by decide) ?_
    exact (ih _ _ _ h).1 rfl
theorem M_product_ok {z : AZ} {g : AG} {r : Int × AG} (h : M_product g = some r) : AMf z yX12_product cX12_product 3 (some .boolean) 9 [rv z 117] g r := by
  intro d hdd
  refine AM.of (by decide +kernel) (Nat.le_of_ble_eq_true rfl) ?_
  show AW z (RX12, cX12_product, 3, (some .boolean)) d (QD (some .boolean) r) 0 [(0, rv z 117)] [] g
  unfold M_product at h
  refine AW.aloadr_n 0 (dcN_0 dcg_543 :) rfl ?_
  obtain ⟨r1, e2, h⟩ := hC h
  refine AW.callVi (As := []) (st := []) (M_unit_ok e2) cq_X12_346 cr_117_X12_unit (Nat.le_trans (by decide) hdd) rfl (dcN_1 dcg_543 :) rfl (Nat.le_of_ble_eq_true rfl) ?_
  refine AW.if_ne (tgt := 9) (dcN_2 dcg_543 :) (by decide) (fun c3 => ?_) (fun c3 => ?_)
  · replace h := hF h c3
    exact (M_product_b_ok hdd _ _ _ h).1 rfl
  · replace h := hT h c3
    refine AW.iconst (dcN_3 dcg_543 :) ?_
    exact AW.zret1 rfl (Or.inl rfl) (dcN_4 dcg_543 :) h rfl
set_option synthInstance.maxHeartbeats 2000000 in
theorem M_sumUp_b_ok {z : AZ} {d : Nat} (hdd : 10 ≤ d) : ∀ (tag : Nat) (g : AG) (r : Int × AG), M_sumUp_b tag g = some r → (tag = 1 → AW z (RX12, cX12_sumUp, 2, (some .boolean)) d (QD (some .boolean) r) 9 [(0, rv z 117)] [] g) ∧ (tag = 2 → AW z (RX12, cX12_sumUp, 2, (some .boolean)) d (QD (some .boolean) r) 29 [(0, rv z 117)] [] g) := by
  refine M_sumUp_b.partial_correctness (fun tag g r => (tag = 1 → AW z (RX12, cX12_sumUp, 2, (some .boolean)) d (QD (some .boolean) r) 9 [(0, rv z 117)] [] g) ∧ (tag = 2 → AW z (RX12, cX12_sumUp, 2, (some .boolean)) d (QD (some .boolean) r) 29 [(0, rv z 117)] [] g)) ?_
  intro fb9 ih tag g r h
  refine ⟨fun h9 => ?_, fun h9 => ?_⟩
  · subst h9
    replace h := hT h rfl
    refine AW.aloadr_n 0 (dcN_5 dcg_540 :) rfl ?_
    refine AW.getI af_X12_306_117 sr_117_39 (dcN_6 dcg_540 :) ?_
    refine AW.sipush (dcN_7 dcg_540 :) (by decide) (by decide) ?_
    refine AW.icmp_eq (tgt := 29) (dcN_8 dcg_540 :) (by decide) (fun c1 => ?_) (fun c1 => ?_)
    · replace h := hT h c1
      exact (ih _ _ _ h).2 rfl
    · replace h := hF h c1
      refine AW.aloadr_n 0 (dcN_9 dcg_540 :) rfl ?_
      refine AW.getI af_X12_306_117 sr_117_39 (dcN_10 dcg_540 :) ?_
      refine AW.sipush (dcN_11 dcg_540 :) (by decide) (by decide) ?_
      refine AW.icmp_ne (tgt := 69) (dcN_12 dcg_540 :) (by decide) (fun c2 => ?_) (fun c2 => ?_)
      · replace h := hF h c2
        refine AW.iconst (dcN_1 dcg_542 :) ?_
        exact AW.zret1 rfl (Or.inr rfl) (dcN_2 dcg_542 :) h rfl
      · replace h := hT h c2
        exact (ih _ _ _ h).2 rfl
  · subst h9
    replace h := hF h (by decide)
    replace h := hT h rfl
    refine AW.aloadr_n 0 (dcN_13 dcg_540 :) rfl ?_
    refine AW.getI af_X12_306_117 sr_117_39 (dcN_14 dcg_540 :) ?_
    refine AW.sipush (dcN_0 dcg_541 :) (by decide) (by decide) ?_
    obtain ⟨t1, e2, h⟩ := hBe h
    refine AW.join (tgt := 46) (lv1 := [(0, rv z 117)]) (st1 := [iv t1]) (g1 := g) ?_ (fun J36 => ?_)
    · refine AW.istore_n (lv1 := [(1, iv t1), (0, rv z 117)]) (dcN_5 dcg_541 :) (by decide) rfl ?_
      refine AW.aloadr_n 1 (dcN_6 dcg_541 :) rfl ?_
      obtain ⟨r3, e4, h⟩ := hC h
      refine AW.callVv (As := []) (st := []) (M_next0_ok e4) cq_X12_330 cr_117_X12_next0 (Nat.le_trans (by decide) hdd) rfl (dcN_7 dcg_541 :) rfl (Nat.le_of_ble_eq_true rfl) ?_
      refine AW.aloadr_n 1 (dcN_8 dcg_541 :) rfl ?_
      obtain ⟨r5, e6, h⟩ := hC h
      refine AW.callVi (As := []) (st := []) (M_product_ok e6) cq_X12_338 cr_117_X12_product (Nat.le_trans (by decide) hdd) rfl (dcN_9 dcg_541 :) rfl (Nat.le_of_ble_eq_true rfl) ?_
      refine AW.if_ne (tgt := 60) (dcN_10 dcg_541 :) (by decide) (fun c7 => ?_) (fun c7 => ?_)
      · replace h := hF h c7
        refine AW.aloadr_n 1 (dcN_13 dcg_541 :) rfl ?_
        refine AW.iload_n 0 (dcN_14 dcg_541 :) rfl ?_
        refine AW.iconst (dcN_15 dcg_541 :) ?_
        obtain ⟨r8, e9, h⟩ := hC h
        refine AW.callVv (As := [iv t1, iv 0]) (st := []) (M_lay_ok e9) cq_X12_342 cr_117_X12_lay (Nat.le_trans (by decide) hdd) rfl (dcN_16 dcg_541 :) rfl (Nat.le_of_ble_eq_true rfl) ?_
        refine AW.goto (tgt := 9) (dcN_0 dcg_542 :) (by decide) ?_
        refine AW.sub (lv1 := [(0, rv z 117)]) [1] rfl ?_
        exact (ih _ _ _ h).1 rfl
      · replace h := hT h c7
        refine AW.iconst (dcN_11 dcg_541 :) ?_
        exact AW.zret1 rfl (Or.inl rfl) (dcN_12 dcg_541 :) h rfl
    refine AW.icmp_ne (tgt := 44) (dcN_1 dcg_541 :) (by decide) (fun c10 => ?_) (fun c10 => ?_)
    · refine AW.bipush (dcN_4 dcg_541 :) (by decide) (by decide) ?_
      exact AW.val (e2.trans (if_neg c10)) J36
    · refine AW.bipush (dcN_2 dcg_541 :) (by decide) (by decide) ?_
      refine AW.goto (tgt := 46) (dcN_3 dcg_541 :) (by decide) ?_
      exact AW.val (e2.trans (if_pos c10)) J36
theorem M_sumUp_ok {z : AZ} {g : AG} {r : Int × AG} (h : M_sumUp g = some r) : AMf z yX12_sumUp cX12_sumUp 2 (some .boolean) 10 [rv z 117] g r := by
  intro d hdd
  refine AM.of (by decide +kernel) (Nat.le_of_ble_eq_true rfl) ?_
  show AW z (RX12, cX12_sumUp, 2, (some .boolean)) d (QD (some .boolean) r) 0 [(0, rv z 117)] [] g
  unfold M_sumUp at h
  refine AW.aloadr_n 0 (dcN_0 dcg_540 :) rfl ?_
  obtain ⟨r1, e2, h⟩ := hC h
  refine AW.callVi (As := []) (st := []) (M_product_ok e2) cq_X12_338 cr_117_X12_product (Nat.le_trans (by decide) hdd) rfl (dcN_1 dcg_540 :) rfl (Nat.le_of_ble_eq_true rfl) ?_
  refine AW.if_ne (tgt := 9) (dcN_2 dcg_540 :) (by decide) (fun c3 => ?_) (fun c3 => ?_)
  · replace h := hF h c3
    exact (M_sumUp_b_ok hdd _ _ _ h).1 rfl
  · replace h := hT h c3
    refine AW.iconst (dcN_3 dcg_540 :) ?_
    exact AW.zret1 rfl (Or.inl rfl) (dcN_4 dcg_540 :) h rfl
theorem M_hours_117_136_137_ok {z : AZ} {x2 : Int} {x4 : Int} {g : AG} {r : Int × AG} (h : M_hours_117_136_137 x2 x4 g = some r) : AMf z yX12_hours cX12_hours 5 (some .boolean) 9 [rv z 117, rv z 136, iv x2, rv z 137, iv x4] g r := by
  intro d hdd
  refine AM.of (by decide +kernel) (Nat.le_of_ble_eq_true rfl) ?_
  show AW z (RX12, cX12_hours, 5, (some .boolean)) d (QD (some .boolean) r) 0 [(0, rv z 117), (1, rv z 136), (2, iv x2), (3, rv z 137), (4, iv x4)] [] g
  unfold M_hours_117_136_137 at h
  refine AW.aloadr_n 1 (dcN_0 dcg_559 :) rfl ?_
  refine AW.iload_n 2 (dcN_1 dcg_559 :) rfl ?_
  refine AW.aloadr_n 0 (dcN_2 dcg_559 :) rfl ?_
  refine AW.getI af_X12_318_117 sr_117_41 (dcN_3 dcg_559 :) ?_
  obtain ⟨k1, h⟩ := hK h
  obtain ⟨g2, e3, h⟩ := hBe h
  refine AW.iast kc_136 sk_136 k1 (dcN_4 dcg_559 :) e3 ?_
  refine AW.aloadr_n 0 (dcN_5 dcg_559 :) rfl ?_
  refine AW.iconst (dcN_6 dcg_559 :) ?_
  refine AW.bipush (dcN_7 dcg_559 :) (by decide) (by decide) ?_
  obtain ⟨r4, e5, h⟩ := hC h
  refine AW.callVi (As := [iv 0, iv 24]) (st := []) (M_number_ok e5) cq_X12_349 cr_117_X12_number (Nat.le_trans (by decide) hdd) rfl (dcN_8 dcg_559 :) rfl (Nat.le_of_ble_eq_true rfl) ?_
  refine AW.if_ne (tgt := 19) (dcN_9 dcg_559 :) (by decide) (fun c6 => ?_) (fun c6 => ?_)
  · replace h := hF h c6
    refine AW.aloadr_n 3 (dcN_0 dcg_560 :) rfl ?_
    refine AW.iload 4 (dcN_1 dcg_560 :) rfl ?_
    refine AW.aloadr_n 0 (dcN_2 dcg_560 :) rfl ?_
    refine AW.getI af_X12_318_117 sr_117_41 (dcN_3 dcg_560 :) ?_
    obtain ⟨k7, h⟩ := hK h
    obtain ⟨g8, e9, h⟩ := hBe h
    refine AW.iast kc_137 sk_137 k7 (dcN_4 dcg_560 :) e9 ?_
    refine AW.aloadr_n 0 (dcN_5 dcg_560 :) rfl ?_
    refine AW.iconst (dcN_6 dcg_560 :) ?_
    refine AW.bipush (dcN_7 dcg_560 :) (by decide) (by decide) ?_
    obtain ⟨r10, e11, h⟩ := hC h
    refine AW.callVi (As := [iv 0, iv 24]) (st := []) (M_number_ok e11) cq_X12_349 cr_117_X12_number (Nat.le_trans (by decide) hdd) rfl (dcN_8 dcg_560 :) rfl (Nat.le_of_ble_eq_true rfl) ?_
    obtain ⟨k12, h⟩ := hK h
    exact AW.zret1 rfl k12 (dcN_9 dcg_560 :) h rfl
  · replace h := hT h c6
    refine AW.iconst (dcN_10 dcg_559 :) ?_
    exact AW.zret1 rfl (Or.inl rfl) (dcN_11 dcg_559 :) h rfl
end
section
theorem M_hours_117_143_143_ok {z : AZ} {x2 : Int} {x4 : Int} {g : AG} {r : Int × AG} (h : M_hours_117_143_143 x2 x4 g = some r) : AMf z yX12_hours cX12_hours 5 (some .boolean) 9 [rv z 117, rv z 143, iv x2, rv z 143, iv x4] g r := by
  intro d hdd
  refine AM.of (by decide +kernel) (Nat.le_of_ble_eq_true rfl) ?_
  show AW z (RX12, cX12_hours, 5, (some .boolean)) d (QD (some .boolean) r) 0 [(0, rv z 117), (1, rv z 143), (2, iv x2), (3, rv z 143), (4, iv x4)] [] g
  unfold M_hours_117_143_143 at h
  refine AW.aloadr_n 1 (dcN_0 dcg_559 :) rfl ?_
  refine AW.iload_n 2 (dcN_1 dcg_559 :) rfl ?_
  refine AW.aloadr_n 0 (dcN_2 dcg_559 :) rfl ?_
  refine AW.getI af_X12_318_117 sr_117_41 (dcN_3 dcg_559 :) ?_
  obtain ⟨k1, h⟩ := hK h
  obtain ⟨g2, e3, h⟩ := hBe h
  refine AW.iast kc_143 sk_143 k1 (dcN_4 dcg_559 :) e3 ?_
  refine AW.aloadr_n 0 (dcN_5 dcg_559 :) rfl ?_
  refine AW.iconst (dcN_6 dcg_559 :) ?_
  refine AW.bipush (dcN_7 dcg_559 :) (by decide) (by decide) ?_
  obtain ⟨r4, e5, h⟩ := hC h
  refine AW.callVi (As := [iv 0, iv 24]) (st := []) (M_number_ok e5) cq_X12_349 cr_117_X12_number (Nat.le_trans (by decide) hdd) rfl (dcN_8 dcg_559 :) rfl (Nat.le_of_ble_eq_true rfl) ?_
  refine AW.if_ne (tgt := 19) (dcN_9 dcg_559 :) (by decide) (fun c6 => ?_) (fun c6 => ?_)
  · replace h := hF h c6
    refine AW.aloadr_n 3 (dcN_0 dcg_560 :) rfl ?_
    refine AW.iload 4 (dcN_1 dcg_560 :) rfl ?_
    refine AW.aloadr_n 0 (dcN_2 dcg_560 :) rfl ?_
    refine AW.getI af_X12_318_117 sr_117_41 (dcN_3 dcg_560 :) ?_
    obtain ⟨k7, h⟩ := hK h
    obtain ⟨g8, e9, h⟩ := hBe h
    refine AW.iast kc_143 sk_143 k7 (dcN_4 dcg_560 :) e9 ?_
    refine AW.aloadr_n 0 (dcN_5 dcg_560 :) rfl ?_
    refine AW.iconst (dcN_6 dcg_560 :) ?_
    refine AW.bipush (dcN_7 dcg_560 :) (by decide) (by decide) ?_
    obtain ⟨r10, e11, h⟩ := hC h
    refine AW.callVi (As := [iv 0, iv 24]) (st := []) (M_number_ok e11) cq_X12_349 cr_117_X12_number (Nat.le_trans (by decide) hdd) rfl (dcN_8 dcg_560 :) rfl (Nat.le_of_ble_eq_true rfl) ?_
    obtain ⟨k12, h⟩ := hK h
    exact AW.zret1 rfl k12 (dcN_9 dcg_560 :) h rfl
  · replace h := hT h c6
    refine AW.iconst (dcN_10 dcg_559 :) ?_
    exact AW.zret1 rfl (Or.inl rfl) (dcN_11 dcg_559 :) h rfl
set_option synthInstance.maxHeartbeats 2000000 in
theorem M_aTunnel_b_ok {z : AZ} {d : Nat} (hdd : 10 ≤ d) {x1 : Int} {g : AG} : ∀ (r : Int × AG), M_aTunnel_b x1 g = some r → AW z (RX12, cX12_aTunnel, 3, (some .boolean)) d (QD (some .boolean) r) 41 [(0, rv z 117), (1, iv x1)] [] g := by
  intro r h
  unfold M_aTunnel_b at h
  refine AW.iconst (dcN_5 dcg_562 :) ?_
  refine AW.iload_n 1 (dcN_6 dcg_562 :) rfl ?_
  refine AW.imul (dcN_7 dcg_562 :) ?_
  refine AW.aloadr_n 0 (dcN_8 dcg_562 :) rfl ?_
  refine AW.getI af_X12_306_117 sr_117_39 (dcN_9 dcg_562 :) ?_
  refine AW.bipush (dcN_10 dcg_562 :) (by decide) (by decide) ?_
  obtain ⟨t1, e2, h⟩ := hBe h
  refine AW.join (tgt := 58) (lv1 := [(0, rv z 117), (1, iv x1)]) (st1 := [iv t1, iv (2 * x1)]) (g1 := g) ?_ (fun J50 => ?_)
  · refine AW.iadd (dcN_15 dcg_562 :) ?_
    refine AW.istore_n (lv1 := [(2, iv ((2 * x1) + t1)), (0, rv z 117), (1, iv x1)]) (dcN_16 dcg_562 :) (by decide) rfl ?_
    refine AW.aloadr_n 1 (dcN_17 dcg_562 :) rfl ?_
    refine AW.getR af_X12_100_117 sr_117_30 (dcN_18 dcg_562 :) ?_
    refine AW.iload_n 0 (dcN_0 dcg_563 :) rfl ?_
    obtain ⟨k3, h⟩ := hK h
    refine AW.zald kc_145 sk_145 k3 (dcN_1 dcg_563 :) ?_
    refine AW.if_eq (tgt := 75) (dcN_2 dcg_563 :) (by decide) (fun c4 => ?_) (fun c4 => ?_)
    · replace h := hT h c4
      refine AW.aloadr_n 1 (dcN_7 dcg_563 :) rfl ?_
      refine AW.getR af_X12_100_117 sr_117_30 (dcN_8 dcg_563 :) ?_
      refine AW.iload_n 0 (dcN_9 dcg_563 :) rfl ?_
      refine AW.iconst (dcN_10 dcg_563 :) ?_
      obtain ⟨g5, e6, h⟩ := hBe h
      refine AW.zast kc_145 sk_145 k3 (Or.inr rfl) (dcN_11 dcg_563 :) e6 ?_
      refine AW.aloadr_n 1 (dcN_12 dcg_563 :) rfl ?_
      obtain ⟨r7, e8, h⟩ := hC h
      refine AW.callVv (As := []) (st := []) (M_next0_ok e8) cq_X12_330 cr_117_X12_next0 (Nat.le_trans (by decide) hdd) rfl (dcN_13 dcg_563 :) rfl (Nat.le_of_ble_eq_true rfl) ?_
      refine AW.aloadr_n 1 (dcN_14 dcg_563 :) rfl ?_
      refine AW.aloadr_n 1 (dcN_15 dcg_563 :) rfl ?_
      refine AW.getR af_X12_93_117 sr_117_28 (dcN_16 dcg_563 :) ?_
      refine AW.iconst (dcN_17 dcg_563 :) ?_
      refine AW.iload_n 0 (dcN_18 dcg_563 :) rfl ?_
      refine AW.imul (dcN_19 dcg_563 :) ?_
      refine AW.aloadr_n 1 (dcN_20 dcg_563 :) rfl ?_
      refine AW.getR af_X12_93_117 sr_117_28 (dcN_21 dcg_563 :) ?_
      refine AW.iconst (dcN_0 dcg_564 :) ?_
      refine AW.iload_n 0 (dcN_1 dcg_564 :) rfl ?_
      refine AW.imul (dcN_2 dcg_564 :) ?_
      refine AW.iconst (dcN_3 dcg_564 :) ?_
      refine AW.iadd (dcN_4 dcg_564 :) ?_
      obtain ⟨r9, e10, h⟩ := hC h
      refine AW.callVi (As := [rv z 143, iv (2 * ((2 * x1) + t1)), rv z 143, iv ((2 * ((2 * x1) + t1)) + 1)]) (st := []) (M_hours_117_143_143_ok e10) cq_X12_371 cr_117_X12_hours (Nat.le_trans (by decide) hdd) rfl (dcN_5 dcg_564 :) rfl (Nat.le_of_ble_eq_true rfl) ?_
      obtain ⟨k11, h⟩ := hK h
      exact AW.zret1 rfl k11 (dcN_6 dcg_564 :) h rfl
    · replace h := hF h c4
      refine AW.aloadr_n 1 (dcN_3 dcg_563 :) rfl ?_
      refine AW.iconst (dcN_4 dcg_563 :) ?_
      obtain ⟨r12, e13, h⟩ := hC h
      refine AW.callVi (As := [iv 3]) (st := []) (M_bad_ok e13) cq_X12_327 cr_117_X12_bad (Nat.le_trans (by decide) hdd) rfl (dcN_5 dcg_563 :) rfl (Nat.le_of_ble_eq_true rfl) ?_
      obtain ⟨k14, h⟩ := hK h
      exact AW.zret1 rfl k14 (dcN_6 dcg_563 :) h rfl
  refine AW.icmp_ne (tgt := 57) (dcN_11 dcg_562 :) (by decide) (fun c15 => ?_) (fun c15 => ?_)
  · refine AW.iconst (dcN_14 dcg_562 :) ?_
    exact AW.val (e2.trans (if_neg c15)) J50
  · refine AW.iconst (dcN_12 dcg_562 :) ?_
    refine AW.goto (tgt := 58) (dcN_13 dcg_562 :) (by decide) ?_
    exact AW.val (e2.trans (if_pos c15)) J50
theorem M_aTunnel_ok {z : AZ} {g : AG} {r : Int × AG} (h : M_aTunnel g = some r) : AMf z yX12_aTunnel cX12_aTunnel 3 (some .boolean) 10 [rv z 117] g r := by
  intro d hdd
  refine AM.of (by decide +kernel) (Nat.le_of_ble_eq_true rfl) ?_
  show AW z (RX12, cX12_aTunnel, 3, (some .boolean)) d (QD (some .boolean) r) 0 [(0, rv z 117)] [] g
  unfold M_aTunnel at h
  refine AW.aloadr_n 0 (dcN_0 dcg_561 :) rfl ?_
  refine AW.getI af_X12_318_117 sr_117_41 (dcN_1 dcg_561 :) ?_
  refine AW.istore_n (lv1 := [(1, iv (g 117 41)), (0, rv z 117)]) (dcN_2 dcg_561 :) (by decide) rfl ?_
  refine AW.aloadr_n 1 (dcN_3 dcg_561 :) rfl ?_
  refine AW.iconst (dcN_4 dcg_561 :) ?_
  refine AW.bipush (dcN_5 dcg_561 :) (by decide) (by decide) ?_
  obtain ⟨r1, e2, h⟩ := hC h
  refine AW.callVi (As := [iv 0, iv 14]) (st := []) (M_number_ok e2) cq_X12_349 cr_117_X12_number (Nat.le_trans (by decide) hdd) rfl (dcN_6 dcg_561 :) rfl (Nat.le_of_ble_eq_true rfl) ?_
  refine AW.if_ne (tgt := 17) (dcN_7 dcg_561 :) (by decide) (fun c3 => ?_) (fun c3 => ?_)
  · replace h := hF h c3
    refine AW.aloadr_n 1 (dcN_10 dcg_561 :) rfl ?_
    refine AW.getI af_X12_306_117 sr_117_39 (dcN_11 dcg_561 :) ?_
    refine AW.bipush (dcN_12 dcg_561 :) (by decide) (by decide) ?_
    refine AW.icmp_eq (tgt := 41) (dcN_13 dcg_561 :) (by decide) (fun c4 => ?_) (fun c4 => ?_)
    · replace h := hT h c4
      refine AW.sub (lv1 := [(0, rv z 117), (1, iv (g 117 41))]) [1, 0] rfl ?_
      exact M_aTunnel_b_ok hdd _ h
    · replace h := hF h c4
      refine AW.aloadr_n 1 (dcN_14 dcg_561 :) rfl ?_
      refine AW.getI af_X12_306_117 sr_117_39 (dcN_15 dcg_561 :) ?_
      refine AW.bipush (dcN_16 dcg_561 :) (by decide) (by decide) ?_
      refine AW.icmp_eq (tgt := 41) (dcN_0 dcg_562 :) (by decide) (fun c5 => ?_) (fun c5 => ?_)
      · replace h := hT h c5
        refine AW.sub (lv1 := [(0, rv z 117), (1, iv (g 117 41))]) [1, 0] rfl ?_
        exact M_aTunnel_b_ok hdd _ h
      · replace h := hF h c5
        refine AW.aloadr_n 1 (dcN_1 dcg_562 :) rfl ?_
        refine AW.iconst (dcN_2 dcg_562 :) ?_
        obtain ⟨r6, e7, h⟩ := hC h
        refine AW.callVi (As := [iv 1]) (st := []) (M_bad_ok e7) cq_X12_327 cr_117_X12_bad (Nat.le_trans (by decide) hdd) rfl (dcN_3 dcg_562 :) rfl (Nat.le_of_ble_eq_true rfl) ?_
        obtain ⟨k8, h⟩ := hK h
        exact AW.zret1 rfl k8 (dcN_4 dcg_562 :) h rfl
  · replace h := hT h c3
    refine AW.iconst (dcN_8 dcg_561 :) ?_
    exact AW.zret1 rfl (Or.inl rfl) (dcN_9 dcg_561 :) h rfl
theorem M_need_ok {z : AZ} {x1 : Int} {g : AG} {r : Int × AG} (h : M_need x1 g = some r) : AMf z yX12_need cX12_need 2 (some .boolean) 8 [rv z 117, iv x1] g r := by
  intro d hdd
  refine AM.of (by decide +kernel) (Nat.le_of_ble_eq_true rfl) ?_
  show AW z (RX12, cX12_need, 2, (some .boolean)) d (QD (some .boolean) r) 0 [(0, rv z 117), (1, iv x1)] [] g
  unfold M_need at h
  refine AW.aloadr_n 0 (dcN_0 dcg_533 :) rfl ?_
  refine AW.getI af_X12_306_117 sr_117_39 (dcN_1 dcg_533 :) ?_
  refine AW.iload_n 1 (dcN_2 dcg_533 :) rfl ?_
  refine AW.icmp_eq (tgt := 14) (dcN_3 dcg_533 :) (by decide) (fun c1 => ?_) (fun c1 => ?_)
  · replace h := hT h c1
    refine AW.aloadr_n 0 (dcN_8 dcg_533 :) rfl ?_
    obtain ⟨r2, e3, h⟩ := hC h
    refine AW.callVv (As := []) (st := []) (M_next0_ok e3) cq_X12_330 cr_117_X12_next0 (Nat.le_trans (by decide) hdd) rfl (dcN_9 dcg_533 :) rfl (Nat.le_of_ble_eq_true rfl) ?_
    refine AW.iconst (dcN_10 dcg_533 :) ?_
    exact AW.zret1 rfl (Or.inr rfl) (dcN_11 dcg_533 :) h rfl
  · replace h := hF h c1
    refine AW.aloadr_n 0 (dcN_4 dcg_533 :) rfl ?_
    refine AW.iconst (dcN_5 dcg_533 :) ?_
    obtain ⟨r4, e5, h⟩ := hC h
    refine AW.callVi (As := [iv 1]) (st := []) (M_bad_ok e5) cq_X12_327 cr_117_X12_bad (Nat.le_trans (by decide) hdd) rfl (dcN_6 dcg_533 :) rfl (Nat.le_of_ble_eq_true rfl) ?_
    obtain ⟨k6, h⟩ := hK h
    exact AW.zret1 rfl k6 (dcN_7 dcg_533 :) h rfl
set_option synthInstance.maxHeartbeats 2000000 in
theorem M_every_b_ok {z : AZ} {rec : AG → Option (Int × AG)} {Dr : Nat} (hC9 : 8 ≤ Dr) (hrec : ∀ (g : AG) (r : Int × AG), rec g = some r → AMf z yX12_one cX12_one 2 (some .boolean) Dr [rv z 117] g r) {d : Nat} (hdd : Dr + 1 ≤ d) : ∀ (g : AG) (r : Int × AG), M_every_b rec g = some r → AW z (RX12, cX12_every, 1, (some .boolean)) d (QD (some .boolean) r) 9 [(0, rv z 117)] [] g := by
  refine M_every_b.partial_correctness rec (fun g r => AW z (RX12, cX12_every, 1, (some .boolean)) d (QD (some .boolean) r) 9 [(0, rv z 117)] [] g) ?_
  intro fb9 ih g r h
  refine AW.aloadr_n 0 (dcN_5 dcg_551 :) rfl ?_
  refine AW.getI af_X12_306_117 sr_117_39 (dcN_6 dcg_551 :) ?_
  refine AW.iconst (dcN_7 dcg_551 :) ?_
  refine AW.icmp_ne (tgt := 40) (dcN_8 dcg_551 :) (by decide) (fun c1 => ?_) (fun c1 => ?_)
  · replace h := hF h c1
    refine AW.iconst (dcN_9 dcg_552 :) ?_
    exact AW.zret1 rfl (Or.inr rfl) (dcN_10 dcg_552 :) h rfl
  · replace h := hT h c1
    refine AW.aloadr_n 0 (dcN_9 dcg_551 :) rfl ?_
    obtain ⟨r2, e3, h⟩ := hC h
    refine AW.callVv (As := []) (st := []) (M_next0_ok e3) cq_X12_330 cr_117_X12_next0 (by omega) rfl (dcN_10 dcg_551 :) rfl (Nat.le_of_ble_eq_true rfl) ?_
    refine AW.aloadr_n 0 (dcN_11 dcg_551 :) rfl ?_
    obtain ⟨r4, e5, h⟩ := hC h
    refine AW.callVi (As := []) (st := []) (hrec _ _ e5) cq_X12_356 cr_117_X12_one (by omega) rfl (dcN_0 dcg_552 :) rfl (Nat.le_of_ble_eq_true rfl) ?_
    refine AW.if_ne (tgt := 30) (dcN_1 dcg_552 :) (by decide) (fun c6 => ?_) (fun c6 => ?_)
    · replace h := hF h c6
      refine AW.aloadr_n 0 (dcN_4 dcg_552 :) rfl ?_
      refine AW.bipush (dcN_5 dcg_552 :) (by decide) (by decide) ?_
      refine AW.iconst (dcN_6 dcg_552 :) ?_
      obtain ⟨r7, e8, h⟩ := hC h
      refine AW.callVv (As := [iv 18, iv 0]) (st := []) (M_lay_ok e8) cq_X12_342 cr_117_X12_lay (by omega) rfl (dcN_7 dcg_552 :) rfl (Nat.le_of_ble_eq_true rfl) ?_
      refine AW.goto (tgt := 9) (dcN_8 dcg_552 :) (by decide) ?_
      exact ih _ _ h
    · replace h := hT h c6
      refine AW.iconst (dcN_2 dcg_552 :) ?_
      exact AW.zret1 rfl (Or.inl rfl) (dcN_3 dcg_552 :) h rfl
theorem M_every_ok {z : AZ} {rec : AG → Option (Int × AG)} {Dr : Nat} (hC9 : 8 ≤ Dr) (hrec : ∀ (g : AG) (r : Int × AG), rec g = some r → AMf z yX12_one cX12_one 2 (some .boolean) Dr [rv z 117] g r) {g : AG} {r : Int × AG} (h : M_every rec g = some r) : AMf z yX12_every cX12_every 1 (some .boolean) (Dr + 1) [rv z 117] g r := by
  intro d hdd
  refine AM.of (by decide +kernel) (Nat.le_of_ble_eq_true rfl) ?_
  show AW z (RX12, cX12_every, 1, (some .boolean)) d (QD (some .boolean) r) 0 [(0, rv z 117)] [] g
  unfold M_every at h
  refine AW.aloadr_n 0 (dcN_0 dcg_551 :) rfl ?_
  obtain ⟨r1, e2, h⟩ := hC h
  refine AW.callVi (As := []) (st := []) (hrec _ _ e2) cq_X12_356 cr_117_X12_one (by omega) rfl (dcN_1 dcg_551 :) rfl (Nat.le_of_ble_eq_true rfl) ?_
  refine AW.if_ne (tgt := 9) (dcN_2 dcg_551 :) (by decide) (fun c3 => ?_) (fun c3 => ?_)
  · replace h := hF h c3
    exact M_every_b_ok hC9 hrec hdd _ _ h
  · replace h := hT h c3
    refine AW.iconst (dcN_3 dcg_551 :) ?_
    exact AW.zret1 rfl (Or.inl rfl) (dcN_4 dcg_551 :) h rfl
set_option synthInstance.maxHeartbeats 2000000 in
theorem M_any_b_ok {z : AZ} {rec : AG → Option (Int × AG)} {Dr : Nat} (hC9 : 8 ≤ Dr) (hrec : ∀ (g : AG) (r : Int × AG), rec g = some r → AMf z yX12_one cX12_one 2 (some .boolean) Dr [rv z 117] g r) {d : Nat} (hdd : Dr + 2 ≤ d) : ∀ (g : AG) (r : Int × AG), M_any_b rec g = some r → AW z (RX12, cX12_any, 1, (some .boolean)) d (QD (some .boolean) r) 9 [(0, rv z 117)] [] g := by
  refine M_any_b.partial_correctness rec (fun g r => AW z (RX12, cX12_any, 1, (some .boolean)) d (QD (some .boolean) r) 9 [(0, rv z 117)] [] g) ?_
  intro fb9 ih g r h
  refine AW.aloadr_n 0 (dcN_5 dcg_549 :) rfl ?_
  refine AW.getI af_X12_306_117 sr_117_39 (dcN_6 dcg_549 :) ?_
  refine AW.iconst (dcN_7 dcg_549 :) ?_
  refine AW.icmp_ne (tgt := 40) (dcN_8 dcg_549 :) (by decide) (fun c1 => ?_) (fun c1 => ?_)
  · replace h := hF h c1
    refine AW.iconst (dcN_9 dcg_550 :) ?_
    exact AW.zret1 rfl (Or.inr rfl) (dcN_10 dcg_550 :) h rfl
  · replace h := hT h c1
    refine AW.aloadr_n 0 (dcN_9 dcg_549 :) rfl ?_
    obtain ⟨r2, e3, h⟩ := hC h
    refine AW.callVv (As := []) (st := []) (M_next0_ok e3) cq_X12_330 cr_117_X12_next0 (by omega) rfl (dcN_10 dcg_549 :) rfl (Nat.le_of_ble_eq_true rfl) ?_
    refine AW.aloadr_n 0 (dcN_11 dcg_549 :) rfl ?_
    obtain ⟨r4, e5, h⟩ := hC h
    refine AW.callVi (As := []) (st := []) (M_every_ok (Nat.le_trans (by decide) hC9) hrec e5) cq_X12_353 cr_117_X12_every (by omega) rfl (dcN_0 dcg_550 :) rfl (Nat.le_of_ble_eq_true rfl) ?_
    refine AW.if_ne (tgt := 30) (dcN_1 dcg_550 :) (by decide) (fun c6 => ?_) (fun c6 => ?_)
    · replace h := hF h c6
      refine AW.aloadr_n 0 (dcN_4 dcg_550 :) rfl ?_
      refine AW.bipush (dcN_5 dcg_550 :) (by decide) (by decide) ?_
      refine AW.iconst (dcN_6 dcg_550 :) ?_
      obtain ⟨r7, e8, h⟩ := hC h
      refine AW.callVv (As := [iv 19, iv 0]) (st := []) (M_lay_ok e8) cq_X12_342 cr_117_X12_lay (by omega) rfl (dcN_7 dcg_550 :) rfl (Nat.le_of_ble_eq_true rfl) ?_
      refine AW.goto (tgt := 9) (dcN_8 dcg_550 :) (by decide) ?_
      exact ih _ _ h
    · replace h := hT h c6
      refine AW.iconst (dcN_2 dcg_550 :) ?_
      exact AW.zret1 rfl (Or.inl rfl) (dcN_3 dcg_550 :) h rfl
theorem M_any_ok {z : AZ} {rec : AG → Option (Int × AG)} {Dr : Nat} (hC9 : 8 ≤ Dr) (hrec : ∀ (g : AG) (r : Int × AG), rec g = some r → AMf z yX12_one cX12_one 2 (some .boolean) Dr [rv z 117] g r) {g : AG} {r : Int × AG} (h : M_any rec g = some r) : AMf z yX12_any cX12_any 1 (some .boolean) (Dr + 2) [rv z 117] g r := by
  intro d hdd
  refine AM.of (by decide +kernel) (Nat.le_of_ble_eq_true rfl) ?_
  show AW z (RX12, cX12_any, 1, (some .boolean)) d (QD (some .boolean) r) 0 [(0, rv z 117)] [] g
  unfold M_any at h
  refine AW.aloadr_n 0 (dcN_0 dcg_549 :) rfl ?_
  obtain ⟨r1, e2, h⟩ := hC h
  refine AW.callVi (As := []) (st := []) (M_every_ok (Nat.le_trans (by decide) hC9) hrec e2) cq_X12_353 cr_117_X12_every (by omega) rfl (dcN_1 dcg_549 :) rfl (Nat.le_of_ble_eq_true rfl) ?_
  refine AW.if_ne (tgt := 9) (dcN_2 dcg_549 :) (by decide) (fun c3 => ?_) (fun c3 => ?_)
  · replace h := hF h c3
    exact M_any_b_ok hC9 hrec hdd _ _ h
  · replace h := hT h c3
    refine AW.iconst (dcN_3 dcg_549 :) ?_
    exact AW.zret1 rfl (Or.inl rfl) (dcN_4 dcg_549 :) h rfl
theorem M_opens_ok {z : AZ} {g : AG} {r : Int × AG} (h : M_opens g = some r) : AMf z yX12_opens cX12_opens 1 (some .boolean) 8 [rv z 117] g r := by
  intro d hdd
  refine AM.of (by decide +kernel) (Nat.le_of_ble_eq_true rfl) ?_
  show AW z (RX12, cX12_opens, 1, (some .boolean)) d (QD (some .boolean) r) 0 [(0, rv z 117)] [] g
  unfold M_opens at h
  refine AW.aloadr_n 0 (dcN_0 dcg_538 :) rfl ?_
  refine AW.getI af_X12_336_117 sr_117_45 (dcN_1 dcg_538 :) ?_
  refine AW.bipush (dcN_2 dcg_538 :) (by decide) (by decide) ?_
  refine AW.icmp_ne (tgt := 15) (dcN_3 dcg_538 :) (by decide) (fun c1 => ?_) (fun c1 => ?_)
  · replace h := hF h c1
    refine AW.aloadr_n 0 (dcN_8 dcg_538 :) rfl ?_
    refine AW.duprr (dcN_9 dcg_538 :) ?_
    refine AW.getI af_X12_336_117 sr_117_45 (dcN_10 dcg_538 :) ?_
    refine AW.iconst (dcN_11 dcg_538 :) ?_
    refine AW.iadd (dcN_0 dcg_539 :) ?_
    obtain ⟨g2, e3, h⟩ := hBe h
    refine AW.putI ap_X12_336_117 sr_117_45 (dcN_1 dcg_539 :) e3 ?_
    refine AW.aloadr_n 0 (dcN_2 dcg_539 :) rfl ?_
    obtain ⟨r4, e5, h⟩ := hC h
    refine AW.callVv (As := []) (st := []) (M_next0_ok e5) cq_X12_330 cr_117_X12_next0 (Nat.le_trans (by decide) hdd) rfl (dcN_3 dcg_539 :) rfl (Nat.le_of_ble_eq_true rfl) ?_
    refine AW.iconst (dcN_4 dcg_539 :) ?_
    exact AW.zret1 rfl (Or.inr rfl) (dcN_5 dcg_539 :) h rfl
  · replace h := hT h c1
    refine AW.aloadr_n 0 (dcN_4 dcg_538 :) rfl ?_
    refine AW.iconst (dcN_5 dcg_538 :) ?_
    obtain ⟨r6, e7, h⟩ := hC h
    refine AW.callVi (As := [iv 3]) (st := []) (M_bad_ok e7) cq_X12_327 cr_117_X12_bad (Nat.le_trans (by decide) hdd) rfl (dcN_6 dcg_538 :) rfl (Nat.le_of_ble_eq_true rfl) ?_
    obtain ⟨k8, h⟩ := hK h
    exact AW.zret1 rfl k8 (dcN_7 dcg_538 :) h rfl
theorem M_one_s_ok {z : AZ} {rec : AG → Option (Int × AG)} {Dr : Nat} (hC9 : 11 ≤ Dr) (hrec : ∀ (g : AG) (r : Int × AG), rec g = some r → AMf z yX12_one cX12_one 2 (some .boolean) Dr [rv z 117] g r) {g : AG} {r : Int × AG} (h : M_one_s rec g = some r) : AMf z yX12_one cX12_one 2 (some .boolean) (Dr + 3) [rv z 117] g r := by
  intro d hdd
  refine AM.of (by decide +kernel) (Nat.le_of_ble_eq_true rfl) ?_
  show AW z (RX12, cX12_one, 2, (some .boolean)) d (QD (some .boolean) r) 0 [(0, rv z 117)] [] g
  unfold M_one_s at h
  refine AW.aloadr_n 0 (dcN_0 dcg_553 :) rfl ?_
  refine AW.getI af_X12_306_117 sr_117_39 (dcN_1 dcg_553 :) ?_
  refine AW.bipush (dcN_2 dcg_553 :) (by decide) (by decide) ?_
  refine AW.icmp_ne (tgt := 44) (dcN_3 dcg_553 :) (by decide) (fun c1 => ?_) (fun c1 => ?_)
  · replace h := hF h c1
    refine AW.aloadr_n 0 (dcN_7 dcg_554 :) rfl ?_
    refine AW.getI af_X12_306_117 sr_117_39 (dcN_8 dcg_554 :) ?_
    refine AW.sipush (dcN_9 dcg_554 :) (by decide) (by decide) ?_
    refine AW.icmp_ne (tgt := 92) (dcN_10 dcg_554 :) (by decide) (fun c2 => ?_) (fun c2 => ?_)
    · replace h := hF h c2
      refine AW.aloadr_n 0 (dcN_15 dcg_555 :) rfl ?_
      obtain ⟨r3, e4, h⟩ := hC h
      refine AW.callVi (As := []) (st := []) (M_sumUp_ok e4) cq_X12_368 cr_117_X12_sumUp (by omega) rfl (dcN_16 dcg_555 :) rfl (Nat.le_of_ble_eq_true rfl) ?_
      refine AW.if_ne (tgt := 101) (dcN_0 dcg_556 :) (by decide) (fun c5 => ?_) (fun c5 => ?_)
      · replace h := hF h c5
        refine AW.aloadr_n 0 (dcN_3 dcg_556 :) rfl ?_
        refine AW.getI af_X12_306_117 sr_117_39 (dcN_4 dcg_556 :) ?_
        refine AW.sipush (dcN_5 dcg_556 :) (by decide) (by decide) ?_
        obtain ⟨t6, e7, h⟩ := hBe h
        refine AW.join (tgt := 147) (lv1 := [(0, rv z 117)]) (st1 := [iv t6]) (g1 := r3.2) ?_ (fun J108 => ?_)
        · refine AW.istore_n (lv1 := [(1, iv t6), (0, rv z 117)]) (dcN_8 dcg_557 :) (by decide) rfl ?_
          refine AW.iload_n 0 (dcN_9 dcg_557 :) rfl ?_
          refine AW.iconst (dcN_10 dcg_557 :) ?_
          refine AW.icmp_ne (tgt := 159) (dcN_11 dcg_557 :) (by decide) (fun c8 => ?_) (fun c8 => ?_)
          · replace h := hF h c8
            refine AW.aloadr_n 1 (dcN_16 dcg_557 :) rfl ?_
            obtain ⟨r9, e10, h⟩ := hC h
            refine AW.callVv (As := []) (st := []) (M_next0_ok e10) cq_X12_330 cr_117_X12_next0 (by omega) rfl (dcN_0 dcg_558 :) rfl (Nat.le_of_ble_eq_true rfl) ?_
            refine AW.aloadr_n 1 (dcN_1 dcg_558 :) rfl ?_
            obtain ⟨r11, e12, h⟩ := hC h
            refine AW.callVi (As := []) (st := []) (M_sumUp_ok e12) cq_X12_368 cr_117_X12_sumUp (by omega) rfl (dcN_2 dcg_558 :) rfl (Nat.le_of_ble_eq_true rfl) ?_
            refine AW.if_ne (tgt := 172) (dcN_3 dcg_558 :) (by decide) (fun c13 => ?_) (fun c13 => ?_)
            · replace h := hF h c13
              refine AW.aloadr_n 1 (dcN_6 dcg_558 :) rfl ?_
              refine AW.iload_n 0 (dcN_7 dcg_558 :) rfl ?_
              refine AW.iconst (dcN_8 dcg_558 :) ?_
              obtain ⟨r14, e15, h⟩ := hC h
              refine AW.callVv (As := [iv t6, iv 0]) (st := []) (M_lay_ok e15) cq_X12_342 cr_117_X12_lay (by omega) rfl (dcN_9 dcg_558 :) rfl (Nat.le_of_ble_eq_true rfl) ?_
              refine AW.iconst (dcN_10 dcg_558 :) ?_
              exact AW.zret1 rfl (Or.inr rfl) (dcN_11 dcg_558 :) h rfl
            · replace h := hT h c13
              refine AW.iconst (dcN_4 dcg_558 :) ?_
              exact AW.zret1 rfl (Or.inl rfl) (dcN_5 dcg_558 :) h rfl
          · replace h := hT h c8
            refine AW.aloadr_n 1 (dcN_12 dcg_557 :) rfl ?_
            refine AW.iconst (dcN_13 dcg_557 :) ?_
            obtain ⟨r16, e17, h⟩ := hC h
            refine AW.callVi (As := [iv 1]) (st := []) (M_bad_ok e17) cq_X12_327 cr_117_X12_bad (by omega) rfl (dcN_14 dcg_557 :) rfl (Nat.le_of_ble_eq_true rfl) ?_
            obtain ⟨k18, h⟩ := hK h
            exact AW.zret1 rfl k18 (dcN_15 dcg_557 :) h rfl
        refine AW.icmp_ne (tgt := 116) (dcN_6 dcg_556 :) (by decide) (fun c19 => ?_) (fun c19 => ?_)
        · refine AW.aloadr_n 0 (dcN_9 dcg_556 :) rfl ?_
          refine AW.getI af_X12_306_117 sr_117_39 (dcN_10 dcg_556 :) ?_
          refine AW.sipush (dcN_11 dcg_556 :) (by decide) (by decide) ?_
          refine AW.icmp_ne (tgt := 131) (dcN_12 dcg_556 :) (by decide) (fun c20 => ?_) (fun c20 => ?_)
          · refine AW.aloadr_n 0 (dcN_1 dcg_557 :) rfl ?_
            refine AW.getI af_X12_306_117 sr_117_39 (dcN_2 dcg_557 :) ?_
            refine AW.sipush (dcN_3 dcg_557 :) (by decide) (by decide) ?_
            refine AW.icmp_ne (tgt := 146) (dcN_4 dcg_557 :) (by decide) (fun c21 => ?_) (fun c21 => ?_)
            · refine AW.iconst (dcN_7 dcg_557 :) ?_
              exact AW.val (e7.trans ((if_neg c19).trans ((if_neg c20).trans (if_neg c21)))) J108
            · refine AW.bipush (dcN_5 dcg_557 :) (by decide) (by decide) ?_
              refine AW.goto (tgt := 147) (dcN_6 dcg_557 :) (by decide) ?_
              exact AW.val (e7.trans ((if_neg c19).trans ((if_neg c20).trans (if_pos c21)))) J108
          · refine AW.bipush (dcN_13 dcg_556 :) (by decide) (by decide) ?_
            refine AW.goto (tgt := 147) (dcN_0 dcg_557 :) (by decide) ?_
            exact AW.val (e7.trans ((if_neg c19).trans (if_pos c20))) J108
        · refine AW.bipush (dcN_7 dcg_556 :) (by decide) (by decide) ?_
          refine AW.goto (tgt := 147) (dcN_8 dcg_556 :) (by decide) ?_
          exact AW.val (e7.trans (if_pos c19)) J108
      · replace h := hT h c5
        refine AW.iconst (dcN_1 dcg_556 :) ?_
        exact AW.zret1 rfl (Or.inl rfl) (dcN_2 dcg_556 :) h rfl
    · replace h := hT h c2
      refine AW.aloadr_n 0 (dcN_11 dcg_554 :) rfl ?_
      obtain ⟨r22, e23, h⟩ := hC h
      refine AW.callVi (As := []) (st := []) (M_opens_ok e23) cq_X12_359 cr_117_X12_opens (by omega) rfl (dcN_12 dcg_554 :) rfl (Nat.le_of_ble_eq_true rfl) ?_
      refine AW.if_eq (tgt := 78) (dcN_13 dcg_554 :) (by decide) (fun c24 => ?_) (fun c24 => ?_)
      · replace h := hT h c24
        refine AW.iconst (dcN_5 dcg_555 :) ?_
        exact AW.zret1 rfl (Or.inl rfl) (dcN_6 dcg_555 :) h rfl
      · replace h := hF h c24
        refine AW.aloadr_n 0 (dcN_14 dcg_554 :) rfl ?_
        obtain ⟨r25, e26, h⟩ := hC h
        refine AW.callVi (As := []) (st := []) (M_any_ok (Nat.le_trans (by decide) hC9) hrec e26) cq_X12_362 cr_117_X12_any (by omega) rfl (dcN_15 dcg_554 :) rfl (Nat.le_of_ble_eq_true rfl) ?_
        refine AW.if_eq (tgt := 78) (dcN_0 dcg_555 :) (by decide) (fun c27 => ?_) (fun c27 => ?_)
        · replace h := hT h c27
          refine AW.iconst (dcN_5 dcg_555 :) ?_
          exact AW.zret1 rfl (Or.inl rfl) (dcN_6 dcg_555 :) h rfl
        · replace h := hF h c27
          refine AW.aloadr_n 0 (dcN_1 dcg_555 :) rfl ?_
          refine AW.sipush (dcN_2 dcg_555 :) (by decide) (by decide) ?_
          obtain ⟨r28, e29, h⟩ := hC h
          refine AW.callVi (As := [iv 141]) (st := []) (M_need_ok e29) cq_X12_365 cr_117_X12_need (by omega) rfl (dcN_3 dcg_555 :) rfl (Nat.le_of_ble_eq_true rfl) ?_
          refine AW.if_ne (tgt := 80) (dcN_4 dcg_555 :) (by decide) (fun c30 => ?_) (fun c30 => ?_)
          · replace h := hF h c30
            refine AW.aloadr_n 0 (dcN_7 dcg_555 :) rfl ?_
            refine AW.duprr (dcN_8 dcg_555 :) ?_
            refine AW.getI af_X12_336_117 sr_117_45 (dcN_9 dcg_555 :) ?_
            refine AW.iconst (dcN_10 dcg_555 :) ?_
            refine AW.isub (dcN_11 dcg_555 :) ?_
            obtain ⟨g31, e32, h⟩ := hBe h
            refine AW.putI ap_X12_336_117 sr_117_45 (dcN_12 dcg_555 :) e32 ?_
            refine AW.iconst (dcN_13 dcg_555 :) ?_
            exact AW.zret1 rfl (Or.inr rfl) (dcN_14 dcg_555 :) h rfl
          · replace h := hT h c30
            refine AW.iconst (dcN_5 dcg_555 :) ?_
            exact AW.zret1 rfl (Or.inl rfl) (dcN_6 dcg_555 :) h rfl
  · replace h := hT h c1
    refine AW.aloadr_n 0 (dcN_4 dcg_553 :) rfl ?_
    obtain ⟨r33, e34, h⟩ := hC h
    refine AW.callVi (As := []) (st := []) (M_opens_ok e34) cq_X12_359 cr_117_X12_opens (by omega) rfl (dcN_5 dcg_553 :) rfl (Nat.le_of_ble_eq_true rfl) ?_
    refine AW.if_eq (tgt := 23) (dcN_6 dcg_553 :) (by decide) (fun c35 => ?_) (fun c35 => ?_)
    · replace h := hT h c35
      refine AW.iconst (dcN_10 dcg_553 :) ?_
      exact AW.zret1 rfl (Or.inl rfl) (dcN_11 dcg_553 :) h rfl
    · replace h := hF h c35
      refine AW.aloadr_n 0 (dcN_7 dcg_553 :) rfl ?_
      obtain ⟨r36, e37, h⟩ := hC h
      refine AW.callVi (As := []) (st := []) (hrec _ _ e37) cq_X12_356 cr_117_X12_one (by omega) rfl (dcN_8 dcg_553 :) rfl (Nat.le_of_ble_eq_true rfl) ?_
      refine AW.if_ne (tgt := 25) (dcN_9 dcg_553 :) (by decide) (fun c38 => ?_) (fun c38 => ?_)
      · replace h := hF h c38
        refine AW.aloadr_n 0 (dcN_12 dcg_553 :) rfl ?_
        refine AW.duprr (dcN_13 dcg_553 :) ?_
        refine AW.getI af_X12_336_117 sr_117_45 (dcN_14 dcg_553 :) ?_
        refine AW.iconst (dcN_15 dcg_553 :) ?_
        refine AW.isub (dcN_16 dcg_553 :) ?_
        obtain ⟨g39, e40, h⟩ := hBe h
        refine AW.putI ap_X12_336_117 sr_117_45 (dcN_0 dcg_554 :) e40 ?_
        refine AW.aloadr_n 0 (dcN_1 dcg_554 :) rfl ?_
        refine AW.bipush (dcN_2 dcg_554 :) (by decide) (by decide) ?_
        refine AW.iconst (dcN_3 dcg_554 :) ?_
        obtain ⟨r41, e42, h⟩ := hC h
        refine AW.callVv (As := [iv 17, iv 0]) (st := []) (M_lay_ok e42) cq_X12_342 cr_117_X12_lay (by omega) rfl (dcN_4 dcg_554 :) rfl (Nat.le_of_ble_eq_true rfl) ?_
        refine AW.iconst (dcN_5 dcg_554 :) ?_
        exact AW.zret1 rfl (Or.inr rfl) (dcN_6 dcg_554 :) h rfl
      · replace h := hT h c38
        refine AW.iconst (dcN_10 dcg_553 :) ?_
        exact AW.zret1 rfl (Or.inl rfl) (dcN_11 dcg_553 :) h rfl
theorem M_one_ok {z : AZ} {n : Nat} {g : AG} {r : Int × AG} (h : M_one n g = some r) : AMf z yX12_one cX12_one 2 (some .boolean) (11 + n * 3) [rv z 117] g r := by
  induction n generalizing g r with
  | zero => cases h
  | succ n ih =>
    have q := M_one_s_ok (z := z) (Dr := 11 + n * 3) (Nat.le_add_right _ _) (fun g r h9 => ih h9) h
    rw [show 11 + (n + 1) * 3 = 11 + n * 3 + 3 by rw [Nat.add_mul]; omega]
    exact q
set_option synthInstance.maxHeartbeats 2000000 in
theorem M_aLine_b_ok {z : AZ} {d : Nat} (hdd : 50 ≤ d) {x2 : Int} : ∀ (tag : Nat) (g : AG) (r : Int × AG), M_aLine_b x2 tag g = some r → (tag = 1 → AW z (RX12, cX12_aLine, 3, (some .boolean)) d (QD (some .boolean) r) 155 [(0, rv z 117), (2, iv x2)] [] g) ∧ (tag = 2 → AW z (RX12, cX12_aLine, 3, (some .boolean)) d (QD (some .boolean) r) 186 [(0, rv z 117), (2, iv x2)] [] g) := by
  refine M_aLine_b.partial_correctness x2 (fun tag g r => (tag = 1 → AW z (RX12, cX12_aLine, 3, (some .boolean)) d (QD (some .boolean) r) 155 [(0, rv z 117), (2, iv x2)] [] g) ∧ (tag = 2 → AW z (RX12, cX12_aLine, 3, (some .boolean)) d (QD (some .boolean) r) 186 [(0, rv z 117), (2, iv x2)] [] g)) ?_
  intro fb9 ih tag g r h
  refine ⟨fun h9 => ?_, fun h9 => ?_⟩
  · subst h9
    replace h := hT h rfl
    refine AW.aloadr_n 0 (dcN_13 dcg_569 :) rfl ?_
    refine AW.getR af_X12_81_117 sr_117_24 (dcN_14 dcg_569 :) ?_
    refine AW.iload_n 1 (dcN_15 dcg_569 :) rfl ?_
    refine AW.aloadr_n 0 (dcN_0 dcg_570 :) rfl ?_
    refine AW.getI af_X12_333_117 sr_117_36 (dcN_1 dcg_570 :) ?_
    obtain ⟨k1, h⟩ := hK h
    obtain ⟨g2, e3, h⟩ := hBe h
    refine AW.iast kc_139 sk_139 k1 (dcN_2 dcg_570 :) e3 ?_
    refine AW.aloadr_n 0 (dcN_3 dcg_570 :) rfl ?_
    refine AW.getI af_X12_306_117 sr_117_39 (dcN_4 dcg_570 :) ?_
    refine AW.iconst (dcN_5 dcg_570 :) ?_
    refine AW.icmp_ne (tgt := 186) (dcN_6 dcg_570 :) (by decide) (fun c4 => ?_) (fun c4 => ?_)
    · replace h := hF h c4
      exact (ih _ _ _ h).2 rfl
    · replace h := hT h c4
      refine AW.aloadr_n 0 (dcN_7 dcg_570 :) rfl ?_
      obtain ⟨r5, e6, h⟩ := hC h
      refine AW.callVv (As := []) (st := []) (M_next0_ok e6) cq_X12_330 cr_117_X12_next0 (Nat.le_trans (by decide) hdd) rfl (dcN_8 dcg_570 :) rfl (Nat.le_of_ble_eq_true rfl) ?_
      refine AW.aloadr_n 0 (dcN_9 dcg_570 :) rfl ?_
      obtain ⟨r7, e8, h⟩ := hC h
      refine AW.callVi (As := []) (st := []) (M_any_ok (Dr := 47) (by decide) (fun _ r9 h9 => M_one_ok (n := 12) h9) e8) cq_X12_362 cr_117_X12_any (Nat.le_trans (by decide) hdd) rfl (dcN_10 dcg_570 :) rfl (Nat.le_of_ble_eq_true rfl) ?_
      refine AW.if_ne (tgt := 186) (dcN_11 dcg_570 :) (by decide) (fun c9 => ?_) (fun c9 => ?_)
      · replace h := hF h c9
        exact (ih _ _ _ h).2 rfl
      · replace h := hT h c9
        refine AW.iconst (dcN_12 dcg_570 :) ?_
        exact AW.zret1 rfl (Or.inl rfl) (dcN_13 dcg_570 :) h rfl
  · subst h9
    replace h := hF h (by decide)
    replace h := hT h rfl
    refine AW.aloadr_n 0 (dcN_14 dcg_570 :) rfl ?_
    refine AW.getR af_X12_84_117 sr_117_25 (dcN_15 dcg_570 :) ?_
    refine AW.iload_n 1 (dcN_16 dcg_570 :) rfl ?_
    refine AW.aloadr_n 0 (dcN_17 dcg_570 :) rfl ?_
    refine AW.getI af_X12_333_117 sr_117_36 (dcN_0 dcg_571 :) ?_
    obtain ⟨k1, h⟩ := hK h
    obtain ⟨g2, e3, h⟩ := hBe h
    refine AW.iast kc_140 sk_140 k1 (dcN_1 dcg_571 :) e3 ?_
    refine AW.aloadr_n 0 (dcN_2 dcg_571 :) rfl ?_
    refine AW.sipush (dcN_3 dcg_571 :) (by decide) (by decide) ?_
    obtain ⟨r4, e5, h⟩ := hC h
    refine AW.callVi (As := [iv 159]) (st := []) (M_need_ok e5) cq_X12_365 cr_117_X12_need (Nat.le_trans (by decide) hdd) rfl (dcN_4 dcg_571 :) rfl (Nat.le_of_ble_eq_true rfl) ?_
    obtain ⟨k6, h⟩ := hK h
    exact AW.zret1 rfl k6 (dcN_5 dcg_571 :) h rfl
theorem M_aLine_ok {z : AZ} {g : AG} {r : Int × AG} (h : M_aLine g = some r) : AMf z yX12_aLine cX12_aLine 3 (some .boolean) 50 [rv z 117] g r := by
  intro d hdd
  refine AM.of (by decide +kernel) (Nat.le_of_ble_eq_true rfl) ?_
  show AW z (RX12, cX12_aLine, 3, (some .boolean)) d (QD (some .boolean) r) 0 [(0, rv z 117)] [] g
  unfold M_aLine at h
  refine AW.aloadr_n 0 (dcN_0 dcg_565 :) rfl ?_
  refine AW.getI af_X12_306_117 sr_117_39 (dcN_1 dcg_565 :) ?_
  refine AW.bipush (dcN_2 dcg_565 :) (by decide) (by decide) ?_
  refine AW.bipush (dcN_3 dcg_565 :) (by decide) (by decide) ?_
  refine AW.callSi (As := [iv (g 117 39), iv 20, iv 24]) (st := []) M_isIn_ok cq_X12_3 st_X12_isIn (Nat.le_trans (by decide) hdd) rfl (dcN_4 dcg_565 :) rfl (Nat.le_of_ble_eq_true rfl) ?_
  refine AW.if_ne (tgt := 20) (dcN_5 dcg_565 :) (by decide) (fun c1 => ?_) (fun c1 => ?_)
  · replace h := hF h c1
    refine AW.aloadr_n 0 (dcN_10 dcg_565 :) rfl ?_
    refine AW.getI af_X12_375_117 sr_117_35 (dcN_11 dcg_565 :) ?_
    refine AW.bipush (dcN_12 dcg_565 :) (by decide) (by decide) ?_
    refine AW.icmp_ne (tgt := 35) (dcN_13 dcg_565 :) (by decide) (fun c2 => ?_) (fun c2 => ?_)
    · replace h := hF h c2
      refine AW.aloadr_n 0 (dcN_1 dcg_566 :) rfl ?_
      refine AW.getI af_X12_306_117 sr_117_39 (dcN_2 dcg_566 :) ?_
      refine AW.bipush (dcN_3 dcg_566 :) (by decide) (by decide) ?_
      refine AW.isub (dcN_4 dcg_566 :) ?_
      refine AW.istore_n (lv1 := [(1, iv ((g 117 39) - 20)), (0, rv z 117)]) (dcN_5 dcg_566 :) (by decide) rfl ?_
      refine AW.aloadr_n 1 (dcN_6 dcg_566 :) rfl ?_
      refine AW.getI af_X12_375_117 sr_117_35 (dcN_7 dcg_566 :) ?_
      refine AW.istore_n (lv1 := [(2, iv (g 117 35)), (1, iv ((g 117 39) - 20)), (0, rv z 117)]) (dcN_8 dcg_566 :) (by decide) rfl ?_
      refine AW.aloadr_n 2 (dcN_9 dcg_566 :) rfl ?_
      refine AW.iconst (dcN_10 dcg_566 :) ?_
      obtain ⟨g3, e4, h⟩ := hBe h
      refine AW.putI ap_X12_336_117 sr_117_45 (dcN_11 dcg_566 :) e4 ?_
      refine AW.aloadr_n 2 (dcN_12 dcg_566 :) rfl ?_
      obtain ⟨r5, e6, h⟩ := hC h
      refine AW.callVv (As := []) (st := []) (M_next0_ok e6) cq_X12_330 cr_117_X12_next0 (Nat.le_trans (by decide) hdd) rfl (dcN_13 dcg_566 :) rfl (Nat.le_of_ble_eq_true rfl) ?_
      refine AW.aloadr_n 2 (dcN_14 dcg_566 :) rfl ?_
      refine AW.getR af_X12_69_117 sr_117_20 (dcN_15 dcg_566 :) ?_
      refine AW.iload_n 0 (dcN_16 dcg_566 :) rfl ?_
      refine AW.iload_n 1 (dcN_17 dcg_566 :) rfl ?_
      obtain ⟨k7, h⟩ := hK h
      obtain ⟨g8, e9, h⟩ := hBe h
      refine AW.iast kc_135 sk_135 k7 (dcN_18 dcg_566 :) e9 ?_
      refine AW.aloadr_n 2 (dcN_0 dcg_567 :) rfl ?_
      refine AW.getR af_X12_78_117 sr_117_23 (dcN_1 dcg_567 :) ?_
      refine AW.iload_n 0 (dcN_2 dcg_567 :) rfl ?_
      refine AW.aloadr_n 2 (dcN_3 dcg_567 :) rfl ?_
      refine AW.getI af_X12_333_117 sr_117_36 (dcN_4 dcg_567 :) ?_
      obtain ⟨g10, e11, h⟩ := hBe h
      refine AW.iast kc_138 sk_138 k7 (dcN_5 dcg_567 :) e11 ?_
      refine AW.aloadr_n 2 (dcN_6 dcg_567 :) rfl ?_
      refine AW.getR af_X12_81_117 sr_117_24 (dcN_7 dcg_567 :) ?_
      refine AW.iload_n 0 (dcN_8 dcg_567 :) rfl ?_
      refine AW.aloadr_n 2 (dcN_9 dcg_567 :) rfl ?_
      refine AW.getI af_X12_333_117 sr_117_36 (dcN_10 dcg_567 :) ?_
      obtain ⟨g12, e13, h⟩ := hBe h
      refine AW.iast kc_139 sk_139 k7 (dcN_11 dcg_567 :) e13 ?_
      refine AW.aloadr_n 2 (dcN_12 dcg_567 :) rfl ?_
      refine AW.getR af_X12_84_117 sr_117_25 (dcN_13 dcg_567 :) ?_
      refine AW.iload_n 0 (dcN_14 dcg_567 :) rfl ?_
      refine AW.aloadr_n 2 (dcN_15 dcg_567 :) rfl ?_
      refine AW.getI af_X12_333_117 sr_117_36 (dcN_16 dcg_567 :) ?_
      obtain ⟨g14, e15, h⟩ := hBe h
      refine AW.iast kc_140 sk_140 k7 (dcN_17 dcg_567 :) e15 ?_
      refine AW.iload_n 1 (dcN_18 dcg_567 :) rfl ?_
      refine AW.iconst (dcN_19 dcg_567 :) ?_
      refine AW.icmp_ne (tgt := 122) (dcN_0 dcg_568 :) (by decide) (fun c16 => ?_) (fun c16 => ?_)
      · replace h := hF h c16
        refine AW.iload_n 1 (dcN_12 dcg_568 :) rfl ?_
        refine AW.if_ne (tgt := 146) (dcN_13 dcg_568 :) (by decide) (fun c17 => ?_) (fun c17 => ?_)
        · replace h := hF h c17
          refine AW.aloadr_n 2 (dcN_8 dcg_569 :) rfl ?_
          obtain ⟨r18, e19, h⟩ := hC h
          refine AW.callVi (As := []) (st := []) (M_sumUp_ok e19) cq_X12_368 cr_117_X12_sumUp (Nat.le_trans (by decide) hdd) rfl (dcN_9 dcg_569 :) rfl (Nat.le_of_ble_eq_true rfl) ?_
          refine AW.if_ne (tgt := 155) (dcN_10 dcg_569 :) (by decide) (fun c20 => ?_) (fun c20 => ?_)
          · replace h := hF h c20
            refine AW.sub (lv1 := [(0, rv z 117), (2, iv (g 117 35))]) [2, 0] rfl ?_
            exact (M_aLine_b_ok hdd _ _ _ h).1 rfl
          · replace h := hT h c20
            refine AW.iconst (dcN_11 dcg_569 :) ?_
            exact AW.zret1 rfl (Or.inl rfl) (dcN_12 dcg_569 :) h rfl
        · replace h := hT h c17
          refine AW.aloadr_n 2 (dcN_14 dcg_568 :) rfl ?_
          refine AW.aloadr_n 2 (dcN_15 dcg_568 :) rfl ?_
          refine AW.getR af_X12_72_117 sr_117_21 (dcN_0 dcg_569 :) ?_
          refine AW.iload_n 0 (dcN_1 dcg_569 :) rfl ?_
          refine AW.aloadr_n 2 (dcN_2 dcg_569 :) rfl ?_
          refine AW.getR af_X12_75_117 sr_117_22 (dcN_3 dcg_569 :) ?_
          refine AW.iload_n 0 (dcN_4 dcg_569 :) rfl ?_
          obtain ⟨r21, e22, h⟩ := hC h
          refine AW.callVi (As := [rv z 136, iv (g 117 35), rv z 137, iv (g 117 35)]) (st := []) (M_hours_117_136_137_ok e22) cq_X12_371 cr_117_X12_hours (Nat.le_trans (by decide) hdd) rfl (dcN_5 dcg_569 :) rfl (Nat.le_of_ble_eq_true rfl) ?_
          refine AW.if_ne (tgt := 155) (dcN_6 dcg_569 :) (by decide) (fun c23 => ?_) (fun c23 => ?_)
          · replace h := hF h c23
            refine AW.sub (lv1 := [(0, rv z 117), (2, iv (g 117 35))]) [2, 0] rfl ?_
            exact (M_aLine_b_ok hdd _ _ _ h).1 rfl
          · replace h := hT h c23
            refine AW.goto (tgt := 153) (dcN_7 dcg_569 :) (by decide) ?_
            refine AW.iconst (dcN_11 dcg_569 :) ?_
            exact AW.zret1 rfl (Or.inl rfl) (dcN_12 dcg_569 :) h rfl
      · replace h := hT h c16
        refine AW.aloadr_n 2 (dcN_1 dcg_568 :) rfl ?_
        obtain ⟨r24, e25, h⟩ := hC h
        refine AW.callVi (As := []) (st := []) (M_aTunnel_ok e25) cq_X12_378 cr_117_X12_aTunnel (Nat.le_trans (by decide) hdd) rfl (dcN_2 dcg_568 :) rfl (Nat.le_of_ble_eq_true rfl) ?_
        obtain ⟨r32, e33, h⟩ := hC h
        refine AW.join (tgt := 121) (lv1 := []) (st1 := [iv r32.1]) (g1 := r32.2) ?_ (fun J103 => ?_)
        · obtain ⟨k34, h⟩ := hK h
          exact AW.zret1 rfl k34 (dcN_11 dcg_568 :) h rfl
        replace h := e33
        refine AW.if_eq (tgt := 120) (dcN_3 dcg_568 :) (by decide) (fun c26 => ?_) (fun c26 => ?_)
        · replace h := hT h c26
          refine AW.iconst (dcN_10 dcg_568 :) ?_
          refine AW.sub (lv1 := []) [] rfl ?_
          cases h
          exact J103
        · replace h := hF h c26
          refine AW.aloadr_n 2 (dcN_4 dcg_568 :) rfl ?_
          refine AW.sipush (dcN_5 dcg_568 :) (by decide) (by decide) ?_
          obtain ⟨r27, e28, h⟩ := hC h
          refine AW.callVi (As := [iv 159]) (st := []) (M_need_ok e28) cq_X12_365 cr_117_X12_need (Nat.le_trans (by decide) hdd) rfl (dcN_6 dcg_568 :) rfl (Nat.le_of_ble_eq_true rfl) ?_
          obtain ⟨t29, e30, h⟩ := hBe h
          refine AW.join (tgt := 121) (lv1 := [(2, iv (g 117 35)), (1, iv ((g 117 39) - 20)), (0, rv z 117)]) (st1 := [iv t29]) (g1 := r27.2) ?_ (fun J113 => ?_)
          · refine AW.sub (lv1 := []) [] rfl ?_
            cases h
            exact J103
          refine AW.if_eq (tgt := 120) (dcN_7 dcg_568 :) (by decide) (fun c31 => ?_) (fun c31 => ?_)
          · refine AW.iconst (dcN_10 dcg_568 :) ?_
            exact AW.val (e30.trans (if_pos c31)) J113
          · refine AW.iconst (dcN_8 dcg_568 :) ?_
            refine AW.goto (tgt := 121) (dcN_9 dcg_568 :) (by decide) ?_
            exact AW.val (e30.trans (if_neg c31)) J113
    · replace h := hT h c2
      refine AW.aloadr_n 0 (dcN_14 dcg_565 :) rfl ?_
      refine AW.iconst (dcN_15 dcg_565 :) ?_
      obtain ⟨r35, e36, h⟩ := hC h
      refine AW.callVi (As := [iv 3]) (st := []) (M_bad_ok e36) cq_X12_327 cr_117_X12_bad (Nat.le_trans (by decide) hdd) rfl (dcN_16 dcg_565 :) rfl (Nat.le_of_ble_eq_true rfl) ?_
      obtain ⟨k37, h⟩ := hK h
      exact AW.zret1 rfl k37 (dcN_0 dcg_566 :) h rfl
  · replace h := hT h c1
    refine AW.aloadr_n 0 (dcN_6 dcg_565 :) rfl ?_
    refine AW.iconst (dcN_7 dcg_565 :) ?_
    obtain ⟨r38, e39, h⟩ := hC h
    refine AW.callVi (As := [iv 1]) (st := []) (M_bad_ok e39) cq_X12_327 cr_117_X12_bad (Nat.le_trans (by decide) hdd) rfl (dcN_8 dcg_565 :) rfl (Nat.le_of_ble_eq_true rfl) ?_
    obtain ⟨k40, h⟩ := hK h
    exact AW.zret1 rfl k40 (dcN_9 dcg_565 :) h rfl
set_option synthInstance.maxHeartbeats 2000000 in
theorem M_keeps_b_ok {z : AZ} {d : Nat} (hdd : 0 ≤ d) : ∀ (tag : Nat) (x1 : Int) (g : AG) (r : Int × AG), M_keeps_b tag x1 g = some r → (tag = 1 → AW z (RX12, cX12_keeps, 2, none) d (QD none r) 10 [(0, rv z 117), (1, iv x1)] [] g) ∧ (tag = 2 → AW z (RX12, cX12_keeps, 2, none) d (QD none r) 98 [(0, rv z 117), (1, iv x1)] [] g) ∧ (tag = 3 → AW z (RX12, cX12_keeps, 2, none) d (QD none r) 128 [(0, rv z 117), (1, iv x1)] [] g) ∧ (tag = 4 → AW z (RX12, cX12_keeps, 2, none) d (QD none r) 154 [(0, rv z 117), (1, iv x1)] [] g) := by
  refine M_keeps_b.partial_correctness (fun tag x1 g r => (tag = 1 → AW z (RX12, cX12_keeps, 2, none) d (QD none r) 10 [(0, rv z 117), (1, iv x1)] [] g) ∧ (tag = 2 → AW z (RX12, cX12_keeps, 2, none) d (QD none r) 98 [(0, rv z 117), (1, iv x1)] [] g) ∧ (tag = 3 → AW z (RX12, cX12_keeps, 2, none) d (QD none r) 128 [(0, rv z 117), (1, iv x1)] [] g) ∧ (tag = 4 → AW z (RX12, cX12_keeps, 2, none) d (QD none r) 154 [(0, rv z 117), (1, iv x1)] [] g)) ?_
  intro fb9 ih tag x1 g r h
  refine ⟨fun h9 => ?_, fun h9 => ?_, fun h9 => ?_, fun h9 => ?_⟩
  · subst h9
    replace h := hT h rfl
    refine AW.iload_n 1 (dcN_6 dcg_576 :) rfl ?_
    refine AW.aloadr_n 0 (dcN_7 dcg_576 :) rfl ?_
    refine AW.getI af_X12_390_117 sr_117_34 (dcN_8 dcg_576 :) ?_
    refine AW.icmp_ge (tgt := 96) (dcN_9 dcg_576 :) (by decide) (fun c1 => ?_) (fun c1 => ?_)
    · replace h := hT h c1
      refine AW.iconst (dcN_0 dcg_579 :) ?_
      refine AW.istore_n (lv1 := [(1, iv 0), (0, rv z 117)]) (dcN_1 dcg_579 :) (by decide) rfl ?_
      refine AW.sub (lv1 := [(0, rv z 117), (1, iv 0)]) [1, 0] rfl ?_
      exact (ih _ _ _ _ h).2.1 rfl
    · replace h := hF h c1
      refine AW.aloadr_n 0 (dcN_10 dcg_576 :) rfl ?_
      refine AW.getR af_X12_48_117 sr_117_13 (dcN_11 dcg_576 :) ?_
      refine AW.iload_n 1 (dcN_12 dcg_576 :) rfl ?_
      refine AW.aloadr_n 0 (dcN_13 dcg_576 :) rfl ?_
      refine AW.getR af_X12_69_117 sr_117_20 (dcN_14 dcg_576 :) ?_
      refine AW.iload_n 1 (dcN_15 dcg_576 :) rfl ?_
      obtain ⟨k2, h⟩ := hK h
      refine AW.iald kc_135 sk_135 k2 (dcN_16 dcg_576 :) ?_
      obtain ⟨g3, e4, h⟩ := hBe h
      refine AW.iast kc_128 sk_128 k2 (dcN_17 dcg_576 :) e4 ?_
      refine AW.aloadr_n 0 (dcN_18 dcg_576 :) rfl ?_
      refine AW.getR af_X12_51_117 sr_117_14 (dcN_19 dcg_576 :) ?_
      refine AW.iload_n 1 (dcN_0 dcg_577 :) rfl ?_
      refine AW.aloadr_n 0 (dcN_1 dcg_577 :) rfl ?_
      refine AW.getR af_X12_72_117 sr_117_21 (dcN_2 dcg_577 :) ?_
      refine AW.iload_n 1 (dcN_3 dcg_577 :) rfl ?_
      refine AW.iald kc_136 sk_136 k2 (dcN_4 dcg_577 :) ?_
      obtain ⟨g5, e6, h⟩ := hBe h
      refine AW.iast kc_129 sk_129 k2 (dcN_5 dcg_577 :) e6 ?_
      refine AW.aloadr_n 0 (dcN_6 dcg_577 :) rfl ?_
      refine AW.getR af_X12_54_117 sr_117_15 (dcN_7 dcg_577 :) ?_
      refine AW.iload_n 1 (dcN_8 dcg_577 :) rfl ?_
      refine AW.aloadr_n 0 (dcN_9 dcg_577 :) rfl ?_
      refine AW.getR af_X12_75_117 sr_117_22 (dcN_10 dcg_577 :) ?_
      refine AW.iload_n 1 (dcN_11 dcg_577 :) rfl ?_
      refine AW.iald kc_137 sk_137 k2 (dcN_12 dcg_577 :) ?_
      obtain ⟨g7, e8, h⟩ := hBe h
      refine AW.iast kc_130 sk_130 k2 (dcN_13 dcg_577 :) e8 ?_
      refine AW.aloadr_n 0 (dcN_14 dcg_577 :) rfl ?_
      refine AW.getR af_X12_57_117 sr_117_16 (dcN_15 dcg_577 :) ?_
      refine AW.iload_n 1 (dcN_16 dcg_577 :) rfl ?_
      refine AW.aloadr_n 0 (dcN_17 dcg_577 :) rfl ?_
      refine AW.getR af_X12_78_117 sr_117_23 (dcN_18 dcg_577 :) ?_
      refine AW.iload_n 1 (dcN_19 dcg_577 :) rfl ?_
      refine AW.iald kc_138 sk_138 k2 (dcN_0 dcg_578 :) ?_
      obtain ⟨g9, e10, h⟩ := hBe h
      refine AW.iast kc_131 sk_131 k2 (dcN_1 dcg_578 :) e10 ?_
      refine AW.aloadr_n 0 (dcN_2 dcg_578 :) rfl ?_
      refine AW.getR af_X12_60_117 sr_117_17 (dcN_3 dcg_578 :) ?_
      refine AW.iload_n 1 (dcN_4 dcg_578 :) rfl ?_
      refine AW.aloadr_n 0 (dcN_5 dcg_578 :) rfl ?_
      refine AW.getR af_X12_81_117 sr_117_24 (dcN_6 dcg_578 :) ?_
      refine AW.iload_n 1 (dcN_7 dcg_578 :) rfl ?_
      refine AW.iald kc_139 sk_139 k2 (dcN_8 dcg_578 :) ?_
      obtain ⟨g11, e12, h⟩ := hBe h
      refine AW.iast kc_132 sk_132 k2 (dcN_9 dcg_578 :) e12 ?_
      refine AW.aloadr_n 0 (dcN_10 dcg_578 :) rfl ?_
      refine AW.getR af_X12_63_117 sr_117_18 (dcN_11 dcg_578 :) ?_
      refine AW.iload_n 1 (dcN_12 dcg_578 :) rfl ?_
      refine AW.aloadr_n 0 (dcN_13 dcg_578 :) rfl ?_
      refine AW.getR af_X12_84_117 sr_117_25 (dcN_14 dcg_578 :) ?_
      refine AW.iload_n 1 (dcN_15 dcg_578 :) rfl ?_
      refine AW.iald kc_140 sk_140 k2 (dcN_16 dcg_578 :) ?_
      obtain ⟨g13, e14, h⟩ := hBe h
      refine AW.iast kc_133 sk_133 k2 (dcN_17 dcg_578 :) e14 ?_
      refine AW.iinc (lv1 := [(1, iv (x1 + 1)), (0, rv z 117)]) 1 (dcN_18 dcg_578 :) rfl (by decide) rfl ?_
      refine AW.goto (tgt := 10) (dcN_19 dcg_578 :) (by decide) ?_
      refine AW.sub (lv1 := [(0, rv z 117), (1, iv (x1 + 1))]) [1, 0] rfl ?_
      exact (ih _ _ _ _ h).1 rfl
  · subst h9
    replace h := hF h (by decide)
    replace h := hT h rfl
    refine AW.iload_n 1 (dcN_2 dcg_579 :) rfl ?_
    refine AW.iconst (dcN_3 dcg_579 :) ?_
    refine AW.aloadr_n 0 (dcN_4 dcg_579 :) rfl ?_
    refine AW.getI af_X12_333_117 sr_117_36 (dcN_5 dcg_579 :) ?_
    refine AW.imul (dcN_6 dcg_579 :) ?_
    refine AW.icmp_ge (tgt := 126) (dcN_7 dcg_579 :) (by decide) (fun c1 => ?_) (fun c1 => ?_)
    · replace h := hT h c1
      refine AW.iconst (dcN_18 dcg_579 :) ?_
      refine AW.istore_n (lv1 := [(1, iv 0), (0, rv z 117)]) (dcN_19 dcg_579 :) (by decide) rfl ?_
      refine AW.sub (lv1 := [(0, rv z 117), (1, iv 0)]) [1, 0] rfl ?_
      exact (ih _ _ _ _ h).2.2.1 rfl
    · replace h := hF h c1
      refine AW.aloadr_n 0 (dcN_8 dcg_579 :) rfl ?_
      refine AW.getR af_X12_66_117 sr_117_19 (dcN_9 dcg_579 :) ?_
      refine AW.iload_n 1 (dcN_10 dcg_579 :) rfl ?_
      refine AW.aloadr_n 0 (dcN_11 dcg_579 :) rfl ?_
      refine AW.getR af_X12_87_117 sr_117_26 (dcN_12 dcg_579 :) ?_
      refine AW.iload_n 1 (dcN_13 dcg_579 :) rfl ?_
      obtain ⟨k2, h⟩ := hK h
      refine AW.iald kc_141 sk_141 k2 (dcN_14 dcg_579 :) ?_
      obtain ⟨g3, e4, h⟩ := hBe h
      refine AW.iast kc_134 sk_134 k2 (dcN_15 dcg_579 :) e4 ?_
      refine AW.iinc (lv1 := [(1, iv (x1 + 1)), (0, rv z 117)]) 1 (dcN_16 dcg_579 :) rfl (by decide) rfl ?_
      refine AW.goto (tgt := 98) (dcN_17 dcg_579 :) (by decide) ?_
      refine AW.sub (lv1 := [(0, rv z 117), (1, iv (x1 + 1))]) [1, 0] rfl ?_
      exact (ih _ _ _ _ h).2.1 rfl
  · subst h9
    replace h := hF h (by decide)
    replace h := hF h (by decide)
    replace h := hT h rfl
    refine AW.iload_n 1 (dcN_0 dcg_580 :) rfl ?_
    refine AW.bipush (dcN_1 dcg_580 :) (by decide) (by decide) ?_
    refine AW.icmp_ge (tgt := 152) (dcN_2 dcg_580 :) (by decide) (fun c1 => ?_) (fun c1 => ?_)
    · replace h := hT h c1
      refine AW.iconst (dcN_13 dcg_580 :) ?_
      refine AW.istore_n (lv1 := [(1, iv 0), (0, rv z 117)]) (dcN_14 dcg_580 :) (by decide) rfl ?_
      refine AW.sub (lv1 := [(0, rv z 117), (1, iv 0)]) [1, 0] rfl ?_
      exact (ih _ _ _ _ h).2.2.2 rfl
    · replace h := hF h c1
      refine AW.aloadr_n 0 (dcN_3 dcg_580 :) rfl ?_
      refine AW.getR af_X12_96_117 sr_117_29 (dcN_4 dcg_580 :) ?_
      refine AW.iload_n 1 (dcN_5 dcg_580 :) rfl ?_
      refine AW.aloadr_n 0 (dcN_6 dcg_580 :) rfl ?_
      refine AW.getR af_X12_100_117 sr_117_30 (dcN_7 dcg_580 :) ?_
      refine AW.iload_n 1 (dcN_8 dcg_580 :) rfl ?_
      obtain ⟨k2, h⟩ := hK h
      refine AW.zald kc_145 sk_145 k2 (dcN_9 dcg_580 :) ?_
      obtain ⟨k3, h⟩ := hK h
      obtain ⟨g4, e5, h⟩ := hBe h
      refine AW.zast kc_144 sk_144 k2 k3 (dcN_10 dcg_580 :) e5 ?_
      refine AW.iinc (lv1 := [(1, iv (x1 + 1)), (0, rv z 117)]) 1 (dcN_11 dcg_580 :) rfl (by decide) rfl ?_
      refine AW.goto (tgt := 128) (dcN_12 dcg_580 :) (by decide) ?_
      refine AW.sub (lv1 := [(0, rv z 117), (1, iv (x1 + 1))]) [1, 0] rfl ?_
      exact (ih _ _ _ _ h).2.2.1 rfl
  · subst h9
    replace h := hF h (by decide)
    replace h := hF h (by decide)
    replace h := hF h (by decide)
    replace h := hT h rfl
    refine AW.iload_n 1 (dcN_15 dcg_580 :) rfl ?_
    refine AW.bipush (dcN_16 dcg_580 :) (by decide) (by decide) ?_
    refine AW.icmp_ge (tgt := 178) (dcN_17 dcg_580 :) (by decide) (fun c1 => ?_) (fun c1 => ?_)
    · replace h := hT h c1
      exact AW.vret1 rfl (dcN_10 dcg_581 :) h rfl
    · replace h := hF h c1
      refine AW.aloadr_n 0 (dcN_0 dcg_581 :) rfl ?_
      refine AW.getR af_X12_90_117 sr_117_27 (dcN_1 dcg_581 :) ?_
      refine AW.iload_n 1 (dcN_2 dcg_581 :) rfl ?_
      refine AW.aloadr_n 0 (dcN_3 dcg_581 :) rfl ?_
      refine AW.getR af_X12_93_117 sr_117_28 (dcN_4 dcg_581 :) ?_
      refine AW.iload_n 1 (dcN_5 dcg_581 :) rfl ?_
      obtain ⟨k2, h⟩ := hK h
      refine AW.iald kc_143 sk_143 k2 (dcN_6 dcg_581 :) ?_
      obtain ⟨g3, e4, h⟩ := hBe h
      refine AW.iast kc_142 sk_142 k2 (dcN_7 dcg_581 :) e4 ?_
      refine AW.iinc (lv1 := [(1, iv (x1 + 1)), (0, rv z 117)]) 1 (dcN_8 dcg_581 :) rfl (by decide) rfl ?_
      refine AW.goto (tgt := 154) (dcN_9 dcg_581 :) (by decide) ?_
      refine AW.sub (lv1 := [(0, rv z 117), (1, iv (x1 + 1))]) [1, 0] rfl ?_
      exact (ih _ _ _ _ h).2.2.2 rfl
theorem M_keeps_ok {z : AZ} {g : AG} {r : Int × AG} (h : M_keeps g = some r) : AMf z yX12_keeps cX12_keeps 2 none 0 [rv z 117] g r := by
  intro d hdd
  refine AM.of (by decide +kernel) (Nat.le_of_ble_eq_true rfl) ?_
  show AW z (RX12, cX12_keeps, 2, none) d (QD none r) 0 [(0, rv z 117)] [] g
  unfold M_keeps at h
  refine AW.aloadr_n 0 (dcN_0 dcg_576 :) rfl ?_
  refine AW.aloadr_n 0 (dcN_1 dcg_576 :) rfl ?_
  refine AW.getI af_X12_375_117 sr_117_35 (dcN_2 dcg_576 :) ?_
  obtain ⟨g1, e2, h⟩ := hBe h
  refine AW.putI ap_X12_390_117 sr_117_34 (dcN_3 dcg_576 :) e2 ?_
  refine AW.iconst (dcN_4 dcg_576 :) ?_
  refine AW.istore_n (lv1 := [(1, iv 0), (0, rv z 117)]) (dcN_5 dcg_576 :) (by decide) rfl ?_
  refine AW.sub (lv1 := [(0, rv z 117), (1, iv 0)]) [1, 0] rfl ?_
  exact (M_keeps_b_ok hdd _ _ _ _ h).1 rfl
set_option synthInstance.maxHeartbeats 2000000 in
theorem M_rules_b_ok {z : AZ} {d : Nat} (hdd : 51 ≤ d) : ∀ (tag : Nat) (x1 : Int) (g : AG) (r : Int × AG), M_rules_b tag x1 g = some r → (tag = 1 → AW z (RX12, cX12_rules, 2, (some .int)) d (QD (some .int) r) 22 [(0, rv z 117), (1, iv x1)] [] g) ∧ (tag = 2 → AW z (RX12, cX12_rules, 2, (some .int)) d (QD (some .int) r) 47 [(0, rv z 117), (1, iv x1)] [] g) ∧ (tag = 3 → AW z (RX12, cX12_rules, 2, (some .int)) d (QD (some .int) r) 84 [(0, rv z 117), (1, iv x1)] [] g) := by
  refine M_rules_b.partial_correctness (fun tag x1 g r => (tag = 1 → AW z (RX12, cX12_rules, 2, (some .int)) d (QD (some .int) r) 22 [(0, rv z 117), (1, iv x1)] [] g) ∧ (tag = 2 → AW z (RX12, cX12_rules, 2, (some .int)) d (QD (some .int) r) 47 [(0, rv z 117), (1, iv x1)] [] g) ∧ (tag = 3 → AW z (RX12, cX12_rules, 2, (some .int)) d (QD (some .int) r) 84 [(0, rv z 117), (1, iv x1)] [] g)) ?_
  intro fb9 ih tag x1 g r h
  refine ⟨fun h9 => ?_, fun h9 => ?_, fun h9 => ?_⟩
  · subst h9
    replace h := hT h rfl
    refine AW.iload_n 1 (dcN_14 dcg_572 :) rfl ?_
    refine AW.bipush (dcN_15 dcg_572 :) (by decide) (by decide) ?_
    refine AW.icmp_ge (tgt := 41) (dcN_16 dcg_572 :) (by decide) (fun c1 => ?_) (fun c1 => ?_)
    · replace h := hT h c1
      refine AW.aloadr_n 0 (dcN_5 dcg_573 :) rfl ?_
      obtain ⟨r2, e3, h⟩ := hC h
      refine AW.callVv (As := []) (st := []) (M_next0_ok e3) cq_X12_330 cr_117_X12_next0 (Nat.le_trans (by decide) hdd) rfl (dcN_6 dcg_573 :) rfl (Nat.le_of_ble_eq_true rfl) ?_
      refine AW.iconst (dcN_7 dcg_573 :) ?_
      refine AW.istore_n (lv1 := [(1, iv 1), (0, rv z 117)]) (dcN_8 dcg_573 :) (by decide) rfl ?_
      refine AW.sub (lv1 := [(0, rv z 117), (1, iv 1)]) [1, 0] rfl ?_
      exact (ih _ _ _ _ h).2.1 rfl
    · replace h := hF h c1
      refine AW.aloadr_n 0 (dcN_17 dcg_572 :) rfl ?_
      refine AW.getR af_X12_100_117 sr_117_30 (dcN_18 dcg_572 :) ?_
      refine AW.iload_n 1 (dcN_0 dcg_573 :) rfl ?_
      refine AW.iconst (dcN_1 dcg_573 :) ?_
      obtain ⟨k4, h⟩ := hK h
      obtain ⟨g5, e6, h⟩ := hBe h
      refine AW.zast kc_145 sk_145 k4 (Or.inl rfl) (dcN_2 dcg_573 :) e6 ?_
      refine AW.iinc (lv1 := [(1, iv (x1 + 1)), (0, rv z 117)]) 1 (dcN_3 dcg_573 :) rfl (by decide) rfl ?_
      refine AW.goto (tgt := 22) (dcN_4 dcg_573 :) (by decide) ?_
      refine AW.sub (lv1 := [(0, rv z 117), (1, iv (x1 + 1))]) [1, 0] rfl ?_
      exact (ih _ _ _ _ h).1 rfl
  · subst h9
    replace h := hF h (by decide)
    replace h := hT h rfl
    refine AW.iload_n 1 (dcN_9 dcg_573 :) rfl ?_
    refine AW.if_eq (tgt := 84) (dcN_10 dcg_573 :) (by decide) (fun c1 => ?_) (fun c1 => ?_)
    · replace h := hT h c1
      exact (ih _ _ _ _ h).2.2 rfl
    · replace h := hF h c1
      refine AW.aloadr_n 0 (dcN_11 dcg_573 :) rfl ?_
      refine AW.getI af_X12_306_117 sr_117_39 (dcN_12 dcg_573 :) ?_
      refine AW.if_eq (tgt := 84) (dcN_13 dcg_573 :) (by decide) (fun c2 => ?_) (fun c2 => ?_)
      · replace h := hT h c2
        exact (ih _ _ _ _ h).2.2 rfl
      · replace h := hF h c2
        refine AW.aloadr_n 0 (dcN_14 dcg_573 :) rfl ?_
        obtain ⟨r3, e4, h⟩ := hC h
        refine AW.callVi (As := []) (st := []) (M_aLine_ok e4) cq_X12_381 cr_117_X12_aLine (Nat.le_trans (by decide) hdd) rfl (dcN_15 dcg_573 :) rfl (Nat.le_of_ble_eq_true rfl) ?_
        refine AW.istore_n (lv1 := [(1, iv r3.1), (0, rv z 117)]) (dcN_16 dcg_573 :) (by decide) rfl ?_
        refine AW.aloadr_n 1 (dcN_17 dcg_573 :) rfl ?_
        refine AW.duprr (dcN_0 dcg_574 :) ?_
        refine AW.getI af_X12_375_117 sr_117_35 (dcN_1 dcg_574 :) ?_
        refine AW.iload_n 0 (dcN_2 dcg_574 :) rfl ?_
        obtain ⟨t5, e6, h⟩ := hBe h
        refine AW.join (tgt := 77) (lv1 := [(1, iv r3.1), (0, rv z 117)]) (st1 := [iv t5, iv (r3.2 117 35), rv z 117]) (g1 := r3.2) ?_ (fun J69 => ?_)
        · refine AW.iadd (dcN_7 dcg_574 :) ?_
          obtain ⟨g7, e8, h⟩ := hBe h
          refine AW.putI ap_X12_375_117 sr_117_35 (dcN_8 dcg_574 :) e8 ?_
          refine AW.goto (tgt := 47) (dcN_9 dcg_574 :) (by decide) ?_
          refine AW.sub (lv1 := [(0, rv z 117), (1, iv r3.1)]) [1, 0] rfl ?_
          exact (ih _ _ _ _ h).2.1 rfl
        refine AW.if_eq (tgt := 76) (dcN_3 dcg_574 :) (by decide) (fun c9 => ?_) (fun c9 => ?_)
        · refine AW.iconst (dcN_6 dcg_574 :) ?_
          exact AW.val (e6.trans (if_pos c9)) J69
        · refine AW.iconst (dcN_4 dcg_574 :) ?_
          refine AW.goto (tgt := 77) (dcN_5 dcg_574 :) (by decide) ?_
          exact AW.val (e6.trans (if_neg c9)) J69
  · subst h9
    replace h := hF h (by decide)
    replace h := hF h (by decide)
    replace h := hT h rfl
    refine AW.aloadr_n 0 (dcN_10 dcg_574 :) rfl ?_
    refine AW.iconst (dcN_11 dcg_574 :) ?_
    obtain ⟨g1, e2, h⟩ := hBe h
    refine AW.putI ap_X12_242_117 sr_117_37 (dcN_12 dcg_574 :) e2 ?_
    refine AW.aloadr_n 0 (dcN_13 dcg_574 :) rfl ?_
    refine AW.aloadr_n 0 (dcN_14 dcg_574 :) rfl ?_
    refine AW.getI af_X12_321_117 sr_117_42 (dcN_15 dcg_574 :) ?_
    obtain ⟨g3, e4, h⟩ := hBe h
    refine AW.putI ap_X12_384_117 sr_117_44 (dcN_16 dcg_574 :) e4 ?_
    refine AW.aloadr_n 0 (dcN_0 dcg_575 :) rfl ?_
    refine AW.iload_n 1 (dcN_1 dcg_575 :) rfl ?_
    obtain ⟨t5, e6, h⟩ := hBe h
    refine AW.join (tgt := 110) (lv1 := [(0, rv z 117), (1, iv x1)]) (st1 := [iv t5, rv z 117]) (g1 := g3) ?_ (fun J99 => ?_)
    · obtain ⟨g7, e8, h⟩ := hBe h
      refine AW.putI ap_X12_112_117 sr_117_46 (dcN_7 dcg_575 :) e8 ?_
      refine AW.iload_n 1 (dcN_8 dcg_575 :) rfl ?_
      refine AW.if_ne (tgt := 119) (dcN_9 dcg_575 :) (by decide) (fun c9 => ?_) (fun c9 => ?_)
      · replace h := hF h c9
        refine AW.aloadr_n 0 (dcN_12 dcg_575 :) rfl ?_
        obtain ⟨r10, e11, h⟩ := hC h
        refine AW.callVv (As := []) (st := []) (M_keeps_ok e11) cq_X12_387 cr_117_X12_keeps (Nat.le_trans (by decide) hdd) rfl (dcN_13 dcg_575 :) rfl (Nat.le_of_ble_eq_true rfl) ?_
        refine AW.aloadr_n 0 (dcN_14 dcg_575 :) rfl ?_
        refine AW.getI af_X12_390_117 sr_117_34 (dcN_15 dcg_575 :) ?_
        exact AW.iret1 rfl (dcN_16 dcg_575 :) h rfl
      · replace h := hT h c9
        refine AW.iconst (dcN_10 dcg_575 :) ?_
        exact AW.iret1 rfl (dcN_11 dcg_575 :) h rfl
    refine AW.if_eq (tgt := 106) (dcN_2 dcg_575 :) (by decide) (fun c12 => ?_) (fun c12 => ?_)
    · refine AW.aloadr_n 0 (dcN_5 dcg_575 :) rfl ?_
      refine AW.getI af_X12_324_117 sr_117_43 (dcN_6 dcg_575 :) ?_
      exact AW.val (e6.trans (if_pos c12)) J99
    · refine AW.iconst (dcN_3 dcg_575 :) ?_
      refine AW.goto (tgt := 110) (dcN_4 dcg_575 :) (by decide) ?_
      exact AW.val (e6.trans (if_neg c12)) J99
theorem M_rules_ok {z : AZ} {g : AG} {r : Int × AG} (h : M_rules g = some r) : AMf z yX12_rules cX12_rules 2 (some .int) 51 [rv z 117] g r := by
  intro d hdd
  refine AM.of (by decide +kernel) (Nat.le_of_ble_eq_true rfl) ?_
  show AW z (RX12, cX12_rules, 2, (some .int)) d (QD (some .int) r) 0 [(0, rv z 117)] [] g
  unfold M_rules at h
  refine AW.aloadr_n 0 (dcN_0 dcg_572 :) rfl ?_
  refine AW.iconst (dcN_1 dcg_572 :) ?_
  obtain ⟨g1, e2, h⟩ := hBe h
  refine AW.putI ap_X12_321_117 sr_117_42 (dcN_2 dcg_572 :) e2 ?_
  refine AW.aloadr_n 0 (dcN_3 dcg_572 :) rfl ?_
  refine AW.iconst (dcN_4 dcg_572 :) ?_
  obtain ⟨g3, e4, h⟩ := hBe h
  refine AW.putI ap_X12_245_117 sr_117_38 (dcN_5 dcg_572 :) e4 ?_
  refine AW.aloadr_n 0 (dcN_6 dcg_572 :) rfl ?_
  refine AW.iconst (dcN_7 dcg_572 :) ?_
  obtain ⟨g5, e6, h⟩ := hBe h
  refine AW.putI ap_X12_375_117 sr_117_35 (dcN_8 dcg_572 :) e6 ?_
  refine AW.aloadr_n 0 (dcN_9 dcg_572 :) rfl ?_
  refine AW.iconst (dcN_10 dcg_572 :) ?_
  obtain ⟨g7, e8, h⟩ := hBe h
  refine AW.putI ap_X12_333_117 sr_117_36 (dcN_11 dcg_572 :) e8 ?_
  refine AW.iconst (dcN_12 dcg_572 :) ?_
  refine AW.istore_n (lv1 := [(1, iv 0), (0, rv z 117)]) (dcN_13 dcg_572 :) (by decide) rfl ?_
  refine AW.sub (lv1 := [(0, rv z 117), (1, iv 0)]) [1, 0] rfl ?_
  exact (M_rules_b_ok hdd _ _ _ _ h).1 rfl
theorem M_fault_ok {z : AZ} {x1 : Int} {g : AG} : AMf z yX12_fault cX12_fault 2 (some .int) 0 [rv z 117, iv x1] g ((M_fault x1 g), g) := by
  intro d hdd
  refine AM.of (by decide +kernel) (Nat.le_of_ble_eq_true rfl) ?_
  show AW z (RX12, cX12_fault, 2, (some .int)) d (QD (some .int) ((M_fault x1 g), g)) 0 [(0, rv z 117), (1, iv x1)] [] g
  refine AW.iload_n 1 (dcN_0 dcg_582 :) rfl ?_
  refine AW.join (tgt := 24) (lv1 := [(0, rv z 117), (1, iv x1)]) (st1 := [iv (if nw x1 = 0 then (g 117 44) else (if nw x1 = 1 then (g 117 46) else (-1)))]) (g1 := g) ?_ (fun J1 => ?_)
  · exact AW.iret rfl dX12_fault_24 ⟨congrArg (fun v => some (iv v)) (show M_fault x1 g = (if nw x1 = 0 then (g 117 44) else (if nw x1 = 1 then (g 117 46) else (-1))) from rfl).symm, rfl⟩
  refine AW.if_ne (tgt := 11) (dcN_1 dcg_582 :) (by decide) (fun c1 => ?_) (fun c1 => ?_)
  · refine AW.iload_n 1 (dcN_5 dcg_582 :) rfl ?_
    refine AW.iconst (dcN_6 dcg_582 :) ?_
    refine AW.icmp_ne (tgt := 23) (dcN_7 dcg_582 :) (by decide) (fun c2 => ?_) (fun c2 => ?_)
    · refine AW.iconst (dcN_11 dcg_582 :) ?_
      exact AW.val ((if_neg c1).trans (if_neg c2)) J1
    · refine AW.aloadr_n 0 (dcN_8 dcg_582 :) rfl ?_
      refine AW.getI af_X12_112_117 sr_117_46 (dcN_9 dcg_582 :) ?_
      refine AW.goto (tgt := 24) (dcN_10 dcg_582 :) (by decide) ?_
      exact AW.val ((if_neg c1).trans (if_pos c2)) J1
  · refine AW.aloadr_n 0 (dcN_2 dcg_582 :) rfl ?_
    refine AW.getI af_X12_384_117 sr_117_44 (dcN_3 dcg_582 :) ?_
    refine AW.goto (tgt := 24) (dcN_4 dcg_582 :) (by decide) ?_
    exact AW.val (if_pos c1) J1
set_option synthInstance.maxHeartbeats 2000000 in
theorem M_forgets_b_ok {z : AZ} {d : Nat} (hdd : 0 ≤ d) : ∀ (x1 : Int) (g : AG) (r : Int × AG), M_forgets_b x1 g = some r → AW z (RX12, cX12_forgets, 2, none) d (QD none r) 2 [(0, rv z 117), (1, iv x1)] [] g := by
  refine M_forgets_b.partial_correctness (fun x1 g r => AW z (RX12, cX12_forgets, 2, none) d (QD none r) 2 [(0, rv z 117), (1, iv x1)] [] g) ?_
  intro fb9 ih x1 g r h
  refine AW.iload_n 1 (dcN_2 dcg_596 :) rfl ?_
  refine AW.bipush (dcN_3 dcg_596 :) (by decide) (by decide) ?_
  refine AW.icmp_ge (tgt := 21) (dcN_4 dcg_596 :) (by decide) (fun c1 => ?_) (fun c1 => ?_)
  · replace h := hT h c1
    exact AW.vret1 rfl dX12_forgets_21 h rfl
  · replace h := hF h c1
    refine AW.aloadr_n 0 (dcN_5 dcg_596 :) rfl ?_
    refine AW.getR af_X12_109_117 sr_117_33 (dcN_6 dcg_596 :) ?_
    refine AW.iload_n 1 (dcN_7 dcg_596 :) rfl ?_
    refine AW.iconst (dcN_8 dcg_596 :) ?_
    obtain ⟨k2, h⟩ := hK h
    obtain ⟨g3, e4, h⟩ := hBe h
    refine AW.iast kc_148 sk_148 k2 (dcN_9 dcg_596 :) e4 ?_
    refine AW.iinc (lv1 := [(1, iv (x1 + 1)), (0, rv z 117)]) 1 (dcN_10 dcg_596 :) rfl (by decide) rfl ?_
    refine AW.goto (tgt := 2) (dcN_11 dcg_596 :) (by decide) ?_
    refine AW.sub (lv1 := [(0, rv z 117), (1, iv (x1 + 1))]) [1, 0] rfl ?_
    exact ih _ _ _ h
theorem M_forgets_ok {z : AZ} {g : AG} {r : Int × AG} (h : M_forgets g = some r) : AMf z yX12_forgets cX12_forgets 2 none 0 [rv z 117] g r := by
  intro d hdd
  refine AM.of (by decide +kernel) (Nat.le_of_ble_eq_true rfl) ?_
  show AW z (RX12, cX12_forgets, 2, none) d (QD none r) 0 [(0, rv z 117)] [] g
  unfold M_forgets at h
  refine AW.iconst (dcN_0 dcg_596 :) ?_
  refine AW.istore_n (lv1 := [(1, iv 0), (0, rv z 117)]) (dcN_1 dcg_596 :) (by decide) rfl ?_
  refine AW.sub (lv1 := [(0, rv z 117), (1, iv 0)]) [1, 0] rfl ?_
  exact M_forgets_b_ok hdd _ _ _ h
theorem M_both_ok {z : AZ} {x0 : Int} {x1 : Int} {x2 : Int} {g : AG} : AMf z yX12_both cX12_both 3 (some .int) 0 [iv x0, iv x1, iv x2] g ((M_both x0 x1 x2), g) := by
  intro d hdd
  refine AM.of (by decide +kernel) (Nat.le_of_ble_eq_true rfl) ?_
  show AW z (RX12, cX12_both, 3, (some .int)) d (QD (some .int) ((M_both x0 x1 x2), g)) 0 [(0, iv x0), (1, iv x1), (2, iv x2)] [] g
  refine AW.iload_n 0 (dcN_0 dcg_583 :) rfl ?_
  by_cases c1 : nw x0 = 10
  · refine AW.tsIn (tgt := 52) 10 dX12_both_1 c1 (by decide) (by decide) (by rfl) (by decide) ?_
    refine AW.iload_n 1 (dcN_0 dcg_584 :) rfl ?_
    refine AW.iload_n 2 (dcN_1 dcg_584 :) rfl ?_
    refine AW.iadd (dcN_2 dcg_584 :) ?_
    exact AW.iret rfl (dcN_3 dcg_584 :) ⟨congrArg (fun v => some (iv v)) (show M_both x0 x1 x2  = (x1 + x2) from ((if_pos c1))).symm, rfl⟩
  · by_cases c2 : nw x0 = 11
    · refine AW.tsIn (tgt := 56) 11 dX12_both_1 c2 (by decide) (by decide) (by rfl) (by decide) ?_
      refine AW.iload_n 1 (dcN_4 dcg_584 :) rfl ?_
      refine AW.iload_n 2 (dcN_5 dcg_584 :) rfl ?_
      refine AW.isub (dcN_6 dcg_584 :) ?_
      exact AW.iret rfl (dcN_7 dcg_584 :) ⟨congrArg (fun v => some (iv v)) (show M_both x0 x1 x2  = (x1 - x2) from (((if_neg c1).trans (if_pos c2)))).symm, rfl⟩
    · by_cases c3 : nw x0 = 12
      · refine AW.tsIn (tgt := 60) 12 dX12_both_1 c3 (by decide) (by decide) (by rfl) (by decide) ?_
        refine AW.iload_n 1 (dcN_8 dcg_584 :) rfl ?_
        refine AW.iload_n 2 (dcN_9 dcg_584 :) rfl ?_
        refine AW.imul (dcN_10 dcg_584 :) ?_
        exact AW.iret rfl (dcN_11 dcg_584 :) ⟨congrArg (fun v => some (iv v)) (show M_both x0 x1 x2  = (x1 * x2) from (((if_neg c1).trans ((if_neg c2).trans (if_pos c3))))).symm, rfl⟩
      · by_cases c4 : nw x0 = 13
        · refine AW.tsIn (tgt := 101) 13 dX12_both_1 c4 (by decide) (by decide) (by rfl) (by decide) ?_
          refine AW.iload_n 1 (dcN_5 dcg_586 :) rfl ?_
          refine AW.iload_n 2 (dcN_6 dcg_586 :) rfl ?_
          refine AW.ior (dcN_7 dcg_586 :) ?_
          exact AW.iret rfl (dcN_8 dcg_586 :) ⟨congrArg (fun v => some (iv v)) (show M_both x0 x1 x2  = (orI x1 x2) from (((if_neg c1).trans ((if_neg c2).trans ((if_neg c3).trans (if_pos c4)))))).symm, rfl⟩
        · by_cases c5 : nw x0 = 14
          · refine AW.tsIn (tgt := 64) 14 dX12_both_1 c5 (by decide) (by decide) (by rfl) (by decide) ?_
            refine AW.iload_n 1 (dcN_0 dcg_585 :) rfl ?_
            refine AW.iload_n 2 (dcN_1 dcg_585 :) rfl ?_
            refine AW.join (tgt := 74) (lv1 := [(0, iv x0), (1, iv x1), (2, iv x2)]) (st1 := [iv (if nw x2 ≤ nw x1 then 0 else 1)]) (g1 := g) ?_ (fun J66 => ?_)
            · exact AW.iret rfl (dcN_6 dcg_585 :) ⟨congrArg (fun v => some (iv v)) (show M_both x0 x1 x2  = (if nw x2 ≤ nw x1 then 0 else 1) from (((if_neg c1).trans ((if_neg c2).trans ((if_neg c3).trans ((if_neg c4).trans (if_pos c5))))))).symm, rfl⟩
            refine AW.icmp_ge (tgt := 73) (dcN_2 dcg_585 :) (by decide) (fun c6 => ?_) (fun c6 => ?_)
            · refine AW.iconst (dcN_5 dcg_585 :) ?_
              exact AW.val (if_pos c6) J66
            · refine AW.iconst (dcN_3 dcg_585 :) ?_
              refine AW.goto (tgt := 74) (dcN_4 dcg_585 :) (by decide) ?_
              exact AW.val (if_neg c6) J66
          · by_cases c7 : nw x0 = 15
            · refine AW.tsIn (tgt := 75) 15 dX12_both_1 c7 (by decide) (by decide) (by rfl) (by decide) ?_
              refine AW.iload_n 1 (dcN_7 dcg_585 :) rfl ?_
              refine AW.iload_n 2 (dcN_8 dcg_585 :) rfl ?_
              refine AW.join (tgt := 85) (lv1 := [(0, iv x0), (1, iv x1), (2, iv x2)]) (st1 := [iv (if nw x1 = nw x2 then 1 else 0)]) (g1 := g) ?_ (fun J77 => ?_)
              · exact AW.iret rfl (dcN_13 dcg_585 :) ⟨congrArg (fun v => some (iv v)) (show M_both x0 x1 x2  = (if nw x1 = nw x2 then 1 else 0) from (((if_neg c1).trans ((if_neg c2).trans ((if_neg c3).trans ((if_neg c4).trans ((if_neg c5).trans (if_pos c7)))))))).symm, rfl⟩
              refine AW.icmp_ne (tgt := 84) (dcN_9 dcg_585 :) (by decide) (fun c8 => ?_) (fun c8 => ?_)
              · refine AW.iconst (dcN_12 dcg_585 :) ?_
                exact AW.val (if_neg c8) J77
              · refine AW.iconst (dcN_10 dcg_585 :) ?_
                refine AW.goto (tgt := 85) (dcN_11 dcg_585 :) (by decide) ?_
                exact AW.val (if_pos c8) J77
            · by_cases c9 : nw x0 = 16
              · refine AW.tsIn (tgt := 86) 16 dX12_both_1 c9 (by decide) (by decide) (by rfl) (by decide) ?_
                refine AW.iload_n 1 (dcN_14 dcg_585 :) rfl ?_
                refine AW.iload_n 2 (dcN_15 dcg_585 :) rfl ?_
                refine AW.join (tgt := 96) (lv1 := [(0, iv x0), (1, iv x1), (2, iv x2)]) (st1 := [iv (if nw x1 ≤ nw x2 then 0 else 1)]) (g1 := g) ?_ (fun J88 => ?_)
                · exact AW.iret rfl (dcN_0 dcg_586 :) ⟨congrArg (fun v => some (iv v)) (show M_both x0 x1 x2  = (if nw x1 ≤ nw x2 then 0 else 1) from (((if_neg c1).trans ((if_neg c2).trans ((if_neg c3).trans ((if_neg c4).trans ((if_neg c5).trans ((if_neg c7).trans (if_pos c9))))))))).symm, rfl⟩
                refine AW.icmp_le (tgt := 95) (dcN_16 dcg_585 :) (by decide) (fun c10 => ?_) (fun c10 => ?_)
                · refine AW.iconst (dcN_19 dcg_585 :) ?_
                  exact AW.val (if_pos c10) J88
                · refine AW.iconst (dcN_17 dcg_585 :) ?_
                  refine AW.goto (tgt := 96) (dcN_18 dcg_585 :) (by decide) ?_
                  exact AW.val (if_neg c10) J88
              · by_cases c11 : nw x0 = 17
                · refine AW.tsIn (tgt := 101) 17 dX12_both_1 c11 (by decide) (by decide) (by rfl) (by decide) ?_
                  refine AW.iload_n 1 (dcN_5 dcg_586 :) rfl ?_
                  refine AW.iload_n 2 (dcN_6 dcg_586 :) rfl ?_
                  refine AW.ior (dcN_7 dcg_586 :) ?_
                  exact AW.iret rfl (dcN_8 dcg_586 :) ⟨congrArg (fun v => some (iv v)) (show M_both x0 x1 x2  = (orI x1 x2) from (((if_neg c1).trans ((if_neg c2).trans ((if_neg c3).trans ((if_neg c4).trans ((if_neg c5).trans ((if_neg c7).trans ((if_neg c9).trans (if_pos c11)))))))))).symm, rfl⟩
                · by_cases c12 : nw x0 = 18
                  · refine AW.tsIn (tgt := 97) 18 dX12_both_1 c12 (by decide) (by decide) (by rfl) (by decide) ?_
                    refine AW.iload_n 1 (dcN_1 dcg_586 :) rfl ?_
                    refine AW.iload_n 2 (dcN_2 dcg_586 :) rfl ?_
                    refine AW.iand (dcN_3 dcg_586 :) ?_
                    exact AW.iret rfl (dcN_4 dcg_586 :) ⟨congrArg (fun v => some (iv v)) (show M_both x0 x1 x2  = (andI x1 x2) from (((if_neg c1).trans ((if_neg c2).trans ((if_neg c3).trans ((if_neg c4).trans ((if_neg c5).trans ((if_neg c7).trans ((if_neg c9).trans ((if_neg c11).trans (if_pos c12))))))))))).symm, rfl⟩
                  · refine AW.tsOut (tgt := 101) dX12_both_1 (by omega) (by decide) ?_
                    refine AW.iload_n 1 (dcN_5 dcg_586 :) rfl ?_
                    refine AW.iload_n 2 (dcN_6 dcg_586 :) rfl ?_
                    refine AW.ior (dcN_7 dcg_586 :) ?_
                    exact AW.iret rfl (dcN_8 dcg_586 :) ⟨congrArg (fun v => some (iv v)) (show M_both x0 x1 x2  = (orI x1 x2) from (((if_neg c1).trans ((if_neg c2).trans ((if_neg c3).trans ((if_neg c4).trans ((if_neg c5).trans ((if_neg c7).trans ((if_neg c9).trans ((if_neg c11).trans (if_neg c12))))))))))).symm, rfl⟩
set_option synthInstance.maxHeartbeats 2000000 in
theorem M_comesTo_b_ok {z : AZ} {d : Nat} (hdd : 1 ≤ d) {x2 : Int} : ∀ (x3 : Int) (x4 : Int) (g : AG) (r : Int × AG), M_comesTo_b x2 x3 x4 g = some r → AW z (RX12, cX12_comesTo, 7, (some .int)) d (QD (some .int) r) 5 [(0, rv z 117), (2, iv x2), (3, iv x3), (4, iv x4)] [] g := by
  refine M_comesTo_b.partial_correctness x2 (fun x3 x4 g r => AW z (RX12, cX12_comesTo, 7, (some .int)) d (QD (some .int) r) 5 [(0, rv z 117), (2, iv x2), (3, iv x3), (4, iv x4)] [] g) ?_
  intro fb9 ih x3 x4 g r h
  refine AW.iload 3 (dcN_4 dcg_587 :) rfl ?_
  refine AW.iload_n 1 (dcN_5 dcg_587 :) rfl ?_
  refine AW.icmp_ge (tgt := 158) (dcN_6 dcg_587 :) (by decide) (fun c1 => ?_) (fun c1 => ?_)
  · replace h := hT h c1
    refine AW.aloadr_n 0 (dcN_18 dcg_591 :) rfl ?_
    refine AW.getR af_X12_106_117 sr_117_32 (dcN_19 dcg_591 :) ?_
    refine AW.iconst (dcN_0 dcg_592 :) ?_
    refine AW.iald kc_147 sk_147 (by decide) (dcN_1 dcg_592 :) ?_
    exact AW.iret1 rfl (dcN_2 dcg_592 :) h rfl
  · replace h := hF h c1
    refine AW.aloadr_n 0 (dcN_7 dcg_587 :) rfl ?_
    refine AW.getR af_X12_66_117 sr_117_19 (dcN_8 dcg_587 :) ?_
    refine AW.iconst (dcN_9 dcg_587 :) ?_
    refine AW.iload 3 (dcN_10 dcg_587 :) rfl ?_
    refine AW.imul (dcN_11 dcg_587 :) ?_
    obtain ⟨k2, h⟩ := hK h
    refine AW.iald kc_134 sk_134 k2 (dcN_12 dcg_587 :) ?_
    refine AW.istore (lv1 := [(5, iv (g 134 (ix (2 * x4)))), (0, rv z 117), (2, iv x2), (3, iv x3), (4, iv x4)]) (dcN_13 dcg_587 :) (by decide) rfl ?_
    refine AW.aloadr_n 1 (dcN_14 dcg_587 :) rfl ?_
    refine AW.getR af_X12_66_117 sr_117_19 (dcN_15 dcg_587 :) ?_
    refine AW.iconst (dcN_16 dcg_587 :) ?_
    refine AW.iload 4 (dcN_17 dcg_587 :) rfl ?_
    refine AW.imul (dcN_18 dcg_587 :) ?_
    refine AW.iconst (dcN_19 dcg_587 :) ?_
    refine AW.iadd (dcN_20 dcg_587 :) ?_
    obtain ⟨k3, h⟩ := hK h
    refine AW.iald kc_134 sk_134 k3 (dcN_0 dcg_588 :) ?_
    refine AW.istore (lv1 := [(6, iv (g 134 (ix ((2 * x4) + 1)))), (5, iv (g 134 (ix (2 * x4)))), (0, rv z 117), (2, iv x2), (3, iv x3), (4, iv x4)]) (dcN_1 dcg_588 :) (by decide) rfl ?_
    refine AW.iload 1 (dcN_2 dcg_588 :) rfl ?_
    refine AW.bipush (dcN_3 dcg_588 :) (by decide) (by decide) ?_
    obtain ⟨r25, e26, h⟩ := hC h
    refine AW.join (tgt := 152) (lv1 := [(0, rv z 117), (2, iv x2), (3, iv r25.1), (4, iv x4)]) (st1 := []) (g1 := r25.2) ?_ (fun J39 => ?_)
    · refine AW.iinc (lv1 := [(4, iv (x4 + 1)), (0, rv z 117), (2, iv x2), (3, iv r25.1)]) 3 (dcN_16 dcg_591 :) rfl (by decide) rfl ?_
      refine AW.goto (tgt := 5) (dcN_17 dcg_591 :) (by decide) ?_
      refine AW.sub (lv1 := [(0, rv z 117), (2, iv x2), (3, iv r25.1), (4, iv (x4 + 1))]) [1, 2, 3, 0] rfl ?_
      exact ih _ _ _ _ h
    replace h := e26
    refine AW.icmp_ge (tgt := 71) (dcN_4 dcg_588 :) (by decide) (fun c4 => ?_) (fun c4 => ?_)
    · replace h := hT h c4
      refine AW.iload 1 (dcN_3 dcg_589 :) rfl ?_
      refine AW.bipush (dcN_4 dcg_589 :) (by decide) (by decide) ?_
      refine AW.icmp_ne (tgt := 94) (dcN_5 dcg_589 :) (by decide) (fun c5 => ?_) (fun c5 => ?_)
      · replace h := hF h c5
        refine AW.iload 1 (dcN_17 dcg_589 :) rfl ?_
        refine AW.bipush (dcN_0 dcg_590 :) (by decide) (by decide) ?_
        refine AW.icmp_ne (tgt := 122) (dcN_1 dcg_590 :) (by decide) (fun c6 => ?_) (fun c6 => ?_)
        · replace h := hF h c6
          refine AW.iinc (lv1 := [(3, iv (x3 + (-1))), (6, iv (g 134 (ix ((2 * x4) + 1)))), (5, iv (g 134 (ix (2 * x4)))), (0, rv z 117), (2, iv x2), (4, iv x4)]) 4 (dcN_17 dcg_590 :) rfl (by decide) rfl ?_
          refine AW.aloadr_n 3 (dcN_18 dcg_590 :) rfl ?_
          refine AW.getR af_X12_106_117 sr_117_32 (dcN_19 dcg_590 :) ?_
          refine AW.iload_n 0 (dcN_0 dcg_591 :) rfl ?_
          refine AW.iconst (dcN_1 dcg_591 :) ?_
          refine AW.isub (dcN_2 dcg_591 :) ?_
          refine AW.iload 2 (dcN_3 dcg_591 :) rfl ?_
          refine AW.aloadr_n 3 (dcN_4 dcg_591 :) rfl ?_
          refine AW.getR af_X12_106_117 sr_117_32 (dcN_5 dcg_591 :) ?_
          refine AW.iload_n 0 (dcN_6 dcg_591 :) rfl ?_
          refine AW.iconst (dcN_7 dcg_591 :) ?_
          refine AW.isub (dcN_8 dcg_591 :) ?_
          obtain ⟨k7, h⟩ := hK h
          refine AW.iald kc_147 sk_147 k7 (dcN_9 dcg_591 :) ?_
          refine AW.aloadr_n 3 (dcN_10 dcg_591 :) rfl ?_
          refine AW.getR af_X12_106_117 sr_117_32 (dcN_11 dcg_591 :) ?_
          refine AW.iload_n 0 (dcN_12 dcg_591 :) rfl ?_
          obtain ⟨k8, h⟩ := hK h
          refine AW.iald kc_147 sk_147 k8 (dcN_13 dcg_591 :) ?_
          refine AW.callSi (As := [iv (g 134 (ix (2 * x4))), iv (g 147 (ix ((x3 + (-1)) - 1))), iv (g 147 (ix (x3 + (-1))))]) (st := [iv ((x3 + (-1)) - 1), rv z 147]) M_both_ok cq_X12_393 st_X12_both (Nat.le_trans (by decide) hdd) rfl (dcN_14 dcg_591 :) rfl (Nat.le_of_ble_eq_true rfl) ?_
          obtain ⟨g9, e10, h⟩ := hBe h
          refine AW.iast kc_147 sk_147 k7 (dcN_15 dcg_591 :) e10 ?_
          refine AW.sub (lv1 := [(0, rv z 117), (2, iv x2), (3, iv (x3 + (-1))), (4, iv x4)]) [3, 4, 0, 5] rfl ?_
          cases h
          exact J39
        · replace h := hT h c6
          refine AW.aloadr_n 2 (dcN_2 dcg_590 :) rfl ?_
          refine AW.getR af_X12_106_117 sr_117_32 (dcN_3 dcg_590 :) ?_
          refine AW.iload_n 4 (dcN_4 dcg_590 :) rfl ?_
          refine AW.iconst (dcN_5 dcg_590 :) ?_
          refine AW.isub (dcN_6 dcg_590 :) ?_
          refine AW.iconst (dcN_7 dcg_590 :) ?_
          refine AW.aloadr_n 2 (dcN_8 dcg_590 :) rfl ?_
          refine AW.getR af_X12_106_117 sr_117_32 (dcN_9 dcg_590 :) ?_
          refine AW.iload_n 4 (dcN_10 dcg_590 :) rfl ?_
          refine AW.iconst (dcN_11 dcg_590 :) ?_
          refine AW.isub (dcN_12 dcg_590 :) ?_
          obtain ⟨k11, h⟩ := hK h
          refine AW.iald kc_147 sk_147 k11 (dcN_13 dcg_590 :) ?_
          refine AW.isub (dcN_14 dcg_590 :) ?_
          obtain ⟨g12, e13, h⟩ := hBe h
          refine AW.iast kc_147 sk_147 k11 (dcN_15 dcg_590 :) e13 ?_
          refine AW.goto (tgt := 152) (dcN_16 dcg_590 :) (by decide) ?_
          refine AW.sub (lv1 := [(0, rv z 117), (2, iv x2), (3, iv x3), (4, iv x4)]) [2, 3, 4, 5] rfl ?_
          cases h
          exact J39
      · replace h := hT h c5
        refine AW.aloadr_n 2 (dcN_6 dcg_589 :) rfl ?_
        refine AW.getR af_X12_106_117 sr_117_32 (dcN_7 dcg_589 :) ?_
        refine AW.iload_n 4 (dcN_8 dcg_589 :) rfl ?_
        refine AW.iconst (dcN_9 dcg_589 :) ?_
        refine AW.isub (dcN_10 dcg_589 :) ?_
        refine AW.dup2r (dcN_11 dcg_589 :) ?_
        obtain ⟨k14, h⟩ := hK h
        refine AW.iald kc_147 sk_147 k14 (dcN_12 dcg_589 :) ?_
        refine AW.iload 0 (dcN_13 dcg_589 :) rfl ?_
        obtain ⟨k15, h⟩ := hK h
        refine AW.idiv (dcN_14 dcg_589 :) k15 ?_
        obtain ⟨g16, e17, h⟩ := hBe h
        refine AW.iast kc_147 sk_147 k14 (dcN_15 dcg_589 :) e17 ?_
        refine AW.goto (tgt := 152) (dcN_16 dcg_589 :) (by decide) ?_
        refine AW.sub (lv1 := [(0, rv z 117), (2, iv x2), (3, iv x3), (4, iv x4)]) [2, 3, 4, 5] rfl ?_
        cases h
        exact J39
    · replace h := hF h c4
      refine AW.aloadr_n 2 (dcN_5 dcg_588 :) rfl ?_
      refine AW.getR af_X12_106_117 sr_117_32 (dcN_6 dcg_588 :) ?_
      refine AW.iload_n 4 (dcN_7 dcg_588 :) rfl ?_
      refine AW.iload 1 (dcN_8 dcg_588 :) rfl ?_
      obtain ⟨r20, e21, h⟩ := hC h
      refine AW.join (tgt := 64) (lv1 := [(0, rv z 117), (2, iv x2), (3, iv x3), (4, iv x4)]) (st1 := [iv r20.1, iv x3, rv z 147]) (g1 := r20.2) ?_ (fun J49 => ?_)
      · obtain ⟨k22, h⟩ := hK h
        obtain ⟨g23, e24, h⟩ := hBe h
        refine AW.iast kc_147 sk_147 k22 (dcN_0 dcg_589 :) e24 ?_
        refine AW.iinc (lv1 := [(3, iv (x3 + 1)), (0, rv z 117), (2, iv x2), (4, iv x4)]) 2 (dcN_1 dcg_589 :) rfl (by decide) rfl ?_
        refine AW.goto (tgt := 152) (dcN_2 dcg_589 :) (by decide) ?_
        refine AW.sub (lv1 := [(0, rv z 117), (2, iv x2), (3, iv (x3 + 1)), (4, iv x4)]) [1, 2, 0, 3] rfl ?_
        cases h
        exact J39
      replace h := e21
      refine AW.if_ne (tgt := 57) (dcN_9 dcg_588 :) (by decide) (fun c18 => ?_) (fun c18 => ?_)
      · replace h := hF h c18
        refine AW.aloadr_n 2 (dcN_12 dcg_588 :) rfl ?_
        refine AW.getR af_X12_109_117 sr_117_33 (dcN_13 dcg_588 :) ?_
        refine AW.iload 1 (dcN_14 dcg_588 :) rfl ?_
        obtain ⟨k19, h⟩ := hK h
        refine AW.iald kc_148 sk_148 k19 (dcN_15 dcg_588 :) ?_
        refine AW.sub (lv1 := [(0, rv z 117), (2, iv x2), (3, iv x3), (4, iv x4)]) [2, 3, 4, 5] rfl ?_
        cases h
        exact J49
      · replace h := hT h c18
        refine AW.iload 0 (dcN_10 dcg_588 :) rfl ?_
        refine AW.goto (tgt := 64) (dcN_11 dcg_588 :) (by decide) ?_
        refine AW.sub (lv1 := [(0, rv z 117), (2, iv x2), (3, iv x3), (4, iv x4)]) [2, 3, 4, 5] rfl ?_
        cases h
        exact J49
theorem M_comesTo_ok {z : AZ} {x1 : Int} {x2 : Int} {g : AG} {r : Int × AG} (h : M_comesTo x1 x2 g = some r) : AMf z yX12_comesTo cX12_comesTo 7 (some .int) 1 [rv z 117, iv x1, iv x2] g r := by
  intro d hdd
  refine AM.of (by decide +kernel) (Nat.le_of_ble_eq_true rfl) ?_
  show AW z (RX12, cX12_comesTo, 7, (some .int)) d (QD (some .int) r) 0 [(0, rv z 117), (1, iv x1), (2, iv x2)] [] g
  unfold M_comesTo at h
  refine AW.iconst (dcN_0 dcg_587 :) ?_
  refine AW.istore_n (lv1 := [(3, iv 0), (0, rv z 117), (1, iv x1), (2, iv x2)]) (dcN_1 dcg_587 :) (by decide) rfl ?_
  refine AW.iload_n 2 (dcN_2 dcg_587 :) rfl ?_
  refine AW.istore (lv1 := [(4, iv x1), (3, iv 0), (0, rv z 117), (1, iv x1), (2, iv x2)]) (dcN_3 dcg_587 :) (by decide) rfl ?_
  refine AW.sub (lv1 := [(0, rv z 117), (2, iv x2), (3, iv 0), (4, iv x1)]) [2, 4, 1, 0] rfl ?_
  exact M_comesTo_b_ok hdd _ _ _ _ h
set_option synthInstance.maxHeartbeats 2000000 in
theorem M_serves_b_ok {z : AZ} {d : Nat} (hdd : 2 ≤ d) {x1 : Int} : ∀ (tag : Nat) (x2 : Int) (g : AG) (r : Int × AG), M_serves_b x1 tag x2 g = some r → (tag = 1 → AW z (RX12, cX12_serves, 3, (some .int)) d (QD (some .int) r) 2 [(0, rv z 117), (1, iv x1), (2, iv x2)] [] g) ∧ (tag = 2 → AW z (RX12, cX12_serves, 3, (some .int)) d (QD (some .int) r) 57 [(0, rv z 117), (1, iv x1), (2, iv x2)] [] g) := by
  refine M_serves_b.partial_correctness x1 (fun tag x2 g r => (tag = 1 → AW z (RX12, cX12_serves, 3, (some .int)) d (QD (some .int) r) 2 [(0, rv z 117), (1, iv x1), (2, iv x2)] [] g) ∧ (tag = 2 → AW z (RX12, cX12_serves, 3, (some .int)) d (QD (some .int) r) 57 [(0, rv z 117), (1, iv x1), (2, iv x2)] [] g)) ?_
  intro fb9 ih tag x2 g r h
  refine ⟨fun h9 => ?_, fun h9 => ?_⟩
  · subst h9
    replace h := hT h rfl
    refine AW.iload_n 2 (dcN_2 dcg_593 :) rfl ?_
    refine AW.aloadr_n 0 (dcN_3 dcg_593 :) rfl ?_
    refine AW.getI af_X12_390_117 sr_117_34 (dcN_4 dcg_593 :) ?_
    refine AW.icmp_ge (tgt := 63) (dcN_5 dcg_593 :) (by decide) (fun c1 => ?_) (fun c1 => ?_)
    · replace h := hT h c1
      refine AW.iconst (dcN_17 dcg_594 :) ?_
      exact AW.iret1 rfl (dcN_0 dcg_595 :) h rfl
    · replace h := hF h c1
      refine AW.aloadr_n 0 (dcN_6 dcg_593 :) rfl ?_
      refine AW.getR af_X12_48_117 sr_117_13 (dcN_7 dcg_593 :) ?_
      refine AW.iload_n 2 (dcN_8 dcg_593 :) rfl ?_
      obtain ⟨k2, h⟩ := hK h
      refine AW.iald kc_128 sk_128 k2 (dcN_9 dcg_593 :) ?_
      refine AW.iload_n 1 (dcN_10 dcg_593 :) rfl ?_
      refine AW.icmp_ne (tgt := 57) (dcN_11 dcg_593 :) (by decide) (fun c3 => ?_) (fun c3 => ?_)
      · replace h := hF h c3
        exact (ih _ _ _ _ h).2 rfl
      · replace h := hT h c3
        refine AW.aloadr_n 0 (dcN_12 dcg_593 :) rfl ?_
        refine AW.getR af_X12_63_117 sr_117_18 (dcN_13 dcg_593 :) ?_
        refine AW.iload_n 2 (dcN_14 dcg_593 :) rfl ?_
        refine AW.iald kc_133 sk_133 k2 (dcN_15 dcg_593 :) ?_
        refine AW.aloadr_n 0 (dcN_16 dcg_593 :) rfl ?_
        refine AW.getR af_X12_60_117 sr_117_17 (dcN_17 dcg_593 :) ?_
        refine AW.iload_n 2 (dcN_18 dcg_593 :) rfl ?_
        refine AW.iald kc_132 sk_132 k2 (dcN_19 dcg_593 :) ?_
        refine AW.icmp_eq (tgt := 55) (dcN_0 dcg_594 :) (by decide) (fun c4 => ?_) (fun c4 => ?_)
        · replace h := hT h c4
          refine AW.iload_n 2 (dcN_13 dcg_594 :) rfl ?_
          exact AW.iret1 rfl (dcN_14 dcg_594 :) h rfl
        · replace h := hF h c4
          refine AW.aloadr_n 0 (dcN_1 dcg_594 :) rfl ?_
          refine AW.aloadr_n 0 (dcN_2 dcg_594 :) rfl ?_
          refine AW.getR af_X12_60_117 sr_117_17 (dcN_3 dcg_594 :) ?_
          refine AW.iload_n 2 (dcN_4 dcg_594 :) rfl ?_
          refine AW.iald kc_132 sk_132 k2 (dcN_5 dcg_594 :) ?_
          refine AW.aloadr_n 0 (dcN_6 dcg_594 :) rfl ?_
          refine AW.getR af_X12_63_117 sr_117_18 (dcN_7 dcg_594 :) ?_
          refine AW.iload_n 2 (dcN_8 dcg_594 :) rfl ?_
          refine AW.iald kc_133 sk_133 k2 (dcN_9 dcg_594 :) ?_
          obtain ⟨r5, e6, h⟩ := hC h
          refine AW.callVi (As := [iv (g 132 (ix x2)), iv (g 133 (ix x2))]) (st := []) (M_comesTo_ok e6) cq_X12_397 cr_117_X12_comesTo (Nat.le_trans (by decide) hdd) rfl (dcN_10 dcg_594 :) rfl (Nat.le_of_ble_eq_true rfl) ?_
          refine AW.iconst (dcN_11 dcg_594 :) ?_
          refine AW.icmp_ne (tgt := 57) (dcN_12 dcg_594 :) (by decide) (fun c7 => ?_) (fun c7 => ?_)
          · replace h := hF h c7
            exact (ih _ _ _ _ h).2 rfl
          · replace h := hT h c7
            refine AW.iload_n 2 (dcN_13 dcg_594 :) rfl ?_
            exact AW.iret1 rfl (dcN_14 dcg_594 :) h rfl
  · subst h9
    replace h := hF h (by decide)
    replace h := hT h rfl
    refine AW.iinc (lv1 := [(2, iv (x2 + 1)), (0, rv z 117), (1, iv x1)]) 2 (dcN_15 dcg_594 :) rfl (by decide) rfl ?_
    refine AW.goto (tgt := 2) (dcN_16 dcg_594 :) (by decide) ?_
    refine AW.sub (lv1 := [(0, rv z 117), (1, iv x1), (2, iv (x2 + 1))]) [1, 2, 0] rfl ?_
    exact (ih _ _ _ _ h).1 rfl
theorem M_serves_ok {z : AZ} {x1 : Int} {g : AG} {r : Int × AG} (h : M_serves x1 g = some r) : AMf z yX12_serves cX12_serves 3 (some .int) 2 [rv z 117, iv x1] g r := by
  intro d hdd
  refine AM.of (by decide +kernel) (Nat.le_of_ble_eq_true rfl) ?_
  show AW z (RX12, cX12_serves, 3, (some .int)) d (QD (some .int) r) 0 [(0, rv z 117), (1, iv x1)] [] g
  unfold M_serves at h
  refine AW.iconst (dcN_0 dcg_593 :) ?_
  refine AW.istore_n (lv1 := [(2, iv 0), (0, rv z 117), (1, iv x1)]) (dcN_1 dcg_593 :) (by decide) rfl ?_
  refine AW.sub (lv1 := [(0, rv z 117), (1, iv x1), (2, iv 0)]) [1, 2, 0] rfl ?_
  exact (M_serves_b_ok hdd _ _ _ _ h).1 rfl
theorem M_locksLine_ok {z : AZ} {x1 : Int} {g : AG} {r : Int × AG} (h : M_locksLine x1 g = some r) : AMf z yX12_locksLine cX12_locksLine 2 (some .int) 3 [rv z 117, iv x1] g r := by
  intro d hdd
  refine AM.of (by decide +kernel) (Nat.le_of_ble_eq_true rfl) ?_
  show AW z (RX12, cX12_locksLine, 2, (some .int)) d (QD (some .int) r) 0 [(0, rv z 117), (1, iv x1)] [] g
  unfold M_locksLine at h
  refine AW.aloadr_n 0 (dcN_0 dcg_597 :) rfl ?_
  obtain ⟨r1, e2, h⟩ := hC h
  refine AW.callVv (As := []) (st := []) (M_forgets_ok e2) cq_X12_401 cr_117_X12_forgets (Nat.le_trans (by decide) hdd) rfl (dcN_1 dcg_597 :) rfl (Nat.le_of_ble_eq_true rfl) ?_
  refine AW.aloadr_n 0 (dcN_2 dcg_597 :) rfl ?_
  refine AW.getR af_X12_109_117 sr_117_33 (dcN_3 dcg_597 :) ?_
  refine AW.iconst (dcN_4 dcg_597 :) ?_
  refine AW.iload_n 1 (dcN_5 dcg_597 :) rfl ?_
  refine AW.bipush (dcN_6 dcg_597 :) (by decide) (by decide) ?_
  refine AW.irem (dcN_7 dcg_597 :) (by decide) ?_
  obtain ⟨g3, e4, h⟩ := hBe h
  refine AW.iast kc_148 sk_148 (by decide) (dcN_8 dcg_597 :) e4 ?_
  refine AW.aloadr_n 0 (dcN_9 dcg_597 :) rfl ?_
  refine AW.getR af_X12_109_117 sr_117_33 (dcN_10 dcg_597 :) ?_
  refine AW.iconst (dcN_11 dcg_597 :) ?_
  refine AW.iload_n 1 (dcN_0 dcg_598 :) rfl ?_
  refine AW.bipush (dcN_1 dcg_598 :) (by decide) (by decide) ?_
  refine AW.idiv (dcN_2 dcg_598 :) (by decide) ?_
  obtain ⟨g5, e6, h⟩ := hBe h
  refine AW.iast kc_148 sk_148 (by decide) (dcN_3 dcg_598 :) e6 ?_
  refine AW.aloadr_n 0 (dcN_4 dcg_598 :) rfl ?_
  refine AW.getR af_X12_109_117 sr_117_33 (dcN_5 dcg_598 :) ?_
  refine AW.iconst (dcN_6 dcg_598 :) ?_
  refine AW.aloadr_n 0 (dcN_7 dcg_598 :) rfl ?_
  refine AW.getI af_X12_44_117 sr_117_10 (dcN_8 dcg_598 :) ?_
  obtain ⟨g7, e8, h⟩ := hBe h
  refine AW.iast kc_148 sk_148 (by decide) (dcN_9 dcg_598 :) e8 ?_
  refine AW.aloadr_n 0 (dcN_10 dcg_598 :) rfl ?_
  refine AW.iconst (dcN_11 dcg_598 :) ?_
  obtain ⟨r9, e10, h⟩ := hC h
  refine AW.callVi (As := [iv 0]) (st := []) (M_serves_ok e10) cq_X12_404 cr_117_X12_serves (Nat.le_trans (by decide) hdd) rfl (dcN_0 dcg_599 :) rfl (Nat.le_of_ble_eq_true rfl) ?_
  exact AW.iret1 rfl (dcN_1 dcg_599 :) h rfl
theorem M_open_ok {z : AZ} {x1 : Int} {x2 : Int} {g : AG} {r : Int × AG} (h : M_open x1 x2 g = some r) : AMf z yX12_open cX12_open 4 (some .int) 4 [rv z 117, iv x1, iv x2] g r := by
  intro d hdd
  refine AM.of (by decide +kernel) (Nat.le_of_ble_eq_true rfl) ?_
  show AW z (RX12, cX12_open, 4, (some .int)) d (QD (some .int) r) 0 [(0, rv z 117), (1, iv x1), (2, iv x2)] [] g
  unfold M_open at h
  refine AW.iload_n 1 (dcN_0 dcg_600 :) rfl ?_
  refine AW.iconst (dcN_1 dcg_600 :) ?_
  refine AW.bipush (dcN_2 dcg_600 :) (by decide) (by decide) ?_
  refine AW.callSi (As := [iv x1, iv 0, iv 13]) (st := []) M_isIn_ok cq_X12_3 st_X12_isIn (Nat.le_trans (by decide) hdd) rfl (dcN_3 dcg_600 :) rfl (Nat.le_of_ble_eq_true rfl) ?_
  refine AW.if_eq (tgt := 19) (dcN_4 dcg_600 :) (by decide) (fun c1 => ?_) (fun c1 => ?_)
  · replace h := hT h c1
    refine AW.iconst (dcN_10 dcg_600 :) ?_
    exact AW.iret1 rfl (dcN_11 dcg_600 :) h rfl
  · replace h := hF h c1
    refine AW.iload_n 2 (dcN_5 dcg_600 :) rfl ?_
    refine AW.iconst (dcN_6 dcg_600 :) ?_
    refine AW.iconst (dcN_7 dcg_600 :) ?_
    refine AW.callSi (As := [iv x2, iv 0, iv 1]) (st := []) M_isIn_ok cq_X12_3 st_X12_isIn (Nat.le_trans (by decide) hdd) rfl (dcN_8 dcg_600 :) rfl (Nat.le_of_ble_eq_true rfl) ?_
    refine AW.if_ne (tgt := 21) (dcN_9 dcg_600 :) (by decide) (fun c2 => ?_) (fun c2 => ?_)
    · replace h := hF h c2
      refine AW.aloadr_n 0 (dcN_12 dcg_600 :) rfl ?_
      refine AW.iload_n 1 (dcN_13 dcg_600 :) rfl ?_
      obtain ⟨r3, e4, h⟩ := hC h
      refine AW.callVi (As := [iv x1]) (st := []) (M_locksLine_ok e4) cq_X12_407 cr_117_X12_locksLine (Nat.le_trans (by decide) hdd) rfl (dcN_14 dcg_600 :) rfl (Nat.le_of_ble_eq_true rfl) ?_
      refine AW.istore_n (lv1 := [(3, iv r3.1), (0, rv z 117), (1, iv x1), (2, iv x2)]) (dcN_15 dcg_600 :) (by decide) rfl ?_
      refine AW.iload_n 0 (dcN_16 dcg_600 :) rfl ?_
      refine AW.iconst (dcN_17 dcg_600 :) ?_
      obtain ⟨r12, e13, h⟩ := hC h
      refine AW.join (tgt := 64) (lv1 := []) (st1 := [iv r12.1]) (g1 := r12.2) ?_ (fun J29 => ?_)
      · exact AW.iret1 rfl (dcN_0 dcg_602 :) h rfl
      replace h := e13
      refine AW.icmp_ne (tgt := 45) (dcN_18 dcg_600 :) (by decide) (fun c5 => ?_) (fun c5 => ?_)
      · replace h := hF h c5
        refine AW.iload_n 3 (dcN_6 dcg_601 :) rfl ?_
        refine AW.if_ne (tgt := 58) (dcN_7 dcg_601 :) (by decide) (fun c6 => ?_) (fun c6 => ?_)
        · replace h := hF h c6
          refine AW.aloadr_n 1 (dcN_13 dcg_601 :) rfl ?_
          refine AW.getR af_X12_54_117 sr_117_15 (dcN_14 dcg_601 :) ?_
          refine AW.iload_n 0 (dcN_15 dcg_601 :) rfl ?_
          obtain ⟨k7, h⟩ := hK h
          refine AW.iald kc_130 sk_130 k7 (dcN_16 dcg_601 :) ?_
          refine AW.sub (lv1 := []) [] rfl ?_
          cases h
          exact J29
        · replace h := hT h c6
          refine AW.aloadr_n 1 (dcN_8 dcg_601 :) rfl ?_
          refine AW.getR af_X12_51_117 sr_117_14 (dcN_9 dcg_601 :) ?_
          refine AW.iload_n 0 (dcN_10 dcg_601 :) rfl ?_
          obtain ⟨k8, h⟩ := hK h
          refine AW.iald kc_129 sk_129 k8 (dcN_11 dcg_601 :) ?_
          refine AW.goto (tgt := 64) (dcN_12 dcg_601 :) (by decide) ?_
          refine AW.sub (lv1 := []) [] rfl ?_
          cases h
          exact J29
      · replace h := hT h c5
        refine AW.iload_n 3 (dcN_0 dcg_601 :) rfl ?_
        obtain ⟨t9, e10, h⟩ := hBe h
        refine AW.join (tgt := 64) (lv1 := [(3, iv r3.1), (0, rv z 117), (1, iv x1), (2, iv x2)]) (st1 := [iv t9]) (g1 := r3.2) ?_ (fun J33 => ?_)
        · refine AW.sub (lv1 := []) [] rfl ?_
          cases h
          exact J29
        refine AW.if_ne (tgt := 40) (dcN_1 dcg_601 :) (by decide) (fun c11 => ?_) (fun c11 => ?_)
        · refine AW.bipush (dcN_4 dcg_601 :) (by decide) (by decide) ?_
          refine AW.goto (tgt := 64) (dcN_5 dcg_601 :) (by decide) ?_
          exact AW.val (e10.trans (if_neg c11)) J33
        · refine AW.iconst (dcN_2 dcg_601 :) ?_
          refine AW.goto (tgt := 64) (dcN_3 dcg_601 :) (by decide) ?_
          exact AW.val (e10.trans (if_pos c11)) J33
    · replace h := hT h c2
      refine AW.iconst (dcN_10 dcg_600 :) ?_
      exact AW.iret1 rfl (dcN_11 dcg_600 :) h rfl
theorem M_isBoat_ok {z : AZ} {x1 : Int} {g : AG} : AMf z yX12_isBoat cX12_isBoat 2 (some .boolean) 1 [rv z 117, iv x1] g ((M_isBoat x1 g), g) := by
  intro d hdd
  refine AM.of (by decide +kernel) (Nat.le_of_ble_eq_true rfl) ?_
  show AW z (RX12, cX12_isBoat, 2, (some .boolean)) d (QD (some .boolean) ((M_isBoat x1 g), g)) 0 [(0, rv z 117), (1, iv x1)] [] g
  refine AW.iload_n 1 (dcN_0 dcg_496 :) rfl ?_
  refine AW.iconst (dcN_1 dcg_496 :) ?_
  refine AW.aloadr_n 0 (dcN_2 dcg_496 :) rfl ?_
  refine AW.getI af_X12_235_117 sr_117_12 (dcN_3 dcg_496 :) ?_
  refine AW.iconst (dcN_4 dcg_496 :) ?_
  refine AW.isub (dcN_5 dcg_496 :) ?_
  refine AW.callSi (As := [iv x1, iv 0, iv ((g 117 12) - 1)]) (st := []) M_isIn_ok cq_X12_3 st_X12_isIn (Nat.le_trans (by decide) hdd) rfl (dcN_6 dcg_496 :) rfl (Nat.le_of_ble_eq_true rfl) ?_
  exact AW.zret rfl M_isIn_01 (dcN_7 dcg_496 :) ⟨congrArg (fun v => some (iv v)) (show M_isBoat x1 g = (M_isIn x1 0 ((g 117 12) - 1)) from rfl).symm, rfl⟩
theorem M_isTime_ok {z : AZ} {x0 : Int} {g : AG} : AMf z yX12_isTime cX12_isTime 1 (some .boolean) 1 [iv x0] g ((M_isTime x0), g) := by
  intro d hdd
  refine AM.of (by decide +kernel) (Nat.le_of_ble_eq_true rfl) ?_
  show AW z (RX12, cX12_isTime, 1, (some .boolean)) d (QD (some .boolean) ((M_isTime x0), g)) 0 [(0, iv x0)] [] g
  refine AW.iload_n 0 (dcN_0 dcg_468 :) rfl ?_
  refine AW.iconst (dcN_1 dcg_468 :) ?_
  refine AW.sipush (dcN_2 dcg_468 :) (by decide) (by decide) ?_
  refine AW.callSi (As := [iv x0, iv 0, iv 20159]) (st := []) M_isIn_ok cq_X12_3 st_X12_isIn (Nat.le_trans (by decide) hdd) rfl (dcN_3 dcg_468 :) rfl (Nat.le_of_ble_eq_true rfl) ?_
  exact AW.zret rfl M_isIn_01 (dcN_4 dcg_468 :) ⟨congrArg (fun v => some (iv v)) (show M_isTime x0  = (M_isIn x0 0 20159) from rfl).symm, rfl⟩
end
