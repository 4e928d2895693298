set_option synthInstance.maxHeartbeats 2000000 in
theorem M_isStopped_b_ok {z : AZ} {d : Nat} (hdd : 1 ≤ d) {x1 : Int} {x2 : Int} {g : AG} : ∀ (tag : Nat) (x3 : Int) (r : Int), M_isStopped_b x1 x2 g tag x3 = some r → (tag = 1 → AW z (RX12, cX12_isStopped, 4, (some .boolean)) d (QD (some .boolean) (r, g)) 2 [(0, rv z 117), (1, iv x1), (2, iv x2), (3, iv x3)] [] g) ∧ (tag = 2 → AW z (RX12, cX12_isStopped, 4, (some .boolean)) d (QD (some .boolean) (r, g)) 41 [(0, rv z 117), (1, iv x1), (2, iv x2), (3, iv x3)] [] g) := by
  refine M_isStopped_b.partial_correctness x1 x2 g (fun tag x3 r => (tag = 1 → AW z (RX12, cX12_isStopped, 4, (some .boolean)) d (QD (some .boolean) (r, g)) 2 [(0, rv z 117), (1, iv x1), (2, iv x2), (3, iv x3)] [] g) ∧ (tag = 2 → AW z (RX12, cX12_isStopped, 4, (some .boolean)) d (QD (some .boolean) (r, g)) 41 [(0, rv z 117), (1, iv x1), (2, iv x2), (3, iv x3)] [] g)) ?_
  intro fb9 ih tag x3 r h
  refine ⟨fun h9 => ?_, fun h9 => ?_⟩
  · subst h9
    replace h := hT h rfl
    refine AW.iload_n 3 (dcN_2 dcg_603 :) rfl ?_
    refine AW.aloadr_n 0 (dcN_3 dcg_603 :) rfl ?_
    refine AW.getI af_X12_232_117 sr_117_11 (dcN_4 dcg_603 :) ?_
    refine AW.icmp_ge (tgt := 47) (dcN_5 dcg_603 :) (by decide) (fun c1 => ?_) (fun c1 => ?_)
    · replace h := hT h c1
      refine AW.iconst (dcN_7 dcg_604 :) ?_
      exact AW.zret2 rfl (Or.inl rfl) (dcN_8 dcg_604 :) h rfl
    · replace h := hF h c1
      refine AW.aloadr_n 0 (dcN_6 dcg_603 :) rfl ?_
      refine AW.getR af_X12_23_117 sr_117_3 (dcN_7 dcg_603 :) ?_
      refine AW.iload_n 3 (dcN_8 dcg_603 :) rfl ?_
      obtain ⟨k2, h⟩ := hK h
      refine AW.iald kc_121 sk_121 k2 (dcN_9 dcg_603 :) ?_
      refine AW.iload_n 1 (dcN_10 dcg_603 :) rfl ?_
      refine AW.icmp_ne (tgt := 41) (dcN_11 dcg_603 :) (by decide) (fun c3 => ?_) (fun c3 => ?_)
      · replace h := hF h c3
        exact (ih _ _ _ h).2 rfl
      · replace h := hT h c3
        refine AW.iload_n 2 (dcN_12 dcg_603 :) rfl ?_
        refine AW.aloadr_n 0 (dcN_13 dcg_603 :) rfl ?_
        refine AW.getR af_X12_26_117 sr_117_4 (dcN_14 dcg_603 :) ?_
        refine AW.iload_n 3 (dcN_15 dcg_603 :) rfl ?_
        refine AW.iald kc_122 sk_122 k2 (dcN_16 dcg_603 :) ?_
        refine AW.aloadr_n 0 (dcN_17 dcg_603 :) rfl ?_
        refine AW.getR af_X12_29_117 sr_117_5 (dcN_18 dcg_603 :) ?_
        refine AW.iload_n 3 (dcN_19 dcg_603 :) rfl ?_
        refine AW.iald kc_123 sk_123 k2 (dcN_0 dcg_604 :) ?_
        refine AW.callSi (As := [iv x2, iv (g 122 (ix x3)), iv (g 123 (ix x3))]) (st := []) M_isIn_ok cq_X12_3 st_X12_isIn (Nat.le_trans (by decide) hdd) rfl (dcN_1 dcg_604 :) rfl (Nat.le_of_ble_eq_true rfl) ?_
        refine AW.if_eq (tgt := 41) (dcN_2 dcg_604 :) (by decide) (fun c4 => ?_) (fun c4 => ?_)
        · replace h := hT h c4
          exact (ih _ _ _ h).2 rfl
        · replace h := hF h c4
          refine AW.iconst (dcN_3 dcg_604 :) ?_
          exact AW.zret2 rfl (Or.inr rfl) (dcN_4 dcg_604 :) h rfl
  · subst h9
    replace h := hF h (by decide)
    replace h := hT h rfl
    refine AW.iinc (lv1 := [(3, iv (x3 + 1)), (0, rv z 117), (1, iv x1), (2, iv x2)]) 3 (dcN_5 dcg_604 :) rfl (by decide) rfl ?_
    refine AW.goto (tgt := 2) (dcN_6 dcg_604 :) (by decide) ?_
    refine AW.sub (lv1 := [(0, rv z 117), (1, iv x1), (2, iv x2), (3, iv (x3 + 1))]) [1, 2, 3, 0] rfl ?_
    exact (ih _ _ _ h).1 rfl
theorem M_isStopped_ok {z : AZ} {x1 : Int} {x2 : Int} {g : AG} {r : Int} (h : M_isStopped x1 x2 g = some r) : AMf z yX12_isStopped cX12_isStopped 4 (some .boolean) 1 [rv z 117, iv x1, iv x2] g (r, g) := by
  intro d hdd
  refine AM.of (by decide +kernel) (Nat.le_of_ble_eq_true rfl) ?_
  show AW z (RX12, cX12_isStopped, 4, (some .boolean)) d (QD (some .boolean) (r, g)) 0 [(0, rv z 117), (1, iv x1), (2, iv x2)] [] g
  unfold M_isStopped at h
  refine AW.iconst (dcN_0 dcg_603 :) ?_
  refine AW.istore_n (lv1 := [(3, iv 0), (0, rv z 117), (1, iv x1), (2, iv x2)]) (dcN_1 dcg_603 :) (by decide) rfl ?_
  refine AW.sub (lv1 := [(0, rv z 117), (1, iv x1), (2, iv x2), (3, iv 0)]) [1, 2, 3, 0] rfl ?_
  exact (M_isStopped_b_ok hdd _ _ _ h).1 rfl
theorem M_mayBegin_ok {z : AZ} {x1 : Int} {x2 : Int} {x3 : Int} {x4 : Int} {g : AG} {r : Int × AG} (h : M_mayBegin x1 x2 x3 x4 g = some r) : AMf z yX12_mayBegin cX12_mayBegin 6 (some .boolean) 4 [rv z 117, iv x1, iv x2, iv x3, iv x4] g r := by
  intro d hdd
  refine AM.of (by decide +kernel) (Nat.le_of_ble_eq_true rfl) ?_
  show AW z (RX12, cX12_mayBegin, 6, (some .boolean)) d (QD (some .boolean) r) 0 [(0, rv z 117), (1, iv x1), (2, iv x2), (3, iv x3), (4, iv x4)] [] g
  unfold M_mayBegin at h
  refine AW.iload 4 (dcN_0 dcg_605 :) rfl ?_
  refine AW.bipush (dcN_1 dcg_605 :) (by decide) (by decide) ?_
  refine AW.bipush (dcN_2 dcg_605 :) (by decide) (by decide) ?_
  refine AW.callSi (As := [iv x4, iv 8, iv 19]) (st := []) M_isIn_ok cq_X12_3 st_X12_isIn (Nat.le_trans (by decide) hdd) rfl (dcN_3 dcg_605 :) rfl (Nat.le_of_ble_eq_true rfl) ?_
  refine AW.if_eq (tgt := 21) (dcN_4 dcg_605 :) (by decide) (fun c1 => ?_) (fun c1 => ?_)
  · replace h := hT h c1
    refine AW.iconst (dcN_10 dcg_605 :) ?_
    exact AW.zret1 rfl (Or.inl rfl) (dcN_11 dcg_605 :) h rfl
  · replace h := hF h c1
    refine AW.aloadr_n 0 (dcN_5 dcg_605 :) rfl ?_
    refine AW.iload_n 1 (dcN_6 dcg_605 :) rfl ?_
    refine AW.iload_n 3 (dcN_7 dcg_605 :) rfl ?_
    obtain ⟨r2, e3, h⟩ := hC h
    refine AW.callVi (As := [iv x1, iv x3]) (st := []) (M_isStopped_ok e3) cq_X12_410 cr_117_X12_isStopped (Nat.le_trans (by decide) hdd) rfl (dcN_8 dcg_605 :) rfl (Nat.le_of_ble_eq_true rfl) ?_
    refine AW.if_eq (tgt := 23) (dcN_9 dcg_605 :) (by decide) (fun c4 => ?_) (fun c4 => ?_)
    · replace h := hT h c4
      refine AW.iload_n 2 (dcN_12 dcg_605 :) rfl ?_
      refine AW.if_ne (tgt := 29) (dcN_13 dcg_605 :) (by decide) (fun c5 => ?_) (fun c5 => ?_)
      · replace h := hF h c5
        refine AW.iload_n 2 (dcN_16 dcg_605 :) rfl ?_
        refine AW.iconst (dcN_17 dcg_605 :) ?_
        refine AW.icmp_ne (tgt := 77) (dcN_18 dcg_605 :) (by decide) (fun c6 => ?_) (fun c6 => ?_)
        · replace h := hF h c6
          refine AW.iconst (dcN_7 dcg_607 :) ?_
          refine AW.iload_n 1 (dcN_8 dcg_607 :) rfl ?_
          refine AW.imul (dcN_9 dcg_607 :) ?_
          refine AW.iload_n 2 (dcN_10 dcg_607 :) rfl ?_
          refine AW.iadd (dcN_11 dcg_607 :) ?_
          refine AW.iconst (dcN_12 dcg_607 :) ?_
          refine AW.isub (dcN_13 dcg_607 :) ?_
          refine AW.istore (lv1 := [(5, iv (((2 * x1) + x2) - 2)), (0, rv z 117), (1, iv x1), (2, iv x2), (3, iv x3), (4, iv x4)]) (dcN_14 dcg_607 :) (by decide) rfl ?_
          refine AW.aloadr_n 1 (dcN_15 dcg_607 :) rfl ?_
          refine AW.getR af_X12_96_117 sr_117_29 (dcN_16 dcg_607 :) ?_
          refine AW.iload 0 (dcN_17 dcg_607 :) rfl ?_
          obtain ⟨k7, h⟩ := hK h
          refine AW.zald kc_144 sk_144 k7 (dcN_18 dcg_607 :) ?_
          obtain ⟨r15, e16, h⟩ := hC h
          refine AW.join (tgt := 131) (lv1 := []) (st1 := [iv r15.1]) (g1 := r15.2) ?_ (fun J93 => ?_)
          · obtain ⟨k17, h⟩ := hK h
            exact AW.zret1 rfl k17 (dcN_1 dcg_609 :) h rfl
          replace h := e16
          refine AW.if_eq (tgt := 130) (dcN_19 dcg_607 :) (by decide) (fun c8 => ?_) (fun c8 => ?_)
          · replace h := hT h c8
            refine AW.iconst (dcN_0 dcg_609 :) ?_
            refine AW.sub (lv1 := []) [] rfl ?_
            cases h
            exact J93
          · replace h := hF h c8
            refine AW.iload 5 (dcN_0 dcg_608 :) rfl ?_
            refine AW.aloadr_n 1 (dcN_1 dcg_608 :) rfl ?_
            refine AW.getR af_X12_90_117 sr_117_27 (dcN_2 dcg_608 :) ?_
            refine AW.iconst (dcN_3 dcg_608 :) ?_
            refine AW.iload 0 (dcN_4 dcg_608 :) rfl ?_
            refine AW.imul (dcN_5 dcg_608 :) ?_
            obtain ⟨k9, h⟩ := hK h
            refine AW.iald kc_142 sk_142 k9 (dcN_6 dcg_608 :) ?_
            refine AW.icmp_lt (tgt := 130) (dcN_7 dcg_608 :) (by decide) (fun c10 => ?_) (fun c10 => ?_)
            · replace h := hT h c10
              refine AW.iconst (dcN_0 dcg_609 :) ?_
              refine AW.sub (lv1 := []) [] rfl ?_
              cases h
              exact J93
            · replace h := hF h c10
              refine AW.iload 5 (dcN_8 dcg_608 :) rfl ?_
              refine AW.aloadr_n 1 (dcN_9 dcg_608 :) rfl ?_
              refine AW.getR af_X12_90_117 sr_117_27 (dcN_10 dcg_608 :) ?_
              refine AW.iconst (dcN_11 dcg_608 :) ?_
              refine AW.iload 0 (dcN_12 dcg_608 :) rfl ?_
              refine AW.imul (dcN_13 dcg_608 :) ?_
              refine AW.iconst (dcN_14 dcg_608 :) ?_
              refine AW.iadd (dcN_15 dcg_608 :) ?_
              obtain ⟨k11, h⟩ := hK h
              refine AW.iald kc_142 sk_142 k11 (dcN_16 dcg_608 :) ?_
              obtain ⟨t12, e13, h⟩ := hBe h
              refine AW.join (tgt := 131) (lv1 := [(5, iv (((2 * x1) + x2) - 2)), (0, rv z 117), (1, iv x1), (2, iv x2), (3, iv x3), (4, iv x4)]) (st1 := [iv t12]) (g1 := g) ?_ (fun J123 => ?_)
              · refine AW.sub (lv1 := []) [] rfl ?_
                cases h
                exact J93
              refine AW.icmp_ge (tgt := 130) (dcN_17 dcg_608 :) (by decide) (fun c14 => ?_) (fun c14 => ?_)
              · refine AW.iconst (dcN_0 dcg_609 :) ?_
                exact AW.val (e13.trans (if_pos c14)) J123
              · refine AW.iconst (dcN_18 dcg_608 :) ?_
                refine AW.goto (tgt := 131) (dcN_19 dcg_608 :) (by decide) ?_
                exact AW.val (e13.trans (if_neg c14)) J123
        · replace h := hT h c6
          refine AW.aloadr_n 0 (dcN_0 dcg_606 :) rfl ?_
          refine AW.iload_n 3 (dcN_1 dcg_606 :) rfl ?_
          obtain ⟨r18, e19, h⟩ := hC h
          refine AW.callVi (As := [iv x3]) (st := []) (M_locksLine_ok e19) cq_X12_407 cr_117_X12_locksLine (Nat.le_trans (by decide) hdd) rfl (dcN_2 dcg_606 :) rfl (Nat.le_of_ble_eq_true rfl) ?_
          refine AW.istore (lv1 := [(5, iv r18.1), (0, rv z 117), (1, iv x1), (2, iv x2), (3, iv x3), (4, iv x4)]) (dcN_3 dcg_606 :) (by decide) rfl ?_
          refine AW.iload 0 (dcN_4 dcg_606 :) rfl ?_
          refine AW.iconst (dcN_5 dcg_606 :) ?_
          obtain ⟨r26, e27, h⟩ := hC h
          refine AW.join (tgt := 76) (lv1 := []) (st1 := [iv r26.1]) (g1 := r26.2) ?_ (fun J44 => ?_)
          · obtain ⟨k28, h⟩ := hK h
            exact AW.zret1 rfl k28 (dcN_6 dcg_607 :) h rfl
          replace h := e27
          refine AW.icmp_eq (tgt := 71) (dcN_6 dcg_606 :) (by decide) (fun c20 => ?_) (fun c20 => ?_)
          · replace h := hT h c20
            refine AW.iconst (dcN_3 dcg_607 :) ?_
            refine AW.goto (tgt := 76) (dcN_4 dcg_607 :) (by decide) ?_
            refine AW.sub (lv1 := []) [] rfl ?_
            cases h
            exact J44
          · replace h := hF h c20
            refine AW.iload 5 (dcN_7 dcg_606 :) rfl ?_
            refine AW.aloadr_n 1 (dcN_8 dcg_606 :) rfl ?_
            refine AW.getR af_X12_51_117 sr_117_14 (dcN_9 dcg_606 :) ?_
            refine AW.iload 0 (dcN_10 dcg_606 :) rfl ?_
            obtain ⟨k21, h⟩ := hK h
            refine AW.iald kc_129 sk_129 k21 (dcN_11 dcg_606 :) ?_
            refine AW.icmp_lt (tgt := 75) (dcN_12 dcg_606 :) (by decide) (fun c22 => ?_) (fun c22 => ?_)
            · replace h := hT h c22
              refine AW.iconst (dcN_5 dcg_607 :) ?_
              refine AW.sub (lv1 := []) [] rfl ?_
              cases h
              exact J44
            · replace h := hF h c22
              refine AW.iload 5 (dcN_13 dcg_606 :) rfl ?_
              refine AW.aloadr_n 1 (dcN_14 dcg_606 :) rfl ?_
              refine AW.getR af_X12_54_117 sr_117_15 (dcN_15 dcg_606 :) ?_
              refine AW.iload 0 (dcN_0 dcg_607 :) rfl ?_
              refine AW.iald kc_130 sk_130 k21 (dcN_1 dcg_607 :) ?_
              obtain ⟨t23, e24, h⟩ := hBe h
              refine AW.join (tgt := 76) (lv1 := [(5, iv r18.1), (0, rv z 117), (1, iv x1), (2, iv x2), (3, iv x3), (4, iv x4)]) (st1 := [iv t23]) (g1 := r18.2) ?_ (fun J68 => ?_)
              · refine AW.sub (lv1 := []) [] rfl ?_
                cases h
                exact J44
              refine AW.icmp_ge (tgt := 75) (dcN_2 dcg_607 :) (by decide) (fun c25 => ?_) (fun c25 => ?_)
              · refine AW.iconst (dcN_5 dcg_607 :) ?_
                exact AW.val (e24.trans (if_pos c25)) J68
              · refine AW.iconst (dcN_3 dcg_607 :) ?_
                refine AW.goto (tgt := 76) (dcN_4 dcg_607 :) (by decide) ?_
                exact AW.val (e24.trans (if_neg c25)) J68
      · replace h := hT h c5
        refine AW.iconst (dcN_14 dcg_605 :) ?_
        exact AW.zret1 rfl (Or.inr rfl) (dcN_15 dcg_605 :) h rfl
    · replace h := hF h c4
      refine AW.iconst (dcN_10 dcg_605 :) ?_
      exact AW.zret1 rfl (Or.inl rfl) (dcN_11 dcg_605 :) h rfl
set_option synthInstance.maxHeartbeats 2000000 in
theorem M_endOf_b_ok {z : AZ} {d : Nat} (hdd : 5 ≤ d) {x1 : Int} {x2 : Int} {x4 : Int} : ∀ (tag : Nat) (x5 : Int) (g : AG) (r : Int × AG), M_endOf_b x1 x2 x4 tag x5 g = some r → (tag = 1 → AW z (RX12, cX12_endOf, 6, (some .int)) d (QD (some .int) r) 3 [(0, rv z 117), (1, iv x1), (2, iv x2), (4, iv x4), (5, iv x5)] [] g) ∧ (tag = 2 → AW z (RX12, cX12_endOf, 6, (some .int)) d (QD (some .int) r) 50 [(4, iv x4), (5, iv x5)] [] g) := by
  refine M_endOf_b.partial_correctness x1 x2 x4 (fun tag x5 g r => (tag = 1 → AW z (RX12, cX12_endOf, 6, (some .int)) d (QD (some .int) r) 3 [(0, rv z 117), (1, iv x1), (2, iv x2), (4, iv x4), (5, iv x5)] [] g) ∧ (tag = 2 → AW z (RX12, cX12_endOf, 6, (some .int)) d (QD (some .int) r) 50 [(4, iv x4), (5, iv x5)] [] g)) ?_
  intro fb9 ih tag x5 g r h
  refine ⟨fun h9 => ?_, fun h9 => ?_⟩
  · subst h9
    replace h := hT h rfl
    refine AW.iload 4 (dcN_2 dcg_610 :) rfl ?_
    refine AW.sipush (dcN_3 dcg_610 :) (by decide) (by decide) ?_
    refine AW.icmp_gt (tgt := 50) (dcN_4 dcg_610 :) (by decide) (fun c1 => ?_) (fun c1 => ?_)
    · replace h := hT h c1
      refine AW.sub (lv1 := [(4, iv x4), (5, iv x5)]) [3, 4] rfl ?_
      exact (ih _ _ _ _ h).2 rfl
    · replace h := hF h c1
      refine AW.aloadr_n 0 (dcN_5 dcg_610 :) rfl ?_
      refine AW.iload_n 1 (dcN_6 dcg_610 :) rfl ?_
      refine AW.iload_n 2 (dcN_7 dcg_610 :) rfl ?_
      refine AW.iload 4 (dcN_8 dcg_610 :) rfl ?_
      refine AW.sipush (dcN_9 dcg_610 :) (by decide) (by decide) ?_
      refine AW.idiv (dcN_10 dcg_610 :) (by decide) ?_
      refine AW.iload 4 (dcN_11 dcg_610 :) rfl ?_
      refine AW.sipush (dcN_12 dcg_610 :) (by decide) (by decide) ?_
      refine AW.irem (dcN_13 dcg_610 :) (by decide) ?_
      refine AW.bipush (dcN_14 dcg_610 :) (by decide) (by decide) ?_
      refine AW.idiv (dcN_15 dcg_610 :) (by decide) ?_
      obtain ⟨r2, e3, h⟩ := hC h
      refine AW.callVi (As := [iv x1, iv x2, iv ((nw x5).tdiv 1440), iv ((nw ((nw x5).tmod 1440)).tdiv 60)]) (st := []) (M_mayBegin_ok e3) cq_X12_413 cr_117_X12_mayBegin (Nat.le_trans (by decide) hdd) rfl (dcN_16 dcg_610 :) rfl (Nat.le_of_ble_eq_true rfl) ?_
      refine AW.if_ne (tgt := 50) (dcN_0 dcg_611 :) (by decide) (fun c4 => ?_) (fun c4 => ?_)
      · replace h := hF h c4
        refine AW.sub (lv1 := [(4, iv x4), (5, iv x5)]) [3, 4] rfl ?_
        exact (ih _ _ _ _ h).2 rfl
      · replace h := hT h c4
        refine AW.iload 4 (dcN_1 dcg_611 :) rfl ?_
        refine AW.bipush (dcN_2 dcg_611 :) (by decide) (by decide) ?_
        refine AW.idiv (dcN_3 dcg_611 :) (by decide) ?_
        refine AW.iconst (dcN_4 dcg_611 :) ?_
        refine AW.iadd (dcN_5 dcg_611 :) ?_
        refine AW.bipush (dcN_6 dcg_611 :) (by decide) (by decide) ?_
        refine AW.imul (dcN_7 dcg_611 :) ?_
        refine AW.istore (lv1 := [(5, iv ((((nw x5).tdiv 60) + 1) * 60)), (0, rv z 117), (1, iv x1), (2, iv x2), (4, iv x4)]) (dcN_8 dcg_611 :) (by decide) rfl ?_
        refine AW.goto (tgt := 3) (dcN_9 dcg_611 :) (by decide) ?_
        refine AW.sub (lv1 := [(0, rv z 117), (1, iv x1), (2, iv x2), (4, iv x4), (5, iv ((((nw x5).tdiv 60) + 1) * 60))]) [1, 2, 3, 4, 0] rfl ?_
        exact (ih _ _ _ _ h).1 rfl
  · subst h9
    replace h := hF h (by decide)
    replace h := hT h rfl
    refine AW.iload 1 (dcN_10 dcg_611 :) rfl ?_
    refine AW.iload 0 (dcN_11 dcg_611 :) rfl ?_
    refine AW.iadd (dcN_12 dcg_611 :) ?_
    refine AW.sipush (dcN_13 dcg_611 :) (by decide) (by decide) ?_
    obtain ⟨t1, e2, h⟩ := hBe h
    refine AW.join (tgt := 78) (lv1 := [(4, iv x4), (5, iv x5)]) (st1 := [iv t1]) (g1 := g) ?_ (fun J58 => ?_)
    · exact AW.iret1 rfl (dcN_6 dcg_612 :) h rfl
    refine AW.icmp_gt (tgt := 69) (dcN_14 dcg_611 :) (by decide) (fun c3 => ?_) (fun c3 => ?_)
    · refine AW.iconst (dcN_1 dcg_612 :) ?_
      refine AW.goto (tgt := 78) (dcN_2 dcg_612 :) (by decide) ?_
      exact AW.val (e2.trans (if_pos c3)) J58
    · refine AW.iload 1 (dcN_15 dcg_611 :) rfl ?_
      refine AW.sipush (dcN_16 dcg_611 :) (by decide) (by decide) ?_
      refine AW.icmp_le (tgt := 73) (dcN_0 dcg_612 :) (by decide) (fun c4 => ?_) (fun c4 => ?_)
      · refine AW.iload 1 (dcN_3 dcg_612 :) rfl ?_
        refine AW.iload 0 (dcN_4 dcg_612 :) rfl ?_
        refine AW.iadd (dcN_5 dcg_612 :) ?_
        exact AW.val (e2.trans ((if_neg c3).trans (if_pos c4))) J58
      · refine AW.iconst (dcN_1 dcg_612 :) ?_
        refine AW.goto (tgt := 78) (dcN_2 dcg_612 :) (by decide) ?_
        exact AW.val (e2.trans ((if_neg c3).trans (if_neg c4))) J58
theorem M_endOf_ok {z : AZ} {x1 : Int} {x2 : Int} {x3 : Int} {x4 : Int} {g : AG} {r : Int × AG} (h : M_endOf x1 x2 x3 x4 g = some r) : AMf z yX12_endOf cX12_endOf 6 (some .int) 5 [rv z 117, iv x1, iv x2, iv x3, iv x4] g r := by
  intro d hdd
  refine AM.of (by decide +kernel) (Nat.le_of_ble_eq_true rfl) ?_
  show AW z (RX12, cX12_endOf, 6, (some .int)) d (QD (some .int) r) 0 [(0, rv z 117), (1, iv x1), (2, iv x2), (3, iv x3), (4, iv x4)] [] g
  unfold M_endOf at h
  refine AW.iload_n 3 (dcN_0 dcg_610 :) rfl ?_
  refine AW.istore (lv1 := [(5, iv x3), (0, rv z 117), (1, iv x1), (2, iv x2), (3, iv x3), (4, iv x4)]) (dcN_1 dcg_610 :) (by decide) rfl ?_
  refine AW.sub (lv1 := [(0, rv z 117), (1, iv x1), (2, iv x2), (4, iv x4), (5, iv x3)]) [1, 2, 3, 5, 0] rfl ?_
  exact (M_endOf_b_ok hdd _ _ _ _ h).1 rfl
theorem M_harmOf_ok {z : AZ} {x1 : Int} {x2 : Int} {g : AG} {r : Int × AG} (h : M_harmOf x1 x2 g = some r) : AMf z yX12_harmOf cX12_harmOf 5 (some .int) 3 [rv z 117, iv x1, iv x2] g r := by
  intro d hdd
  refine AM.of (by decide +kernel) (Nat.le_of_ble_eq_true rfl) ?_
  show AW z (RX12, cX12_harmOf, 5, (some .int)) d (QD (some .int) r) 0 [(0, rv z 117), (1, iv x1), (2, iv x2)] [] g
  unfold M_harmOf at h
  refine AW.aloadr_n 0 (dcN_0 dcg_613 :) rfl ?_
  obtain ⟨r1, e2, h⟩ := hC h
  refine AW.callVv (As := []) (st := []) (M_forgets_ok e2) cq_X12_401 cr_117_X12_forgets (Nat.le_trans (by decide) hdd) rfl (dcN_1 dcg_613 :) rfl (Nat.le_of_ble_eq_true rfl) ?_
  refine AW.aloadr_n 0 (dcN_2 dcg_613 :) rfl ?_
  refine AW.getR af_X12_109_117 sr_117_33 (dcN_3 dcg_613 :) ?_
  refine AW.iconst (dcN_4 dcg_613 :) ?_
  refine AW.iload_n 2 (dcN_5 dcg_613 :) rfl ?_
  refine AW.bipush (dcN_6 dcg_613 :) (by decide) (by decide) ?_
  refine AW.irem (dcN_7 dcg_613 :) (by decide) ?_
  obtain ⟨g3, e4, h⟩ := hBe h
  refine AW.iast kc_148 sk_148 (by decide) (dcN_8 dcg_613 :) e4 ?_
  refine AW.aloadr_n 0 (dcN_9 dcg_613 :) rfl ?_
  refine AW.getR af_X12_109_117 sr_117_33 (dcN_10 dcg_613 :) ?_
  refine AW.iconst (dcN_11 dcg_613 :) ?_
  refine AW.iload_n 2 (dcN_12 dcg_613 :) rfl ?_
  refine AW.bipush (dcN_13 dcg_613 :) (by decide) (by decide) ?_
  refine AW.idiv (dcN_14 dcg_613 :) (by decide) ?_
  obtain ⟨g5, e6, h⟩ := hBe h
  refine AW.iast kc_148 sk_148 (by decide) (dcN_15 dcg_613 :) e6 ?_
  refine AW.aloadr_n 0 (dcN_16 dcg_613 :) rfl ?_
  refine AW.getR af_X12_109_117 sr_117_33 (dcN_17 dcg_613 :) ?_
  refine AW.iconst (dcN_18 dcg_613 :) ?_
  refine AW.aloadr_n 0 (dcN_19 dcg_613 :) rfl ?_
  refine AW.getI af_X12_44_117 sr_117_10 (dcN_20 dcg_613 :) ?_
  obtain ⟨g7, e8, h⟩ := hBe h
  refine AW.iast kc_148 sk_148 (by decide) (dcN_0 dcg_614 :) e8 ?_
  refine AW.aloadr_n 0 (dcN_1 dcg_614 :) rfl ?_
  refine AW.getR af_X12_109_117 sr_117_33 (dcN_2 dcg_614 :) ?_
  refine AW.iconst (dcN_3 dcg_614 :) ?_
  refine AW.aloadr_n 0 (dcN_4 dcg_614 :) rfl ?_
  refine AW.getR af_X12_32_117 sr_117_6 (dcN_5 dcg_614 :) ?_
  refine AW.iload_n 1 (dcN_6 dcg_614 :) rfl ?_
  obtain ⟨k9, h⟩ := hK h
  refine AW.iald kc_124 sk_124 k9 (dcN_7 dcg_614 :) ?_
  obtain ⟨g10, e11, h⟩ := hBe h
  refine AW.iast kc_148 sk_148 (by decide) (dcN_8 dcg_614 :) e11 ?_
  refine AW.aloadr_n 0 (dcN_9 dcg_614 :) rfl ?_
  refine AW.getR af_X12_109_117 sr_117_33 (dcN_10 dcg_614 :) ?_
  refine AW.bipush (dcN_11 dcg_614 :) (by decide) (by decide) ?_
  refine AW.aloadr_n 0 (dcN_12 dcg_614 :) rfl ?_
  refine AW.getR af_X12_35_117 sr_117_7 (dcN_13 dcg_614 :) ?_
  refine AW.iload_n 1 (dcN_14 dcg_614 :) rfl ?_
  refine AW.iald kc_125 sk_125 k9 (dcN_15 dcg_614 :) ?_
  obtain ⟨g12, e13, h⟩ := hBe h
  refine AW.iast kc_148 sk_148 (by decide) (dcN_16 dcg_614 :) e13 ?_
  refine AW.aloadr_n 0 (dcN_17 dcg_614 :) rfl ?_
  refine AW.getR af_X12_109_117 sr_117_33 (dcN_18 dcg_614 :) ?_
  refine AW.bipush (dcN_19 dcg_614 :) (by decide) (by decide) ?_
  refine AW.aloadr_n 0 (dcN_0 dcg_615 :) rfl ?_
  refine AW.getR af_X12_41_117 sr_117_9 (dcN_1 dcg_615 :) ?_
  refine AW.iload_n 1 (dcN_2 dcg_615 :) rfl ?_
  refine AW.iald kc_127 sk_127 k9 (dcN_3 dcg_615 :) ?_
  obtain ⟨g14, e15, h⟩ := hBe h
  refine AW.iast kc_148 sk_148 (by decide) (dcN_4 dcg_615 :) e15 ?_
  refine AW.aloadr_n 0 (dcN_5 dcg_615 :) rfl ?_
  refine AW.iconst (dcN_6 dcg_615 :) ?_
  obtain ⟨r16, e17, h⟩ := hC h
  refine AW.callVi (As := [iv 4]) (st := []) (M_serves_ok e17) cq_X12_404 cr_117_X12_serves (Nat.le_trans (by decide) hdd) rfl (dcN_7 dcg_615 :) rfl (Nat.le_of_ble_eq_true rfl) ?_
  refine AW.istore_n (lv1 := [(3, iv r16.1), (0, rv z 117), (1, iv x1), (2, iv x2)]) (dcN_8 dcg_615 :) (by decide) rfl ?_
  refine AW.iload_n 0 (dcN_9 dcg_615 :) rfl ?_
  refine AW.iconst (dcN_10 dcg_615 :) ?_
  obtain ⟨r22, e23, h⟩ := hC h
  refine AW.join (tgt := 103) (lv1 := []) (st1 := [iv r22.1]) (g1 := r22.2) ?_ (fun J80 => ?_)
  · refine AW.istore (lv1 := [(4, iv r22.1)]) (dcN_3 dcg_616 :) (by decide) rfl ?_
    refine AW.iload 0 (dcN_4 dcg_616 :) rfl ?_
    obtain ⟨t24, e25, h⟩ := hBe h
    refine AW.join (tgt := 130) (lv1 := [(4, iv r22.1)]) (st1 := [iv t24]) (g1 := r22.2) ?_ (fun J107 => ?_)
    · exact AW.iret1 rfl (dcN_1 dcg_617 :) h rfl
    refine AW.if_ge (tgt := 114) (dcN_5 dcg_616 :) (by decide) (fun c26 => ?_) (fun c26 => ?_)
    · refine AW.iload 0 (dcN_8 dcg_616 :) rfl ?_
      refine AW.sipush (dcN_9 dcg_616 :) (by decide) (by decide) ?_
      refine AW.icmp_le (tgt := 128) (dcN_10 dcg_616 :) (by decide) (fun c27 => ?_) (fun c27 => ?_)
      · refine AW.iload 0 (dcN_0 dcg_617 :) rfl ?_
        exact AW.val (e25.trans ((if_pos c26).trans (if_pos c27))) J107
      · refine AW.sipush (dcN_11 dcg_616 :) (by decide) (by decide) ?_
        refine AW.goto (tgt := 130) (dcN_12 dcg_616 :) (by decide) ?_
        exact AW.val (e25.trans ((if_pos c26).trans (if_neg c27))) J107
    · refine AW.iconst (dcN_6 dcg_616 :) ?_
      refine AW.goto (tgt := 130) (dcN_7 dcg_616 :) (by decide) ?_
      exact AW.val (e25.trans (if_neg c26)) J107
  replace h := e23
  refine AW.icmp_ne (tgt := 87) (dcN_11 dcg_615 :) (by decide) (fun c18 => ?_) (fun c18 => ?_)
  · replace h := hF h c18
    refine AW.aloadr_n 1 (dcN_14 dcg_615 :) rfl ?_
    refine AW.aloadr_n 1 (dcN_15 dcg_615 :) rfl ?_
    refine AW.getR af_X12_57_117 sr_117_16 (dcN_16 dcg_615 :) ?_
    refine AW.iload_n 0 (dcN_17 dcg_615 :) rfl ?_
    obtain ⟨k19, h⟩ := hK h
    refine AW.iald kc_131 sk_131 k19 (dcN_18 dcg_615 :) ?_
    refine AW.aloadr_n 1 (dcN_19 dcg_615 :) rfl ?_
    refine AW.getR af_X12_60_117 sr_117_17 (dcN_20 dcg_615 :) ?_
    refine AW.iload_n 0 (dcN_0 dcg_616 :) rfl ?_
    refine AW.iald kc_132 sk_132 k19 (dcN_1 dcg_616 :) ?_
    obtain ⟨r20, e21, h⟩ := hC h
    refine AW.callVi (As := [iv (r16.2 131 (ix r16.1)), iv (r16.2 132 (ix r16.1))]) (st := []) (M_comesTo_ok e21) cq_X12_397 cr_117_X12_comesTo (Nat.le_trans (by decide) hdd) rfl (dcN_2 dcg_616 :) rfl (Nat.le_of_ble_eq_true rfl) ?_
    refine AW.sub (lv1 := []) [] rfl ?_
    cases h
    exact J80
  · replace h := hT h c18
    refine AW.iconst (dcN_12 dcg_615 :) ?_
    refine AW.goto (tgt := 103) (dcN_13 dcg_615 :) (by decide) ?_
    refine AW.sub (lv1 := []) [] rfl ?_
    cases h
    exact J80
set_option synthInstance.maxHeartbeats 2000000 in
theorem M_through_b_ok {z : AZ} {d : Nat} (hdd : 6 ≤ d) {x1 : Int} {x2 : Int} {x3 : Int} : ∀ (tag : Nat) (x5 : Int) (x6 : Int) (x7 : Int) (g : AG) (r : Int × AG), M_through_b x1 x2 x3 tag x5 x6 x7 g = some r → (tag = 1 → AW z (RX12, cX12_through, 8, (some .int)) d (QD (some .int) r) 28 [(0, rv z 117), (1, iv x1), (2, iv x2), (3, iv x3), (5, iv x5)] [] g) ∧ (tag = 2 → AW z (RX12, cX12_through, 8, (some .int)) d (QD (some .int) r) 70 [(0, rv z 117), (1, iv x1), (2, iv x2), (5, iv x5), (6, iv x6)] [] g) ∧ (tag = 3 → AW z (RX12, cX12_through, 8, (some .int)) d (QD (some .int) r) 105 [(0, rv z 117), (1, iv x1), (2, iv x2), (5, iv x5)] [] g) ∧ (tag = 4 → AW z (RX12, cX12_through, 8, (some .int)) d (QD (some .int) r) 125 [(0, rv z 117), (1, iv x1), (2, iv x2), (5, iv x5), (6, iv x6), (7, iv x7)] [] g) := by
  refine M_through_b.partial_correctness x1 x2 x3 (fun tag x5 x6 x7 g r => (tag = 1 → AW z (RX12, cX12_through, 8, (some .int)) d (QD (some .int) r) 28 [(0, rv z 117), (1, iv x1), (2, iv x2), (3, iv x3), (5, iv x5)] [] g) ∧ (tag = 2 → AW z (RX12, cX12_through, 8, (some .int)) d (QD (some .int) r) 70 [(0, rv z 117), (1, iv x1), (2, iv x2), (5, iv x5), (6, iv x6)] [] g) ∧ (tag = 3 → AW z (RX12, cX12_through, 8, (some .int)) d (QD (some .int) r) 105 [(0, rv z 117), (1, iv x1), (2, iv x2), (5, iv x5)] [] g) ∧ (tag = 4 → AW z (RX12, cX12_through, 8, (some .int)) d (QD (some .int) r) 125 [(0, rv z 117), (1, iv x1), (2, iv x2), (5, iv x5), (6, iv x6), (7, iv x7)] [] g)) ?_
  intro fb9 ih tag x5 x6 x7 g r h
  refine ⟨fun h9 => ?_, fun h9 => ?_, fun h9 => ?_, fun h9 => ?_⟩
  · subst h9
    replace h := hT h rfl
    refine AW.aloadr_n 0 (dcN_18 dcg_618 :) rfl ?_
    refine AW.getR af_X12_13_117 sr_117_0 (dcN_19 dcg_618 :) ?_
    refine AW.iload_n 2 (dcN_0 dcg_619 :) rfl ?_
    obtain ⟨k1, h⟩ := hK h
    refine AW.iald kc_118 sk_118 k1 (dcN_1 dcg_619 :) ?_
    obtain ⟨r8, e9, h⟩ := hC h
    refine AW.join (tgt := 105) (lv1 := [(0, rv z 117), (1, iv x1), (2, iv x2), (5, iv r8.1)]) (st1 := []) (g1 := r8.2) ?_ (fun J34 => ?_)
    · refine AW.bipush (dcN_3 dcg_621 :) (by decide) (by decide) ?_
      refine AW.bipush (dcN_4 dcg_621 :) (by decide) (by decide) ?_
      refine AW.aloadr_n 0 (dcN_5 dcg_621 :) rfl ?_
      refine AW.getR af_X12_41_117 sr_117_9 (dcN_6 dcg_621 :) ?_
      refine AW.iload_n 1 (dcN_7 dcg_621 :) rfl ?_
      obtain ⟨k10, h⟩ := hK h
      refine AW.iald kc_127 sk_127 k10 (dcN_8 dcg_621 :) ?_
      refine AW.isub (dcN_9 dcg_621 :) ?_
      refine AW.bipush (dcN_10 dcg_621 :) (by decide) (by decide) ?_
      refine AW.idiv (dcN_11 dcg_621 :) (by decide) ?_
      refine AW.iadd (dcN_12 dcg_621 :) ?_
      refine AW.istore (lv1 := [(6, iv (15 + ((nw (60 - (r8.2 127 (ix x1)))).tdiv 6))), (0, rv z 117), (1, iv x1), (2, iv x2), (5, iv r8.1)]) (dcN_13 dcg_621 :) (by decide) rfl ?_
      refine AW.iconst (dcN_14 dcg_621 :) ?_
      refine AW.istore (lv1 := [(7, iv 0), (6, iv (15 + ((nw (60 - (r8.2 127 (ix x1)))).tdiv 6))), (0, rv z 117), (1, iv x1), (2, iv x2), (5, iv r8.1)]) (dcN_15 dcg_621 :) (by decide) rfl ?_
      refine AW.sub (lv1 := [(0, rv z 117), (1, iv x1), (2, iv x2), (5, iv r8.1), (6, iv (15 + ((nw (60 - (r8.2 127 (ix x1)))).tdiv 6))), (7, iv 0)]) [2, 3, 4, 5, 1, 0] rfl ?_
      exact (ih _ _ _ _ _ _ h).2.2.2 rfl
    replace h := e9
    refine AW.if_le (tgt := 105) (dcN_2 dcg_619 :) (by decide) (fun c2 => ?_) (fun c2 => ?_)
    · replace h := hT h c2
      refine AW.sub (lv1 := [(0, rv z 117), (1, iv x1), (2, iv x2), (5, iv x5)]) [0, 1, 2, 4] rfl ?_
      cases h
      exact J34
    · replace h := hF h c2
      refine AW.aloadr_n 0 (dcN_3 dcg_619 :) rfl ?_
      refine AW.iload_n 2 (dcN_4 dcg_619 :) rfl ?_
      refine AW.iload_n 3 (dcN_5 dcg_619 :) rfl ?_
      obtain ⟨t3, e4, h⟩ := hBe h
      refine AW.join (tgt := 48) (lv1 := [(0, rv z 117), (1, iv x1), (2, iv x2), (3, iv x3), (5, iv x5)]) (st1 := [iv t3, iv x2, rv z 117]) (g1 := g) ?_ (fun J40 => ?_)
      · refine AW.iload 4 (dcN_10 dcg_619 :) rfl ?_
        refine AW.bipush (dcN_11 dcg_619 :) (by decide) (by decide) ?_
        refine AW.aloadr_n 0 (dcN_12 dcg_619 :) rfl ?_
        refine AW.getR af_X12_13_117 sr_117_0 (dcN_13 dcg_619 :) ?_
        refine AW.iload_n 2 (dcN_14 dcg_619 :) rfl ?_
        refine AW.iald kc_118 sk_118 k1 (dcN_15 dcg_619 :) ?_
        refine AW.imul (dcN_16 dcg_619 :) ?_
        obtain ⟨r5, e6, h⟩ := hC h
        refine AW.callVi (As := [iv x2, iv t3, iv x5, iv (20 * (g 118 (ix x2)))]) (st := []) (M_endOf_ok e6) cq_X12_417 cr_117_X12_endOf (Nat.le_trans (by decide) hdd) rfl (dcN_17 dcg_619 :) rfl (Nat.le_of_ble_eq_true rfl) ?_
        refine AW.istore (lv1 := [(5, iv r5.1), (0, rv z 117), (1, iv x1), (2, iv x2), (3, iv x3)]) (dcN_18 dcg_619 :) (by decide) rfl ?_
        refine AW.goto (tgt := 105) (dcN_0 dcg_620 :) (by decide) ?_
        refine AW.sub (lv1 := [(0, rv z 117), (1, iv x1), (2, iv x2), (5, iv r5.1)]) [1, 2, 3, 0] rfl ?_
        cases h
        exact J34
      refine AW.if_eq (tgt := 47) (dcN_6 dcg_619 :) (by decide) (fun c7 => ?_) (fun c7 => ?_)
      · refine AW.iconst (dcN_9 dcg_619 :) ?_
        exact AW.val (e4.trans (if_pos c7)) J40
      · refine AW.iconst (dcN_7 dcg_619 :) ?_
        refine AW.goto (tgt := 48) (dcN_8 dcg_619 :) (by decide) ?_
        exact AW.val (e4.trans (if_neg c7)) J40
  · subst h9
    replace h := hF h (by decide)
    replace h := hT h rfl
    refine AW.iload 4 (dcN_3 dcg_620 :) rfl ?_
    refine AW.aloadr_n 0 (dcN_4 dcg_620 :) rfl ?_
    refine AW.getR af_X12_13_117 sr_117_0 (dcN_5 dcg_620 :) ?_
    refine AW.iload_n 2 (dcN_6 dcg_620 :) rfl ?_
    obtain ⟨k1, h⟩ := hK h
    refine AW.iald kc_118 sk_118 k1 (dcN_7 dcg_620 :) ?_
    refine AW.icmp_ge (tgt := 105) (dcN_8 dcg_620 :) (by decide) (fun c2 => ?_) (fun c2 => ?_)
    · replace h := hT h c2
      refine AW.sub (lv1 := [(0, rv z 117), (1, iv x1), (2, iv x2), (5, iv x5)]) [0, 1, 2, 3] rfl ?_
      exact (ih _ _ _ _ _ _ h).2.2.1 rfl
    · replace h := hF h c2
      refine AW.iload 3 (dcN_9 dcg_620 :) rfl ?_
      refine AW.iconst (dcN_10 dcg_620 :) ?_
      refine AW.icmp_eq (tgt := 105) (dcN_11 dcg_620 :) (by decide) (fun c3 => ?_) (fun c3 => ?_)
      · replace h := hT h c3
        refine AW.sub (lv1 := [(0, rv z 117), (1, iv x1), (2, iv x2), (5, iv x5)]) [0, 1, 2, 3] rfl ?_
        exact (ih _ _ _ _ _ _ h).2.2.1 rfl
      · replace h := hF h c3
        refine AW.aloadr_n 0 (dcN_12 dcg_620 :) rfl ?_
        refine AW.iload_n 2 (dcN_13 dcg_620 :) rfl ?_
        refine AW.iconst (dcN_14 dcg_620 :) ?_
        refine AW.iload 3 (dcN_15 dcg_620 :) rfl ?_
        refine AW.bipush (dcN_16 dcg_620 :) (by decide) (by decide) ?_
        obtain ⟨r4, e5, h⟩ := hC h
        refine AW.callVi (As := [iv x2, iv 0, iv x5, iv 20]) (st := []) (M_endOf_ok e5) cq_X12_417 cr_117_X12_endOf (Nat.le_trans (by decide) hdd) rfl (dcN_17 dcg_620 :) rfl (Nat.le_of_ble_eq_true rfl) ?_
        refine AW.istore (lv1 := [(5, iv r4.1), (0, rv z 117), (1, iv x1), (2, iv x2), (6, iv x6)]) (dcN_0 dcg_621 :) (by decide) rfl ?_
        refine AW.iinc (lv1 := [(6, iv (x6 + 1)), (5, iv r4.1), (0, rv z 117), (1, iv x1), (2, iv x2)]) 4 (dcN_1 dcg_621 :) rfl (by decide) rfl ?_
        refine AW.goto (tgt := 70) (dcN_2 dcg_621 :) (by decide) ?_
        refine AW.sub (lv1 := [(0, rv z 117), (1, iv x1), (2, iv x2), (5, iv r4.1), (6, iv (x6 + 1))]) [2, 3, 4, 1, 0] rfl ?_
        exact (ih _ _ _ _ _ _ h).2.1 rfl
  · subst h9
    replace h := hF h (by decide)
    replace h := hF h (by decide)
    replace h := hT h rfl
    refine AW.bipush (dcN_3 dcg_621 :) (by decide) (by decide) ?_
    refine AW.bipush (dcN_4 dcg_621 :) (by decide) (by decide) ?_
    refine AW.aloadr_n 0 (dcN_5 dcg_621 :) rfl ?_
    refine AW.getR af_X12_41_117 sr_117_9 (dcN_6 dcg_621 :) ?_
    refine AW.iload_n 1 (dcN_7 dcg_621 :) rfl ?_
    obtain ⟨k1, h⟩ := hK h
    refine AW.iald kc_127 sk_127 k1 (dcN_8 dcg_621 :) ?_
    refine AW.isub (dcN_9 dcg_621 :) ?_
    refine AW.bipush (dcN_10 dcg_621 :) (by decide) (by decide) ?_
    refine AW.idiv (dcN_11 dcg_621 :) (by decide) ?_
    refine AW.iadd (dcN_12 dcg_621 :) ?_
    refine AW.istore (lv1 := [(6, iv (15 + ((nw (60 - (g 127 (ix x1)))).tdiv 6))), (0, rv z 117), (1, iv x1), (2, iv x2), (5, iv x5)]) (dcN_13 dcg_621 :) (by decide) rfl ?_
    refine AW.iconst (dcN_14 dcg_621 :) ?_
    refine AW.istore (lv1 := [(7, iv 0), (6, iv (15 + ((nw (60 - (g 127 (ix x1)))).tdiv 6))), (0, rv z 117), (1, iv x1), (2, iv x2), (5, iv x5)]) (dcN_15 dcg_621 :) (by decide) rfl ?_
    refine AW.sub (lv1 := [(0, rv z 117), (1, iv x1), (2, iv x2), (5, iv x5), (6, iv (15 + ((nw (60 - (g 127 (ix x1)))).tdiv 6))), (7, iv 0)]) [2, 3, 4, 5, 1, 0] rfl ?_
    exact (ih _ _ _ _ _ _ h).2.2.2 rfl
  · subst h9
    replace h := hF h (by decide)
    replace h := hF h (by decide)
    replace h := hF h (by decide)
    replace h := hT h rfl
    refine AW.iload 5 (dcN_16 dcg_621 :) rfl ?_
    refine AW.aloadr_n 0 (dcN_17 dcg_621 :) rfl ?_
    refine AW.getR af_X12_17_117 sr_117_1 (dcN_0 dcg_622 :) ?_
    refine AW.iload_n 2 (dcN_1 dcg_622 :) rfl ?_
    obtain ⟨k1, h⟩ := hK h
    refine AW.iald kc_119 sk_119 k1 (dcN_2 dcg_622 :) ?_
    refine AW.icmp_ge (tgt := 196) (dcN_3 dcg_622 :) (by decide) (fun c2 => ?_) (fun c2 => ?_)
    · replace h := hT h c2
      refine AW.iload 3 (dcN_1 dcg_624 :) rfl ?_
      exact AW.iret1 rfl (dcN_2 dcg_624 :) h rfl
    · replace h := hF h c2
      refine AW.iload 3 (dcN_4 dcg_622 :) rfl ?_
      refine AW.iconst (dcN_5 dcg_622 :) ?_
      refine AW.icmp_eq (tgt := 196) (dcN_6 dcg_622 :) (by decide) (fun c3 => ?_) (fun c3 => ?_)
      · replace h := hT h c3
        refine AW.iload 3 (dcN_1 dcg_624 :) rfl ?_
        exact AW.iret1 rfl (dcN_2 dcg_624 :) h rfl
      · replace h := hF h c3
        refine AW.aloadr_n 0 (dcN_7 dcg_622 :) rfl ?_
        refine AW.iload_n 2 (dcN_8 dcg_622 :) rfl ?_
        refine AW.iconst (dcN_9 dcg_622 :) ?_
        refine AW.iload 3 (dcN_10 dcg_622 :) rfl ?_
        refine AW.iload 4 (dcN_11 dcg_622 :) rfl ?_
        obtain ⟨r4, e5, h⟩ := hC h
        refine AW.callVi (As := [iv x2, iv 1, iv x5, iv x6]) (st := []) (M_endOf_ok e5) cq_X12_417 cr_117_X12_endOf (Nat.le_trans (by decide) hdd) rfl (dcN_12 dcg_622 :) rfl (Nat.le_of_ble_eq_true rfl) ?_
        refine AW.istore (lv1 := [(5, iv r4.1), (0, rv z 117), (1, iv x1), (2, iv x2), (6, iv x6), (7, iv x7)]) (dcN_13 dcg_622 :) (by decide) rfl ?_
        refine AW.aloadr_n 1 (dcN_14 dcg_622 :) rfl ?_
        refine AW.getI af_X12_421_117 sr_117_47 (dcN_15 dcg_622 :) ?_
        obtain ⟨r12, e13, h⟩ := hC h
        refine AW.join (tgt := 190) (lv1 := [(0, rv z 117), (1, iv x1), (2, iv x2), (5, iv r4.1), (6, iv x6), (7, iv x7)]) (st1 := []) (g1 := r12) ?_ (fun J158 => ?_)
        · refine AW.iinc (lv1 := [(7, iv (x7 + 1)), (0, rv z 117), (1, iv x1), (2, iv x2), (5, iv r4.1), (6, iv x6)]) 5 (dcN_16 dcg_623 :) rfl (by decide) rfl ?_
          refine AW.goto (tgt := 125) (dcN_0 dcg_624 :) (by decide) ?_
          refine AW.sub (lv1 := [(0, rv z 117), (1, iv x1), (2, iv x2), (5, iv r4.1), (6, iv x6), (7, iv (x7 + 1))]) [1, 2, 3, 4, 5, 0] rfl ?_
          exact (ih _ _ _ _ _ _ h).2.2.2 rfl
        replace h := e13
        refine AW.if_eq (tgt := 190) (dcN_16 dcg_622 :) (by decide) (fun c6 => ?_) (fun c6 => ?_)
        · replace h := hT h c6
          refine AW.sub (lv1 := [(0, rv z 117), (1, iv x1), (2, iv x2), (5, iv r4.1), (6, iv x6), (7, iv x7)]) [1, 2, 3, 0, 4, 5] rfl ?_
          cases h
          exact J158
        · replace h := hF h c6
          refine AW.iload 0 (dcN_0 dcg_623 :) rfl ?_
          refine AW.iconst (dcN_1 dcg_623 :) ?_
          refine AW.icmp_eq (tgt := 190) (dcN_2 dcg_623 :) (by decide) (fun c7 => ?_) (fun c7 => ?_)
          · replace h := hT h c7
            refine AW.sub (lv1 := [(0, rv z 117), (1, iv x1), (2, iv x2), (5, iv r4.1), (6, iv x6), (7, iv x7)]) [1, 2, 3, 0, 4, 5] rfl ?_
            cases h
            exact J158
          · replace h := hF h c7
            refine AW.aloadr_n 1 (dcN_3 dcg_623 :) rfl ?_
            refine AW.duprr (dcN_4 dcg_623 :) ?_
            refine AW.getI af_X12_425_117 sr_117_48 (dcN_5 dcg_623 :) ?_
            refine AW.aloadr_n 1 (dcN_6 dcg_623 :) rfl ?_
            refine AW.iload_n 2 (dcN_7 dcg_623 :) rfl ?_
            refine AW.iload 0 (dcN_8 dcg_623 :) rfl ?_
            refine AW.iload 4 (dcN_9 dcg_623 :) rfl ?_
            refine AW.isub (dcN_10 dcg_623 :) ?_
            refine AW.sipush (dcN_11 dcg_623 :) (by decide) (by decide) ?_
            refine AW.idiv (dcN_12 dcg_623 :) (by decide) ?_
            obtain ⟨r8, e9, h⟩ := hC h
            refine AW.callVi (As := [iv x1, iv ((nw (r4.1 - x6)).tdiv 1440)]) (st := [iv (r4.2 117 48), rv z 117]) (M_harmOf_ok e9) cq_X12_428 cr_117_X12_harmOf (Nat.le_trans (by decide) hdd) rfl (dcN_13 dcg_623 :) rfl (Nat.le_of_ble_eq_true rfl) ?_
            refine AW.iadd (dcN_14 dcg_623 :) ?_
            obtain ⟨g10, e11, h⟩ := hBe h
            refine AW.putI ap_X12_425_117 sr_117_48 (dcN_15 dcg_623 :) e11 ?_
            refine AW.sub (lv1 := [(0, rv z 117), (1, iv x1), (2, iv x2), (5, iv r4.1), (6, iv x6), (7, iv x7)]) [1, 2, 3, 0, 4, 5] rfl ?_
            cases h
            exact J158
theorem M_through_ok {z : AZ} {x1 : Int} {x2 : Int} {x3 : Int} {x4 : Int} {g : AG} {r : Int × AG} (h : M_through x1 x2 x3 x4 g = some r) : AMf z yX12_through cX12_through 8 (some .int) 6 [rv z 117, iv x1, iv x2, iv x3, iv x4] g r := by
  intro d hdd
  refine AM.of (by decide +kernel) (Nat.le_of_ble_eq_true rfl) ?_
  show AW z (RX12, cX12_through, 8, (some .int)) d (QD (some .int) r) 0 [(0, rv z 117), (1, iv x1), (2, iv x2), (3, iv x3), (4, iv x4)] [] g
  unfold M_through at h
  refine AW.iload 4 (dcN_0 dcg_618 :) rfl ?_
  refine AW.istore (lv1 := [(5, iv x4), (0, rv z 117), (1, iv x1), (2, iv x2), (3, iv x3), (4, iv x4)]) (dcN_1 dcg_618 :) (by decide) rfl ?_
  refine AW.aloadr_n 1 (dcN_2 dcg_618 :) rfl ?_
  refine AW.getR af_X12_96_117 sr_117_29 (dcN_3 dcg_618 :) ?_
  refine AW.iconst (dcN_4 dcg_618 :) ?_
  refine AW.iload_n 3 (dcN_5 dcg_618 :) rfl ?_
  refine AW.imul (dcN_6 dcg_618 :) ?_
  obtain ⟨k1, h⟩ := hK h
  refine AW.zald kc_144 sk_144 k1 (dcN_7 dcg_618 :) ?_
  refine AW.if_ne (tgt := 28) (dcN_8 dcg_618 :) (by decide) (fun c2 => ?_) (fun c2 => ?_)
  · replace h := hF h c2
    refine AW.sub (lv1 := [(0, rv z 117), (1, iv x1), (2, iv x2), (3, iv x3), (5, iv x4)]) [1, 2, 3, 4, 0] rfl ?_
    exact (M_through_b_ok hdd _ _ _ _ _ _ h).1 rfl
  · replace h := hT h c2
    refine AW.aloadr_n 1 (dcN_9 dcg_618 :) rfl ?_
    refine AW.getR af_X12_96_117 sr_117_29 (dcN_10 dcg_618 :) ?_
    refine AW.iconst (dcN_11 dcg_618 :) ?_
    refine AW.iload_n 3 (dcN_12 dcg_618 :) rfl ?_
    refine AW.imul (dcN_13 dcg_618 :) ?_
    refine AW.iconst (dcN_14 dcg_618 :) ?_
    refine AW.iadd (dcN_15 dcg_618 :) ?_
    obtain ⟨k3, h⟩ := hK h
    refine AW.zald kc_144 sk_144 k3 (dcN_16 dcg_618 :) ?_
    refine AW.if_eq (tgt := 67) (dcN_17 dcg_618 :) (by decide) (fun c4 => ?_) (fun c4 => ?_)
    · replace h := hT h c4
      refine AW.iconst (dcN_1 dcg_620 :) ?_
      refine AW.istore (lv1 := [(6, iv 0), (5, iv x4), (0, rv z 117), (1, iv x1), (2, iv x2), (3, iv x3), (4, iv x4)]) (dcN_2 dcg_620 :) (by decide) rfl ?_
      refine AW.sub (lv1 := [(0, rv z 117), (1, iv x1), (2, iv x2), (5, iv x4), (6, iv 0)]) [2, 3, 4, 1, 0] rfl ?_
      exact (M_through_b_ok hdd _ _ _ _ _ _ h).2.1 rfl
    · replace h := hF h c4
      refine AW.sub (lv1 := [(0, rv z 117), (1, iv x1), (2, iv x2), (3, iv x3), (5, iv x4)]) [1, 2, 3, 4, 0] rfl ?_
      exact (M_through_b_ok hdd _ _ _ _ _ _ h).1 rfl
set_option synthInstance.maxHeartbeats 2000000 in
theorem M_led_b_ok {z : AZ} {d : Nat} (hdd : 7 ≤ d) {x1 : Int} {x2 : Int} {x3 : Int} : ∀ (tag : Nat) (x5 : Int) (x6 : Int) (g : AG) (r : Int × AG), M_led_b x1 x2 x3 tag x5 x6 g = some r → (tag = 1 → AW z (RX12, cX12_led, 7, (some .int)) d (QD (some .int) r) 7 [(0, rv z 117), (1, iv x1), (2, iv x2), (3, iv x3), (5, iv x5), (6, iv x6)] [] g) ∧ (tag = 2 → AW z (RX12, cX12_led, 7, (some .int)) d (QD (some .int) r) 37 [(0, rv z 117), (1, iv x1), (2, iv x2), (3, iv x3), (5, iv x5)] [] g) ∧ (tag = 3 → AW z (RX12, cX12_led, 7, (some .int)) d (QD (some .int) r) 40 [(0, rv z 117), (1, iv x1), (3, iv x3), (5, iv x5), (6, iv x6)] [] g) := by
  refine M_led_b.partial_correctness x1 x2 x3 (fun tag x5 x6 g r => (tag = 1 → AW z (RX12, cX12_led, 7, (some .int)) d (QD (some .int) r) 7 [(0, rv z 117), (1, iv x1), (2, iv x2), (3, iv x3), (5, iv x5), (6, iv x6)] [] g) ∧ (tag = 2 → AW z (RX12, cX12_led, 7, (some .int)) d (QD (some .int) r) 37 [(0, rv z 117), (1, iv x1), (2, iv x2), (3, iv x3), (5, iv x5)] [] g) ∧ (tag = 3 → AW z (RX12, cX12_led, 7, (some .int)) d (QD (some .int) r) 40 [(0, rv z 117), (1, iv x1), (3, iv x3), (5, iv x5), (6, iv x6)] [] g)) ?_
  intro fb9 ih tag x5 x6 g r h
  refine ⟨fun h9 => ?_, fun h9 => ?_, fun h9 => ?_⟩
  · subst h9
    replace h := hT h rfl
    refine AW.iload 5 (dcN_4 dcg_625 :) rfl ?_
    refine AW.iload_n 3 (dcN_5 dcg_625 :) rfl ?_
    refine AW.icmp_ge (tgt := 37) (dcN_6 dcg_625 :) (by decide) (fun c1 => ?_) (fun c1 => ?_)
    · replace h := hT h c1
      refine AW.sub (lv1 := [(0, rv z 117), (1, iv x1), (2, iv x2), (3, iv x3), (5, iv x5)]) [0, 1, 2, 3, 4] rfl ?_
      exact (ih _ _ _ _ _ h).2.1 rfl
    · replace h := hF h c1
      refine AW.iload 4 (dcN_7 dcg_625 :) rfl ?_
      refine AW.iconst (dcN_8 dcg_625 :) ?_
      refine AW.icmp_eq (tgt := 37) (dcN_9 dcg_625 :) (by decide) (fun c2 => ?_) (fun c2 => ?_)
      · replace h := hT h c2
        refine AW.sub (lv1 := [(0, rv z 117), (1, iv x1), (2, iv x2), (3, iv x3), (5, iv x5)]) [0, 1, 2, 3, 4] rfl ?_
        exact (ih _ _ _ _ _ h).2.1 rfl
      · replace h := hF h c2
        refine AW.aloadr_n 0 (dcN_10 dcg_625 :) rfl ?_
        refine AW.iload_n 1 (dcN_11 dcg_625 :) rfl ?_
        refine AW.iload 5 (dcN_12 dcg_625 :) rfl ?_
        refine AW.iconst (dcN_13 dcg_625 :) ?_
        refine AW.iload 4 (dcN_14 dcg_625 :) rfl ?_
        obtain ⟨r3, e4, h⟩ := hC h
        refine AW.callVi (As := [iv x1, iv x6, iv 1, iv x5]) (st := []) (M_through_ok e4) cq_X12_431 cr_117_X12_through (Nat.le_trans (by decide) hdd) rfl (dcN_15 dcg_625 :) rfl (Nat.le_of_ble_eq_true rfl) ?_
        refine AW.istore (lv1 := [(5, iv r3.1), (0, rv z 117), (1, iv x1), (2, iv x2), (3, iv x3), (6, iv x6)]) (dcN_16 dcg_625 :) (by decide) rfl ?_
        refine AW.iinc (lv1 := [(6, iv (x6 + 1)), (5, iv r3.1), (0, rv z 117), (1, iv x1), (2, iv x2), (3, iv x3)]) 5 (dcN_17 dcg_625 :) rfl (by decide) rfl ?_
        refine AW.goto (tgt := 7) (dcN_0 dcg_626 :) (by decide) ?_
        refine AW.sub (lv1 := [(0, rv z 117), (1, iv x1), (2, iv x2), (3, iv x3), (5, iv r3.1), (6, iv (x6 + 1))]) [2, 3, 4, 5, 1, 0] rfl ?_
        exact (ih _ _ _ _ _ h).1 rfl
  · subst h9
    replace h := hF h (by decide)
    replace h := hT h rfl
    refine AW.iload_n 2 (dcN_1 dcg_626 :) rfl ?_
    refine AW.istore (lv1 := [(6, iv x2), (0, rv z 117), (1, iv x1), (2, iv x2), (3, iv x3), (5, iv x5)]) (dcN_2 dcg_626 :) (by decide) rfl ?_
    refine AW.sub (lv1 := [(0, rv z 117), (1, iv x1), (3, iv x3), (5, iv x5), (6, iv x2)]) [1, 2, 4, 5, 0] rfl ?_
    exact (ih _ _ _ _ _ h).2.2 rfl
  · subst h9
    replace h := hF h (by decide)
    replace h := hF h (by decide)
    replace h := hT h rfl
    refine AW.iload 4 (dcN_3 dcg_626 :) rfl ?_
    refine AW.iload_n 2 (dcN_4 dcg_626 :) rfl ?_
    refine AW.icmp_le (tgt := 72) (dcN_5 dcg_626 :) (by decide) (fun c1 => ?_) (fun c1 => ?_)
    · replace h := hT h c1
      refine AW.iload 3 (dcN_3 dcg_627 :) rfl ?_
      exact AW.iret1 rfl (dcN_4 dcg_627 :) h rfl
    · replace h := hF h c1
      refine AW.iload 3 (dcN_6 dcg_626 :) rfl ?_
      refine AW.iconst (dcN_7 dcg_626 :) ?_
      refine AW.icmp_eq (tgt := 72) (dcN_8 dcg_626 :) (by decide) (fun c2 => ?_) (fun c2 => ?_)
      · replace h := hT h c2
        refine AW.iload 3 (dcN_3 dcg_627 :) rfl ?_
        exact AW.iret1 rfl (dcN_4 dcg_627 :) h rfl
      · replace h := hF h c2
        refine AW.aloadr_n 0 (dcN_9 dcg_626 :) rfl ?_
        refine AW.iload_n 1 (dcN_10 dcg_626 :) rfl ?_
        refine AW.iload 4 (dcN_11 dcg_626 :) rfl ?_
        refine AW.iconst (dcN_12 dcg_626 :) ?_
        refine AW.isub (dcN_13 dcg_626 :) ?_
        refine AW.iconst (dcN_14 dcg_626 :) ?_
        refine AW.iload 3 (dcN_15 dcg_626 :) rfl ?_
        obtain ⟨r3, e4, h⟩ := hC h
        refine AW.callVi (As := [iv x1, iv (x6 - 1), iv 0, iv x5]) (st := []) (M_through_ok e4) cq_X12_431 cr_117_X12_through (Nat.le_trans (by decide) hdd) rfl (dcN_16 dcg_626 :) rfl (Nat.le_of_ble_eq_true rfl) ?_
        refine AW.istore (lv1 := [(5, iv r3.1), (0, rv z 117), (1, iv x1), (3, iv x3), (6, iv x6)]) (dcN_0 dcg_627 :) (by decide) rfl ?_
        refine AW.iinc (lv1 := [(6, iv (x6 + (-1))), (5, iv r3.1), (0, rv z 117), (1, iv x1), (3, iv x3)]) 4 (dcN_1 dcg_627 :) rfl (by decide) rfl ?_
        refine AW.goto (tgt := 40) (dcN_2 dcg_627 :) (by decide) ?_
        refine AW.sub (lv1 := [(0, rv z 117), (1, iv x1), (3, iv x3), (5, iv r3.1), (6, iv (x6 + (-1)))]) [2, 3, 4, 1, 0] rfl ?_
        exact (ih _ _ _ _ _ h).2.2 rfl
theorem M_led_ok {z : AZ} {x1 : Int} {x2 : Int} {x3 : Int} {x4 : Int} {g : AG} {r : Int × AG} (h : M_led x1 x2 x3 x4 g = some r) : AMf z yX12_led cX12_led 7 (some .int) 7 [rv z 117, iv x1, iv x2, iv x3, iv x4] g r := by
  intro d hdd
  refine AM.of (by decide +kernel) (Nat.le_of_ble_eq_true rfl) ?_
  show AW z (RX12, cX12_led, 7, (some .int)) d (QD (some .int) r) 0 [(0, rv z 117), (1, iv x1), (2, iv x2), (3, iv x3), (4, iv x4)] [] g
  unfold M_led at h
  refine AW.iload 4 (dcN_0 dcg_625 :) rfl ?_
  refine AW.istore (lv1 := [(5, iv x4), (0, rv z 117), (1, iv x1), (2, iv x2), (3, iv x3), (4, iv x4)]) (dcN_1 dcg_625 :) (by decide) rfl ?_
  refine AW.iload_n 3 (dcN_2 dcg_625 :) rfl ?_
  refine AW.istore (lv1 := [(6, iv x2), (5, iv x4), (0, rv z 117), (1, iv x1), (2, iv x2), (3, iv x3), (4, iv x4)]) (dcN_3 dcg_625 :) (by decide) rfl ?_
  refine AW.sub (lv1 := [(0, rv z 117), (1, iv x1), (2, iv x2), (3, iv x3), (5, iv x4), (6, iv x2)]) [2, 3, 4, 5, 1, 0] rfl ?_
  exact (M_led_b_ok hdd _ _ _ _ _ h).1 rfl
theorem M_comes_ok {z : AZ} {x1 : Int} {x2 : Int} {x3 : Int} {x4 : Int} {g : AG} {r : Int × AG} (h : M_comes x1 x2 x3 x4 g = some r) : AMf z yX12_comes cX12_comes 5 (some .int) 8 [rv z 117, iv x1, iv x2, iv x3, iv x4] g r := by
  intro d hdd
  refine AM.of (by decide +kernel) (Nat.le_of_ble_eq_true rfl) ?_
  show AW z (RX12, cX12_comes, 5, (some .int)) d (QD (some .int) r) 0 [(0, rv z 117), (1, iv x1), (2, iv x2), (3, iv x3), (4, iv x4)] [] g
  unfold M_comes at h
  refine AW.aloadr_n 0 (dcN_0 dcg_628 :) rfl ?_
  refine AW.iload_n 1 (dcN_1 dcg_628 :) rfl ?_
  refine AW.callVi (As := [iv x1]) (st := []) M_isBoat_ok cq_X12_435 cr_117_X12_isBoat (Nat.le_trans (by decide) hdd) rfl (dcN_2 dcg_628 :) rfl (Nat.le_of_ble_eq_true rfl) ?_
  obtain ⟨r7, e8, h⟩ := hC h
  refine AW.join (tgt := 43) (lv1 := []) (st1 := [iv r7.1]) (g1 := r7.2) ?_ (fun J5 => ?_)
  · exact AW.iret1 rfl (dcN_9 dcg_629 :) h rfl
  replace h := e8
  refine AW.if_eq (tgt := 42) (dcN_3 dcg_628 :) (by decide) (fun c1 => ?_) (fun c1 => ?_)
  · replace h := hT h c1
    refine AW.iconst (dcN_8 dcg_629 :) ?_
    refine AW.sub (lv1 := []) [] rfl ?_
    cases h
    exact J5
  · replace h := hF h c1
    refine AW.iload_n 2 (dcN_4 dcg_628 :) rfl ?_
    refine AW.callSi (As := [iv x2]) (st := []) M_isPoint_ok cq_X12_238 st_X12_isPoint (Nat.le_trans (by decide) hdd) rfl (dcN_5 dcg_628 :) rfl (Nat.le_of_ble_eq_true rfl) ?_
    refine AW.if_eq (tgt := 42) (dcN_6 dcg_628 :) (by decide) (fun c2 => ?_) (fun c2 => ?_)
    · replace h := hT h c2
      refine AW.iconst (dcN_8 dcg_629 :) ?_
      refine AW.sub (lv1 := []) [] rfl ?_
      cases h
      exact J5
    · replace h := hF h c2
      refine AW.iload_n 3 (dcN_7 dcg_628 :) rfl ?_
      refine AW.callSi (As := [iv x3]) (st := []) M_isPoint_ok cq_X12_238 st_X12_isPoint (Nat.le_trans (by decide) hdd) rfl (dcN_8 dcg_628 :) rfl (Nat.le_of_ble_eq_true rfl) ?_
      refine AW.if_eq (tgt := 42) (dcN_9 dcg_628 :) (by decide) (fun c3 => ?_) (fun c3 => ?_)
      · replace h := hT h c3
        refine AW.iconst (dcN_8 dcg_629 :) ?_
        refine AW.sub (lv1 := []) [] rfl ?_
        cases h
        exact J5
      · replace h := hF h c3
        refine AW.iload 4 (dcN_10 dcg_628 :) rfl ?_
        refine AW.callSi (As := [iv x4]) (st := []) M_isTime_ok cq_X12_438 st_X12_isTime (Nat.le_trans (by decide) hdd) rfl (dcN_11 dcg_628 :) rfl (Nat.le_of_ble_eq_true rfl) ?_
        refine AW.if_eq (tgt := 42) (dcN_0 dcg_629 :) (by decide) (fun c4 => ?_) (fun c4 => ?_)
        · replace h := hT h c4
          refine AW.iconst (dcN_8 dcg_629 :) ?_
          refine AW.sub (lv1 := []) [] rfl ?_
          cases h
          exact J5
        · replace h := hF h c4
          refine AW.aloadr_n 0 (dcN_1 dcg_629 :) rfl ?_
          refine AW.iload_n 1 (dcN_2 dcg_629 :) rfl ?_
          refine AW.iload_n 2 (dcN_3 dcg_629 :) rfl ?_
          refine AW.iload_n 3 (dcN_4 dcg_629 :) rfl ?_
          refine AW.iload 4 (dcN_5 dcg_629 :) rfl ?_
          obtain ⟨r5, e6, h⟩ := hC h
          refine AW.callVi (As := [iv x1, iv x2, iv x3, iv x4]) (st := []) (M_led_ok e6) cq_X12_441 cr_117_X12_led (Nat.le_trans (by decide) hdd) rfl (dcN_6 dcg_629 :) rfl (Nat.le_of_ble_eq_true rfl) ?_
          refine AW.goto (tgt := 43) (dcN_7 dcg_629 :) (by decide) ?_
          refine AW.sub (lv1 := []) [] rfl ?_
          cases h
          exact J5
theorem M_harm_ok {z : AZ} {x1 : Int} {x2 : Int} {x3 : Int} {x4 : Int} {g : AG} {r : Int × AG} (h : M_harm x1 x2 x3 x4 g = some r) : AMf z yX12_harm cX12_harm 6 (some .int) 8 [rv z 117, iv x1, iv x2, iv x3, iv x4] g r := by
  intro d hdd
  refine AM.of (by decide +kernel) (Nat.le_of_ble_eq_true rfl) ?_
  show AW z (RX12, cX12_harm, 6, (some .int)) d (QD (some .int) r) 0 [(0, rv z 117), (1, iv x1), (2, iv x2), (3, iv x3), (4, iv x4)] [] g
  unfold M_harm at h
  refine AW.aloadr_n 0 (dcN_0 dcg_630 :) rfl ?_
  refine AW.iload_n 1 (dcN_1 dcg_630 :) rfl ?_
  refine AW.callVi (As := [iv x1]) (st := []) M_isBoat_ok cq_X12_435 cr_117_X12_isBoat (Nat.le_trans (by decide) hdd) rfl (dcN_2 dcg_630 :) rfl (Nat.le_of_ble_eq_true rfl) ?_
  refine AW.if_eq (tgt := 30) (dcN_3 dcg_630 :) (by decide) (fun c1 => ?_) (fun c1 => ?_)
  · replace h := hT h c1
    refine AW.iconst (dcN_13 dcg_630 :) ?_
    exact AW.iret1 rfl (dcN_14 dcg_630 :) h rfl
  · replace h := hF h c1
    refine AW.iload_n 2 (dcN_4 dcg_630 :) rfl ?_
    refine AW.callSi (As := [iv x2]) (st := []) M_isPoint_ok cq_X12_238 st_X12_isPoint (Nat.le_trans (by decide) hdd) rfl (dcN_5 dcg_630 :) rfl (Nat.le_of_ble_eq_true rfl) ?_
    refine AW.if_eq (tgt := 30) (dcN_6 dcg_630 :) (by decide) (fun c2 => ?_) (fun c2 => ?_)
    · replace h := hT h c2
      refine AW.iconst (dcN_13 dcg_630 :) ?_
      exact AW.iret1 rfl (dcN_14 dcg_630 :) h rfl
    · replace h := hF h c2
      refine AW.iload_n 3 (dcN_7 dcg_630 :) rfl ?_
      refine AW.callSi (As := [iv x3]) (st := []) M_isPoint_ok cq_X12_238 st_X12_isPoint (Nat.le_trans (by decide) hdd) rfl (dcN_8 dcg_630 :) rfl (Nat.le_of_ble_eq_true rfl) ?_
      refine AW.if_eq (tgt := 30) (dcN_9 dcg_630 :) (by decide) (fun c3 => ?_) (fun c3 => ?_)
      · replace h := hT h c3
        refine AW.iconst (dcN_13 dcg_630 :) ?_
        exact AW.iret1 rfl (dcN_14 dcg_630 :) h rfl
      · replace h := hF h c3
        refine AW.iload 4 (dcN_10 dcg_630 :) rfl ?_
        refine AW.callSi (As := [iv x4]) (st := []) M_isTime_ok cq_X12_438 st_X12_isTime (Nat.le_trans (by decide) hdd) rfl (dcN_11 dcg_630 :) rfl (Nat.le_of_ble_eq_true rfl) ?_
        refine AW.if_ne (tgt := 32) (dcN_12 dcg_630 :) (by decide) (fun c4 => ?_) (fun c4 => ?_)
        · replace h := hF h c4
          refine AW.aloadr_n 0 (dcN_0 dcg_631 :) rfl ?_
          refine AW.iconst (dcN_1 dcg_631 :) ?_
          obtain ⟨g5, e6, h⟩ := hBe h
          refine AW.putZ ap_X12_421_117 sr_117_47 (Or.inr rfl) (dcN_2 dcg_631 :) e6 ?_
          refine AW.aloadr_n 0 (dcN_3 dcg_631 :) rfl ?_
          refine AW.iconst (dcN_4 dcg_631 :) ?_
          obtain ⟨g7, e8, h⟩ := hBe h
          refine AW.putI ap_X12_425_117 sr_117_48 (dcN_5 dcg_631 :) e8 ?_
          refine AW.aloadr_n 0 (dcN_6 dcg_631 :) rfl ?_
          refine AW.iload_n 1 (dcN_7 dcg_631 :) rfl ?_
          refine AW.iload_n 2 (dcN_8 dcg_631 :) rfl ?_
          refine AW.iload_n 3 (dcN_9 dcg_631 :) rfl ?_
          refine AW.iload 4 (dcN_10 dcg_631 :) rfl ?_
          obtain ⟨r9, e10, h⟩ := hC h
          refine AW.callVi (As := [iv x1, iv x2, iv x3, iv x4]) (st := []) (M_led_ok e10) cq_X12_441 cr_117_X12_led (Nat.le_trans (by decide) hdd) rfl (dcN_11 dcg_631 :) rfl (Nat.le_of_ble_eq_true rfl) ?_
          refine AW.istore (lv1 := [(5, iv r9.1), (0, rv z 117), (1, iv x1), (2, iv x2), (3, iv x3), (4, iv x4)]) (dcN_12 dcg_631 :) (by decide) rfl ?_
          refine AW.aloadr_n 1 (dcN_13 dcg_631 :) rfl ?_
          refine AW.iconst (dcN_14 dcg_631 :) ?_
          obtain ⟨g11, e12, h⟩ := hBe h
          refine AW.putZ ap_X12_421_117 sr_117_47 (Or.inl rfl) (dcN_15 dcg_631 :) e12 ?_
          refine AW.iload 0 (dcN_16 dcg_631 :) rfl ?_
          refine AW.iconst (dcN_17 dcg_631 :) ?_
          obtain ⟨t13, e14, h⟩ := hBe h
          refine AW.join (tgt := 72) (lv1 := [(5, iv r9.1), (0, rv z 117), (1, iv x1), (2, iv x2), (3, iv x3), (4, iv x4)]) (st1 := [iv t13]) (g1 := g11) ?_ (fun J61 => ?_)
          · exact AW.iret1 rfl (dcN_4 dcg_632 :) h rfl
          refine AW.icmp_ne (tgt := 68) (dcN_18 dcg_631 :) (by decide) (fun c15 => ?_) (fun c15 => ?_)
          · refine AW.aloadr_n 1 (dcN_2 dcg_632 :) rfl ?_
            refine AW.getI af_X12_425_117 sr_117_48 (dcN_3 dcg_632 :) ?_
            exact AW.val (e14.trans (if_neg c15)) J61
          · refine AW.iconst (dcN_0 dcg_632 :) ?_
            refine AW.goto (tgt := 72) (dcN_1 dcg_632 :) (by decide) ?_
            exact AW.val (e14.trans (if_pos c15)) J61
        · replace h := hT h c4
          refine AW.iconst (dcN_13 dcg_630 :) ?_
          exact AW.iret1 rfl (dcN_14 dcg_630 :) h rfl
set_option synthInstance.maxHeartbeats 2000000 in
theorem M_enough_b_ok {z : AZ} {d : Nat} (hdd : 8 ≤ d) {x1 : Int} {x2 : Int} {x3 : Int} {x4 : Int} {x5 : Int} {x6 : Int} : ∀ (tag : Nat) (x7 : Int) (x8 : Int) (g : AG) (r : Int × AG), M_enough_b x1 x2 x3 x4 x5 x6 tag x7 x8 g = some r → (tag = 1 → AW z (RX12, cX12_enough, 10, (some .int)) d (QD (some .int) r) 54 [(0, rv z 117), (1, iv x1), (2, iv x2), (3, iv x3), (4, iv x4), (5, iv x5), (6, iv x6), (7, iv x7), (8, iv x8)] [] g) ∧ (tag = 2 → AW z (RX12, cX12_enough, 10, (some .int)) d (QD (some .int) r) 127 [(0, rv z 117), (1, iv x1), (6, iv x6), (7, iv x7)] [] g) := by
  refine M_enough_b.partial_correctness x1 x2 x3 x4 x5 x6 (fun tag x7 x8 g r => (tag = 1 → AW z (RX12, cX12_enough, 10, (some .int)) d (QD (some .int) r) 54 [(0, rv z 117), (1, iv x1), (2, iv x2), (3, iv x3), (4, iv x4), (5, iv x5), (6, iv x6), (7, iv x7), (8, iv x8)] [] g) ∧ (tag = 2 → AW z (RX12, cX12_enough, 10, (some .int)) d (QD (some .int) r) 127 [(0, rv z 117), (1, iv x1), (6, iv x6), (7, iv x7)] [] g)) ?_
  intro fb9 ih tag x7 x8 g r h
  refine ⟨fun h9 => ?_, fun h9 => ?_⟩
  · subst h9
    replace h := hT h rfl
    refine AW.iload 8 (dcN_13 dcg_634 :) rfl ?_
    refine AW.bipush (dcN_14 dcg_634 :) (by decide) (by decide) ?_
    refine AW.icmp_gt (tgt := 127) (dcN_15 dcg_634 :) (by decide) (fun c1 => ?_) (fun c1 => ?_)
    · replace h := hT h c1
      refine AW.sub (lv1 := [(0, rv z 117), (1, iv x1), (6, iv x6), (7, iv x7)]) [0, 1, 6, 7] rfl ?_
      exact (ih _ _ _ _ _ h).2 rfl
    · replace h := hF h c1
      refine AW.iload 4 (dcN_16 dcg_634 :) rfl ?_
      refine AW.iload 8 (dcN_17 dcg_634 :) rfl ?_
      refine AW.iadd (dcN_0 dcg_635 :) ?_
      refine AW.sipush (dcN_1 dcg_635 :) (by decide) (by decide) ?_
      refine AW.icmp_gt (tgt := 127) (dcN_2 dcg_635 :) (by decide) (fun c2 => ?_) (fun c2 => ?_)
      · replace h := hT h c2
        refine AW.sub (lv1 := [(0, rv z 117), (1, iv x1), (6, iv x6), (7, iv x7)]) [0, 1, 6, 7] rfl ?_
        exact (ih _ _ _ _ _ h).2 rfl
      · replace h := hF h c2
        refine AW.iload 7 (dcN_3 dcg_635 :) rfl ?_
        refine AW.iconst (dcN_4 dcg_635 :) ?_
        refine AW.icmp_ne (tgt := 127) (dcN_5 dcg_635 :) (by decide) (fun c3 => ?_) (fun c3 => ?_)
        · replace h := hF h c3
          refine AW.sub (lv1 := [(0, rv z 117), (1, iv x1), (6, iv x6), (7, iv x7)]) [0, 1, 6, 7] rfl ?_
          exact (ih _ _ _ _ _ h).2 rfl
        · replace h := hT h c3
          refine AW.aloadr_n 0 (dcN_6 dcg_635 :) rfl ?_
          refine AW.getR af_X12_41_117 sr_117_9 (dcN_7 dcg_635 :) ?_
          refine AW.iload_n 1 (dcN_8 dcg_635 :) rfl ?_
          refine AW.iload 8 (dcN_9 dcg_635 :) rfl ?_
          obtain ⟨k4, h⟩ := hK h
          obtain ⟨g5, e6, h⟩ := hBe h
          refine AW.iast kc_127 sk_127 k4 (dcN_10 dcg_635 :) e6 ?_
          refine AW.aloadr_n 0 (dcN_11 dcg_635 :) rfl ?_
          refine AW.iload_n 1 (dcN_12 dcg_635 :) rfl ?_
          refine AW.iload_n 2 (dcN_13 dcg_635 :) rfl ?_
          refine AW.iload_n 3 (dcN_14 dcg_635 :) rfl ?_
          refine AW.iload 4 (dcN_15 dcg_635 :) rfl ?_
          refine AW.iload 8 (dcN_16 dcg_635 :) rfl ?_
          refine AW.iadd (dcN_17 dcg_635 :) ?_
          obtain ⟨r7, e8, h⟩ := hC h
          refine AW.callVi (As := [iv x1, iv x2, iv x3, iv (x4 + x8)]) (st := []) (M_led_ok e8) cq_X12_441 cr_117_X12_led (Nat.le_trans (by decide) hdd) rfl (dcN_18 dcg_635 :) rfl (Nat.le_of_ble_eq_true rfl) ?_
          refine AW.istore (lv1 := [(9, iv r7.1), (0, rv z 117), (1, iv x1), (2, iv x2), (3, iv x3), (4, iv x4), (5, iv x5), (6, iv x6), (7, iv x7), (8, iv x8)]) (dcN_0 dcg_636 :) (by decide) rfl ?_
          refine AW.iload 0 (dcN_1 dcg_636 :) rfl ?_
          refine AW.iconst (dcN_2 dcg_636 :) ?_
          obtain ⟨t9, e10, h⟩ := hBe h
          refine AW.join (tgt := 119) (lv1 := [(9, iv r7.1), (0, rv z 117), (1, iv x1), (2, iv x2), (3, iv x3), (4, iv x4), (5, iv x5), (6, iv x6), (7, iv x7), (8, iv x8)]) (st1 := [iv t9]) (g1 := r7.2) ?_ (fun J103 => ?_)
          · refine AW.istore (lv1 := [(7, iv t9), (9, iv r7.1), (0, rv z 117), (1, iv x1), (2, iv x2), (3, iv x3), (4, iv x4), (5, iv x5), (6, iv x6), (8, iv x8)]) (dcN_10 dcg_636 :) (by decide) rfl ?_
            refine AW.iinc (lv1 := [(8, iv (x8 + 1)), (7, iv t9), (9, iv r7.1), (0, rv z 117), (1, iv x1), (2, iv x2), (3, iv x3), (4, iv x4), (5, iv x5), (6, iv x6)]) 9 (dcN_11 dcg_636 :) rfl (by decide) rfl ?_
            refine AW.goto (tgt := 54) (dcN_12 dcg_636 :) (by decide) ?_
            refine AW.sub (lv1 := [(0, rv z 117), (1, iv x1), (2, iv x2), (3, iv x3), (4, iv x4), (5, iv x5), (6, iv x6), (7, iv t9), (8, iv (x8 + 1))]) [3, 4, 5, 6, 7, 8, 9, 1, 0] rfl ?_
            exact (ih _ _ _ _ _ h).1 rfl
          refine AW.icmp_eq (tgt := 118) (dcN_3 dcg_636 :) (by decide) (fun c11 => ?_) (fun c11 => ?_)
          · refine AW.iconst (dcN_9 dcg_636 :) ?_
            exact AW.val (e10.trans (if_pos c11)) J103
          · refine AW.iload 0 (dcN_4 dcg_636 :) rfl ?_
            refine AW.iload 6 (dcN_5 dcg_636 :) rfl ?_
            refine AW.icmp_gt (tgt := 118) (dcN_6 dcg_636 :) (by decide) (fun c12 => ?_) (fun c12 => ?_)
            · refine AW.iconst (dcN_9 dcg_636 :) ?_
              exact AW.val (e10.trans ((if_neg c11).trans (if_pos c12))) J103
            · refine AW.iload 9 (dcN_7 dcg_636 :) rfl ?_
              refine AW.goto (tgt := 119) (dcN_8 dcg_636 :) (by decide) ?_
              exact AW.val (e10.trans ((if_neg c11).trans (if_neg c12))) J103
  · subst h9
    replace h := hF h (by decide)
    replace h := hT h rfl
    refine AW.aloadr_n 0 (dcN_13 dcg_636 :) rfl ?_
    refine AW.getR af_X12_41_117 sr_117_9 (dcN_0 dcg_637 :) ?_
    refine AW.iload_n 1 (dcN_1 dcg_637 :) rfl ?_
    refine AW.iload 2 (dcN_2 dcg_637 :) rfl ?_
    obtain ⟨k1, h⟩ := hK h
    obtain ⟨g2, e3, h⟩ := hBe h
    refine AW.iast kc_127 sk_127 k1 (dcN_3 dcg_637 :) e3 ?_
    refine AW.iload 3 (dcN_4 dcg_637 :) rfl ?_
    exact AW.iret1 rfl (dcN_5 dcg_637 :) h rfl
theorem M_enough_ok {z : AZ} {x1 : Int} {x2 : Int} {x3 : Int} {x4 : Int} {x5 : Int} {g : AG} {r : Int × AG} (h : M_enough x1 x2 x3 x4 x5 g = some r) : AMf z yX12_enough cX12_enough 10 (some .int) 8 [rv z 117, iv x1, iv x2, iv x3, iv x4, iv x5] g r := by
  intro d hdd
  refine AM.of (by decide +kernel) (Nat.le_of_ble_eq_true rfl) ?_
  show AW z (RX12, cX12_enough, 10, (some .int)) d (QD (some .int) r) 0 [(0, rv z 117), (1, iv x1), (2, iv x2), (3, iv x3), (4, iv x4), (5, iv x5)] [] g
  unfold M_enough at h
  refine AW.aloadr_n 0 (dcN_0 dcg_633 :) rfl ?_
  refine AW.iload_n 1 (dcN_1 dcg_633 :) rfl ?_
  refine AW.callVi (As := [iv x1]) (st := []) M_isBoat_ok cq_X12_435 cr_117_X12_isBoat (Nat.le_trans (by decide) hdd) rfl (dcN_2 dcg_633 :) rfl (Nat.le_of_ble_eq_true rfl) ?_
  refine AW.if_eq (tgt := 38) (dcN_3 dcg_633 :) (by decide) (fun c1 => ?_) (fun c1 => ?_)
  · replace h := hT h c1
    refine AW.iconst (dcN_2 dcg_634 :) ?_
    exact AW.iret1 rfl (dcN_3 dcg_634 :) h rfl
  · replace h := hF h c1
    refine AW.iload_n 2 (dcN_4 dcg_633 :) rfl ?_
    refine AW.callSi (As := [iv x2]) (st := []) M_isPoint_ok cq_X12_238 st_X12_isPoint (Nat.le_trans (by decide) hdd) rfl (dcN_5 dcg_633 :) rfl (Nat.le_of_ble_eq_true rfl) ?_
    refine AW.if_eq (tgt := 38) (dcN_6 dcg_633 :) (by decide) (fun c2 => ?_) (fun c2 => ?_)
    · replace h := hT h c2
      refine AW.iconst (dcN_2 dcg_634 :) ?_
      exact AW.iret1 rfl (dcN_3 dcg_634 :) h rfl
    · replace h := hF h c2
      refine AW.iload_n 3 (dcN_7 dcg_633 :) rfl ?_
      refine AW.callSi (As := [iv x3]) (st := []) M_isPoint_ok cq_X12_238 st_X12_isPoint (Nat.le_trans (by decide) hdd) rfl (dcN_8 dcg_633 :) rfl (Nat.le_of_ble_eq_true rfl) ?_
      refine AW.if_eq (tgt := 38) (dcN_9 dcg_633 :) (by decide) (fun c3 => ?_) (fun c3 => ?_)
      · replace h := hT h c3
        refine AW.iconst (dcN_2 dcg_634 :) ?_
        exact AW.iret1 rfl (dcN_3 dcg_634 :) h rfl
      · replace h := hF h c3
        refine AW.iload 4 (dcN_10 dcg_633 :) rfl ?_
        refine AW.callSi (As := [iv x4]) (st := []) M_isTime_ok cq_X12_438 st_X12_isTime (Nat.le_trans (by decide) hdd) rfl (dcN_11 dcg_633 :) rfl (Nat.le_of_ble_eq_true rfl) ?_
        refine AW.if_eq (tgt := 38) (dcN_12 dcg_633 :) (by decide) (fun c4 => ?_) (fun c4 => ?_)
        · replace h := hT h c4
          refine AW.iconst (dcN_2 dcg_634 :) ?_
          exact AW.iret1 rfl (dcN_3 dcg_634 :) h rfl
        · replace h := hF h c4
          refine AW.iload 5 (dcN_13 dcg_633 :) rfl ?_
          refine AW.callSi (As := [iv x5]) (st := []) M_isTime_ok cq_X12_438 st_X12_isTime (Nat.le_trans (by decide) hdd) rfl (dcN_0 dcg_634 :) rfl (Nat.le_of_ble_eq_true rfl) ?_
          refine AW.if_ne (tgt := 40) (dcN_1 dcg_634 :) (by decide) (fun c5 => ?_) (fun c5 => ?_)
          · replace h := hF h c5
            refine AW.aloadr_n 0 (dcN_4 dcg_634 :) rfl ?_
            refine AW.getR af_X12_41_117 sr_117_9 (dcN_5 dcg_634 :) ?_
            refine AW.iload_n 1 (dcN_6 dcg_634 :) rfl ?_
            obtain ⟨k6, h⟩ := hK h
            refine AW.iald kc_127 sk_127 k6 (dcN_7 dcg_634 :) ?_
            refine AW.istore (lv1 := [(6, iv (g 127 (ix x1))), (0, rv z 117), (1, iv x1), (2, iv x2), (3, iv x3), (4, iv x4), (5, iv x5)]) (dcN_8 dcg_634 :) (by decide) rfl ?_
            refine AW.iconst (dcN_9 dcg_634 :) ?_
            refine AW.istore (lv1 := [(7, iv (-1)), (6, iv (g 127 (ix x1))), (0, rv z 117), (1, iv x1), (2, iv x2), (3, iv x3), (4, iv x4), (5, iv x5)]) (dcN_10 dcg_634 :) (by decide) rfl ?_
            refine AW.iconst (dcN_11 dcg_634 :) ?_
            refine AW.istore (lv1 := [(8, iv 0), (7, iv (-1)), (6, iv (g 127 (ix x1))), (0, rv z 117), (1, iv x1), (2, iv x2), (3, iv x3), (4, iv x4), (5, iv x5)]) (dcN_12 dcg_634 :) (by decide) rfl ?_
            refine AW.sub (lv1 := [(0, rv z 117), (1, iv x1), (2, iv x2), (3, iv x3), (4, iv x4), (5, iv x5), (6, iv (g 127 (ix x1))), (7, iv (-1)), (8, iv 0)]) [3, 4, 5, 6, 7, 8, 2, 1, 0] rfl ?_
            exact (M_enough_b_ok hdd _ _ _ _ _ h).1 rfl
          · replace h := hT h c5
            refine AW.iconst (dcN_2 dcg_634 :) ?_
            exact AW.iret1 rfl (dcN_3 dcg_634 :) h rfl
set_option synthInstance.maxHeartbeats 2000000 in
theorem M_maybe_b_ok {z : AZ} {d : Nat} (hdd : 8 ≤ d) {x1 : Int} {x2 : Int} {x3 : Int} {x4 : Int} : ∀ (x5 : Int) (x6 : Int) (g : AG) (r : Int × AG), M_maybe_b x1 x2 x3 x4 x5 x6 g = some r → AW z (RX12, cX12_maybe, 8, (some .int)) d (QD (some .int) r) 42 [(0, rv z 117), (1, iv x1), (2, iv x2), (3, iv x3), (4, iv x4), (5, iv x5), (6, iv x6)] [] g := by
  refine M_maybe_b.partial_correctness x1 x2 x3 x4 (fun x5 x6 g r => AW z (RX12, cX12_maybe, 8, (some .int)) d (QD (some .int) r) 42 [(0, rv z 117), (1, iv x1), (2, iv x2), (3, iv x3), (4, iv x4), (5, iv x5), (6, iv x6)] [] g) ?_
  intro fb9 ih x5 x6 g r h
  refine AW.iload 6 (dcN_6 dcg_639 :) rfl ?_
  refine AW.bipush (dcN_7 dcg_639 :) (by decide) (by decide) ?_
  refine AW.icmp_ge (tgt := 92) (dcN_8 dcg_639 :) (by decide) (fun c1 => ?_) (fun c1 => ?_)
  · replace h := hT h c1
    refine AW.iload 5 (dcN_14 dcg_640 :) rfl ?_
    exact AW.iret1 rfl (dcN_15 dcg_640 :) h rfl
  · replace h := hF h c1
    refine AW.aloadr_n 0 (dcN_9 dcg_639 :) rfl ?_
    refine AW.iload_n 1 (dcN_10 dcg_639 :) rfl ?_
    refine AW.iload_n 2 (dcN_11 dcg_639 :) rfl ?_
    refine AW.iload 6 (dcN_12 dcg_639 :) rfl ?_
    refine AW.iload_n 3 (dcN_13 dcg_639 :) rfl ?_
    obtain ⟨r2, e3, h⟩ := hC h
    refine AW.callVi (As := [iv x1, iv x2, iv x6, iv x3]) (st := []) (M_led_ok e3) cq_X12_441 cr_117_X12_led (Nat.le_trans (by decide) hdd) rfl (dcN_14 dcg_639 :) rfl (Nat.le_of_ble_eq_true rfl) ?_
    refine AW.istore (lv1 := [(7, iv r2.1), (0, rv z 117), (1, iv x1), (2, iv x2), (3, iv x3), (4, iv x4), (5, iv x5), (6, iv x6)]) (dcN_15 dcg_639 :) (by decide) rfl ?_
    refine AW.iload 6 (dcN_16 dcg_639 :) rfl ?_
    refine AW.iload 0 (dcN_17 dcg_639 :) rfl ?_
    refine AW.iconst (dcN_0 dcg_640 :) ?_
    obtain ⟨t4, e5, h⟩ := hBe h
    refine AW.join (tgt := 83) (lv1 := [(7, iv r2.1), (0, rv z 117), (1, iv x1), (2, iv x2), (3, iv x3), (4, iv x4), (5, iv x5), (6, iv x6)]) (st1 := [iv t4, iv x5]) (g1 := r2.2) ?_ (fun J65 => ?_)
    · refine AW.ior (dcN_10 dcg_640 :) ?_
      refine AW.istore (lv1 := [(5, iv (orI x5 t4)), (7, iv r2.1), (0, rv z 117), (1, iv x1), (2, iv x2), (3, iv x3), (4, iv x4), (6, iv x6)]) (dcN_11 dcg_640 :) (by decide) rfl ?_
      refine AW.iinc (lv1 := [(6, iv (x6 + 1)), (5, iv (orI x5 t4)), (7, iv r2.1), (0, rv z 117), (1, iv x1), (2, iv x2), (3, iv x3), (4, iv x4)]) 7 (dcN_12 dcg_640 :) rfl (by decide) rfl ?_
      refine AW.goto (tgt := 42) (dcN_13 dcg_640 :) (by decide) ?_
      refine AW.sub (lv1 := [(0, rv z 117), (1, iv x1), (2, iv x2), (3, iv x3), (4, iv x4), (5, iv (orI x5 t4)), (6, iv (x6 + 1))]) [3, 4, 5, 6, 7, 1, 0] rfl ?_
      exact ih _ _ _ _ h
    refine AW.icmp_eq (tgt := 82) (dcN_1 dcg_640 :) (by decide) (fun c6 => ?_) (fun c6 => ?_)
    · refine AW.iconst (dcN_9 dcg_640 :) ?_
      exact AW.val (e5.trans (if_pos c6)) J65
    · refine AW.iload 0 (dcN_2 dcg_640 :) rfl ?_
      refine AW.iload 5 (dcN_3 dcg_640 :) rfl ?_
      refine AW.icmp_gt (tgt := 82) (dcN_4 dcg_640 :) (by decide) (fun c7 => ?_) (fun c7 => ?_)
      · refine AW.iconst (dcN_9 dcg_640 :) ?_
        exact AW.val (e5.trans ((if_neg c6).trans (if_pos c7))) J65
      · refine AW.iconst (dcN_5 dcg_640 :) ?_
        refine AW.iload 7 (dcN_6 dcg_640 :) rfl ?_
        refine AW.ishl (dcN_7 dcg_640 :) ?_
        refine AW.goto (tgt := 83) (dcN_8 dcg_640 :) (by decide) ?_
        exact AW.val (e5.trans ((if_neg c6).trans (if_neg c7))) J65
theorem M_maybe_ok {z : AZ} {x1 : Int} {x2 : Int} {x3 : Int} {x4 : Int} {g : AG} {r : Int × AG} (h : M_maybe x1 x2 x3 x4 g = some r) : AMf z yX12_maybe cX12_maybe 8 (some .int) 8 [rv z 117, iv x1, iv x2, iv x3, iv x4] g r := by
  intro d hdd
  refine AM.of (by decide +kernel) (Nat.le_of_ble_eq_true rfl) ?_
  show AW z (RX12, cX12_maybe, 8, (some .int)) d (QD (some .int) r) 0 [(0, rv z 117), (1, iv x1), (2, iv x2), (3, iv x3), (4, iv x4)] [] g
  unfold M_maybe at h
  refine AW.aloadr_n 0 (dcN_0 dcg_638 :) rfl ?_
  refine AW.iload_n 1 (dcN_1 dcg_638 :) rfl ?_
  refine AW.callVi (As := [iv x1]) (st := []) M_isBoat_ok cq_X12_435 cr_117_X12_isBoat (Nat.le_trans (by decide) hdd) rfl (dcN_2 dcg_638 :) rfl (Nat.le_of_ble_eq_true rfl) ?_
  refine AW.if_eq (tgt := 34) (dcN_3 dcg_638 :) (by decide) (fun c1 => ?_) (fun c1 => ?_)
  · replace h := hT h c1
    refine AW.iconst (dcN_0 dcg_639 :) ?_
    exact AW.iret1 rfl (dcN_1 dcg_639 :) h rfl
  · replace h := hF h c1
    refine AW.iload_n 2 (dcN_4 dcg_638 :) rfl ?_
    refine AW.callSi (As := [iv x2]) (st := []) M_isPoint_ok cq_X12_238 st_X12_isPoint (Nat.le_trans (by decide) hdd) rfl (dcN_5 dcg_638 :) rfl (Nat.le_of_ble_eq_true rfl) ?_
    refine AW.if_eq (tgt := 34) (dcN_6 dcg_638 :) (by decide) (fun c2 => ?_) (fun c2 => ?_)
    · replace h := hT h c2
      refine AW.iconst (dcN_0 dcg_639 :) ?_
      exact AW.iret1 rfl (dcN_1 dcg_639 :) h rfl
    · replace h := hF h c2
      refine AW.iload_n 3 (dcN_7 dcg_638 :) rfl ?_
      refine AW.callSi (As := [iv x3]) (st := []) M_isTime_ok cq_X12_438 st_X12_isTime (Nat.le_trans (by decide) hdd) rfl (dcN_8 dcg_638 :) rfl (Nat.le_of_ble_eq_true rfl) ?_
      refine AW.if_eq (tgt := 34) (dcN_9 dcg_638 :) (by decide) (fun c3 => ?_) (fun c3 => ?_)
      · replace h := hT h c3
        refine AW.iconst (dcN_0 dcg_639 :) ?_
        exact AW.iret1 rfl (dcN_1 dcg_639 :) h rfl
      · replace h := hF h c3
        refine AW.iload 4 (dcN_10 dcg_638 :) rfl ?_
        refine AW.iload_n 3 (dcN_11 dcg_638 :) rfl ?_
        refine AW.sipush (dcN_12 dcg_638 :) (by decide) (by decide) ?_
        refine AW.callSi (As := [iv x4, iv x3, iv 20159]) (st := []) M_isIn_ok cq_X12_3 st_X12_isIn (Nat.le_trans (by decide) hdd) rfl (dcN_13 dcg_638 :) rfl (Nat.le_of_ble_eq_true rfl) ?_
        refine AW.if_ne (tgt := 36) (dcN_14 dcg_638 :) (by decide) (fun c4 => ?_) (fun c4 => ?_)
        · replace h := hF h c4
          refine AW.iconst (dcN_2 dcg_639 :) ?_
          refine AW.istore (lv1 := [(5, iv 0), (0, rv z 117), (1, iv x1), (2, iv x2), (3, iv x3), (4, iv x4)]) (dcN_3 dcg_639 :) (by decide) rfl ?_
          refine AW.iconst (dcN_4 dcg_639 :) ?_
          refine AW.istore (lv1 := [(6, iv 0), (5, iv 0), (0, rv z 117), (1, iv x1), (2, iv x2), (3, iv x3), (4, iv x4)]) (dcN_5 dcg_639 :) (by decide) rfl ?_
          refine AW.sub (lv1 := [(0, rv z 117), (1, iv x1), (2, iv x2), (3, iv x3), (4, iv x4), (5, iv 0), (6, iv 0)]) [2, 3, 4, 5, 6, 1, 0] rfl ?_
          exact M_maybe_b_ok hdd _ _ _ _ h
        · replace h := hT h c4
          refine AW.iconst (dcN_0 dcg_639 :) ?_
          exact AW.iret1 rfl (dcN_1 dcg_639 :) h rfl
theorem M_trip_ok {z : AZ} {x1 : Int} {x2 : Int} {x3 : Int} {x4 : Int} {x5 : Int} {g : AG} {r : Int × AG} (h : M_trip x1 x2 x3 x4 x5 g = some r) : AMf z yX12_trip cX12_trip 6 (some .int) 2 [rv z 117, iv x1, iv x2, iv x3, iv x4, iv x5] g r := by
  intro d hdd
  refine AM.of (by decide +kernel) (Nat.le_of_ble_eq_true rfl) ?_
  show AW z (RX12, cX12_trip, 6, (some .int)) d (QD (some .int) r) 0 [(0, rv z 117), (1, iv x1), (2, iv x2), (3, iv x3), (4, iv x4), (5, iv x5)] [] g
  unfold M_trip at h
  refine AW.aloadr_n 0 (dcN_0 dcg_641 :) rfl ?_
  refine AW.iload_n 1 (dcN_1 dcg_641 :) rfl ?_
  refine AW.callVi (As := [iv x1]) (st := []) M_isBoat_ok cq_X12_435 cr_117_X12_isBoat (Nat.le_trans (by decide) hdd) rfl (dcN_2 dcg_641 :) rfl (Nat.le_of_ble_eq_true rfl) ?_
  refine AW.if_eq (tgt := 47) (dcN_3 dcg_641 :) (by decide) (fun c1 => ?_) (fun c1 => ?_)
  · replace h := hT h c1
    refine AW.iconst (dcN_6 dcg_642 :) ?_
    exact AW.iret1 rfl (dcN_7 dcg_642 :) h rfl
  · replace h := hF h c1
    refine AW.iload_n 2 (dcN_4 dcg_641 :) rfl ?_
    refine AW.callSi (As := [iv x2]) (st := []) M_isPoint_ok cq_X12_238 st_X12_isPoint (Nat.le_trans (by decide) hdd) rfl (dcN_5 dcg_641 :) rfl (Nat.le_of_ble_eq_true rfl) ?_
    refine AW.if_eq (tgt := 47) (dcN_6 dcg_641 :) (by decide) (fun c2 => ?_) (fun c2 => ?_)
    · replace h := hT h c2
      refine AW.iconst (dcN_6 dcg_642 :) ?_
      exact AW.iret1 rfl (dcN_7 dcg_642 :) h rfl
    · replace h := hF h c2
      refine AW.iload_n 3 (dcN_7 dcg_641 :) rfl ?_
      refine AW.callSi (As := [iv x3]) (st := []) M_isPoint_ok cq_X12_238 st_X12_isPoint (Nat.le_trans (by decide) hdd) rfl (dcN_8 dcg_641 :) rfl (Nat.le_of_ble_eq_true rfl) ?_
      refine AW.if_eq (tgt := 47) (dcN_9 dcg_641 :) (by decide) (fun c3 => ?_) (fun c3 => ?_)
      · replace h := hT h c3
        refine AW.iconst (dcN_6 dcg_642 :) ?_
        exact AW.iret1 rfl (dcN_7 dcg_642 :) h rfl
      · replace h := hF h c3
        refine AW.iload 4 (dcN_10 dcg_641 :) rfl ?_
        refine AW.callSi (As := [iv x4]) (st := []) M_isTime_ok cq_X12_438 st_X12_isTime (Nat.le_trans (by decide) hdd) rfl (dcN_11 dcg_641 :) rfl (Nat.le_of_ble_eq_true rfl) ?_
        refine AW.if_eq (tgt := 47) (dcN_12 dcg_641 :) (by decide) (fun c4 => ?_) (fun c4 => ?_)
        · replace h := hT h c4
          refine AW.iconst (dcN_6 dcg_642 :) ?_
          exact AW.iret1 rfl (dcN_7 dcg_642 :) h rfl
        · replace h := hF h c4
          refine AW.iload 5 (dcN_13 dcg_641 :) rfl ?_
          refine AW.callSi (As := [iv x5]) (st := []) M_isTime_ok cq_X12_438 st_X12_isTime (Nat.le_trans (by decide) hdd) rfl (dcN_0 dcg_642 :) rfl (Nat.le_of_ble_eq_true rfl) ?_
          refine AW.if_eq (tgt := 47) (dcN_1 dcg_642 :) (by decide) (fun c5 => ?_) (fun c5 => ?_)
          · replace h := hT h c5
            refine AW.iconst (dcN_6 dcg_642 :) ?_
            exact AW.iret1 rfl (dcN_7 dcg_642 :) h rfl
          · replace h := hF h c5
            refine AW.aloadr_n 0 (dcN_2 dcg_642 :) rfl ?_
            refine AW.getI af_X12_444_117 sr_117_49 (dcN_3 dcg_642 :) ?_
            refine AW.bipush (dcN_4 dcg_642 :) (by decide) (by decide) ?_
            refine AW.icmp_ne (tgt := 49) (dcN_5 dcg_642 :) (by decide) (fun c6 => ?_) (fun c6 => ?_)
            · replace h := hF h c6
              refine AW.aloadr_n 0 (dcN_8 dcg_642 :) rfl ?_
              refine AW.getR af_X12_115_117 sr_117_50 (dcN_9 dcg_642 :) ?_
              refine AW.aloadr_n 0 (dcN_10 dcg_642 :) rfl ?_
              refine AW.getI af_X12_444_117 sr_117_49 (dcN_11 dcg_642 :) ?_
              refine AW.iload_n 1 (dcN_12 dcg_642 :) rfl ?_
              obtain ⟨k7, h⟩ := hK h
              obtain ⟨g8, e9, h⟩ := hBe h
              refine AW.iast kc_149 sk_149 k7 (dcN_13 dcg_642 :) e9 ?_
              refine AW.aloadr_n 0 (dcN_14 dcg_642 :) rfl ?_
              refine AW.getR af_X12_118_117 sr_117_51 (dcN_15 dcg_642 :) ?_
              refine AW.aloadr_n 0 (dcN_16 dcg_642 :) rfl ?_
              refine AW.getI af_X12_444_117 sr_117_49 (dcN_0 dcg_643 :) ?_
              refine AW.iload_n 2 (dcN_1 dcg_643 :) rfl ?_
              obtain ⟨k10, h⟩ := hK h
              obtain ⟨g11, e12, h⟩ := hBe h
              refine AW.iast kc_150 sk_150 k10 (dcN_2 dcg_643 :) e12 ?_
              refine AW.aloadr_n 0 (dcN_3 dcg_643 :) rfl ?_
              refine AW.getR af_X12_121_117 sr_117_52 (dcN_4 dcg_643 :) ?_
              refine AW.aloadr_n 0 (dcN_5 dcg_643 :) rfl ?_
              refine AW.getI af_X12_444_117 sr_117_49 (dcN_6 dcg_643 :) ?_
              refine AW.iload_n 3 (dcN_7 dcg_643 :) rfl ?_
              obtain ⟨k13, h⟩ := hK h
              obtain ⟨g14, e15, h⟩ := hBe h
              refine AW.iast kc_151 sk_151 k13 (dcN_8 dcg_643 :) e15 ?_
              refine AW.aloadr_n 0 (dcN_9 dcg_643 :) rfl ?_
              refine AW.getR af_X12_124_117 sr_117_53 (dcN_10 dcg_643 :) ?_
              refine AW.aloadr_n 0 (dcN_11 dcg_643 :) rfl ?_
              refine AW.getI af_X12_444_117 sr_117_49 (dcN_12 dcg_643 :) ?_
              refine AW.iload 4 (dcN_13 dcg_643 :) rfl ?_
              obtain ⟨k16, h⟩ := hK h
              obtain ⟨g17, e18, h⟩ := hBe h
              refine AW.iast kc_152 sk_152 k16 (dcN_14 dcg_643 :) e18 ?_
              refine AW.aloadr_n 0 (dcN_15 dcg_643 :) rfl ?_
              refine AW.getR af_X12_127_117 sr_117_54 (dcN_16 dcg_643 :) ?_
              refine AW.aloadr_n 0 (dcN_17 dcg_643 :) rfl ?_
              refine AW.getI af_X12_444_117 sr_117_49 (dcN_18 dcg_643 :) ?_
              refine AW.iload 5 (dcN_0 dcg_644 :) rfl ?_
              obtain ⟨k19, h⟩ := hK h
              obtain ⟨g20, e21, h⟩ := hBe h
              refine AW.iast kc_153 sk_153 k19 (dcN_1 dcg_644 :) e21 ?_
              refine AW.aloadr_n 0 (dcN_2 dcg_644 :) rfl ?_
              refine AW.duprr (dcN_3 dcg_644 :) ?_
              refine AW.getI af_X12_444_117 sr_117_49 (dcN_4 dcg_644 :) ?_
              refine AW.iconst (dcN_5 dcg_644 :) ?_
              refine AW.iadd (dcN_6 dcg_644 :) ?_
              obtain ⟨g22, e23, h⟩ := hBe h
              refine AW.putI ap_X12_444_117 sr_117_49 (dcN_7 dcg_644 :) e23 ?_
              refine AW.aloadr_n 0 (dcN_8 dcg_644 :) rfl ?_
              refine AW.getI af_X12_444_117 sr_117_49 (dcN_9 dcg_644 :) ?_
              refine AW.iconst (dcN_10 dcg_644 :) ?_
              refine AW.isub (dcN_11 dcg_644 :) ?_
              exact AW.iret1 rfl (dcN_12 dcg_644 :) h rfl
            · replace h := hT h c6
              refine AW.iconst (dcN_6 dcg_642 :) ?_
              exact AW.iret1 rfl (dcN_7 dcg_642 :) h rfl
theorem M_lateOf_ok {z : AZ} {x1 : Int} {g : AG} {r : Int × AG} (h : M_lateOf x1 g = some r) : AMf z yX12_lateOf cX12_lateOf 3 (some .int) 8 [rv z 117, iv x1] g r := by
  intro d hdd
  refine AM.of (by decide +kernel) (Nat.le_of_ble_eq_true rfl) ?_
  show AW z (RX12, cX12_lateOf, 3, (some .int)) d (QD (some .int) r) 0 [(0, rv z 117), (1, iv x1)] [] g
  unfold M_lateOf at h
  refine AW.aloadr_n 0 (dcN_0 dcg_645 :) rfl ?_
  refine AW.aloadr_n 0 (dcN_1 dcg_645 :) rfl ?_
  refine AW.getR af_X12_115_117 sr_117_50 (dcN_2 dcg_645 :) ?_
  refine AW.iload_n 1 (dcN_3 dcg_645 :) rfl ?_
  obtain ⟨k1, h⟩ := hK h
  refine AW.iald kc_149 sk_149 k1 (dcN_4 dcg_645 :) ?_
  refine AW.aloadr_n 0 (dcN_5 dcg_645 :) rfl ?_
  refine AW.getR af_X12_118_117 sr_117_51 (dcN_6 dcg_645 :) ?_
  refine AW.iload_n 1 (dcN_7 dcg_645 :) rfl ?_
  refine AW.iald kc_150 sk_150 k1 (dcN_8 dcg_645 :) ?_
  refine AW.aloadr_n 0 (dcN_9 dcg_645 :) rfl ?_
  refine AW.getR af_X12_121_117 sr_117_52 (dcN_10 dcg_645 :) ?_
  refine AW.iload_n 1 (dcN_11 dcg_645 :) rfl ?_
  refine AW.iald kc_151 sk_151 k1 (dcN_12 dcg_645 :) ?_
  refine AW.aloadr_n 0 (dcN_13 dcg_645 :) rfl ?_
  refine AW.getR af_X12_124_117 sr_117_53 (dcN_14 dcg_645 :) ?_
  refine AW.iload_n 1 (dcN_15 dcg_645 :) rfl ?_
  refine AW.iald kc_152 sk_152 k1 (dcN_16 dcg_645 :) ?_
  obtain ⟨r2, e3, h⟩ := hC h
  refine AW.callVi (As := [iv (g 149 (ix x1)), iv (g 150 (ix x1)), iv (g 151 (ix x1)), iv (g 152 (ix x1))]) (st := []) (M_led_ok e3) cq_X12_441 cr_117_X12_led (Nat.le_trans (by decide) hdd) rfl (dcN_17 dcg_645 :) rfl (Nat.le_of_ble_eq_true rfl) ?_
  refine AW.istore_n (lv1 := [(2, iv r2.1), (0, rv z 117), (1, iv x1)]) (dcN_18 dcg_645 :) (by decide) rfl ?_
  refine AW.iload_n 0 (dcN_19 dcg_645 :) rfl ?_
  refine AW.iconst (dcN_20 dcg_645 :) ?_
  obtain ⟨r6, e7, h⟩ := hC h
  refine AW.join (tgt := 62) (lv1 := []) (st1 := [iv r6.1]) (g1 := r6.2) ?_ (fun J31 => ?_)
  · exact AW.iret1 rfl (dcN_16 dcg_646 :) h rfl
  replace h := e7
  refine AW.icmp_ne (tgt := 40) (dcN_21 dcg_645 :) (by decide) (fun c4 => ?_) (fun c4 => ?_)
  · replace h := hF h c4
    refine AW.iload_n 0 (dcN_2 dcg_646 :) rfl ?_
    refine AW.aloadr_n 1 (dcN_3 dcg_646 :) rfl ?_
    refine AW.getR af_X12_127_117 sr_117_54 (dcN_4 dcg_646 :) ?_
    refine AW.iload_n 2 (dcN_5 dcg_646 :) rfl ?_
    refine AW.iald kc_153 sk_153 k1 (dcN_6 dcg_646 :) ?_
    refine AW.icmp_le (tgt := 61) (dcN_7 dcg_646 :) (by decide) (fun c5 => ?_) (fun c5 => ?_)
    · replace h := hT h c5
      refine AW.iconst (dcN_15 dcg_646 :) ?_
      refine AW.sub (lv1 := []) [] rfl ?_
      cases h
      exact J31
    · replace h := hF h c5
      refine AW.iload_n 0 (dcN_8 dcg_646 :) rfl ?_
      refine AW.aloadr_n 1 (dcN_9 dcg_646 :) rfl ?_
      refine AW.getR af_X12_127_117 sr_117_54 (dcN_10 dcg_646 :) ?_
      refine AW.iload_n 2 (dcN_11 dcg_646 :) rfl ?_
      refine AW.iald kc_153 sk_153 k1 (dcN_12 dcg_646 :) ?_
      refine AW.isub (dcN_13 dcg_646 :) ?_
      refine AW.goto (tgt := 62) (dcN_14 dcg_646 :) (by decide) ?_
      refine AW.sub (lv1 := []) [] rfl ?_
      cases h
      exact J31
  · replace h := hT h c4
    refine AW.sipush (dcN_0 dcg_646 :) (by decide) (by decide) ?_
    refine AW.goto (tgt := 62) (dcN_1 dcg_646 :) (by decide) ?_
    refine AW.sub (lv1 := []) [] rfl ?_
    cases h
    exact J31
set_option synthInstance.maxHeartbeats 2000000 in
theorem M_late_b_ok {z : AZ} {d : Nat} (hdd : 9 ≤ d) : ∀ (x2 : Int) (x3 : Int) (g : AG) (r : Int × AG), M_late_b x2 x3 g = some r → AW z (RX12, cX12_late, 4, (some .int)) d (QD (some .int) r) 33 [(0, rv z 117), (2, iv x2), (3, iv x3)] [] g := by
  refine M_late_b.partial_correctness (fun x2 x3 g r => AW z (RX12, cX12_late, 4, (some .int)) d (QD (some .int) r) 33 [(0, rv z 117), (2, iv x2), (3, iv x3)] [] g) ?_
  intro fb9 ih x2 x3 g r h
  refine AW.iload_n 2 (dcN_1 dcg_648 :) rfl ?_
  refine AW.aloadr_n 0 (dcN_2 dcg_648 :) rfl ?_
  refine AW.getI af_X12_444_117 sr_117_49 (dcN_3 dcg_648 :) ?_
  refine AW.icmp_ge (tgt := 63) (dcN_4 dcg_648 :) (by decide) (fun c1 => ?_) (fun c1 => ?_)
  · replace h := hT h c1
    refine AW.iload_n 1 (dcN_17 dcg_648 :) rfl ?_
    exact AW.iret1 rfl (dcN_0 dcg_649 :) h rfl
  · replace h := hF h c1
    refine AW.iload_n 1 (dcN_5 dcg_648 :) rfl ?_
    refine AW.aloadr_n 0 (dcN_6 dcg_648 :) rfl ?_
    refine AW.iload_n 2 (dcN_7 dcg_648 :) rfl ?_
    obtain ⟨r2, e3, h⟩ := hC h
    refine AW.callVi (As := [iv x3]) (st := [iv x2]) (M_lateOf_ok e3) cq_X12_447 cr_117_X12_lateOf (Nat.le_trans (by decide) hdd) rfl (dcN_8 dcg_648 :) rfl (Nat.le_of_ble_eq_true rfl) ?_
    obtain ⟨t4, e5, h⟩ := hBe h
    refine AW.join (tgt := 55) (lv1 := [(0, rv z 117), (2, iv x2), (3, iv x3)]) (st1 := [iv t4, iv x2]) (g1 := r2.2) ?_ (fun J47 => ?_)
    · refine AW.iadd (dcN_13 dcg_648 :) ?_
      refine AW.istore_n (lv1 := [(2, iv (x2 + t4)), (0, rv z 117), (3, iv x3)]) (dcN_14 dcg_648 :) (by decide) rfl ?_
      refine AW.iinc (lv1 := [(3, iv (x3 + 1)), (2, iv (x2 + t4)), (0, rv z 117)]) 2 (dcN_15 dcg_648 :) rfl (by decide) rfl ?_
      refine AW.goto (tgt := 33) (dcN_16 dcg_648 :) (by decide) ?_
      refine AW.sub (lv1 := [(0, rv z 117), (2, iv (x2 + t4)), (3, iv (x3 + 1))]) [2, 1, 0] rfl ?_
      exact ih _ _ _ _ h
    refine AW.if_le (tgt := 54) (dcN_9 dcg_648 :) (by decide) (fun c6 => ?_) (fun c6 => ?_)
    · refine AW.iconst (dcN_12 dcg_648 :) ?_
      exact AW.val (e5.trans (if_pos c6)) J47
    · refine AW.iconst (dcN_10 dcg_648 :) ?_
      refine AW.goto (tgt := 55) (dcN_11 dcg_648 :) (by decide) ?_
      exact AW.val (e5.trans (if_neg c6)) J47
theorem M_late_ok {z : AZ} {x1 : Int} {g : AG} {r : Int × AG} (h : M_late x1 g = some r) : AMf z yX12_late cX12_late 4 (some .int) 9 [rv z 117, iv x1] g r := by
  intro d hdd
  refine AM.of (by decide +kernel) (Nat.le_of_ble_eq_true rfl) ?_
  show AW z (RX12, cX12_late, 4, (some .int)) d (QD (some .int) r) 0 [(0, rv z 117), (1, iv x1)] [] g
  unfold M_late at h
  refine AW.iload_n 1 (dcN_0 dcg_647 :) rfl ?_
  refine AW.iconst (dcN_1 dcg_647 :) ?_
  refine AW.icmp_eq (tgt := 29) (dcN_2 dcg_647 :) (by decide) (fun c1 => ?_) (fun c1 => ?_)
  · replace h := hT h c1
    refine AW.iconst (dcN_17 dcg_647 :) ?_
    refine AW.istore_n (lv1 := [(2, iv 0), (0, rv z 117), (1, iv x1)]) (dcN_18 dcg_647 :) (by decide) rfl ?_
    refine AW.iconst (dcN_19 dcg_647 :) ?_
    refine AW.istore_n (lv1 := [(3, iv 0), (2, iv 0), (0, rv z 117), (1, iv x1)]) (dcN_0 dcg_648 :) (by decide) rfl ?_
    refine AW.sub (lv1 := [(0, rv z 117), (2, iv 0), (3, iv 0)]) [2, 1, 0] rfl ?_
    exact M_late_b_ok hdd _ _ _ _ h
  · replace h := hF h c1
    refine AW.iload_n 1 (dcN_3 dcg_647 :) rfl ?_
    refine AW.iconst (dcN_4 dcg_647 :) ?_
    refine AW.aloadr_n 0 (dcN_5 dcg_647 :) rfl ?_
    refine AW.getI af_X12_444_117 sr_117_49 (dcN_6 dcg_647 :) ?_
    refine AW.iconst (dcN_7 dcg_647 :) ?_
    refine AW.isub (dcN_8 dcg_647 :) ?_
    refine AW.callSi (As := [iv x1, iv 0, iv ((g 117 49) - 1)]) (st := []) M_isIn_ok cq_X12_3 st_X12_isIn (Nat.le_trans (by decide) hdd) rfl (dcN_9 dcg_647 :) rfl (Nat.le_of_ble_eq_true rfl) ?_
    obtain ⟨r5, e6, h⟩ := hC h
    refine AW.join (tgt := 28) (lv1 := []) (st1 := [iv r5.1]) (g1 := r5.2) ?_ (fun J16 => ?_)
    · exact AW.iret1 rfl (dcN_16 dcg_647 :) h rfl
    replace h := e6
    refine AW.if_eq (tgt := 27) (dcN_10 dcg_647 :) (by decide) (fun c2 => ?_) (fun c2 => ?_)
    · replace h := hT h c2
      refine AW.iconst (dcN_15 dcg_647 :) ?_
      refine AW.sub (lv1 := []) [] rfl ?_
      cases h
      exact J16
    · replace h := hF h c2
      refine AW.aloadr_n 0 (dcN_11 dcg_647 :) rfl ?_
      refine AW.iload_n 1 (dcN_12 dcg_647 :) rfl ?_
      obtain ⟨r3, e4, h⟩ := hC h
      refine AW.callVi (As := [iv x1]) (st := []) (M_lateOf_ok e4) cq_X12_447 cr_117_X12_lateOf (Nat.le_trans (by decide) hdd) rfl (dcN_13 dcg_647 :) rfl (Nat.le_of_ble_eq_true rfl) ?_
      refine AW.goto (tgt := 28) (dcN_14 dcg_647 :) (by decide) ?_
      refine AW.sub (lv1 := []) [] rfl ?_
      cases h
      exact J16
theorem M_price_ok {z : AZ} {x1 : Int} {x2 : Int} {x3 : Int} {g : AG} {r : Int × AG} (h : M_price x1 x2 x3 g = some r) : AMf z yX12_price cX12_price 5 (some .int) 3 [rv z 117, iv x1, iv x2, iv x3] g r := by
  intro d hdd
  refine AM.of (by decide +kernel) (Nat.le_of_ble_eq_true rfl) ?_
  show AW z (RX12, cX12_price, 5, (some .int)) d (QD (some .int) r) 0 [(0, rv z 117), (1, iv x1), (2, iv x2), (3, iv x3)] [] g
  unfold M_price at h
  refine AW.aloadr_n 0 (dcN_0 dcg_835 :) rfl ?_
  refine AW.iload_n 1 (dcN_1 dcg_835 :) rfl ?_
  refine AW.callVi (As := [iv x1]) (st := []) M_isBoat_ok cq_X12_435 cr_117_X12_isBoat (Nat.le_trans (by decide) hdd) rfl (dcN_2 dcg_835 :) rfl (Nat.le_of_ble_eq_true rfl) ?_
  refine AW.if_eq (tgt := 18) (dcN_3 dcg_835 :) (by decide) (fun c1 => ?_) (fun c1 => ?_)
  · replace h := hT h c1
    refine AW.ldcw (dcN_9 dcg_835 :) cw_X12_450 ?_
    exact AW.iret1 rfl (dcN_10 dcg_835 :) h rfl
  · replace h := hF h c1
    refine AW.iload_n 2 (dcN_4 dcg_835 :) rfl ?_
    refine AW.iconst (dcN_5 dcg_835 :) ?_
    refine AW.bipush (dcN_6 dcg_835 :) (by decide) (by decide) ?_
    refine AW.callSi (As := [iv x2, iv 0, iv 9]) (st := []) M_isIn_ok cq_X12_3 st_X12_isIn (Nat.le_trans (by decide) hdd) rfl (dcN_7 dcg_835 :) rfl (Nat.le_of_ble_eq_true rfl) ?_
    refine AW.if_ne (tgt := 22) (dcN_8 dcg_835 :) (by decide) (fun c2 => ?_) (fun c2 => ?_)
    · replace h := hF h c2
      refine AW.aloadr_n 0 (dcN_11 dcg_835 :) rfl ?_
      obtain ⟨r3, e4, h⟩ := hC h
      refine AW.callVv (As := []) (st := []) (M_forgets_ok e4) cq_X12_401 cr_117_X12_forgets (Nat.le_trans (by decide) hdd) rfl (dcN_12 dcg_835 :) rfl (Nat.le_of_ble_eq_true rfl) ?_
      refine AW.aloadr_n 0 (dcN_13 dcg_835 :) rfl ?_
      refine AW.getR af_X12_109_117 sr_117_33 (dcN_14 dcg_835 :) ?_
      refine AW.iconst (dcN_15 dcg_835 :) ?_
      refine AW.iload_n 2 (dcN_16 dcg_835 :) rfl ?_
      obtain ⟨g5, e6, h⟩ := hBe h
      refine AW.iast kc_148 sk_148 (by decide) (dcN_0 dcg_836 :) e6 ?_
      refine AW.aloadr_n 0 (dcN_1 dcg_836 :) rfl ?_
      refine AW.getR af_X12_109_117 sr_117_33 (dcN_2 dcg_836 :) ?_
      refine AW.iconst (dcN_3 dcg_836 :) ?_
      refine AW.aloadr_n 0 (dcN_4 dcg_836 :) rfl ?_
      refine AW.getR af_X12_32_117 sr_117_6 (dcN_5 dcg_836 :) ?_
      refine AW.iload_n 1 (dcN_6 dcg_836 :) rfl ?_
      obtain ⟨k7, h⟩ := hK h
      refine AW.iald kc_124 sk_124 k7 (dcN_7 dcg_836 :) ?_
      obtain ⟨g8, e9, h⟩ := hBe h
      refine AW.iast kc_148 sk_148 (by decide) (dcN_8 dcg_836 :) e9 ?_
      refine AW.aloadr_n 0 (dcN_9 dcg_836 :) rfl ?_
      refine AW.getR af_X12_109_117 sr_117_33 (dcN_10 dcg_836 :) ?_
      refine AW.iconst (dcN_11 dcg_836 :) ?_
      refine AW.iload_n 3 (dcN_12 dcg_836 :) rfl ?_
      obtain ⟨t10, e11, h⟩ := hBe h
      refine AW.join (tgt := 59) (lv1 := [(0, rv z 117), (1, iv x1), (2, iv x2), (3, iv x3)]) (st1 := [iv t10, iv 5, rv z 148]) (g1 := g8) ?_ (fun J51 => ?_)
      · obtain ⟨g12, e13, h⟩ := hBe h
        refine AW.iast kc_148 sk_148 (by decide) (dcN_17 dcg_836 :) e13 ?_
        refine AW.aloadr_n 0 (dcN_18 dcg_836 :) rfl ?_
        refine AW.getR af_X12_109_117 sr_117_33 (dcN_19 dcg_836 :) ?_
        refine AW.bipush (dcN_0 dcg_837 :) (by decide) (by decide) ?_
        refine AW.aloadr_n 0 (dcN_1 dcg_837 :) rfl ?_
        refine AW.getR af_X12_35_117 sr_117_7 (dcN_2 dcg_837 :) ?_
        refine AW.iload_n 1 (dcN_3 dcg_837 :) rfl ?_
        refine AW.iald kc_125 sk_125 k7 (dcN_4 dcg_837 :) ?_
        obtain ⟨g14, e15, h⟩ := hBe h
        refine AW.iast kc_148 sk_148 (by decide) (dcN_5 dcg_837 :) e15 ?_
        refine AW.aloadr_n 0 (dcN_6 dcg_837 :) rfl ?_
        refine AW.iconst (dcN_7 dcg_837 :) ?_
        obtain ⟨r16, e17, h⟩ := hC h
        refine AW.callVi (As := [iv 2]) (st := []) (M_serves_ok e17) cq_X12_404 cr_117_X12_serves (Nat.le_trans (by decide) hdd) rfl (dcN_8 dcg_837 :) rfl (Nat.le_of_ble_eq_true rfl) ?_
        refine AW.istore (lv1 := [(4, iv r16.1), (0, rv z 117), (1, iv x1), (2, iv x2), (3, iv x3)]) (dcN_9 dcg_837 :) (by decide) rfl ?_
        refine AW.aloadr_n 1 (dcN_10 dcg_837 :) rfl ?_
        refine AW.iload 0 (dcN_11 dcg_837 :) rfl ?_
        refine AW.iconst (dcN_12 dcg_837 :) ?_
        obtain ⟨t18, e19, h⟩ := hBe h
        refine AW.join (tgt := 92) (lv1 := [(4, iv r16.1), (0, rv z 117), (1, iv x1), (2, iv x2), (3, iv x3)]) (st1 := [iv t18, rv z 117]) (g1 := r16.2) ?_ (fun J84 => ?_)
        · obtain ⟨g20, e21, h⟩ := hBe h
          refine AW.putZ ap_X12_454_117 sr_117_100 (by rw [e19]; (repeat' split) <;> first | exact Or.inl rfl | exact Or.inr rfl) (dcN_17 dcg_837 :) e21 ?_
          refine AW.iload 0 (dcN_18 dcg_837 :) rfl ?_
          refine AW.iconst (dcN_0 dcg_838 :) ?_
          obtain ⟨r26, e27, h⟩ := hC h
          refine AW.join (tgt := 125) (lv1 := []) (st1 := [iv r26.1]) (g1 := r26.2) ?_ (fun J98 => ?_)
          · exact AW.iret1 rfl (dcN_14 dcg_838 :) h rfl
          replace h := e27
          refine AW.icmp_ne (tgt := 107) (dcN_1 dcg_838 :) (by decide) (fun c22 => ?_) (fun c22 => ?_)
          · replace h := hF h c22
            refine AW.aloadr_n 1 (dcN_4 dcg_838 :) rfl ?_
            refine AW.aloadr_n 1 (dcN_5 dcg_838 :) rfl ?_
            refine AW.getR af_X12_57_117 sr_117_16 (dcN_6 dcg_838 :) ?_
            refine AW.iload 0 (dcN_7 dcg_838 :) rfl ?_
            obtain ⟨k23, h⟩ := hK h
            refine AW.iald kc_131 sk_131 k23 (dcN_8 dcg_838 :) ?_
            refine AW.aloadr_n 1 (dcN_9 dcg_838 :) rfl ?_
            refine AW.getR af_X12_60_117 sr_117_17 (dcN_10 dcg_838 :) ?_
            refine AW.iload 0 (dcN_11 dcg_838 :) rfl ?_
            refine AW.iald kc_132 sk_132 k23 (dcN_12 dcg_838 :) ?_
            obtain ⟨r24, e25, h⟩ := hC h
            refine AW.callVi (As := [iv (g20 131 (ix r16.1)), iv (g20 132 (ix r16.1))]) (st := []) (M_comesTo_ok e25) cq_X12_397 cr_117_X12_comesTo (Nat.le_trans (by decide) hdd) rfl (dcN_13 dcg_838 :) rfl (Nat.le_of_ble_eq_true rfl) ?_
            refine AW.sub (lv1 := []) [] rfl ?_
            cases h
            exact J98
          · replace h := hT h c22
            refine AW.ldcw (dcN_2 dcg_838 :) cw_X12_450 ?_
            refine AW.goto (tgt := 125) (dcN_3 dcg_838 :) (by decide) ?_
            refine AW.sub (lv1 := []) [] rfl ?_
            cases h
            exact J98
        refine AW.icmp_eq (tgt := 91) (dcN_13 dcg_837 :) (by decide) (fun c28 => ?_) (fun c28 => ?_)
        · refine AW.iconst (dcN_16 dcg_837 :) ?_
          exact AW.val (e19.trans (if_pos c28)) J84
        · refine AW.iconst (dcN_14 dcg_837 :) ?_
          refine AW.goto (tgt := 92) (dcN_15 dcg_837 :) (by decide) ?_
          exact AW.val (e19.trans (if_neg c28)) J84
      refine AW.if_eq (tgt := 58) (dcN_13 dcg_836 :) (by decide) (fun c29 => ?_) (fun c29 => ?_)
      · refine AW.iconst (dcN_16 dcg_836 :) ?_
        exact AW.val (e11.trans (if_pos c29)) J51
      · refine AW.iconst (dcN_14 dcg_836 :) ?_
        refine AW.goto (tgt := 59) (dcN_15 dcg_836 :) (by decide) ?_
        exact AW.val (e11.trans (if_neg c29)) J51
    · replace h := hT h c2
      refine AW.ldcw (dcN_9 dcg_835 :) cw_X12_450 ?_
      exact AW.iret1 rfl (dcN_10 dcg_835 :) h rfl
