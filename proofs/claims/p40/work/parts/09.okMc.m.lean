section
set_option synthInstance.maxHeartbeats 2000000 in
theorem M_isStopped_b_ok {z : AZ} {d : Nat} (hdd : 1 ≤ d) {x1 : Int} {x2 : Int} {g : AG} : ∀ (tag : Nat) (x3 : Int) (r : Int), M_isStopped_b x1 x2 g tag x3 = some r → (tag = 1 → AW z (RX12, cX12_isStopped, 4, (some .boolean)) d (QD (some .boolean) (r, g)) 2 [(0, rv z 117), (1, iv x1), (2, iv x2), (3, iv x3)] [] g) ∧ (tag = 2 → AW z (RX12, cX12_isStopped, 4, (some .boolean)) d (QD (some .boolean) (r, g)) 41 [(0, rv z 117), (1, iv x1), (2, iv x2), (3, iv x3)] [] g) := by
  refine M_isStopped_b.partial_correctness x1 x2 g (fun tag x3 r => (tag = 1 → AW z (RX12, cX12_isStopped, 4, (some .boolean)) d (QD (some .boolean) (r, g)) 2 [(0, rv z 117), (1, iv x1), (2, iv x2), (3, iv x3)] [] g) ∧ (tag = 2 → AW z (RX12, cX12_isStopped, 4, (some .boolean)) d (QD (some .boolean) (r, g)) 41 [(0, rv z 117), (1, iv x1), (2, iv x2), (3, iv x3)] [] g)) ?_
  intro fb9 ih tag x3 r h
  refine ⟨fun h9 => ?_, fun h9 => ?_⟩
  · subst h9
    replace h := hT h rfl
    refine AW.iload_n 3 (dcN_2 dcg_603 :) rfl ?_
    refine AW.aloadr_n 0 (dcN_3 dcg_603 :) rfl ?_
    refine AW.getI af_X12_232_117 sr_117_11 (dcN_4 dcg_603 :) ?_
    refine AW.icmp_ge (tgt := 47) (dcN_5 dcg_603 :) (by decide) (fun c1 => ?_) (fun c1 => ?_)
    · replace h := hT h c1
      refine AW.iconst (dcN_7 dcg_604 :) ?_
      exact AW.zret2 rfl (Or.inl rfl) (dcN_8 dcg_604 :) h rfl
    · replace h := hF h c1
      refine AW.aloadr_n 0 (dcN_6 dcg_603 :) rfl ?_
      refine AW.getR af_X12_23_117 sr_117_3 (dcN_7 dcg_603 :) ?_
      refine AW.iload_n 3 (dcN_8 dcg_603 :) rfl ?_
      obtain ⟨k2, h⟩ := hK h
      refine AW.iald kc_121 sk_121 k2 (dcN_9 dcg_603 :) ?_
      refine AW.iload_n 1 (dcN_10 dcg_603 :) rfl ?_
      refine AW.icmp_ne (tgt := 41) (dcN_11 dcg_603 :) (by decide) (fun c3 => ?_) (fun c3 => ?_)
      · replace h := hF h c3
        exact (ih _ _ _ h).2 rfl
      · replace h := hT h c3
        refine AW.iload_n 2 (dcN_12 dcg_603 :) rfl ?_
        refine AW.aloadr_n 0 (dcN_13 dcg_603 :) rfl ?_
        refine AW.getR af_X12_26_117 sr_117_4 (dcN_14 dcg_603 :) ?_
        refine AW.iload_n 3 (dcN_15 dcg_603 :) rfl ?_
        refine AW.iald kc_122 sk_122 k2 (dcN_16 dcg_603 :) ?_
        refine AW.aloadr_n 0 (dcN_17 dcg_603 :) rfl ?_
        refine AW.getR af_X12_29_117 sr_117_5 (dcN_18 dcg_603 :) ?_
        refine AW.iload_n 3 (dcN_19 dcg_603 :) rfl ?_
        refine AW.iald kc_123 sk_123 k2 (dcN_0 dcg_604 :) ?_
        refine AW.callSi (As := [iv x2, iv (g 122 (ix x3)), iv (g 123 (ix x3))]) (st := []) M_isIn_ok cq_X12_3 st_X12_isIn (Nat.le_trans (by decide) hdd) rfl (dcN_1 dcg_604 :) rfl (Nat.le_of_ble_eq_true rfl) ?_
        refine AW.if_eq (tgt := 41) (dcN_2 dcg_604 :) (by decide) (fun c4 => ?_) (fun c4 => ?_)
        · replace h := hT h c4
          exact (ih _ _ _ h).2 rfl
        · replace h := hF h c4
          refine AW.iconst (dcN_3 dcg_604 :) ?_
          exact AW.zret2 rfl (Or.inr rfl) (dcN_4 dcg_604 :) h rfl
  · subst h9
    replace h := hF h (by decide)
    replace h := hT h rfl
    refine AW.iinc (lv1 := [(3, iv (x3 + 1)), (0, rv z 117), (1, iv x1), (2, iv x2)]) 3 (dcN_5 dcg_604 :) rfl (by decide) rfl ?_
    refine AW.goto (tgt := 2) (dcN_6 dcg_604 :) (by decide) ?_
    refine AW.sub (lv1 := [(0, rv z 117), (1, iv x1), (2, iv x2), (3, iv (x3 + 1))]) [1, 2, 3, 0] rfl ?_
    exact (ih _ _ _ h).1 rfl
theorem M_isStopped_ok {z : AZ} {x1 : Int} {x2 : Int} {g : AG} {r : Int} (h : M_isStopped x1 x2 g = some r) : AMf z yX12_isStopped cX12_isStopped 4 (some .boolean) 1 [rv z 117, iv x1, iv x2] g (r, g) := by
  intro d hdd
  refine AM.of (by decide +kernel) (Nat.le_of_ble_eq_true rfl) ?_
  show AW z (RX12, cX12_isStopped, 4, (some .boolean)) d (QD (some .boolean) (r, g)) 0 [(0, rv z 117), (1, iv x1), (2, iv x2)] [] g
  unfold M_isStopped at h
  refine AW.iconst (dcN_0 dcg_603 :) ?_
  refine AW.istore_n (lv1 := [(3, iv 0), (0, rv z 117), (1, iv x1), (2, iv x2)]) (dcN_1 dcg_603 :) (by decide) rfl ?_
  refine AW.sub (lv1 := [(0, rv z 117), (1, iv x1), (2, iv x2), (3, iv 0)]) [1, 2, 3, 0] rfl ?_
  exact (M_isStopped_b_ok hdd _ _ _ h).1 rfl
theorem M_mayBegin_ok {z : AZ} {x1 : Int} {x2 : Int} {x3 : Int} {x4 : Int} {g : AG} {r : Int × AG} (h : M_mayBegin x1 x2 x3 x4 g = some r) : AMf z yX12_mayBegin cX12_mayBegin 6 (some .boolean) 4 [rv z 117, iv x1, iv x2, iv x3, iv x4] g r := by
  intro d hdd
  refine AM.of (by decide +kernel) (Nat.le_of_ble_eq_true rfl) ?_
  show AW z (RX12, cX12_mayBegin, 6, (some .boolean)) d (QD (some .boolean) r) 0 [(0, rv z 117), (1, iv x1), (2, iv x2), (3, iv x3), (4, iv x4)] [] g
  unfold M_mayBegin at h
  refine AW.iload 4 (dcN_0 dcg_605 :) rfl ?_
  refine AW.bipush (dcN_1 dcg_605 :) (by decide) (by decide) ?_
  refine AW.bipush (dcN_2 dcg_605 :) (by decide) (by decide) ?_
  refine AW.callSi (As := [iv x4, iv 8, iv 19]) (st := []) M_isIn_ok cq_X12_3 st_X12_isIn (Nat.le_trans (by decide) hdd) rfl (dcN_3 dcg_605 :) rfl (Nat.le_of_ble_eq_true rfl) ?_
  refine AW.if_eq (tgt := 21) (dcN_4 dcg_605 :) (by decide) (fun c1 => ?_) (fun c1 => ?_)
  · replace h := hT h c1
    refine AW.iconst (dcN_10 dcg_605 :) ?_
    exact AW.zret1 rfl (Or.inl rfl) (dcN_11 dcg_605 :) h rfl
  · replace h := hF h c1
    refine AW.aloadr_n 0 (dcN_5 dcg_605 :) rfl ?_
    refine AW.iload_n 1 (dcN_6 dcg_605 :) rfl ?_
    refine AW.iload_n 3 (dcN_7 dcg_605 :) rfl ?_
    obtain ⟨r2, e3, h⟩ := hC h
    refine AW.callVi (As := [iv x1, iv x3]) (st := []) (M_isStopped_ok e3) cq_X12_410 cr_117_X12_isStopped (Nat.le_trans (by decide) hdd) rfl (dcN_8 dcg_605 :) rfl (Nat.le_of_ble_eq_true rfl) ?_
    refine AW.if_eq (tgt := 23) (dcN_9 dcg_605 :) (by decide) (fun c4 => ?_) (fun c4 => ?_)
    · replace h := hT h c4
      refine AW.iload_n 2 (dcN_12 dcg_605 :) rfl ?_
      refine AW.if_ne (tgt := 29) (dcN_13 dcg_605 :) (by decide) (fun c5 => ?_) (fun c5 => ?_)
      · replace h := hF h c5
        refine AW.iload_n 2 (dcN_16 dcg_605 :) rfl ?_
        refine AW.iconst (dcN_17 dcg_605 :) ?_
        refine AW.icmp_ne (tgt := 77) (dcN_18 dcg_605 :) (by decide) (fun c6 => ?_) (fun c6 => ?_)
        · replace h := hF h c6
          refine AW.iconst (dcN_7 dcg_607 :) ?_
          refine AW.iload_n 1 (dcN_8 dcg_607 :) rfl ?_
          refine AW.imul (dcN_9 dcg_607 :) ?_
          refine AW.iload_n 2 (dcN_10 dcg_607 :) rfl ?_
          refine AW.iadd (dcN_11 dcg_607 :) ?_
          refine AW.iconst (dcN_12 dcg_607 :) ?_
          refine AW.isub (dcN_13 dcg_607 :) ?_
          refine AW.istore (lv1 := [(5, iv (((2 * x1) + x2) - 2)), (0, rv z 117), (1, iv x1), (2, iv x2), (3, iv x3), (4, iv x4)]) (dcN_14 dcg_607 :) (by decide) rfl ?_
          refine AW.aloadr_n 1 (dcN_15 dcg_607 :) rfl ?_
          refine AW.getR af_X12_96_117 sr_117_29 (dcN_16 dcg_607 :) ?_
          refine AW.iload 0 (dcN_17 dcg_607 :) rfl ?_
          obtain ⟨k7, h⟩ := hK h
          refine AW.zald kc_144 sk_144 k7 (dcN_18 dcg_607 :) ?_
          obtain ⟨r15, e16, h⟩ := hC h
          refine AW.join (tgt := 131) (lv1 := []) (st1 := [iv r15.1]) (g1 := r15.2) ?_ (fun J93 => ?_)
          · obtain ⟨k17, h⟩ := hK h
            exact AW.zret1 rfl k17 (dcN_1 dcg_609 :) h rfl
          replace h := e16
          refine AW.if_eq (tgt := 130) (dcN_19 dcg_607 :) (by decide) (fun c8 => ?_) (fun c8 => ?_)
          · replace h := hT h c8
            refine AW.iconst (dcN_0 dcg_609 :) ?_
            refine AW.sub (lv1 := []) [] rfl ?_
            cases h
            exact J93
          · replace h := hF h c8
            refine AW.iload 5 (dcN_0 dcg_608 :) rfl ?_
            refine AW.aloadr_n 1 (dcN_1 dcg_608 :) rfl ?_
            refine AW.getR af_X12_90_117 sr_117_27 (dcN_2 dcg_608 :) ?_
            refine AW.iconst (dcN_3 dcg_608 :) ?_
            refine AW.iload 0 (dcN_4 dcg_608 :) rfl ?_
            refine AW.imul (dcN_5 dcg_608 :) ?_
            obtain ⟨k9, h⟩ := hK h
            refine AW.iald kc_142 sk_142 k9 (dcN_6 dcg_608 :) ?_
            refine AW.icmp_lt (tgt := 130) (dcN_7 dcg_608 :) (by decide) (fun c10 => ?_) (fun c10 => ?_)
            · replace h := hT h c10
              refine AW.iconst (dcN_0 dcg_609 :) ?_
              refine AW.sub (lv1 := []) [] rfl ?_
              cases h
              exact J93
            · replace h := hF h c10
              refine AW.iload 5 (dcN_8 dcg_608 :) rfl ?_
              refine AW.aloadr_n 1 (dcN_9 dcg_608 :) rfl ?_
              refine AW.getR af_X12_90_117 sr_117_27 (dcN_10 dcg_608 :) ?_
              refine AW.iconst (dcN_11 dcg_608 :) ?_
              refine AW.iload 0 (dcN_12 dcg_608 :) rfl ?_
              refine AW.imul (dcN_13 dcg_608 :) ?_
              refine AW.iconst (dcN_14 dcg_608 :) ?_
              refine AW.iadd (dcN_15 dcg_608 :) ?_
              obtain ⟨k11, h⟩ := hK h
              refine AW.iald kc_142 sk_142 k11 (dcN_16 dcg_608 :) ?_
              obtain ⟨t12, e13, h⟩ := hBe h
              refine AW.join (tgt := 131) (lv1 := [(5, iv (((2 * x1) + x2) - 2)), (0, rv z 117), (1, iv x1), (2, iv x2), (3, iv x3), (4, iv x4)]) (st1 := [iv t12]) (g1 := g) ?_ (fun J123 => ?_)
              · refine AW.sub (lv1 := []) [] rfl ?_
                cases h
                exact J93
              refine AW.icmp_ge (tgt := 130) (dcN_17 dcg_608 :) (by decide) (fun c14 => ?_) (fun c14 => ?_)
              · refine AW.iconst (dcN_0 dcg_609 :) ?_
                exact AW.val (e13.trans (if_pos c14)) J123
              · refine AW.iconst (dcN_18 dcg_608 :) ?_
                refine AW.goto (tgt := 131) (dcN_19 dcg_608 :) (by decide) ?_
                exact AW.val (e13.trans (if_neg c14)) J123
        · replace h := hT h c6
          refine AW.aloadr_n 0 (dcN_0 dcg_606 :) rfl ?_
          refine AW.iload_n 3 (dcN_1 dcg_606 :) rfl ?_
          obtain ⟨r18, e19, h⟩ := hC h
          refine AW.callVi (As := [iv x3]) (st := []) (M_locksLine_ok e19) cq_X12_407 cr_117_X12_locksLine (Nat.le_trans (by decide) hdd) rfl (dcN_2 dcg_606 :) rfl (Nat.le_of_ble_eq_true rfl) ?_
          refine AW.istore (lv1 := [(5, iv r18.1), (0, rv z 117), (1, iv x1), (2, iv x2), (3, iv x3), (4, iv x4)]) (dcN_3 dcg_606 :) (by decide) rfl ?_
          refine AW.iload 0 (dcN_4 dcg_606 :) rfl ?_
          refine AW.iconst (dcN_5 dcg_606 :) ?_
          obtain ⟨r26, e27, h⟩ := hC h
          refine AW.join (tgt := 76) (lv1 := []) (st1 := [iv r26.1]) (g1 := r26.2) ?_ (fun J44 => ?_)
          · obtain ⟨k28, h⟩ := hK h
            exact AW.zret1 rfl k28 (dcN_6 dcg_607 :) h rfl
          replace h := e27
          refine AW.icmp_eq (tgt := 71) (dcN_6 dcg_606 :) (by decide) (fun c20 => ?_) (fun c20 => ?_)
          · replace h := hT h c20
            refine AW.iconst (dcN_3 dcg_607 :) ?_
            refine AW.goto (tgt := 76) (dcN_4 dcg_607 :) (by decide) ?_
            refine AW.sub (lv1 := []) [] rfl ?_
            cases h
            exact J44
          · replace h := hF h c20
            refine AW.iload 5 (dcN_7 dcg_606 :) rfl ?_
            refine AW.aloadr_n 1 (dcN_8 dcg_606 :) rfl ?_
            refine AW.getR af_X12_51_117 sr_117_14 (dcN_9 dcg_606 :) ?_
            refine AW.iload 0 (dcN_10 dcg_606 :) rfl ?_
            obtain ⟨k21, h⟩ := hK h
            refine AW.iald kc_129 sk_129 k21 (dcN_11 dcg_606 :) ?_
            refine AW.icmp_lt (tgt := 75) (dcN_12 dcg_606 :) (by decide) (fun c22 => ?_) (fun c22 => ?_)
            · replace h := hT h c22
              refine AW.iconst (dcN_5 dcg_607 :) ?_
              refine AW.sub (lv1 := []) [] rfl ?_
              cases h
              exact J44
            · replace h := hF h c22
              refine AW.iload 5 (dcN_13 dcg_606 :) rfl ?_
              refine AW.aloadr_n 1 (dcN_14 dcg_606 :) rfl ?_
              refine AW.getR af_X12_54_117 sr_117_15 (dcN_15 dcg_606 :) ?_
              refine AW.iload 0 (dcN_0 dcg_607 :) rfl ?_
              refine AW.iald kc_130 sk_130 k21 (dcN_1 dcg_607 :) ?_
              obtain ⟨t23, e24, h⟩ := hBe h
              refine AW.join (tgt := 76) (lv1 := [(5, iv r18.1), (0, rv z 117), (1, iv x1), (2, iv x2), (3, iv x3), (4, iv x4)]) (st1 := [iv t23]) (g1 := r18.2) ?_ (fun J68 => ?_)
              · refine AW.sub (lv1 := []) [] rfl ?_
                cases h
                exact J44
              refine AW.icmp_ge (tgt := 75) (dcN_2 dcg_607 :) (by decide) (fun c25 => ?_) (fun c25 => ?_)
              · refine AW.iconst (dcN_5 dcg_607 :) ?_
                exact AW.val (e24.trans (if_pos c25)) J68
              · refine AW.iconst (dcN_3 dcg_607 :) ?_
                refine AW.goto (tgt := 76) (dcN_4 dcg_607 :) (by decide) ?_
                exact AW.val (e24.trans (if_neg c25)) J68
      · replace h := hT h c5
        refine AW.iconst (dcN_14 dcg_605 :) ?_
        exact AW.zret1 rfl (Or.inr rfl) (dcN_15 dcg_605 :) h rfl
    · replace h := hF h c4
      refine AW.iconst (dcN_10 dcg_605 :) ?_
      exact AW.zret1 rfl (Or.inl rfl) (dcN_11 dcg_605 :) h rfl
set_option synthInstance.maxHeartbeats 2000000 in
theorem M_endOf_b_ok {z : AZ} {d : Nat} (hdd : 5 ≤ d) {x1 : Int} {x2 : Int} {x4 : Int} : ∀ (tag : Nat) (x5 : Int) (g : AG) (r : Int × AG), M_endOf_b x1 x2 x4 tag x5 g = some r → (tag = 1 → AW z (RX12, cX12_endOf, 6, (some .int)) d (QD (some .int) r) 3 [(0, rv z 117), (1, iv x1), (2, iv x2), (4, iv x4), (5, iv x5)] [] g) ∧ (tag = 2 → AW z (RX12, cX12_endOf, 6, (some .int)) d (QD (some .int) r) 50 [(4, iv x4), (5, iv x5)] [] g) := by
  refine M_endOf_b.partial_correctness x1 x2 x4 (fun tag x5 g r => (tag = 1 → AW z (RX12, cX12_endOf, 6, (some .int)) d (QD (some .int) r) 3 [(0, rv z 117), (1, iv x1), (2, iv x2), (4, iv x4), (5, iv x5)] [] g) ∧ (tag = 2 → AW z (RX12, cX12_endOf, 6, (some .int)) d (QD (some .int) r) 50 [(4, iv x4), (5, iv x5)] [] g)) ?_
  intro fb9 ih tag x5 g r h
  refine ⟨fun h9 => ?_, fun h9 => ?_⟩
  · subst h9
    replace h := hT h rfl
    refine AW.iload 4 (dcN_2 dcg_610 :) rfl ?_
    refine AW.sipush (dcN_3 dcg_610 :) (by decide) (by decide) ?_
    refine AW.icmp_gt (tgt := 50) (dcN_4 dcg_610 :) (by decide) (fun c1 => ?_) (fun c1 => ?_)
    · replace h := hT h c1
      refine AW.sub (lv1 := [(4, iv x4), (5, iv x5)]) [3, 4] rfl ?_
      exact (ih _ _ _ _ h).2 rfl
    · replace h := hF h c1
      refine AW.aloadr_n 0 (dcN_5 dcg_610 :) rfl ?_
      refine AW.iload_n 1 (dcN_6 dcg_610 :) rfl ?_
      refine AW.iload_n 2 (dcN_7 dcg_610 :) rfl ?_
      refine AW.iload 4 (dcN_8 dcg_610 :) rfl ?_
      refine AW.sipush (dcN_9 dcg_610 :) (by decide) (by decide) ?_
      refine AW.idiv (dcN_10 dcg_610 :) (by decide) ?_
      refine AW.iload 4 (dcN_11 dcg_610 :) rfl ?_
      refine AW.sipush (dcN_12 dcg_610 :) (by decide) (by decide) ?_
      refine AW.irem (dcN_13 dcg_610 :) (by decide) ?_
      refine AW.bipush (dcN_14 dcg_610 :) (by decide) (by decide) ?_
      refine AW.idiv (dcN_15 dcg_610 :) (by decide) ?_
      obtain ⟨r2, e3, h⟩ := hC h
      refine AW.callVi (As := [iv x1, iv x2, iv ((nw x5).tdiv 1440), iv ((nw ((nw x5).tmod 1440)).tdiv 60)]) (st := []) (M_mayBegin_ok e3) cq_X12_413 cr_117_X12_mayBegin (Nat.le_trans (by decide) hdd) rfl (dcN_16 dcg_610 :) rfl (Nat.le_of_ble_eq_true rfl) ?_
      refine AW.if_ne (tgt := 50) (dcN_0 dcg_611 :) (by decide) (fun c4 => ?_) (fun c4 => ?_)
      · replace h := hF h c4
        refine AW.sub (lv1 := [(4, iv x4), (5, iv x5)]) [3, 4] rfl ?_
        exact (ih _ _ _ _ h).2 rfl
      · replace h := hT h c4
        refine AW.iload 4 (dcN_1 dcg_611 :) rfl ?_
        refine AW.bipush (dcN_2 dcg_611 :) (by decide) (by decide) ?_
        refine AW.idiv (dcN_3 dcg_611 :) (by decide) ?_
        refine AW.iconst (dcN_4 dcg_611 :) ?_
        refine AW.iadd (dcN_5 dcg_611 :) ?_
        refine AW.bipush (dcN_6 dcg_611 :) (by decide) (by decide) ?_
        refine AW.imul (dcN_7 dcg_611 :) ?_
        refine AW.istore (lv1 := [(5, iv ((((nw x5).tdiv 60) + 1) * 60)), (0, rv z 117), (1, iv x1), (2, iv x2), (4, iv x4)]) (dcN_8 dcg_611 :) (by decide) rfl ?_
        refine AW.goto (tgt := 3) (dcN_9 dcg_611 :) (by decide) ?_
        refine AW.sub (lv1 := [(0, rv z 117), (1, iv x1), (2, iv x2), (4, iv x4), (5, iv ((((nw x5).tdiv 60) + 1) * 60))]) [1, 2, 3, 4, 0] rfl ?_
        exact (ih _ _ _ _ h).1 rfl
  · subst h9
    replace h := hF h (by decide)
    replace h := hT h rfl
    refine AW.iload 1 (dcN_10 dcg_611 :) rfl ?_
    refine AW.iload 0 (dcN_11 dcg_611 :) rfl ?_
    refine AW.iadd (dcN_12 dcg_611 :) ?_
    refine AW.sipush (dcN_13 dcg_611 :) (by decide) (by decide) ?_
    obtain ⟨t1, e2, h⟩ := hBe h
    refine AW.join (tgt := 78) (lv1 := [(4, iv x4), (5, iv x5)]) (st1 := [iv t1]) (g1 := g) ?_ (fun J58 => ?_)
    · exact AW.iret1 rfl (dcN_6 dcg_612 :) h rfl
    refine AW.icmp_gt (tgt := 69) (dcN_14 dcg_611 :) (by decide) (fun c3 => ?_) (fun c3 => ?_)
    · refine AW.iconst (dcN_1 dcg_612 :) ?_
      refine AW.goto (tgt := 78) (dcN_2 dcg_612 :) (by decide) ?_
      exact AW.val (e2.trans (if_pos c3)) J58
    · refine AW.iload 1 (dcN_15 dcg_611 :) rfl ?_
      refine AW.sipush (dcN_16 dcg_611 :) (by decide) (by decide) ?_
      refine AW.icmp_le (tgt := 73) (dcN_0 dcg_612 :) (by decide) (fun c4 => ?_) (fun c4 => ?_)
      · refine AW.iload 1 (dcN_3 dcg_612 :) rfl ?_
        refine AW.iload 0 (dcN_4 dcg_612 :) rfl ?_
        refine AW.iadd (dcN_5 dcg_612 :) ?_
        exact AW.val (e2.trans ((if_neg c3).trans (if_pos c4))) J58
      · refine AW.iconst (dcN_1 dcg_612 :) ?_
        refine AW.goto (tgt := 78) (dcN_2 dcg_612 :) (by decide) ?_
        exact AW.val (e2.trans ((if_neg c3).trans (if_neg c4))) J58
theorem M_endOf_ok {z : AZ} {x1 : Int} {x2 : Int} {x3 : Int} {x4 : Int} {g : AG} {r : Int × AG} (h : M_endOf x1 x2 x3 x4 g = some r) : AMf z yX12_endOf cX12_endOf 6 (some .int) 5 [rv z 117, iv x1, iv x2, iv x3, iv x4] g r := by
  intro d hdd
  refine AM.of (by decide +kernel) (Nat.le_of_ble_eq_true rfl) ?_
  show AW z (RX12, cX12_endOf, 6, (some .int)) d (QD (some .int) r) 0 [(0, rv z 117), (1, iv x1), (2, iv x2), (3, iv x3), (4, iv x4)] [] g
  unfold M_endOf at h
  refine AW.iload_n 3 (dcN_0 dcg_610 :) rfl ?_
  refine AW.istore (lv1 := [(5, iv x3), (0, rv z 117), (1, iv x1), (2, iv x2), (3, iv x3), (4, iv x4)]) (dcN_1 dcg_610 :) (by decide) rfl ?_
  refine AW.sub (lv1 := [(0, rv z 117), (1, iv x1), (2, iv x2), (4, iv x4), (5, iv x3)]) [1, 2, 3, 5, 0] rfl ?_
  exact (M_endOf_b_ok hdd _ _ _ _ h).1 rfl
theorem M_harmOf_ok {z : AZ} {x1 : Int} {x2 : Int} {g : AG} {r : Int × AG} (h : M_harmOf x1 x2 g = some r) : AMf z yX12_harmOf cX12_harmOf 5 (some .int) 3 [rv z 117, iv x1, iv x2] g r := by
  intro d hdd
  refine AM.of (by decide +kernel) (Nat.le_of_ble_eq_true rfl) ?_
  show AW z (RX12, cX12_harmOf, 5, (some .int)) d (QD (some .int) r) 0 [(0, rv z 117), (1, iv x1), (2, iv x2)] [] g
  unfold M_harmOf at h
  refine AW.aloadr_n 0 (dcN_0 dcg_613 :) rfl ?_
  obtain ⟨r1, e2, h⟩ := hC h
  refine AW.callVv (As := []) (st := []) (M_forgets_ok e2) cq_X12_401 cr_117_X12_forgets (Nat.le_trans (by decide) hdd) rfl (dcN_1 dcg_613 :) rfl (Nat.le_of_ble_eq_true rfl) ?_
  refine AW.aloadr_n 0 (dcN_2 dcg_613 :) rfl ?_
  refine AW.getR af_X12_109_117 sr_117_33 (dcN_3 dcg_613 :) ?_
  refine AW.iconst (dcN_4 dcg_613 :) ?_
  refine AW.iload_n 2 (dcN_5 dcg_613 :) rfl ?_
  refine AW.bipush (dcN_6 dcg_613 :) (by decide) (by decide) ?_
  refine AW.irem (dcN_7 dcg_613 :) (by decide) ?_
  obtain ⟨g3, e4, h⟩ := hBe h
  refine AW.iast kc_148 sk_148 (by decide) (dcN_8 dcg_613 :) e4 ?_
  refine AW.aloadr_n 0 (dcN_9 dcg_613 :) rfl ?_
  refine AW.getR af_X12_109_117 sr_117_33 (dcN_10 dcg_613 :) ?_
  refine AW.iconst (dcN_11 dcg_613 :) ?_
  refine AW.iload_n 2 (dcN_12 dcg_613 :) rfl ?_
  refine AW.bipush (dcN_13 dcg_613 :) (by decide) (by decide) ?_
  refine AW.idiv (dcN_14 dcg_613 :) (by decide) ?_
  obtain ⟨g5, e6, h⟩ := hBe h
  refine AW.iast kc_148 sk_148 (by decide) (dcN_15 dcg_613 :) e6 ?_
  refine AW.aloadr_n 0 (dcN_16 dcg_613 :) rfl ?_
  refine AW.getR af_X12_109_117 sr_117_33 (dcN_17 dcg_613 :) ?_
  refine AW.iconst (dcN_18 dcg_613 :) ?_
  refine AW.aloadr_n 0 (dcN_19 dcg_613 :) rfl ?_
  refine AW.getI af_X12_44_117 sr_117_10 (dcN_20 dcg_613 :) ?_
  obtain ⟨g7, e8, h⟩ := hBe h
  refine AW.iast kc_148 sk_148 (by decide) (dcN_0 dcg_614 :) e8 ?_
  refine AW.aloadr_n 0 (dcN_1 dcg_614 :) rfl ?_
  refine AW.getR af_X12_109_117 sr_117_33 (dcN_2 dcg_614 :) ?_
  refine AW.iconst (dcN_3 dcg_614 :) ?_
  refine AW.aloadr_n 0 (dcN_4 dcg_614 :) rfl ?_
  refine AW.getR af_X12_32_117 sr_117_6 (dcN_5 dcg_614 :) ?_
  refine AW.iload_n 1 (dcN_6 dcg_614 :) rfl ?_
  obtain ⟨k9, h⟩ := hK h
  refine AW.iald kc_124 sk_124 k9 (dcN_7 dcg_614 :) ?_
  obtain ⟨g10, e11, h⟩ := hBe h
  refine AW.iast kc_148 sk_148 (by decide) (dcN_8 dcg_614 :) e11 ?_
  refine AW.aloadr_n 0 (dcN_9 dcg_614 :) rfl ?_
  refine AW.getR af_X12_109_117 sr_117_33 (dcN_10 dcg_614 :) ?_
  refine AW.bipush (dcN_11 dcg_614 :) (by decide) (by decide) ?_
  refine AW.aloadr_n 0 (dcN_12 dcg_614 :) rfl ?_
  refine AW.getR af_X12_35_117 sr_117_7 (dcN_13 dcg_614 :) ?_
  refine AW.iload_n 1 (dcN_14 dcg_614 :) rfl ?_
  refine AW.iald kc_125 sk_125 k9 (dcN_15 dcg_614 :) ?_
  obtain ⟨g12, e13, h⟩ := hBe h
  refine AW.iast kc_148 sk_148 (by decide) (dcN_16 dcg_614 :) e13 ?_
  refine AW.aloadr_n 0 (dcN_17 dcg_614 :) rfl ?_
  refine AW.getR af_X12_109_117 sr_117_33 (dcN_18 dcg_614 :) ?_
  refine AW.bipush (dcN_19 dcg_614 :) (by decide) (by decide) ?_
  refine AW.aloadr_n 0 (dcN_0 dcg_615 :) rfl ?_
  refine AW.getR af_X12_41_117 sr_117_9 (dcN_1 dcg_615 :) ?_
  refine AW.iload_n 1 (dcN_2 dcg_615 :) rfl ?_
  refine AW.iald kc_127 sk_127 k9 (dcN_3 dcg_615 :) ?_
  obtain ⟨g14, e15, h⟩ := hBe h
  refine AW.iast kc_148 sk_148 (by decide) (dcN_4 dcg_615 :) e15 ?_
  refine AW.aloadr_n 0 (dcN_5 dcg_615 :) rfl ?_
  refine AW.iconst (dcN_6 dcg_615 :) ?_
  obtain ⟨r16, e17, h⟩ := hC h
  refine AW.callVi (As := [iv 4]) (st := []) (M_serves_ok e17) cq_X12_404 cr_117_X12_serves (Nat.le_trans (by decide) hdd) rfl (dcN_7 dcg_615 :) rfl (Nat.le_of_ble_eq_true rfl) ?_
  refine AW.istore_n (lv1 := [(3, iv r16.1), (0, rv z 117), (1, iv x1), (2, iv x2)]) (dcN_8 dcg_615 :) (by decide) rfl ?_
  refine AW.iload_n 0 (dcN_9 dcg_615 :) rfl ?_
  refine AW.iconst (dcN_10 dcg_615 :) ?_
  obtain ⟨r22, e23, h⟩ := hC h
  refine AW.join (tgt := 103) (lv1 := []) (st1 := [iv r22.1]) (g1 := r22.2) ?_ (fun J80 => ?_)
  · refine AW.istore (lv1 := [(4, iv r22.1)]) (dcN_3 dcg_616 :) (by decide) rfl ?_
    refine AW.iload 0 (dcN_4 dcg_616 :) rfl ?_
    obtain ⟨t24, e25, h⟩ := hBe h
    refine AW.join (tgt := 130) (lv1 := [(4, iv r22.1)]) (st1 := [iv t24]) (g1 := r22.2) ?_ (fun J107 => ?_)
    · exact AW.iret1 rfl (dcN_1 dcg_617 :) h rfl
    refine AW.if_ge (tgt := 114) (dcN_5 dcg_616 :) (by decide) (fun c26 => ?_) (fun c26 => ?_)
    · refine AW.iload 0 (dcN_8 dcg_616 :) rfl ?_
      refine AW.sipush (dcN_9 dcg_616 :) (by decide) (by decide) ?_
      refine AW.icmp_le (tgt := 128) (dcN_10 dcg_616 :) (by decide) (fun c27 => ?_) (fun c27 => ?_)
      · refine AW.iload 0 (dcN_0 dcg_617 :) rfl ?_
        exact AW.val (e25.trans ((if_pos c26).trans (if_pos c27))) J107
      · refine AW.sipush (dcN_11 dcg_616 :) (by decide) (by decide) ?_
        refine AW.goto (tgt := 130) (dcN_12 dcg_616 :) (by decide) ?_
        exact AW.val (e25.trans ((if_pos c26).trans (if_neg c27))) J107
    · refine AW.iconst (dcN_6 dcg_616 :) ?_
      refine AW.goto (tgt := 130) (dcN_7 dcg_616 :) (by decide) ?_
      exact AW.val (e25.trans (if_neg c26)) J107
  replace h := e23
  refine AW.icmp_ne (tgt := 87) (dcN_11 dcg_615 :) (by decide) (fun c18 => ?_) (fun c18 => ?_)
  · replace h := hF h c18
    refine AW.aloadr_n 1 (dcN_14 dcg_615 :) rfl ?_
    refine AW.aloadr_n 1 (dcN_15 dcg_615 :) rfl ?_
    refine AW.getR af_X12_57_117 sr_117_16 (dcN_16 dcg_615 :) ?_
    refine AW.iload_n 0 (dcN_17 dcg_615 :) rfl ?_
    obtain ⟨k19, h⟩ := hK h
    refine AW.iald kc_131 sk_131 k19 (dcN_18 dcg_615 :) ?_
    refine AW.aloadr_n 1 (dcN_19 dcg_615 :) rfl ?_
    refine AW.getR af_X12_60_117 sr_117_17 (dcN_20 dcg_615 :) ?_
    refine AW.iload_n 0 (dcN_0 dcg_616 :) rfl ?_
    refine AW.iald kc_132 sk_132 k19 (dcN_1 dcg_616 :) ?_
    obtain ⟨r20, e21, h⟩ := hC h
    refine AW.callVi (As := [iv (r16.2 131 (ix r16.1)), iv (r16.2 132 (ix r16.1))]) (st := []) (M_comesTo_ok e21) cq_X12_397 cr_117_X12_comesTo (Nat.le_trans (by decide) hdd) rfl (dcN_2 dcg_616 :) rfl (Nat.le_of_ble_eq_true rfl) ?_
    refine AW.sub (lv1 := []) [] rfl ?_
    cases h
    exact J80
  · replace h := hT h c18
    refine AW.iconst (dcN_12 dcg_615 :) ?_
    refine AW.goto (tgt := 103) (dcN_13 dcg_615 :) (by decide) ?_
    refine AW.sub (lv1 := []) [] rfl ?_
    cases h
    exact J80
set_option synthInstance.maxHeartbeats 2000000 in
theorem M_through_b_ok {z : AZ} {d : Nat} (hdd : 6 ≤ d) {x1 : Int} {x2 : Int} {x3 : Int} : ∀ (tag : Nat) (x5 : Int) (x6 : Int) (x7 : Int) (g : AG) (r : Int × AG), M_through_b x1 x2 x3 tag x5 x6 x7 g = some r → (tag = 1 → AW z (RX12, cX12_through, 8, (some .int)) d (QD (some .int) r) 28 [(0, rv z 117), (1, iv x1), (2, iv x2), (3, iv x3), (5, iv x5)] [] g) ∧ (tag = 2 → AW z (RX12, cX12_through, 8, (some .int)) d (QD (some .int) r) 70 [(0, rv z 117), (1, iv x1), (2, iv x2), (5, iv x5), (6, iv x6)] [] g) ∧ (tag = 3 → AW z (RX12, cX12_through, 8, (some .int)) d (QD (some .int) r) 105 [(0, rv z 117), (1, iv x1), (2, iv x2), (5, iv x5)] [] g) ∧ (tag = 4 → AW z (RX12, cX12_through, 8, (some .int)) d (QD (some .int) r) 125 [(0, rv z 117), (1, iv x1), (2, iv x2), (5, iv x5), (6, iv x6), (7, iv x7)] [] g) := by
  refine M_through_b.partial_correctness x1 x2 x3 (fun tag x5 x6 x7 g r => (tag = 1 → AW z (RX12, cX12_through, 8, (some .int)) d (QD (some .int) r) 28 [(0, rv z 117), (1, iv x1), (2, iv x2), (3, iv x3), (5, iv x5)] [] g) ∧ (tag = 2 → AW z (RX12, cX12_through, 8, (some .int)) d (QD (some .int) r) 70 [(0, rv z 117), (1, iv x1), (2, iv x2), (5, iv x5), (6, iv x6)] [] g) ∧ (tag = 3 → AW z (RX12, cX12_through, 8, (some .int)) d (QD (some .int) r) 105 [(0, rv z 117), (1, iv x1), (2, iv x2), (5, iv x5)] [] g) ∧ (tag = 4 → AW z (RX12, cX12_through, 8, (some .int)) d (QD (some .int) r) 125 [(0, rv z 117), (1, iv x1), (2, iv x2), (5, iv x5), (6, iv x6), (7, iv x7)] [] g)) ?_
  intro fb9 ih tag x5 x6 x7 g r h
  refine ⟨fun h9 => ?_, fun h9 => ?_, fun h9 => ?_, fun h9 => ?_⟩
  · subst h9
    replace h := hT h rfl
    refine AW.aloadr_n 0 (dcN_18 dcg_618 :) rfl ?_
    refine AW.getR af_X12_13_117 sr_117_0 (dcN_19 dcg_618 :) ?_
    refine AW.iload_n 2 (dcN_0 dcg_619 :) rfl ?_
    obtain ⟨k1, h⟩ := hK h
    refine AW.iald kc_118 sk_118 k1 (dcN_1 dcg_619 :) ?_
    obtain ⟨r8, e9, h⟩ := hC h
    refine AW.join (tgt := 105) (lv1 := [(0, rv z 117), (1, iv x1), (2, iv x2), (5, iv r8.1)]) (st1 := []) (g1 := r8.2) ?_ (fun J34 => ?_)
    · refine AW.bipush (dcN_3 dcg_621 :) (by decide) (by decide) ?_
      refine AW.bipush (dcN_4 dcg_621 :) (by decide) (by decide) ?_
      refine AW.aloadr_n 0 (dcN_5 dcg_621 :) rfl ?_
      refine AW.getR af_X12_41_117 sr_117_9 (dcN_6 dcg_621 :) ?_
      refine AW.iload_n 1 (dcN_7 dcg_621 :) rfl ?_
      obtain ⟨k10, h⟩ := hK h
      refine AW.iald kc_127 sk_127 k10 (dcN_8 dcg_621 :) ?_
      refine AW.isub (dcN_9 dcg_621 :) ?_
      refine AW.bipush (dcN_10 dcg_621 :) (by decide) (by decide) ?_
      refine AW.idiv (dcN_11 dcg_621 :) (by decide) ?_
      refine AW.iadd (dcN_12 dcg_621 :) ?_
      refine AW.istore (lv1 := [(6, iv (15 + ((nw (60 - (r8.2 127 (ix x1)))).tdiv 6))), (0, rv z 117), (1, iv x1), (2, iv x2), (5, iv r8.1)]) (dcN_13 dcg_621 :) (by decide) rfl ?_
      refine AW.iconst (dcN_14 dcg_621 :) ?_
      refine AW.istore (lv1 := [(7, iv 0), (6, iv (15 + ((nw (60 - (r8.2 127 (ix x1)))).tdiv 6))), (0, rv z 117), (1, iv x1), (2, iv x2), (5, iv r8.1)]) (dcN_15 dcg_621 :) (by decide) rfl ?_
      refine AW.sub (lv1 := [(0, rv z 117), (1, iv x1), (2, iv x2), (5, iv r8.1), (6, iv (15 + ((nw (60 - (r8.2 127 (ix x1)))).tdiv 6))), (7, iv 0)]) [2, 3, 4, 5, 1, 0] rfl ?_
      exact (ih _ _ _ _ _ _ h).2.2.2 rfl
    replace h := e9
    refine AW.if_le (tgt := 105) (dcN_2 dcg_619 :) (by decide) (fun c2 => ?_) (fun c2 => ?_)
    · replace h := hT h c2
      refine AW.sub (lv1 := [(0, rv z 117), (1, iv x1), (2, iv x2), (5, iv x5)]) [0, 1, 2, 4] rfl ?_
      cases h
      exact J34
    · replace h := hF h c2
      refine AW.aloadr_n 0 (dcN_3 dcg_619 :) rfl ?_
      refine AW.iload_n 2 (dcN_4 dcg_619 :) rfl ?_
      refine AW.iload_n 3 (dcN_5 dcg_619 :) rfl ?_
      obtain ⟨t3, e4, h⟩ := hBe h
      refine AW.join (tgt := 48) (lv1 := [(0, rv z 117), (1, iv x1), (2, iv x2), (3, iv x3), (5, iv x5)]) (st1 := [iv t3, iv x2, rv z 117]) (g1 := g) ?_ (fun J40 => ?_)
      · refine AW.iload 4 (dcN_10 dcg_619 :) rfl ?_
        refine AW.bipush (dcN_11 dcg_619 :) (by decide) (by decide) ?_
        refine AW.aloadr_n 0 (dcN_12 dcg_619 :) rfl ?_
        refine AW.getR af_X12_13_117 sr_117_0 (dcN_13 dcg_619 :) ?_
        refine AW.iload_n 2 (dcN_14 dcg_619 :) rfl ?_
        refine AW.iald kc_118 sk_118 k1 (dcN_15 dcg_619 :) ?_
        refine AW.imul (dcN_16 dcg_619 :) ?_
        obtain ⟨r5, e6, h⟩ := hC h
        refine AW.callVi (As := [iv x2, iv t3, iv x5, iv (20 * (g 118 (ix x2)))]) (st := []) (M_endOf_ok e6) cq_X12_417 cr_117_X12_endOf (Nat.le_trans (by decide) hdd) rfl (dcN_17 dcg_619 :) rfl (Nat.le_of_ble_eq_true rfl) ?_
        refine AW.istore (lv1 := [(5, iv r5.1), (0, rv z 117), (1, iv x1), (2, iv x2), (3, iv x3)]) (dcN_18 dcg_619 :) (by decide) rfl ?_
        refine AW.goto (tgt := 105) (dcN_0 dcg_620 :) (by decide) ?_
        refine AW.sub (lv1 := [(0, rv z 117), (1, iv x1), (2, iv x2), (5, iv r5.1)]) [1, 2, 3, 0] rfl ?_
        cases h
        exact J34
      refine AW.if_eq (tgt := 47) (dcN_6 dcg_619 :) (by decide) (fun c7 => ?_) (fun c7 => ?_)
      · refine AW.iconst (dcN_9 dcg_619 :) ?_
        exact AW.val (e4.trans (if_pos c7)) J40
      · refine AW.iconst (dcN_7 dcg_619 :) ?_
        refine AW.goto (tgt := 48) (dcN_8 dcg_619 :) (by decide) ?_
        exact AW.val (e4.trans (if_neg c7)) J40
  · subst h9
    replace h := hF h (by decide)
    replace h := hT h rfl
    refine AW.iload 4 (dcN_3 dcg_620 :) rfl ?_
    refine AW.aloadr_n 0 (dcN_4 dcg_620 :) rfl ?_
    refine AW.getR af_X12_13_117 sr_117_0 (dcN_5 dcg_620 :) ?_
    refine AW.iload_n 2 (dcN_6 dcg_620 :) rfl ?_
    obtain ⟨k1, h⟩ := hK h
    refine AW.iald kc_118 sk_118 k1 (dcN_7 dcg_620 :) ?_
    refine AW.icmp_ge (tgt := 105) (dcN_8 dcg_620 :) (by decide) (fun c2 => ?_) (fun c2 => ?_)
    · replace h := hT h c2
      refine AW.sub (lv1 := [(0, rv z 117), (1, iv x1), (2, iv x2), (5, iv x5)]) [0, 1, 2, 3] rfl ?_
      exact (ih _ _ _ _ _ _ h).2.2.1 rfl
    · replace h := hF h c2
      refine AW.iload 3 (dcN_9 dcg_620 :) rfl ?_
      refine AW.iconst (dcN_10 dcg_620 :) ?_
      refine AW.icmp_eq (tgt := 105) (dcN_11 dcg_620 :) (by decide) (fun c3 => ?_) (fun c3 => ?_)
      · replace h := hT h c3
        refine AW.sub (lv1 := [(0, rv z 117), (1, iv x1), (2, iv x2), (5, iv x5)]) [0, 1, 2, 3] rfl ?_
        exact (ih _ _ _ _ _ _ h).2.2.1 rfl
      · replace h := hF h c3
        refine AW.aloadr_n 0 (dcN_12 dcg_620 :) rfl ?_
        refine AW.iload_n 2 (dcN_13 dcg_620 :) rfl ?_
        refine AW.iconst (dcN_14 dcg_620 :) ?_
        refine AW.iload 3 (dcN_15 dcg_620 :) rfl ?_
        refine AW.bipush (dcN_16 dcg_620 :) (by decide) (by decide) ?_
        obtain ⟨r4, e5, h⟩ := hC h
        refine AW.callVi (As := [iv x2, iv 0, iv x5, iv 20]) (st := []) (M_endOf_ok e5) cq_X12_417 cr_117_X12_endOf (Nat.le_trans (by decide) hdd) rfl (dcN_17 dcg_620 :) rfl (Nat.le_of_ble_eq_true rfl) ?_
        refine AW.istore (lv1 := [(5, iv r4.1), (0, rv z 117), (1, iv x1), (2, iv x2), (6, iv x6)]) (dcN_0 dcg_621 :) (by decide) rfl ?_
        refine AW.iinc (lv1 := [(6, iv (x6 + 1)), (5, iv r4.1), (0, rv z 117), (1, iv x1), (2, iv x2)]) 4 (dcN_1 dcg_621 :) rfl (by decide) rfl ?_
        refine AW.goto (tgt := 70) (dcN_2 dcg_621 :) (by decide) ?_
        refine AW.sub (lv1 := [(0, rv z 117), (1, iv x1), (2, iv x2), (5, iv r4.1), (6, iv (x6 + 1))]) [2, 3, 4, 1, 0] rfl ?_
        exact (ih _ _ _ _ _ _ h).2.1 rfl
  · subst h9
    replace h := hF h (by decide)
    replace h := hF h (by decide)
    replace h := hT h rfl
    refine AW.bipush (dcN_3 dcg_621 :) (by decide) (by decide) ?_
    refine AW.bipush (dcN_4 dcg_621 :) (by decide) (by decide) ?_
    refine AW.aloadr_n 0 (dcN_5 dcg_621 :) rfl ?_
    refine AW.getR af_X12_41_117 sr_117_9 (dcN_6 dcg_621 :) ?_
    refine AW.iload_n 1 (dcN_7 dcg_621 :) rfl ?_
    obtain ⟨k1, h⟩ := hK h
    refine AW.iald kc_127 sk_127 k1 (dcN_8 dcg_621 :) ?_
    refine AW.isub (dcN_9 dcg_621 :) ?_
    refine AW.bipush (dcN_10 dcg_621 :) (by decide) (by decide) ?_
    refine AW.idiv (dcN_11 dcg_621 :) (by decide) ?_
    refine AW.iadd (dcN_12 dcg_621 :) ?_
    refine AW.istore (lv1 := [(6, iv (15 + ((nw (60 - (g 127 (ix x1)))).tdiv 6))), (0, rv z 117), (1, iv x1), (2, iv x2), (5, iv x5)]) (dcN_13 dcg_621 :) (by decide) rfl ?_
    refine AW.iconst (dcN_14 dcg_621 :) ?_
    refine AW.istore (lv1 := [(7, iv 0), (6, iv (15 + ((nw (60 - (g 127 (ix x1)))).tdiv 6))), (0, rv z 117), (1, iv x1), (2, iv x2), (5, iv x5)]) (dcN_15 dcg_621 :) (by decide) rfl ?_
    refine AW.sub (lv1 := [(0, rv z 117), (1, iv x1), (2, iv x2), (5, iv x5), (6, iv (15 + ((nw (60 - (g 127 (ix x1)))).tdiv 6))), (7, iv 0)]) [2, 3, 4, 5, 1, 0] rfl ?_
    exact (ih _ _ _ _ _ _ h).2.2.2 rfl
  · subst h9
    replace h := hF h (by decide)
    replace h := hF h (by decide)
    replace h := hF h (by decide)
    replace h := hT h rfl
    refine AW.iload 5 (dcN_16 dcg_621 :) rfl ?_
    refine AW.aloadr_n 0 (dcN_17 dcg_621 :) rfl ?_
    refine AW.getR af_X12_17_117 sr_117_1 (dcN_0 dcg_622 :) ?_
    refine AW.iload_n 2 (dcN_1 dcg_622 :) rfl ?_
    obtain ⟨k1, h⟩ := hK h
    refine AW.iald kc_119 sk_119 k1 (dcN_2 dcg_622 :) ?_
    refine AW.icmp_ge (tgt := 196) (dcN_3 dcg_622 :) (by decide) (fun c2 => ?_) (fun c2 => ?_)
    · replace h := hT h c2
      refine AW.iload 3 (dcN_1 dcg_624 :) rfl ?_
      exact AW.iret1 rfl (dcN_2 dcg_624 :) h rfl
    · replace h := hF h c2
      refine AW.iload 3 (dcN_4 dcg_622 :) rfl ?_
      refine AW.iconst (dcN_5 dcg_622 :) ?_
      refine AW.icmp_eq (tgt := 196) (dcN_6 dcg_622 :) (by decide) (fun c3 => ?_) (fun c3 => ?_)
      · replace h := hT h c3
        refine AW.iload 3 (dcN_1 dcg_624 :) rfl ?_
        exact AW.iret1 rfl (dcN_2 dcg_624 :) h rfl
      · replace h := hF h c3
        refine AW.aloadr_n 0 (dcN_7 dcg_622 :) rfl ?_
        refine AW.iload_n 2 (dcN_8 dcg_622 :) rfl ?_
        refine AW.iconst (dcN_9 dcg_622 :) ?_
        refine AW.iload 3 (dcN_10 dcg_622 :) rfl ?_
        refine AW.iload 4 (dcN_11 dcg_622 :) rfl ?_
        obtain ⟨r4, e5, h⟩ := hC h
        refine AW.callVi (As := [iv x2, iv 1, iv x5, iv x6]) (st := []) (M_endOf_ok e5) cq_X12_417 cr_117_X12_endOf (Nat.le_trans (by decide) hdd) rfl (dcN_12 dcg_622 :) rfl (Nat.le_of_ble_eq_true rfl) ?_
        refine AW.istore (lv1 := [(5, iv r4.1), (0, rv z 117), (1, iv x1), (2, iv x2), (6, iv x6), (7, iv x7)]) (dcN_13 dcg_622 :) (by decide) rfl ?_
        refine AW.aloadr_n 1 (dcN_14 dcg_622 :) rfl ?_
        refine AW.getI af_X12_421_117 sr_117_47 (dcN_15 dcg_622 :) ?_
        obtain ⟨r12, e13, h⟩ := hC h
        refine AW.join (tgt := 190) (lv1 := [(0, rv z 117), (1, iv x1), (2, iv x2), (5, iv r4.1), (6, iv x6), (7, iv x7)]) (st1 := []) (g1 := r12) ?_ (fun J158 => ?_)
        · refine AW.iinc (lv1 := [(7, iv (x7 + 1)), (0, rv z 117), (1, iv x1), (2, iv x2), (5, iv r4.1), (6, iv x6)]) 5 (dcN_16 dcg_623 :) rfl (by decide) rfl ?_
          refine AW.goto (tgt := 125) (dcN_0 dcg_624 :) (by decide) ?_
          refine AW.sub (lv1 := [(0, rv z 117), (1, iv x1), (2, iv x2), (5, iv r4.1), (6, iv x6), (7, iv (x7 + 1))]) [1, 2, 3, 4, 5, 0] rfl ?_
          exact (ih _ _ _ _ _ _ h).2.2.2 rfl
        replace h := e13
        refine AW.if_eq (tgt := 190) (dcN_16 dcg_622 :) (by decide) (fun c6 => ?_) (fun c6 => ?_)
        · replace h := hT h c6
          refine AW.sub (lv1 := [(0, rv z 117), (1, iv x1), (2, iv x2), (5, iv r4.1), (6, iv x6), (7, iv x7)]) [1, 2, 3, 0, 4, 5] rfl ?_
          cases h
          exact J158
        · replace h := hF h c6
          refine AW.iload 0 (dcN_0 dcg_623 :) rfl ?_
          refine AW.iconst (dcN_1 dcg_623 :) ?_
          refine AW.icmp_eq (tgt := 190) (dcN_2 dcg_623 :) (by decide) (fun c7 => ?_) (fun c7 => ?_)
          · replace h := hT h c7
            refine AW.sub (lv1 := [(0, rv z 117), (1, iv x1), (2, iv x2), (5, iv r4.1), (6, iv x6), (7, iv x7)]) [1, 2, 3, 0, 4, 5] rfl ?_
            cases h
            exact J158
          · replace h := hF h c7
            refine AW.aloadr_n 1 (dcN_3 dcg_623 :) rfl ?_
            refine AW.duprr (dcN_4 dcg_623 :) ?_
            refine AW.getI af_X12_425_117 sr_117_48 (dcN_5 dcg_623 :) ?_
            refine AW.aloadr_n 1 (dcN_6 dcg_623 :) rfl ?_
            refine AW.iload_n 2 (dcN_7 dcg_623 :) rfl ?_
            refine AW.iload 0 (dcN_8 dcg_623 :) rfl ?_
            refine AW.iload 4 (dcN_9 dcg_623 :) rfl ?_
            refine AW.isub (dcN_10 dcg_623 :) ?_
            refine AW.sipush (dcN_11 dcg_623 :) (by decide) (by decide) ?_
            refine AW.idiv (dcN_12 dcg_623 :) (by decide) ?_
            obtain ⟨r8, e9, h⟩ := hC h
            refine AW.callVi (As := [iv x1, iv ((nw (r4.1 - x6)).tdiv 1440)]) (st := [iv (r4.2 117 48), rv z 117]) (M_harmOf_ok e9) cq_X12_428 cr_117_X12_harmOf (Nat.le_trans (by decide) hdd) rfl (dcN_13 dcg_623 :) rfl (Nat.le_of_ble_eq_true rfl) ?_
            refine AW.iadd (dcN_14 dcg_623 :) ?_
            obtain ⟨g10, e11, h⟩ := hBe h
            refine AW.putI ap_X12_425_117 sr_117_48 (dcN_15 dcg_623 :) e11 ?_
            refine AW.sub (lv1 := [(0, rv z 117), (1, iv x1), (2, iv x2), (5, iv r4.1), (6, iv x6), (7, iv x7)]) [1, 2, 3, 0, 4, 5] rfl ?_
            cases h
            exact J158
theorem M_through_ok {z : AZ} {x1 : Int} {x2 : Int} {x3 : Int} {x4 : Int} {g : AG} {r : Int × AG} (h : M_through x1 x2 x3 x4 g = some r) : AMf z yX12_through cX12_through 8 (some .int) 6 [rv z 117, iv x1, iv x2, iv x3, iv x4] g r := by
  intro d hdd
  refine AM.of (by decide +kernel) (Nat.le_of_ble_eq_true rfl) ?_
  show AW z (RX12, cX12_through, 8, (some .int)) d (QD (some .int) r) 0 [(0, rv z 117), (1, iv x1), (2, iv x2), (3, iv x3), (4, iv x4)] [] g
  unfold M_through at h
  refine AW.iload 4 (dcN_0 dcg_618 :) rfl ?_
  refine AW.istore (lv1 := [(5, iv x4), (0, rv z 117), (1, iv x1), (2, iv x2), (3, iv x3), (4, iv x4)]) (dcN_1 dcg_618 :) (by decide) rfl ?_
  refine AW.aloadr_n 1 (dcN_2 dcg_618 :) rfl ?_
  refine AW.getR af_X12_96_117 sr_117_29 (dcN_3 dcg_618 :) ?_
  refine AW.iconst (dcN_4 dcg_618 :) ?_
  refine AW.iload_n 3 (dcN_5 dcg_618 :) rfl ?_
  refine AW.imul (dcN_6 dcg_618 :) ?_
  obtain ⟨k1, h⟩ := hK h
  refine AW.zald kc_144 sk_144 k1 (dcN_7 dcg_618 :) ?_
  refine AW.if_ne (tgt := 28) (dcN_8 dcg_618 :) (by decide) (fun c2 => ?_) (fun c2 => ?_)
  · replace h := hF h c2
    refine AW.sub (lv1 := [(0, rv z 117), (1, iv x1), (2, iv x2), (3, iv x3), (5, iv x4)]) [1, 2, 3, 4, 0] rfl ?_
    exact (M_through_b_ok hdd _ _ _ _ _ _ h).1 rfl
  · replace h := hT h c2
    refine AW.aloadr_n 1 (dcN_9 dcg_618 :) rfl ?_
    refine AW.getR af_X12_96_117 sr_117_29 (dcN_10 dcg_618 :) ?_
    refine AW.iconst (dcN_11 dcg_618 :) ?_
    refine AW.iload_n 3 (dcN_12 dcg_618 :) rfl ?_
    refine AW.imul (dcN_13 dcg_618 :) ?_
    refine AW.iconst (dcN_14 dcg_618 :) ?_
    refine AW.iadd (dcN_15 dcg_618 :) ?_
    obtain ⟨k3, h⟩ := hK h
    refine AW.zald kc_144 sk_144 k3 (dcN_16 dcg_618 :) ?_
    refine AW.if_eq (tgt := 67) (dcN_17 dcg_618 :) (by decide) (fun c4 => ?_) (fun c4 => ?_)
    · replace h := hT h c4
      refine AW.iconst (dcN_1 dcg_620 :) ?_
      refine AW.istore (lv1 := [(6, iv 0), (5, iv x4), (0, rv z 117), (1, iv x1), (2, iv x2), (3, iv x3), (4, iv x4)]) (dcN_2 dcg_620 :) (by decide) rfl ?_
      refine AW.sub (lv1 := [(0, rv z 117), (1, iv x1), (2, iv x2), (5, iv x4), (6, iv 0)]) [2, 3, 4, 1, 0] rfl ?_
      exact (M_through_b_ok hdd _ _ _ _ _ _ h).2.1 rfl
    · replace h := hF h c4
      refine AW.sub (lv1 := [(0, rv z 117), (1, iv x1), (2, iv x2), (3, iv x3), (5, iv x4)]) [1, 2, 3, 4, 0] rfl ?_
      exact (M_through_b_ok hdd _ _ _ _ _ _ h).1 rfl
set_option synthInstance.maxHeartbeats 2000000 in
theorem M_led_b_ok {z : AZ} {d : Nat} (hdd : 7 ≤ d) {x1 : Int} {x2 : Int} {x3 : Int} : ∀ (tag : Nat) (x5 : Int) (x6 : Int) (g : AG) (r : Int × AG), M_led_b x1 x2 x3 tag x5 x6 g = some r → (tag = 1 → AW z (RX12, cX12_led, 7, (some .int)) d (QD (some .int) r) 7 [(0, rv z 117), (1, iv x1), (2, iv x2), (3, iv x3), (5, iv x5), (6, iv x6)] [] g) ∧ (tag = 2 → AW z (RX12, cX12_led, 7, (some .int)) d (QD (some .int) r) 37 [(0, rv z 117), (1, iv x1), (2, iv x2), (3, iv x3), (5, iv x5)] [] g) ∧ (tag = 3 → AW z (RX12, cX12_led, 7, (some .int)) d (QD (some .int) r) 40 [(0, rv z 117), (1, iv x1), (3, iv x3), (5, iv x5), (6, iv x6)] [] g) := by
  refine M_led_b.partial_correctness x1 x2 x3 (fun tag x5 x6 g r => (tag = 1 → AW z (RX12, cX12_led, 7, (some .int)) d (QD (some .int) r) 7 [(0, rv z 117), (1, iv x1), (2, iv x2), (3, iv x3), (5, iv x5), (6, iv x6)] [] g) ∧ (tag = 2 → AW z (RX12, cX12_led, 7, (some .int)) d (QD (some .int) r) 37 [(0, rv z 117), (1, iv x1), (2, iv x2), (3, iv x3), (5, iv x5)] [] g) ∧ (tag = 3 → AW z (RX12, cX12_led, 7, (some .int)) d (QD (some .int) r) 40 [(0, rv z 117), (1, iv x1), (3, iv x3), (5, iv x5), (6, iv x6)] [] g)) ?_
  intro fb9 ih tag x5 x6 g r h
  refine ⟨fun h9 => ?_, fun h9 => ?_, fun h9 => ?_⟩
  · subst h9
    replace h := hT h rfl
    refine AW.iload 5 (dcN_4 dcg_625 :) rfl ?_
    refine AW.iload_n 3 (dcN_5 dcg_625 :) rfl ?_
    refine AW.icmp_ge (tgt := 37) (dcN_6 dcg_625 :) (by decide) (fun c1 => ?_) (fun c1 => ?_)
    · replace h := hT h c1
      refine AW.sub (lv1 := [(0, rv z 117), (1, iv x1), (2, iv x2), (3, iv x3), (5, iv x5)]) [0, 1, 2, 3, 4] rfl ?_
      exact (ih _ _ _ _ _ h).2.1 rfl
    · replace h := hF h c1
      refine AW.iload 4 (dcN_7 dcg_625 :) rfl ?_
      refine AW.iconst (dcN_8 dcg_625 :) ?_
      refine AW.icmp_eq (tgt := 37) (dcN_9 dcg_625 :) (by decide) (fun c2 => ?_) (fun c2 => ?_)
      · replace h := hT h c2
        refine AW.sub (lv1 := [(0, rv z 117), (1, iv x1), (2, iv x2), (3, iv x3), (5, iv x5)]) [0, 1, 2, 3, 4] rfl ?_
        exact (ih _ _ _ _ _ h).2.1 rfl
      · replace h := hF h c2
        refine AW.aloadr_n 0 (dcN_10 dcg_625 :) rfl ?_
        refine AW.iload_n 1 (dcN_11 dcg_625 :) rfl ?_
        refine AW.iload 5 (dcN_12 dcg_625 :) rfl ?_
        refine AW.iconst (dcN_13 dcg_625 :) ?_
        refine AW.iload 4 (dcN_14 dcg_625 :) rfl ?_
        obtain ⟨r3, e4, h⟩ := hC h
        refine AW.callVi (As := [iv x1, iv x6, iv 1, iv x5]) (st := []) (M_through_ok e4) cq_X12_431 cr_117_X12_through (Nat.le_trans (by decide) hdd) rfl (dcN_15 dcg_625 :) rfl (Nat.le_of_ble_eq_true rfl) ?_
        refine AW.istore (lv1 := [(5, iv r3.1), (0, rv z 117), (1, iv x1), (2, iv x2), (3, iv x3), (6, iv x6)]) (dcN_16 dcg_625 :) (by decide) rfl ?_
        refine AW.iinc (lv1 := [(6, iv (x6 + 1)), (5, iv r3.1), (0, rv z 117), (1, iv x1), (2, iv x2), (3, iv x3)]) 5 (dcN_17 dcg_625 :) rfl (by decide) rfl ?_
        refine AW.goto (tgt := 7) (dcN_0 dcg_626 :) (by decide) ?_
        refine AW.sub (lv1 := [(0, rv z 117), (1, iv x1), (2, iv x2), (3, iv x3), (5, iv r3.1), (6, iv (x6 + 1))]) [2, 3, 4, 5, 1, 0] rfl ?_
        exact (ih _ _ _ _ _ h).1 rfl
  · subst h9
    replace h := hF h (by decide)
    replace h := hT h rfl
    refine AW.iload_n 2 (dcN_1 dcg_626 :) rfl ?_
    refine AW.istore (lv1 := [(6, iv x2), (0, rv z 117), (1, iv x1), (2, iv x2), (3, iv x3), (5, iv x5)]) (dcN_2 dcg_626 :) (by decide) rfl ?_
    refine AW.sub (lv1 := [(0, rv z 117), (1, iv x1), (3, iv x3), (5, iv x5), (6, iv x2)]) [1, 2, 4, 5, 0] rfl ?_
    exact (ih _ _ _ _ _ h).2.2 rfl
  · subst h9
    replace h := hF h (by decide)
    replace h := hF h (by decide)
    replace h := hT h rfl
    refine AW.iload 4 (dcN_3 dcg_626 :) rfl ?_
    refine AW.iload_n 2 (dcN_4 dcg_626 :) rfl ?_
    refine AW.icmp_le (tgt := 72) (dcN_5 dcg_626 :) (by decide) (fun c1 => ?_) (fun c1 => ?_)
    · replace h := hT h c1
      refine AW.iload 3 (dcN_3 dcg_627 :) rfl ?_
      exact AW.iret1 rfl (dcN_4 dcg_627 :) h rfl
    · replace h := hF h c1
      refine AW.iload 3 (dcN_6 dcg_626 :) rfl ?_
      refine AW.iconst (dcN_7 dcg_626 :) ?_
      refine AW.icmp_eq (tgt := 72) (dcN_8 dcg_626 :) (by decide) (fun c2 => ?_) (fun c2 => ?_)
      · replace h := hT h c2
        refine AW.iload 3 (dcN_3 dcg_627 :) rfl ?_
        exact AW.iret1 rfl (dcN_4 dcg_627 :) h rfl
      · replace h := hF h c2
        refine AW.aloadr_n 0 (dcN_9 dcg_626 :) rfl ?_
        refine AW.iload_n 1 (dcN_10 dcg_626 :) rfl ?_
        refine AW.iload 4 (dcN_11 dcg_626 :) rfl ?_
        refine AW.iconst (dcN_12 dcg_626 :) ?_
        refine AW.isub (dcN_13 dcg_626 :) ?_
        refine AW.iconst (dcN_14 dcg_626 :) ?_
        refine AW.iload 3 (dcN_15 dcg_626 :) rfl ?_
        obtain ⟨r3, e4, h⟩ := hC h
        refine AW.callVi (As := [iv x1, iv (x6 - 1), iv 0, iv x5]) (st := []) (M_through_ok e4) cq_X12_431 cr_117_X12_through (Nat.le_trans (by decide) hdd) rfl (dcN_16 dcg_626 :) rfl (Nat.le_of_ble_eq_true rfl) ?_
        refine AW.istore (lv1 := [(5, iv r3.1), (0, rv z 117), (1, iv x1), (3, iv x3), (6, iv x6)]) (dcN_0 dcg_627 :) (by decide) rfl ?_
        refine AW.iinc (lv1 := [(6, iv (x6 + (-1))), (5, iv r3.1), (0, rv z 117), (1, iv x1), (3, iv x3)]) 4 (dcN_1 dcg_627 :) rfl (by decide) rfl ?_
        refine AW.goto (tgt := 40) (dcN_2 dcg_627 :) (by decide) ?_
        refine AW.sub (lv1 := [(0, rv z 117), (1, iv x1), (3, iv x3), (5, iv r3.1), (6, iv (x6 + (-1)))]) [2, 3, 4, 1, 0] rfl ?_
        exact (ih _ _ _ _ _ h).2.2 rfl
theorem M_led_ok {z : AZ} {x1 : Int} {x2 : Int} {x3 : Int} {x4 : Int} {g : AG} {r : Int × AG} (h : M_led x1 x2 x3 x4 g = some r) : AMf z yX12_led cX12_led 7 (some .int) 7 [rv z 117, iv x1, iv x2, iv x3, iv x4] g r := by
  intro d hdd
  refine AM.of (by decide +kernel) (Nat.le_of_ble_eq_true rfl) ?_
  show AW z (RX12, cX12_led, 7, (some .int)) d (QD (some .int) r) 0 [(0, rv z 117), (1, iv x1), (2, iv x2), (3, iv x3), (4, iv x4)] [] g
  unfold M_led at h
  refine AW.iload 4 (dcN_0 dcg_625 :) rfl ?_
  refine AW.istore (lv1 := [(5, iv x4), (0, rv z 117), (1, iv x1), (2, iv x2), (3, iv x3), (4, iv x4)]) (dcN_1 dcg_625 :) (by decide) rfl ?_
  refine AW.iload_n 3 (dcN_2 dcg_625 :) rfl ?_
  refine AW.istore (lv1 := [(6, iv x2), (5, iv x4), (0, rv z 117), (1, iv x1), (2, iv x2), (3, iv x3), (4, iv x4)]) (dcN_3 dcg_625 :) (by decide) rfl ?_
  refine AW.sub (lv1 := [(0, rv z 117), (1, iv x1), (2, iv x2), (3, iv x3), (5, iv x4), (6, iv x2)]) [2, 3, 4, 5, 1, 0] rfl ?_
  exact (M_led_b_ok hdd _ _ _ _ _ h).1 rfl
theorem M_comes_ok {z : AZ} {x1 : Int} {x2 : Int} {x3 : Int} {x4 : Int} {g : AG} {r : Int × AG} (h : M_comes x1 x2 x3 x4 g = some r) : AMf z yX12_comes cX12_comes 5 (some .int) 8 [rv z 117, iv x1, iv x2, iv x3, iv x4] g r := by
  intro d hdd
  refine AM.of (by decide +kernel) (Nat.le_of_ble_eq_true rfl) ?_
  show AW z (RX12, cX12_comes, 5, (some .int)) d (QD (some .int) r) 0 [(0, rv z 117), (1, iv x1), (2, iv x2), (3, iv x3), (4, iv x4)] [] g
  unfold M_comes at h
  refine AW.aloadr_n 0 (dcN_0 dcg_628 :) rfl ?_
  refine AW.iload_n 1 (dcN_1 dcg_628 :) rfl ?_
  refine AW.callVi (As := [iv x1]) (st := []) M_isBoat_ok cq_X12_435 cr_117_X12_isBoat (Nat.le_trans (by decide) hdd) rfl (dcN_2 dcg_628 :) rfl (Nat.le_of_ble_eq_true rfl) ?_
  obtain ⟨r7, e8, h⟩ := hC h
  refine AW.join (tgt := 43) (lv1 := []) (st1 := [iv r7.1]) (g1 := r7.2) ?_ (fun J5 => ?_)
  · exact AW.iret1 rfl (dcN_9 dcg_629 :) h rfl
  replace h := e8
  refine AW.if_eq (tgt := 42) (dcN_3 dcg_628 :) (by decide) (fun c1 => ?_) (fun c1 => ?_)
  · replace h := hT h c1
    refine AW.iconst (dcN_8 dcg_629 :) ?_
    refine AW.sub (lv1 := []) [] rfl ?_
    cases h
    exact J5
  · replace h := hF h c1
    refine AW.iload_n 2 (dcN_4 dcg_628 :) rfl ?_
    refine AW.callSi (As := [iv x2]) (st := []) M_isPoint_ok cq_X12_238 st_X12_isPoint (Nat.le_trans (by decide) hdd) rfl (dcN_5 dcg_628 :) rfl (Nat.le_of_ble_eq_true rfl) ?_
    refine AW.if_eq (tgt := 42) (dcN_6 dcg_628 :) (by decide) (fun c2 => ?_) (fun c2 => ?_)
    · replace h := hT h c2
      refine AW.iconst (dcN_8 dcg_629 :) ?_
      refine AW.sub (lv1 := []) [] rfl ?_
      cases h
      exact J5
    · replace h := hF h c2
      refine AW.iload_n 3 (dcN_7 dcg_628 :) rfl ?_
      refine AW.callSi (As := [iv x3]) (st := []) M_isPoint_ok cq_X12_238 st_X12_isPoint (Nat.le_trans (by decide) hdd) rfl (dcN_8 dcg_628 :) rfl (Nat.le_of_ble_eq_true rfl) ?_
      refine AW.if_eq (tgt := 42) (dcN_9 dcg_628 :) (by decide) (fun c3 => ?_) (fun c3 => ?_)
      · replace h := hT h c3
        refine AW.iconst (dcN_8 dcg_629 :) ?_
        refine AW.sub (lv1 := []) [] rfl ?_
        cases h
        exact J5
      · replace h := hF h c3
        refine AW.iload 4 (dcN_10 dcg_628 :) rfl ?_
        refine AW.callSi (As := [iv x4]) (st := []) M_isTime_ok cq_X12_438 st_X12_isTime (Nat.le_trans (by decide) hdd) rfl (dcN_11 dcg_628 :) rfl (Nat.le_of_ble_eq_true rfl) ?_
        refine AW.if_eq (tgt := 42) (dcN_0 dcg_629 :) (by decide) (fun c4 => ?_) (fun c4 => ?_)
        · replace h := hT h c4
          refine AW.iconst (dcN_8 dcg_629 :) ?_
          refine AW.sub (lv1 := []) [] rfl ?_
          cases h
          exact J5
        · replace h := hF h c4
          refine AW.aloadr_n 0 (dcN_1 dcg_629 :) rfl ?_
          refine AW.iload_n 1 (dcN_2 dcg_629 :) rfl ?_
          refine AW.iload_n 2 (dcN_3 dcg_629 :) rfl ?_
          refine AW.iload_n 3 (dcN_4 dcg_629 :) rfl ?_
          refine AW.iload 4 (dcN_5 dcg_629 :) rfl ?_
          obtain ⟨r5, e6, h⟩ := hC h
          refine AW.callVi (As := [iv x1, iv x2, iv x3, iv x4]) (st := []) (M_led_ok e6) cq_X12_441 cr_117_X12_led (Nat.le_trans (by decide) hdd) rfl (dcN_6 dcg_629 :) rfl (Nat.le_of_ble_eq_true rfl) ?_
          refine AW.goto (tgt := 43) (dcN_7 dcg_629 :) (by decide) ?_
          refine AW.sub (lv1 := []) [] rfl ?_
          cases h
          exact J5
theorem M_harm_ok {z : AZ} {x1 : Int} {x2 : Int} {x3 : Int} {x4 : Int} {g : AG} {r : Int × AG} (h : M_harm x1 x2 x3 x4 g = some r) : AMf z yX12_harm cX12_harm 6 (some .int) 8 [rv z 117, iv x1, iv x2, iv x3, iv x4] g r := by
  intro d hdd
  refine AM.of (by decide +kernel) (Nat.le_of_ble_eq_true rfl) ?_
  show AW z (RX12, cX12_harm, 6, (some .int)) d (QD (some .int) r) 0 [(0, rv z 117), (1, iv x1), (2, iv x2), (3, iv x3), (4, iv x4)] [] g
  unfold M_harm at h
  refine AW.aloadr_n 0 (dcN_0 dcg_630 :) rfl ?_
  refine AW.iload_n 1 (dcN_1 dcg_630 :) rfl ?_
  refine AW.callVi (As := [iv x1]) (st := []) M_isBoat_ok cq_X12_435 cr_117_X12_isBoat (Nat.le_trans (by decide) hdd) rfl (dcN_2 dcg_630 :) rfl (Nat.le_of_ble_eq_true rfl) ?_
  refine AW.if_eq (tgt := 30) (dcN_3 dcg_630 :) (by decide) (fun c1 => ?_) (fun c1 => ?_)
  · replace h := hT h c1
    refine AW.iconst (dcN_13 dcg_630 :) ?_
    exact AW.iret1 rfl (dcN_14 dcg_630 :) h rfl
  · replace h := hF h c1
    refine AW.iload_n 2 (dcN_4 dcg_630 :) rfl ?_
    refine AW.callSi (As := [iv x2]) (st := []) M_isPoint_ok cq_X12_238 st_X12_isPoint (Nat.le_trans (by decide) hdd) rfl (dcN_5 dcg_630 :) rfl (Nat.le_of_ble_eq_true rfl) ?_
    refine AW.if_eq (tgt := 30) (dcN_6 dcg_630 :) (by decide) (fun c2 => ?_) (fun c2 => ?_)
    · replace h := hT h c2
      refine AW.iconst (dcN_13 dcg_630 :) ?_
      exact AW.iret1 rfl (dcN_14 dcg_630 :) h rfl
    · replace h := hF h c2
      refine AW.iload_n 3 (dcN_7 dcg_630 :) rfl ?_
      refine AW.callSi (As := [iv x3]) (st := []) M_isPoint_ok cq_X12_238 st_X12_isPoint (Nat.le_trans (by decide) hdd) rfl (dcN_8 dcg_630 :) rfl (Nat.le_of_ble_eq_true rfl) ?_
      refine AW.if_eq (tgt := 30) (dcN_9 dcg_630 :) (by decide) (fun c3 => ?_) (fun c3 => ?_)
      · replace h := hT h c3
        refine AW.iconst (dcN_13 dcg_630 :) ?_
        exact AW.iret1 rfl (dcN_14 dcg_630 :) h rfl
      · replace h := hF h c3
        refine AW.iload 4 (dcN_10 dcg_630 :) rfl ?_
        refine AW.callSi (As := [iv x4]) (st := []) M_isTime_ok cq_X12_438 st_X12_isTime (Nat.le_trans (by decide) hdd) rfl (dcN_11 dcg_630 :) rfl (Nat.le_of_ble_eq_true rfl) ?_
        refine AW.if_ne (tgt := 32) (dcN_12 dcg_630 :) (by decide) (fun c4 => ?_) (fun c4 => ?_)
        · replace h := hF h c4
          refine AW.aloadr_n 0 (dcN_0 dcg_631 :) rfl ?_
          refine AW.iconst (dcN_1 dcg_631 :) ?_
          obtain ⟨g5, e6, h⟩ := hBe h
          refine AW.putZ ap_X12_421_117 sr_117_47 (Or.inr rfl) (dcN_2 dcg_631 :) e6 ?_
          refine AW.aloadr_n 0 (dcN_3 dcg_631 :) rfl ?_
          refine AW.iconst (dcN_4 dcg_631 :) ?_
          obtain ⟨g7, e8, h⟩ := hBe h
          refine AW.putI ap_X12_425_117 sr_117_48 (dcN_5 dcg_631 :) e8 ?_
          refine AW.aloadr_n 0 (dcN_6 dcg_631 :) rfl ?_
          refine AW.iload_n 1 (dcN_7 dcg_631 :) rfl ?_
          refine AW.iload_n 2 (dcN_8 dcg_631 :) rfl ?_
          refine AW.iload_n 3 (dcN_9 dcg_631 :) rfl ?_
          refine AW.iload 4 (dcN_10 dcg_631 :) rfl ?_
          obtain ⟨r9, e10, h⟩ := hC h
          refine AW.callVi (As := [iv x1, iv x2, iv x3, iv x4]) (st := []) (M_led_ok e10) cq_X12_441 cr_117_X12_led (Nat.le_trans (by decide) hdd) rfl (dcN_11 dcg_631 :) rfl (Nat.le_of_ble_eq_true rfl) ?_
          refine AW.istore (lv1 := [(5, iv r9.1), (0, rv z 117), (1, iv x1), (2, iv x2), (3, iv x3), (4, iv x4)]) (dcN_12 dcg_631 :) (by decide) rfl ?_
          refine AW.aloadr_n 1 (dcN_13 dcg_631 :) rfl ?_
          refine AW.iconst (dcN_14 dcg_631 :) ?_
          obtain ⟨g11, e12, h⟩ := hBe h
          refine AW.putZ ap_X12_421_117 sr_117_47 (Or.inl rfl) (dcN_15 dcg_631 :) e12 ?_
          refine AW.iload 0 (dcN_16 dcg_631 :) rfl ?_
          refine AW.iconst (dcN_17 dcg_631 :) ?_
          obtain ⟨t13, e14, h⟩ := hBe h
          refine AW.join (tgt := 72) (lv1 := [(5, iv r9.1), (0, rv z 117), (1, iv x1), (2, iv x2), (3, iv x3), (4, iv x4)]) (st1 := [iv t13]) (g1 := g11) ?_ (fun J61 => ?_)
          · exact AW.iret1 rfl (dcN_4 dcg_632 :) h rfl
          refine AW.icmp_ne (tgt := 68) (dcN_18 dcg_631 :) (by decide) (fun c15 => ?_) (fun c15 => ?_)
          · refine AW.aloadr_n 1 (dcN_2 dcg_632 :) rfl ?_
            refine AW.getI af_X12_425_117 sr_117_48 (dcN_3 dcg_632 :) ?_
            exact AW.val (e14.trans (if_neg c15)) J61
          · refine AW.iconst (dcN_0 dcg_632 :) ?_
            refine AW.goto (tgt := 72) (dcN_1 dcg_632 :) (by decide) ?_
            exact AW.val (e14.trans (if_pos c15)) J61
        · replace h := hT h c4
          refine AW.iconst (dcN_13 dcg_630 :) ?_
          exact AW.iret1 rfl (dcN_14 dcg_630 :) h rfl
set_option synthInstance.maxHeartbeats 2000000 in
theorem M_enough_b_ok {z : AZ} {d : Nat} (hdd : 8 ≤ d) {x1 : Int} {x2 : Int} {x3 : Int} {x4 : Int} {x5 : Int} {x6 : Int} : ∀ (tag : Nat) (x7 : Int) (x8 : Int) (g : AG) (r : Int × AG), M_enough_b x1 x2 x3 x4 x5 x6 tag x7 x8 g = some r → (tag = 1 → AW z (RX12, cX12_enough, 10, (some .int)) d (QD (some .int) r) 54 [(0, rv z 117), (1, iv x1), (2, iv x2), (3, iv x3), (4, iv x4), (5, iv x5), (6, iv x6), (7, iv x7), (8, iv x8)] [] g) ∧ (tag = 2 → AW z (RX12, cX12_enough, 10, (some .int)) d (QD (some .int) r) 127 [(0, rv z 117), (1, iv x1), (6, iv x6), (7, iv x7)] [] g) := by
  refine M_enough_b.partial_correctness x1 x2 x3 x4 x5 x6 (fun tag x7 x8 g r => (tag = 1 → AW z (RX12, cX12_enough, 10, (some .int)) d (QD (some .int) r) 54 [(0, rv z 117), (1, iv x1), (2, iv x2), (3, iv x3), (4, iv x4), (5, iv x5), (6, iv x6), (7, iv x7), (8, iv x8)] [] g) ∧ (tag = 2 → AW z (RX12, cX12_enough, 10, (some .int)) d (QD (some .int) r) 127 [(0, rv z 117), (1, iv x1), (6, iv x6), (7, iv x7)] [] g)) ?_
  intro fb9 ih tag x7 x8 g r h
  refine ⟨fun h9 => ?_, fun h9 => ?_⟩
  · subst h9
    replace h := hT h rfl
    refine AW.iload 8 (dcN_13 dcg_634 :) rfl ?_
    refine AW.bipush (dcN_14 dcg_634 :) (by decide) (by decide) ?_
    refine AW.icmp_gt (tgt := 127) (dcN_15 dcg_634 :) (by decide) (fun c1 => ?_) (fun c1 => ?_)
    · replace h := hT h c1
      refine AW.sub (lv1 := [(0, rv z 117), (1, iv x1), (6, iv x6), (7, iv x7)]) [0, 1, 6, 7] rfl ?_
      exact (ih _ _ _ _ _ h).2 rfl
    · replace h := hF h c1
      refine AW.iload 4 (dcN_16 dcg_634 :) rfl ?_
      refine AW.iload 8 (dcN_17 dcg_634 :) rfl ?_
      refine AW.iadd (dcN_0 dcg_635 :) ?_
      refine AW.sipush (dcN_1 dcg_635 :) (by decide) (by decide) ?_
      refine AW.icmp_gt (tgt := 127) (dcN_2 dcg_635 :) (by decide) (fun c2 => ?_) (fun c2 => ?_)
      · replace h := hT h c2
        refine AW.sub (lv1 := [(0, rv z 117), (1, iv x1), (6, iv x6), (7, iv x7)]) [0, 1, 6, 7] rfl ?_
        exact (ih _ _ _ _ _ h).2 rfl
      · replace h := hF h c2
        refine AW.iload 7 (dcN_3 dcg_635 :) rfl ?_
        refine AW.iconst (dcN_4 dcg_635 :) ?_
        refine AW.icmp_ne (tgt := 127) (dcN_5 dcg_635 :) (by decide) (fun c3 => ?_) (fun c3 => ?_)
        · replace h := hF h c3
          refine AW.sub (lv1 := [(0, rv z 117), (1, iv x1), (6, iv x6), (7, iv x7)]) [0, 1, 6, 7] rfl ?_
          exact (ih _ _ _ _ _ h).2 rfl
        · replace h := hT h c3
          refine AW.aloadr_n 0 (dcN_6 dcg_635 :) rfl ?_
          refine AW.getR af_X12_41_117 sr_117_9 (dcN_7 dcg_635 :) ?_
          refine AW.iload_n 1 (dcN_8 dcg_635 :) rfl ?_
          refine AW.iload 8 (dcN_9 dcg_635 :) rfl ?_
          obtain ⟨k4, h⟩ := hK h
          obtain ⟨g5, e6, h⟩ := hBe h
          refine AW.iast kc_127 sk_127 k4 (dcN_10 dcg_635 :) e6 ?_
          refine AW.aloadr_n 0 (dcN_11 dcg_635 :) rfl ?_
          refine AW.iload_n 1 (dcN_12 dcg_635 :) rfl ?_
          refine AW.iload_n 2 (dcN_13 dcg_635 :) rfl ?_
          refine AW.iload_n 3 (dcN_14 dcg_635 :) rfl ?_
          refine AW.iload 4 (dcN_15 dcg_635 :) rfl ?_
          refine AW.iload 8 (dcN_16 dcg_635 :) rfl ?_
          refine AW.iadd (dcN_17 dcg_635 :) ?_
          obtain ⟨r7, e8, h⟩ := hC h
          refine AW.callVi (As := [iv x1, iv x2, iv x3, iv (x4 + x8)]) (st := []) (M_led_ok e8) cq_X12_441 cr_117_X12_led (Nat.le_trans (by decide) hdd) rfl (dcN_18 dcg_635 :) rfl (Nat.le_of_ble_eq_true rfl) ?_
          refine AW.istore (lv1 := [(9, iv r7.1), (0, rv z 117), (1, iv x1), (2, iv x2), (3, iv x3), (4, iv x4), (5, iv x5), (6, iv x6), (7, iv x7), (8, iv x8)]) (dcN_0 dcg_636 :) (by decide) rfl ?_
          refine AW.iload 0 (dcN_1 dcg_636 :) rfl ?_
          refine AW.iconst (dcN_2 dcg_636 :) ?_
          obtain ⟨t9, e10, h⟩ := hBe h
          refine AW.join (tgt := 119) (lv1 := [(9, iv r7.1), (0, rv z 117), (1, iv x1), (2, iv x2), (3, iv x3), (4, iv x4), (5, iv x5), (6, iv x6), (7, iv x7), (8, iv x8)]) (st1 := [iv t9]) (g1 := r7.2) ?_ (fun J103 => ?_)
          · refine AW.istore (lv1 := [(7, iv t9), (9, iv r7.1), (0, rv z 117), (1, iv x1), (2, iv x2), (3, iv x3), (4, iv x4), (5, iv x5), (6, iv x6), (8, iv x8)]) (dcN_10 dcg_636 :) (by decide) rfl ?_
            refine AW.iinc (lv1 := [(8, iv (x8 + 1)), (7, iv t9), (9, iv r7.1), (0, rv z 117), (1, iv x1), (2, iv x2), (3, iv x3), (4, iv x4), (5, iv x5), (6, iv x6)]) 9 (dcN_11 dcg_636 :) rfl (by decide) rfl ?_
            refine AW.goto (tgt := 54) (dcN_12 dcg_636 :) (by decide) ?_
            refine AW.sub (lv1 := [(0, rv z 117), (1, iv x1), (2, iv x2), (3, iv x3), (4, iv x4), (5, iv x5), (6, iv x6), (7, iv t9), (8, iv (x8 + 1))]) [3, 4, 5, 6, 7, 8, 9, 1, 0] rfl ?_
            exact (ih _ _ _ _ _ h).1 rfl
          refine AW.icmp_eq (tgt := 118) (dcN_3 dcg_636 :) (by decide) (fun c11 => ?_) (fun c11 => ?_)
          · refine AW.iconst (dcN_9 dcg_636 :) ?_
            exact AW.val (e10.trans (if_pos c11)) J103
          · refine AW.iload 0 (dcN_4 dcg_636 :) rfl ?_
            refine AW.iload 6 (dcN_5 dcg_636 :) rfl ?_
            refine AW.icmp_gt (tgt := 118) (dcN_6 dcg_636 :) (by decide) (fun c12 => ?_) (fun c12 => ?_)
            · refine AW.iconst (dcN_9 dcg_636 :) ?_
              exact AW.val (e10.trans ((if_neg c11).trans (if_pos c12))) J103
            · refine AW.iload 9 (dcN_7 dcg_636 :) rfl ?_
              refine AW.goto (tgt := 119) (dcN_8 dcg_636 :) (by decide) ?_
              exact AW.val (e10.trans ((if_neg c11).trans (if_neg c12))) J103
  · subst h9
    replace h := hF h (by decide)
    replace h := hT h rfl
    refine AW.aloadr_n 0 (dcN_13 dcg_636 :) rfl ?_
    refine AW.getR af_X12_41_117 sr_117_9 (dcN_0 dcg_637 :) ?_
    refine AW.iload_n 1 (dcN_1 dcg_637 :) rfl ?_
    refine AW.iload 2 (dcN_2 dcg_637 :) rfl ?_
    obtain ⟨k1, h⟩ := hK h
    obtain ⟨g2, e3, h⟩ := hBe h
    refine AW.iast kc_127 sk_127 k1 (dcN_3 dcg_637 :) e3 ?_
    refine AW.iload 3 (dcN_4 dcg_637 :) rfl ?_
    exact AW.iret1 rfl (dcN_5 dcg_637 :) h rfl
theorem M_enough_ok {z : AZ} {x1 : Int} {x2 : Int} {x3 : Int} {x4 : Int} {x5 : Int} {g : AG} {r : Int × AG} (h : M_enough x1 x2 x3 x4 x5 g = some r) : AMf z yX12_enough cX12_enough 10 (some .int) 8 [rv z 117, iv x1, iv x2, iv x3, iv x4, iv x5] g r := by
  intro d hdd
  refine AM.of (by decide +kernel) (Nat.le_of_ble_eq_true rfl) ?_
  show AW z (RX12, cX12_enough, 10, (some .int)) d (QD (some .int) r) 0 [(0, rv z 117), (1, iv x1), (2, iv x2), (3, iv x3), (4, iv x4), (5, iv x5)] [] g
  unfold M_enough at h
  refine AW.aloadr_n 0 (dcN_0 dcg_633 :) rfl ?_
  refine AW.iload_n 1 (dcN_1 dcg_633 :) rfl ?_
  refine AW.callVi (As := [iv x1]) (st := []) M_isBoat_ok cq_X12_435 cr_117_X12_isBoat (Nat.le_trans (by decide) hdd) rfl (dcN_2 dcg_633 :) rfl (Nat.le_of_ble_eq_true rfl) ?_
  refine AW.if_eq (tgt := 38) (dcN_3 dcg_633 :) (by decide) (fun c1 => ?_) (fun c1 => ?_)
  · replace h := hT h c1
    refine AW.iconst (dcN_2 dcg_634 :) ?_
    exact AW.iret1 rfl (dcN_3 dcg_634 :) h rfl
  · replace h := hF h c1
    refine AW.iload_n 2 (dcN_4 dcg_633 :) rfl ?_
    refine AW.callSi (As := [iv x2]) (st := []) M_isPoint_ok cq_X12_238 st_X12_isPoint (Nat.le_trans (by decide) hdd) rfl (dcN_5 dcg_633 :) rfl (Nat.le_of_ble_eq_true rfl) ?_
    refine AW.if_eq (tgt := 38) (dcN_6 dcg_633 :) (by decide) (fun c2 => ?_) (fun c2 => ?_)
    · replace h := hT h c2
      refine AW.iconst (dcN_2 dcg_634 :) ?_
      exact AW.iret1 rfl (dcN_3 dcg_634 :) h rfl
    · replace h := hF h c2
      refine AW.iload_n 3 (dcN_7 dcg_633 :) rfl ?_
      refine AW.callSi (As := [iv x3]) (st := []) M_isPoint_ok cq_X12_238 st_X12_isPoint (Nat.le_trans (by decide) hdd) rfl (dcN_8 dcg_633 :) rfl (Nat.le_of_ble_eq_true rfl) ?_
      refine AW.if_eq (tgt := 38) (dcN_9 dcg_633 :) (by decide) (fun c3 => ?_) (fun c3 => ?_)
      · replace h := hT h c3
        refine AW.iconst (dcN_2 dcg_634 :) ?_
        exact AW.iret1 rfl (dcN_3 dcg_634 :) h rfl
      · replace h := hF h c3
        refine AW.iload 4 (dcN_10 dcg_633 :) rfl ?_
        refine AW.callSi (As := [iv x4]) (st := []) M_isTime_ok cq_X12_438 st_X12_isTime (Nat.le_trans (by decide) hdd) rfl (dcN_11 dcg_633 :) rfl (Nat.le_of_ble_eq_true rfl) ?_
        refine AW.if_eq (tgt := 38) (dcN_12 dcg_633 :) (by decide) (fun c4 => ?_) (fun c4 => ?_)
        · replace h := hT h c4
          refine AW.iconst (dcN_2 dcg_634 :) ?_
          exact AW.iret1 rfl (dcN_3 dcg_634 :) h rfl
        · replace h := hF h c4
          refine AW.iload 5 (dcN_13 dcg_633 :) rfl ?_
          refine AW.callSi (As := [iv x5]) (st := []) M_isTime_ok cq_X12_438 st_X12_isTime (Nat.le_trans (by decide) hdd) rfl (dcN_0 dcg_634 :) rfl (Nat.le_of_ble_eq_true rfl) ?_
          refine AW.if_ne (tgt := 40) (dcN_1 dcg_634 :) (by decide) (fun c5 => ?_) (fun c5 => ?_)
          · replace h := hF h c5
            refine AW.aloadr_n 0 (dcN_4 dcg_634 :) rfl ?_
            refine AW.getR af_X12_41_117 sr_117_9 (dcN_5 dcg_634 :) ?_
            refine AW.iload_n 1 (dcN_6 dcg_634 :) rfl ?_
            obtain ⟨k6, h⟩ := hK h
            refine AW.iald kc_127 sk_127 k6 (dcN_7 dcg_634 :) ?_
            refine AW.istore (lv1 := [(6, iv (g 127 (ix x1))), (0, rv z 117), (1, iv x1), (2, iv x2), (3, iv x3), (4, iv x4), (5, iv x5)]) (dcN_8 dcg_634 :) (by decide) rfl ?_
            refine AW.iconst (dcN_9 dcg_634 :) ?_
            refine AW.istore (lv1 := [(7, iv (-1)), (6, iv (g 127 (ix x1))), (0, rv z 117), (1, iv x1), (2, iv x2), (3, iv x3), (4, iv x4), (5, iv x5)]) (dcN_10 dcg_634 :) (by decide) rfl ?_
            refine AW.iconst (dcN_11 dcg_634 :) ?_
            refine AW.istore (lv1 := [(8, iv 0), (7, iv (-1)), (6, iv (g 127 (ix x1))), (0, rv z 117), (1, iv x1), (2, iv x2), (3, iv x3), (4, iv x4), (5, iv x5)]) (dcN_12 dcg_634 :) (by decide) rfl ?_
            refine AW.sub (lv1 := [(0, rv z 117), (1, iv x1), (2, iv x2), (3, iv x3), (4, iv x4), (5, iv x5), (6, iv (g 127 (ix x1))), (7, iv (-1)), (8, iv 0)]) [3, 4, 5, 6, 7, 8, 2, 1, 0] rfl ?_
            exact (M_enough_b_ok hdd _ _ _ _ _ h).1 rfl
          · replace h := hT h c5
            refine AW.iconst (dcN_2 dcg_634 :) ?_
            exact AW.iret1 rfl (dcN_3 dcg_634 :) h rfl
set_option synthInstance.maxHeartbeats 2000000 in
theorem M_maybe_b_ok {z : AZ} {d : Nat} (hdd : 8 ≤ d) {x1 : Int} {x2 : Int} {x3 : Int} {x4 : Int} : ∀ (x5 : Int) (x6 : Int) (g : AG) (r : Int × AG), M_maybe_b x1 x2 x3 x4 x5 x6 g = some r → AW z (RX12, cX12_maybe, 8, (some .int)) d (QD (some .int) r) 42 [(0, rv z 117), (1, iv x1), (2, iv x2), (3, iv x3), (4, iv x4), (5, iv x5), (6, iv x6)] [] g := by
  refine M_maybe_b.partial_correctness x1 x2 x3 x4 (fun x5 x6 g r => AW z (RX12, cX12_maybe, 8, (some .int)) d (QD (some .int) r) 42 [(0, rv z 117), (1, iv x1), (2, iv x2), (3, iv x3), (4, iv x4), (5, iv x5), (6, iv x6)] [] g) ?_
  intro fb9 ih x5 x6 g r h
  refine AW.iload 6 (dcN_6 dcg_639 :) rfl ?_
  refine AW.bipush (dcN_7 dcg_639 :) (by decide) (by decide) ?_
  refine AW.icmp_ge (tgt := 92) (dcN_8 dcg_639 :) (by decide) (fun c1 => ?_) (fun c1 => ?_)
  · replace h := hT h c1
    refine AW.iload 5 (dcN_14 dcg_640 :) rfl ?_
    exact AW.iret1 rfl (dcN_15 dcg_640 :) h rfl
  · replace h := hF h c1
    refine AW.aloadr_n 0 (dcN_9 dcg_639 :) rfl ?_
    refine AW.iload_n 1 (dcN_10 dcg_639 :) rfl ?_
    refine AW.iload_n 2 (dcN_11 dcg_639 :) rfl ?_
    refine AW.iload 6 (dcN_12 dcg_639 :) rfl ?_
    refine AW.iload_n 3 (dcN_13 dcg_639 :) rfl ?_
    obtain ⟨r2, e3, h⟩ := hC h
    refine AW.callVi (As := [iv x1, iv x2, iv x6, iv x3]) (st := []) (M_led_ok e3) cq_X12_441 cr_117_X12_led (Nat.le_trans (by decide) hdd) rfl (dcN_14 dcg_639 :) rfl (Nat.le_of_ble_eq_true rfl) ?_
    refine AW.istore (lv1 := [(7, iv r2.1), (0, rv z 117), (1, iv x1), (2, iv x2), (3, iv x3), (4, iv x4), (5, iv x5), (6, iv x6)]) (dcN_15 dcg_639 :) (by decide) rfl ?_
    refine AW.iload 6 (dcN_16 dcg_639 :) rfl ?_
    refine AW.iload 0 (dcN_17 dcg_639 :) rfl ?_
    refine AW.iconst (dcN_0 dcg_640 :) ?_
    obtain ⟨t4, e5, h⟩ := hBe h
    refine AW.join (tgt := 83) (lv1 := [(7, iv r2.1), (0, rv z 117), (1, iv x1), (2, iv x2), (3, iv x3), (4, iv x4), (5, iv x5), (6, iv x6)]) (st1 := [iv t4, iv x5]) (g1 := r2.2) ?_ (fun J65 => ?_)
    · refine AW.ior (dcN_10 dcg_640 :) ?_
      refine AW.istore (lv1 := [(5, iv (orI x5 t4)), (7, iv r2.1), (0, rv z 117), (1, iv x1), (2, iv x2), (3, iv x3), (4, iv x4), (6, iv x6)]) (dcN_11 dcg_640 :) (by decide) rfl ?_
      refine AW.iinc (lv1 := [(6, iv (x6 + 1)), (5, iv (orI x5 t4)), (7, iv r2.1), (0, rv z 117), (1, iv x1), (2, iv x2), (3, iv x3), (4, iv x4)]) 7 (dcN_12 dcg_640 :) rfl (by decide) rfl ?_
      refine AW.goto (tgt := 42) (dcN_13 dcg_640 :) (by decide) ?_
      refine AW.sub (lv1 := [(0, rv z 117), (1, iv x1), (2, iv x2), (3, iv x3), (4, iv x4), (5, iv (orI x5 t4)), (6, iv (x6 + 1))]) [3, 4, 5, 6, 7, 1, 0] rfl ?_
      exact ih _ _ _ _ h
    refine AW.icmp_eq (tgt := 82) (dcN_1 dcg_640 :) (by decide) (fun c6 => ?_) (fun c6 => ?_)
    · refine AW.iconst (dcN_9 dcg_640 :) ?_
      exact AW.val (e5.trans (if_pos c6)) J65
    · refine AW.iload 0 (dcN_2 dcg_640 :) rfl ?_
      refine AW.iload 5 (dcN_3 dcg_640 :) rfl ?_
      refine AW.icmp_gt (tgt := 82) (dcN_4 dcg_640 :) (by decide) (fun c7 => ?_) (fun c7 => ?_)
      · refine AW.iconst (dcN_9 dcg_640 :) ?_
        exact AW.val (e5.trans ((if_neg c6).trans (if_pos c7))) J65
      · refine AW.iconst (dcN_5 dcg_640 :) ?_
        refine AW.iload 7 (dcN_6 dcg_640 :) rfl ?_
        refine AW.ishl (dcN_7 dcg_640 :) ?_
        refine AW.goto (tgt := 83) (dcN_8 dcg_640 :) (by decide) ?_
        exact AW.val (e5.trans ((if_neg c6).trans (if_neg c7))) J65
theorem M_maybe_ok {z : AZ} {x1 : Int} {x2 : Int} {x3 : Int} {x4 : Int} {g : AG} {r : Int × AG} (h : M_maybe x1 x2 x3 x4 g = some r) : AMf z yX12_maybe cX12_maybe 8 (some .int) 8 [rv z 117, iv x1, iv x2, iv x3, iv x4] g r := by
  intro d hdd
  refine AM.of (by decide +kernel) (Nat.le_of_ble_eq_true rfl) ?_
  show AW z (RX12, cX12_maybe, 8, (some .int)) d (QD (some .int) r) 0 [(0, rv z 117), (1, iv x1), (2, iv x2), (3, iv x3), (4, iv x4)] [] g
  unfold M_maybe at h
  refine AW.aloadr_n 0 (dcN_0 dcg_638 :) rfl ?_
  refine AW.iload_n 1 (dcN_1 dcg_638 :) rfl ?_
  refine AW.callVi (As := [iv x1]) (st := []) M_isBoat_ok cq_X12_435 cr_117_X12_isBoat (Nat.le_trans (by decide) hdd) rfl (dcN_2 dcg_638 :) rfl (Nat.le_of_ble_eq_true rfl) ?_
  refine AW.if_eq (tgt := 34) (dcN_3 dcg_638 :) (by decide) (fun c1 => ?_) (fun c1 => ?_)
  · replace h := hT h c1
    refine AW.iconst (dcN_0 dcg_639 :) ?_
    exact AW.iret1 rfl (dcN_1 dcg_639 :) h rfl
  · replace h := hF h c1
    refine AW.iload_n 2 (dcN_4 dcg_638 :) rfl ?_
    refine AW.callSi (As := [iv x2]) (st := []) M_isPoint_ok cq_X12_238 st_X12_isPoint (Nat.le_trans (by decide) hdd) rfl (dcN_5 dcg_638 :) rfl (Nat.le_of_ble_eq_true rfl) ?_
    refine AW.if_eq (tgt := 34) (dcN_6 dcg_638 :) (by decide) (fun c2 => ?_) (fun c2 => ?_)
    · replace h := hT h c2
      refine AW.iconst (dcN_0 dcg_639 :) ?_
      exact AW.iret1 rfl (dcN_1 dcg_639 :) h rfl
    · replace h := hF h c2
      refine AW.iload_n 3 (dcN_7 dcg_638 :) rfl ?_
      refine AW.callSi (As := [iv x3]) (st := []) M_isTime_ok cq_X12_438 st_X12_isTime (Nat.le_trans (by decide) hdd) rfl (dcN_8 dcg_638 :) rfl (Nat.le_of_ble_eq_true rfl) ?_
      refine AW.if_eq (tgt := 34) (dcN_9 dcg_638 :) (by decide) (fun c3 => ?_) (fun c3 => ?_)
      · replace h := hT h c3
        refine AW.iconst (dcN_0 dcg_639 :) ?_
        exact AW.iret1 rfl (dcN_1 dcg_639 :) h rfl
      · replace h := hF h c3
        refine AW.iload 4 (dcN_10 dcg_638 :) rfl ?_
        refine AW.iload_n 3 (dcN_11 dcg_638 :) rfl ?_
        refine AW.sipush (dcN_12 dcg_638 :) (by decide) (by decide) ?_
        refine AW.callSi (As := [iv x4, iv x3, iv 20159]) (st := []) M_isIn_ok cq_X12_3 st_X12_isIn (Nat.le_trans (by decide) hdd) rfl (dcN_13 dcg_638 :) rfl (Nat.le_of_ble_eq_true rfl) ?_
        refine AW.if_ne (tgt := 36) (dcN_14 dcg_638 :) (by decide) (fun c4 => ?_) (fun c4 => ?_)
        · replace h := hF h c4
          refine AW.iconst (dcN_2 dcg_639 :) ?_
          refine AW.istore (lv1 := [(5, iv 0), (0, rv z 117), (1, iv x1), (2, iv x2), (3, iv x3), (4, iv x4)]) (dcN_3 dcg_639 :) (by decide) rfl ?_
          refine AW.iconst (dcN_4 dcg_639 :) ?_
          refine AW.istore (lv1 := [(6, iv 0), (5, iv 0), (0, rv z 117), (1, iv x1), (2, iv x2), (3, iv x3), (4, iv x4)]) (dcN_5 dcg_639 :) (by decide) rfl ?_
          refine AW.sub (lv1 := [(0, rv z 117), (1, iv x1), (2, iv x2), (3, iv x3), (4, iv x4), (5, iv 0), (6, iv 0)]) [2, 3, 4, 5, 6, 1, 0] rfl ?_
          exact M_maybe_b_ok hdd _ _ _ _ h
        · replace h := hT h c4
          refine AW.iconst (dcN_0 dcg_639 :) ?_
          exact AW.iret1 rfl (dcN_1 dcg_639 :) h rfl
theorem M_trip_ok {z : AZ} {x1 : Int} {x2 : Int} {x3 : Int} {x4 : Int} {x5 : Int} {g : AG} {r : Int × AG} (h : M_trip x1 x2 x3 x4 x5 g = some r) : AMf z yX12_trip cX12_trip 6 (some .int) 2 [rv z 117, iv x1, iv x2, iv x3, iv x4, iv x5] g r := by
  intro d hdd
  refine AM.of (by decide +kernel) (Nat.le_of_ble_eq_true rfl) ?_
  show AW z (RX12, cX12_trip, 6, (some .int)) d (QD (some .int) r) 0 [(0, rv z 117), (1, iv x1), (2, iv x2), (3, iv x3), (4, iv x4), (5, iv x5)] [] g
  unfold M_trip at h
  refine AW.aloadr_n 0 (dcN_0 dcg_641 :) rfl ?_
  refine AW.iload_n 1 (dcN_1 dcg_641 :) rfl ?_
  refine AW.callVi (As := [iv x1]) (st := []) M_isBoat_ok cq_X12_435 cr_117_X12_isBoat (Nat.le_trans (by decide) hdd) rfl (dcN_2 dcg_641 :) rfl (Nat.le_of_ble_eq_true rfl) ?_
  refine AW.if_eq (tgt := 47) (dcN_3 dcg_641 :) (by decide) (fun c1 => ?_) (fun c1 => ?_)
  · replace h := hT h c1
    refine AW.iconst (dcN_6 dcg_642 :) ?_
    exact AW.iret1 rfl (dcN_7 dcg_642 :) h rfl
  · replace h := hF h c1
    refine AW.iload_n 2 (dcN_4 dcg_641 :) rfl ?_
    refine AW.callSi (As := [iv x2]) (st := []) M_isPoint_ok cq_X12_238 st_X12_isPoint (Nat.le_trans (by decide) hdd) rfl (dcN_5 dcg_641 :) rfl (Nat.le_of_ble_eq_true rfl) ?_
    refine AW.if_eq (tgt := 47) (dcN_6 dcg_641 :) (by decide) (fun c2 => ?_) (fun c2 => ?_)
    · replace h := hT h c2
      refine AW.iconst (dcN_6 dcg_642 :) ?_
      exact AW.iret1 rfl (dcN_7 dcg_642 :) h rfl
    · replace h := hF h c2
      refine AW.iload_n 3 (dcN_7 dcg_641 :) rfl ?_
      refine AW.callSi (As := [iv x3]) (st := []) M_isPoint_ok cq_X12_238 st_X12_isPoint (Nat.le_trans (by decide) hdd) rfl (dcN_8 dcg_641 :) rfl (Nat.le_of_ble_eq_true rfl) ?_
      refine AW.if_eq (tgt := 47) (dcN_9 dcg_641 :) (by decide) (fun c3 => ?_) (fun c3 => ?_)
      · replace h := hT h c3
        refine AW.iconst (dcN_6 dcg_642 :) ?_
        exact AW.iret1 rfl (dcN_7 dcg_642 :) h rfl
      · replace h := hF h c3
        refine AW.iload 4 (dcN_10 dcg_641 :) rfl ?_
        refine AW.callSi (As := [iv x4]) (st := []) M_isTime_ok cq_X12_438 st_X12_isTime (Nat.le_trans (by decide) hdd) rfl (dcN_11 dcg_641 :) rfl (Nat.le_of_ble_eq_true rfl) ?_
        refine AW.if_eq (tgt := 47) (dcN_12 dcg_641 :) (by decide) (fun c4 => ?_) (fun c4 => ?_)
        · replace h := hT h c4
          refine AW.iconst (dcN_6 dcg_642 :) ?_
          exact AW.iret1 rfl (dcN_7 dcg_642 :) h rfl
        · replace h := hF h c4
          refine AW.iload 5 (dcN_13 dcg_641 :) rfl ?_
          refine AW.callSi (As := [iv x5]) (st := []) M_isTime_ok cq_X12_438 st_X12_isTime (Nat.le_trans (by decide) hdd) rfl (dcN_0 dcg_642 :) rfl (Nat.le_of_ble_eq_true rfl) ?_
          refine AW.if_eq (tgt := 47) (dcN_1 dcg_642 :) (by decide) (fun c5 => ?_) (fun c5 => ?_)
          · replace h := hT h c5
            refine AW.iconst (dcN_6 dcg_642 :) ?_
            exact AW.iret1 rfl (dcN_7 dcg_642 :) h rfl
          · replace h := hF h c5
            refine AW.aloadr_n 0 (dcN_2 dcg_642 :) rfl ?_
            refine AW.getI af_X12_444_117 sr_117_49 (dcN_3 dcg_642 :) ?_
            refine AW.bipush (dcN_4 dcg_642 :) (by decide) (by decide) ?_
            refine AW.icmp_ne (tgt := 49) (dcN_5 dcg_642 :) (by decide) (fun c6 => ?_) (fun c6 => ?_)
            · replace h := hF h c6
              refine AW.aloadr_n 0 (dcN_8 dcg_642 :) rfl ?_
              refine AW.getR af_X12_115_117 sr_117_50 (dcN_9 dcg_642 :) ?_
              refine AW.aloadr_n 0 (dcN_10 dcg_642 :) rfl ?_
              refine AW.getI af_X12_444_117 sr_117_49 (dcN_11 dcg_642 :) ?_
              refine AW.iload_n 1 (dcN_12 dcg_642 :) rfl ?_
              obtain ⟨k7, h⟩ := hK h
              obtain ⟨g8, e9, h⟩ := hBe h
              refine AW.iast kc_149 sk_149 k7 (dcN_13 dcg_642 :) e9 ?_
              refine AW.aloadr_n 0 (dcN_14 dcg_642 :) rfl ?_
              refine AW.getR af_X12_118_117 sr_117_51 (dcN_15 dcg_642 :) ?_
              refine AW.aloadr_n 0 (dcN_16 dcg_642 :) rfl ?_
              refine AW.getI af_X12_444_117 sr_117_49 (dcN_0 dcg_643 :) ?_
              refine AW.iload_n 2 (dcN_1 dcg_643 :) rfl ?_
              obtain ⟨k10, h⟩ := hK h
              obtain ⟨g11, e12, h⟩ := hBe h
              refine AW.iast kc_150 sk_150 k10 (dcN_2 dcg_643 :) e12 ?_
              refine AW.aloadr_n 0 (dcN_3 dcg_643 :) rfl ?_
              refine AW.getR af_X12_121_117 sr_117_52 (dcN_4 dcg_643 :) ?_
              refine AW.aloadr_n 0 (dcN_5 dcg_643 :) rfl ?_
              refine AW.getI af_X12_444_117 sr_117_49 (dcN_6 dcg_643 :) ?_
              refine AW.iload_n 3 (dcN_7 dcg_643 :) rfl ?_
              obtain ⟨k13, h⟩ := hK h
              obtain ⟨g14, e15, h⟩ := hBe h
              refine AW.iast kc_151 sk_151 k13 (dcN_8 dcg_643 :) e15 ?_
              refine AW.aloadr_n 0 (dcN_9 dcg_643 :) rfl ?_
              refine AW.getR af_X12_124_117 sr_117_53 (dcN_10 dcg_643 :) ?_
              refine AW.aloadr_n 0 (dcN_11 dcg_643 :) rfl ?_
              refine AW.getI af_X12_444_117 sr_117_49 (dcN_12 dcg_643 :) ?_
              refine AW.iload 4 (dcN_13 dcg_643 :) rfl ?_
              obtain ⟨k16, h⟩ := hK h
              obtain ⟨g17, e18, h⟩ := hBe h
              refine AW.iast kc_152 sk_152 k16 (dcN_14 dcg_643 :) e18 ?_
              refine AW.aloadr_n 0 (dcN_15 dcg_643 :) rfl ?_
              refine AW.getR af_X12_127_117 sr_117_54 (dcN_16 dcg_643 :) ?_
              refine AW.aloadr_n 0 (dcN_17 dcg_643 :) rfl ?_
              refine AW.getI af_X12_444_117 sr_117_49 (dcN_18 dcg_643 :) ?_
              refine AW.iload 5 (dcN_0 dcg_644 :) rfl ?_
              obtain ⟨k19, h⟩ := hK h
              obtain ⟨g20, e21, h⟩ := hBe h
              refine AW.iast kc_153 sk_153 k19 (dcN_1 dcg_644 :) e21 ?_
              refine AW.aloadr_n 0 (dcN_2 dcg_644 :) rfl ?_
              refine AW.duprr (dcN_3 dcg_644 :) ?_
              refine AW.getI af_X12_444_117 sr_117_49 (dcN_4 dcg_644 :) ?_
              refine AW.iconst (dcN_5 dcg_644 :) ?_
              refine AW.iadd (dcN_6 dcg_644 :) ?_
              obtain ⟨g22, e23, h⟩ := hBe h
              refine AW.putI ap_X12_444_117 sr_117_49 (dcN_7 dcg_644 :) e23 ?_
              refine AW.aloadr_n 0 (dcN_8 dcg_644 :) rfl ?_
              refine AW.getI af_X12_444_117 sr_117_49 (dcN_9 dcg_644 :) ?_
              refine AW.iconst (dcN_10 dcg_644 :) ?_
              refine AW.isub (dcN_11 dcg_644 :) ?_
              exact AW.iret1 rfl (dcN_12 dcg_644 :) h rfl
            · replace h := hT h c6
              refine AW.iconst (dcN_6 dcg_642 :) ?_
              exact AW.iret1 rfl (dcN_7 dcg_642 :) h rfl
theorem M_lateOf_ok {z : AZ} {x1 : Int} {g : AG} {r : Int × AG} (h : M_lateOf x1 g = some r) : AMf z yX12_lateOf cX12_lateOf 3 (some .int) 8 [rv z 117, iv x1] g r := by
  intro d hdd
  refine AM.of (by decide +kernel) (Nat.le_of_ble_eq_true rfl) ?_
  show AW z (RX12, cX12_lateOf, 3, (some .int)) d (QD (some .int) r) 0 [(0, rv z 117), (1, iv x1)] [] g
  unfold M_lateOf at h
  refine AW.aloadr_n 0 (dcN_0 dcg_645 :) rfl ?_
  refine AW.aloadr_n 0 (dcN_1 dcg_645 :) rfl ?_
  refine AW.getR af_X12_115_117 sr_117_50 (dcN_2 dcg_645 :) ?_
  refine AW.iload_n 1 (dcN_3 dcg_645 :) rfl ?_
  obtain ⟨k1, h⟩ := hK h
  refine AW.iald kc_149 sk_149 k1 (dcN_4 dcg_645 :) ?_
  refine AW.aloadr_n 0 (dcN_5 dcg_645 :) rfl ?_
  refine AW.getR af_X12_118_117 sr_117_51 (dcN_6 dcg_645 :) ?_
  refine AW.iload_n 1 (dcN_7 dcg_645 :) rfl ?_
  refine AW.iald kc_150 sk_150 k1 (dcN_8 dcg_645 :) ?_
  refine AW.aloadr_n 0 (dcN_9 dcg_645 :) rfl ?_
  refine AW.getR af_X12_121_117 sr_117_52 (dcN_10 dcg_645 :) ?_
  refine AW.iload_n 1 (dcN_11 dcg_645 :) rfl ?_
  refine AW.iald kc_151 sk_151 k1 (dcN_12 dcg_645 :) ?_
  refine AW.aloadr_n 0 (dcN_13 dcg_645 :) rfl ?_
  refine AW.getR af_X12_124_117 sr_117_53 (dcN_14 dcg_645 :) ?_
  refine AW.iload_n 1 (dcN_15 dcg_645 :) rfl ?_
  refine AW.iald kc_152 sk_152 k1 (dcN_16 dcg_645 :) ?_
  obtain ⟨r2, e3, h⟩ := hC h
  refine AW.callVi (As := [iv (g 149 (ix x1)), iv (g 150 (ix x1)), iv (g 151 (ix x1)), iv (g 152 (ix x1))]) (st := []) (M_led_ok e3) cq_X12_441 cr_117_X12_led (Nat.le_trans (by decide) hdd) rfl (dcN_17 dcg_645 :) rfl (Nat.le_of_ble_eq_true rfl) ?_
  refine AW.istore_n (lv1 := [(2, iv r2.1), (0, rv z 117), (1, iv x1)]) (dcN_18 dcg_645 :) (by decide) rfl ?_
  refine AW.iload_n 0 (dcN_19 dcg_645 :) rfl ?_
  refine AW.iconst (dcN_20 dcg_645 :) ?_
  obtain ⟨r6, e7, h⟩ := hC h
  refine AW.join (tgt := 62) (lv1 := []) (st1 := [iv r6.1]) (g1 := r6.2) ?_ (fun J31 => ?_)
  · exact AW.iret1 rfl (dcN_16 dcg_646 :) h rfl
  replace h := e7
  refine AW.icmp_ne (tgt := 40) (dcN_21 dcg_645 :) (by decide) (fun c4 => ?_) (fun c4 => ?_)
  · replace h := hF h c4
    refine AW.iload_n 0 (dcN_2 dcg_646 :) rfl ?_
    refine AW.aloadr_n 1 (dcN_3 dcg_646 :) rfl ?_
    refine AW.getR af_X12_127_117 sr_117_54 (dcN_4 dcg_646 :) ?_
    refine AW.iload_n 2 (dcN_5 dcg_646 :) rfl ?_
    refine AW.iald kc_153 sk_153 k1 (dcN_6 dcg_646 :) ?_
    refine AW.icmp_le (tgt := 61) (dcN_7 dcg_646 :) (by decide) (fun c5 => ?_) (fun c5 => ?_)
    · replace h := hT h c5
      refine AW.iconst (dcN_15 dcg_646 :) ?_
      refine AW.sub (lv1 := []) [] rfl ?_
      cases h
      exact J31
    · replace h := hF h c5
      refine AW.iload_n 0 (dcN_8 dcg_646 :) rfl ?_
      refine AW.aloadr_n 1 (dcN_9 dcg_646 :) rfl ?_
      refine AW.getR af_X12_127_117 sr_117_54 (dcN_10 dcg_646 :) ?_
      refine AW.iload_n 2 (dcN_11 dcg_646 :) rfl ?_
      refine AW.iald kc_153 sk_153 k1 (dcN_12 dcg_646 :) ?_
      refine AW.isub (dcN_13 dcg_646 :) ?_
      refine AW.goto (tgt := 62) (dcN_14 dcg_646 :) (by decide) ?_
      refine AW.sub (lv1 := []) [] rfl ?_
      cases h
      exact J31
  · replace h := hT h c4
    refine AW.sipush (dcN_0 dcg_646 :) (by decide) (by decide) ?_
    refine AW.goto (tgt := 62) (dcN_1 dcg_646 :) (by decide) ?_
    refine AW.sub (lv1 := []) [] rfl ?_
    cases h
    exact J31
set_option synthInstance.maxHeartbeats 2000000 in
theorem M_late_b_ok {z : AZ} {d : Nat} (hdd : 9 ≤ d) : ∀ (x2 : Int) (x3 : Int) (g : AG) (r : Int × AG), M_late_b x2 x3 g = some r → AW z (RX12, cX12_late, 4, (some .int)) d (QD (some .int) r) 33 [(0, rv z 117), (2, iv x2), (3, iv x3)] [] g := by
  refine M_late_b.partial_correctness (fun x2 x3 g r => AW z (RX12, cX12_late, 4, (some .int)) d (QD (some .int) r) 33 [(0, rv z 117), (2, iv x2), (3, iv x3)] [] g) ?_
  intro fb9 ih x2 x3 g r h
  refine AW.iload_n 2 (dcN_1 dcg_648 :) rfl ?_
  refine AW.aloadr_n 0 (dcN_2 dcg_648 :) rfl ?_
  refine AW.getI af_X12_444_117 sr_117_49 (dcN_3 dcg_648 :) ?_
  refine AW.icmp_ge (tgt := 63) (dcN_4 dcg_648 :) (by decide) (fun c1 => ?_) (fun c1 => ?_)
  · replace h := hT h c1
    refine AW.iload_n 1 (dcN_17 dcg_648 :) rfl ?_
    exact AW.iret1 rfl (dcN_0 dcg_649 :) h rfl
  · replace h := hF h c1
    refine AW.iload_n 1 (dcN_5 dcg_648 :) rfl ?_
    refine AW.aloadr_n 0 (dcN_6 dcg_648 :) rfl ?_
    refine AW.iload_n 2 (dcN_7 dcg_648 :) rfl ?_
    obtain ⟨r2, e3, h⟩ := hC h
    refine AW.callVi (As := [iv x3]) (st := [iv x2]) (M_lateOf_ok e3) cq_X12_447 cr_117_X12_lateOf (Nat.le_trans (by decide) hdd) rfl (dcN_8 dcg_648 :) rfl (Nat.le_of_ble_eq_true rfl) ?_
    obtain ⟨t4, e5, h⟩ := hBe h
    refine AW.join (tgt := 55) (lv1 := [(0, rv z 117), (2, iv x2), (3, iv x3)]) (st1 := [iv t4, iv x2]) (g1 := r2.2) ?_ (fun J47 => ?_)
    · refine AW.iadd (dcN_13 dcg_648 :) ?_
      refine AW.istore_n (lv1 := [(2, iv (x2 + t4)), (0, rv z 117), (3, iv x3)]) (dcN_14 dcg_648 :) (by decide) rfl ?_
      refine AW.iinc (lv1 := [(3, iv (x3 + 1)), (2, iv (x2 + t4)), (0, rv z 117)]) 2 (dcN_15 dcg_648 :) rfl (by decide) rfl ?_
      refine AW.goto (tgt := 33) (dcN_16 dcg_648 :) (by decide) ?_
      refine AW.sub (lv1 := [(0, rv z 117), (2, iv (x2 + t4)), (3, iv (x3 + 1))]) [2, 1, 0] rfl ?_
      exact ih _ _ _ _ h
    refine AW.if_le (tgt := 54) (dcN_9 dcg_648 :) (by decide) (fun c6 => ?_) (fun c6 => ?_)
    · refine AW.iconst (dcN_12 dcg_648 :) ?_
      exact AW.val (e5.trans (if_pos c6)) J47
    · refine AW.iconst (dcN_10 dcg_648 :) ?_
      refine AW.goto (tgt := 55) (dcN_11 dcg_648 :) (by decide) ?_
      exact AW.val (e5.trans (if_neg c6)) J47
theorem M_late_ok {z : AZ} {x1 : Int} {g : AG} {r : Int × AG} (h : M_late x1 g = some r) : AMf z yX12_late cX12_late 4 (some .int) 9 [rv z 117, iv x1] g r := by
  intro d hdd
  refine AM.of (by decide +kernel) (Nat.le_of_ble_eq_true rfl) ?_
  show AW z (RX12, cX12_late, 4, (some .int)) d (QD (some .int) r) 0 [(0, rv z 117), (1, iv x1)] [] g
  unfold M_late at h
  refine AW.iload_n 1 (dcN_0 dcg_647 :) rfl ?_
  refine AW.iconst (dcN_1 dcg_647 :) ?_
  refine AW.icmp_eq (tgt := 29) (dcN_2 dcg_647 :) (by decide) (fun c1 => ?_) (fun c1 => ?_)
  · replace h := hT h c1
    refine AW.iconst (dcN_17 dcg_647 :) ?_
    refine AW.istore_n (lv1 := [(2, iv 0), (0, rv z 117), (1, iv x1)]) (dcN_18 dcg_647 :) (by decide) rfl ?_
    refine AW.iconst (dcN_19 dcg_647 :) ?_
    refine AW.istore_n (lv1 := [(3, iv 0), (2, iv 0), (0, rv z 117), (1, iv x1)]) (dcN_0 dcg_648 :) (by decide) rfl ?_
    refine AW.sub (lv1 := [(0, rv z 117), (2, iv 0), (3, iv 0)]) [2, 1, 0] rfl ?_
    exact M_late_b_ok hdd _ _ _ _ h
  · replace h := hF h c1
    refine AW.iload_n 1 (dcN_3 dcg_647 :) rfl ?_
    refine AW.iconst (dcN_4 dcg_647 :) ?_
    refine AW.aloadr_n 0 (dcN_5 dcg_647 :) rfl ?_
    refine AW.getI af_X12_444_117 sr_117_49 (dcN_6 dcg_647 :) ?_
    refine AW.iconst (dcN_7 dcg_647 :) ?_
    refine AW.isub (dcN_8 dcg_647 :) ?_
    refine AW.callSi (As := [iv x1, iv 0, iv ((g 117 49) - 1)]) (st := []) M_isIn_ok cq_X12_3 st_X12_isIn (Nat.le_trans (by decide) hdd) rfl (dcN_9 dcg_647 :) rfl (Nat.le_of_ble_eq_true rfl) ?_
    obtain ⟨r5, e6, h⟩ := hC h
    refine AW.join (tgt := 28) (lv1 := []) (st1 := [iv r5.1]) (g1 := r5.2) ?_ (fun J16 => ?_)
    · exact AW.iret1 rfl (dcN_16 dcg_647 :) h rfl
    replace h := e6
    refine AW.if_eq (tgt := 27) (dcN_10 dcg_647 :) (by decide) (fun c2 => ?_) (fun c2 => ?_)
    · replace h := hT h c2
      refine AW.iconst (dcN_15 dcg_647 :) ?_
      refine AW.sub (lv1 := []) [] rfl ?_
      cases h
      exact J16
    · replace h := hF h c2
      refine AW.aloadr_n 0 (dcN_11 dcg_647 :) rfl ?_
      refine AW.iload_n 1 (dcN_12 dcg_647 :) rfl ?_
      obtain ⟨r3, e4, h⟩ := hC h
      refine AW.callVi (As := [iv x1]) (st := []) (M_lateOf_ok e4) cq_X12_447 cr_117_X12_lateOf (Nat.le_trans (by decide) hdd) rfl (dcN_13 dcg_647 :) rfl (Nat.le_of_ble_eq_true rfl) ?_
      refine AW.goto (tgt := 28) (dcN_14 dcg_647 :) (by decide) ?_
      refine AW.sub (lv1 := []) [] rfl ?_
      cases h
      exact J16
theorem M_price_ok {z : AZ} {x1 : Int} {x2 : Int} {x3 : Int} {g : AG} {r : Int × AG} (h : M_price x1 x2 x3 g = some r) : AMf z yX12_price cX12_price 5 (some .int) 3 [rv z 117, iv x1, iv x2, iv x3] g r := by
  intro d hdd
  refine AM.of (by decide +kernel) (Nat.le_of_ble_eq_true rfl) ?_
  show AW z (RX12, cX12_price, 5, (some .int)) d (QD (some .int) r) 0 [(0, rv z 117), (1, iv x1), (2, iv x2), (3, iv x3)] [] g
  unfold M_price at h
  refine AW.aloadr_n 0 (dcN_0 dcg_835 :) rfl ?_
  refine AW.iload_n 1 (dcN_1 dcg_835 :) rfl ?_
  refine AW.callVi (As := [iv x1]) (st := []) M_isBoat_ok cq_X12_435 cr_117_X12_isBoat (Nat.le_trans (by decide) hdd) rfl (dcN_2 dcg_835 :) rfl (Nat.le_of_ble_eq_true rfl) ?_
  refine AW.if_eq (tgt := 18) (dcN_3 dcg_835 :) (by decide) (fun c1 => ?_) (fun c1 => ?_)
  · replace h := hT h c1
    refine AW.ldcw (dcN_9 dcg_835 :) cw_X12_450 ?_
    exact AW.iret1 rfl (dcN_10 dcg_835 :) h rfl
  · replace h := hF h c1
    refine AW.iload_n 2 (dcN_4 dcg_835 :) rfl ?_
    refine AW.iconst (dcN_5 dcg_835 :) ?_
    refine AW.bipush (dcN_6 dcg_835 :) (by decide) (by decide) ?_
    refine AW.callSi (As := [iv x2, iv 0, iv 9]) (st := []) M_isIn_ok cq_X12_3 st_X12_isIn (Nat.le_trans (by decide) hdd) rfl (dcN_7 dcg_835 :) rfl (Nat.le_of_ble_eq_true rfl) ?_
    refine AW.if_ne (tgt := 22) (dcN_8 dcg_835 :) (by decide) (fun c2 => ?_) (fun c2 => ?_)
    · replace h := hF h c2
      refine AW.aloadr_n 0 (dcN_11 dcg_835 :) rfl ?_
      obtain ⟨r3, e4, h⟩ := hC h
      refine AW.callVv (As := []) (st := []) (M_forgets_ok e4) cq_X12_401 cr_117_X12_forgets (Nat.le_trans (by decide) hdd) rfl (dcN_12 dcg_835 :) rfl (Nat.le_of_ble_eq_true rfl) ?_
      refine AW.aloadr_n 0 (dcN_13 dcg_835 :) rfl ?_
      refine AW.getR af_X12_109_117 sr_117_33 (dcN_14 dcg_835 :) ?_
      refine AW.iconst (dcN_15 dcg_835 :) ?_
      refine AW.iload_n 2 (dcN_16 dcg_835 :) rfl ?_
      obtain ⟨g5, e6, h⟩ := hBe h
      refine AW.iast kc_148 sk_148 (by decide) (dcN_0 dcg_836 :) e6 ?_
      refine AW.aloadr_n 0 (dcN_1 dcg_836 :) rfl ?_
      refine AW.getR af_X12_109_117 sr_117_33 (dcN_2 dcg_836 :) ?_
      refine AW.iconst (dcN_3 dcg_836 :) ?_
      refine AW.aloadr_n 0 (dcN_4 dcg_836 :) rfl ?_
      refine AW.getR af_X12_32_117 sr_117_6 (dcN_5 dcg_836 :) ?_
      refine AW.iload_n 1 (dcN_6 dcg_836 :) rfl ?_
      obtain ⟨k7, h⟩ := hK h
      refine AW.iald kc_124 sk_124 k7 (dcN_7 dcg_836 :) ?_
      obtain ⟨g8, e9, h⟩ := hBe h
      refine AW.iast kc_148 sk_148 (by decide) (dcN_8 dcg_836 :) e9 ?_
      refine AW.aloadr_n 0 (dcN_9 dcg_836 :) rfl ?_
      refine AW.getR af_X12_109_117 sr_117_33 (dcN_10 dcg_836 :) ?_
      refine AW.iconst (dcN_11 dcg_836 :) ?_
      refine AW.iload_n 3 (dcN_12 dcg_836 :) rfl ?_
      obtain ⟨t10, e11, h⟩ := hBe h
      refine AW.join (tgt := 59) (lv1 := [(0, rv z 117), (1, iv x1), (2, iv x2), (3, iv x3)]) (st1 := [iv t10, iv 5, rv z 148]) (g1 := g8) ?_ (fun J51 => ?_)
      · obtain ⟨g12, e13, h⟩ := hBe h
        refine AW.iast kc_148 sk_148 (by decide) (dcN_17 dcg_836 :) e13 ?_
        refine AW.aloadr_n 0 (dcN_18 dcg_836 :) rfl ?_
        refine AW.getR af_X12_109_117 sr_117_33 (dcN_19 dcg_836 :) ?_
        refine AW.bipush (dcN_0 dcg_837 :) (by decide) (by decide) ?_
        refine AW.aloadr_n 0 (dcN_1 dcg_837 :) rfl ?_
        refine AW.getR af_X12_35_117 sr_117_7 (dcN_2 dcg_837 :) ?_
        refine AW.iload_n 1 (dcN_3 dcg_837 :) rfl ?_
        refine AW.iald kc_125 sk_125 k7 (dcN_4 dcg_837 :) ?_
        obtain ⟨g14, e15, h⟩ := hBe h
        refine AW.iast kc_148 sk_148 (by decide) (dcN_5 dcg_837 :) e15 ?_
        refine AW.aloadr_n 0 (dcN_6 dcg_837 :) rfl ?_
        refine AW.iconst (dcN_7 dcg_837 :) ?_
        obtain ⟨r16, e17, h⟩ := hC h
        refine AW.callVi (As := [iv 2]) (st := []) (M_serves_ok e17) cq_X12_404 cr_117_X12_serves (Nat.le_trans (by decide) hdd) rfl (dcN_8 dcg_837 :) rfl (Nat.le_of_ble_eq_true rfl) ?_
        refine AW.istore (lv1 := [(4, iv r16.1), (0, rv z 117), (1, iv x1), (2, iv x2), (3, iv x3)]) (dcN_9 dcg_837 :) (by decide) rfl ?_
        refine AW.aloadr_n 1 (dcN_10 dcg_837 :) rfl ?_
        refine AW.iload 0 (dcN_11 dcg_837 :) rfl ?_
        refine AW.iconst (dcN_12 dcg_837 :) ?_
        obtain ⟨t18, e19, h⟩ := hBe h
        refine AW.join (tgt := 92) (lv1 := [(4, iv r16.1), (0, rv z 117), (1, iv x1), (2, iv x2), (3, iv x3)]) (st1 := [iv t18, rv z 117]) (g1 := r16.2) ?_ (fun J84 => ?_)
        · obtain ⟨g20, e21, h⟩ := hBe h
          refine AW.putZ ap_X12_454_117 sr_117_100 (by rw [e19]; (repeat' split) <;> first | exact Or.inl rfl | exact Or.inr rfl) (dcN_17 dcg_837 :) e21 ?_
          refine AW.iload 0 (dcN_18 dcg_837 :) rfl ?_
          refine AW.iconst (dcN_0 dcg_838 :) ?_
          obtain ⟨r26, e27, h⟩ := hC h
          refine AW.join (tgt := 125) (lv1 := []) (st1 := [iv r26.1]) (g1 := r26.2) ?_ (fun J98 => ?_)
          · exact AW.iret1 rfl (dcN_14 dcg_838 :) h rfl
          replace h := e27
          refine AW.icmp_ne (tgt := 107) (dcN_1 dcg_838 :) (by decide) (fun c22 => ?_) (fun c22 => ?_)
          · replace h := hF h c22
            refine AW.aloadr_n 1 (dcN_4 dcg_838 :) rfl ?_
            refine AW.aloadr_n 1 (dcN_5 dcg_838 :) rfl ?_
            refine AW.getR af_X12_57_117 sr_117_16 (dcN_6 dcg_838 :) ?_
            refine AW.iload 0 (dcN_7 dcg_838 :) rfl ?_
            obtain ⟨k23, h⟩ := hK h
            refine AW.iald kc_131 sk_131 k23 (dcN_8 dcg_838 :) ?_
            refine AW.aloadr_n 1 (dcN_9 dcg_838 :) rfl ?_
            refine AW.getR af_X12_60_117 sr_117_17 (dcN_10 dcg_838 :) ?_
            refine AW.iload 0 (dcN_11 dcg_838 :) rfl ?_
            refine AW.iald kc_132 sk_132 k23 (dcN_12 dcg_838 :) ?_
            obtain ⟨r24, e25, h⟩ := hC h
            refine AW.callVi (As := [iv (g20 131 (ix r16.1)), iv (g20 132 (ix r16.1))]) (st := []) (M_comesTo_ok e25) cq_X12_397 cr_117_X12_comesTo (Nat.le_trans (by decide) hdd) rfl (dcN_13 dcg_838 :) rfl (Nat.le_of_ble_eq_true rfl) ?_
            refine AW.sub (lv1 := []) [] rfl ?_
            cases h
            exact J98
          · replace h := hT h c22
            refine AW.ldcw (dcN_2 dcg_838 :) cw_X12_450 ?_
            refine AW.goto (tgt := 125) (dcN_3 dcg_838 :) (by decide) ?_
            refine AW.sub (lv1 := []) [] rfl ?_
            cases h
            exact J98
        refine AW.icmp_eq (tgt := 91) (dcN_13 dcg_837 :) (by decide) (fun c28 => ?_) (fun c28 => ?_)
        · refine AW.iconst (dcN_16 dcg_837 :) ?_
          exact AW.val (e19.trans (if_pos c28)) J84
        · refine AW.iconst (dcN_14 dcg_837 :) ?_
          refine AW.goto (tgt := 92) (dcN_15 dcg_837 :) (by decide) ?_
          exact AW.val (e19.trans (if_neg c28)) J84
      refine AW.if_eq (tgt := 58) (dcN_13 dcg_836 :) (by decide) (fun c29 => ?_) (fun c29 => ?_)
      · refine AW.iconst (dcN_16 dcg_836 :) ?_
        exact AW.val (e11.trans (if_pos c29)) J51
      · refine AW.iconst (dcN_14 dcg_836 :) ?_
        refine AW.goto (tgt := 59) (dcN_15 dcg_836 :) (by decide) ?_
        exact AW.val (e11.trans (if_neg c29)) J51
    · replace h := hT h c2
      refine AW.ldcw (dcN_9 dcg_835 :) cw_X12_450 ?_
      exact AW.iret1 rfl (dcN_10 dcg_835 :) h rfl
end
section
theorem M_refund_ok {z : AZ} {x1 : Int} {g : AG} {r : Int × AG} (h : M_refund x1 g = some r) : AMf z yX12_refund cX12_refund 5 (some .int) 9 [rv z 117, iv x1] g r := by
  intro d hdd
  refine AM.of (by decide +kernel) (Nat.le_of_ble_eq_true rfl) ?_
  show AW z (RX12, cX12_refund, 5, (some .int)) d (QD (some .int) r) 0 [(0, rv z 117), (1, iv x1)] [] g
  unfold M_refund at h
  refine AW.aloadr_n 0 (dcN_0 dcg_656 :) rfl ?_
  refine AW.iload_n 1 (dcN_1 dcg_656 :) rfl ?_
  obtain ⟨r1, e2, h⟩ := hC h
  refine AW.callVi (As := [iv x1]) (st := []) (M_lateOf_ok e2) cq_X12_447 cr_117_X12_lateOf (Nat.le_trans (by decide) hdd) rfl (dcN_2 dcg_656 :) rfl (Nat.le_of_ble_eq_true rfl) ?_
  refine AW.istore_n (lv1 := [(2, iv r1.1), (0, rv z 117), (1, iv x1)]) (dcN_3 dcg_656 :) (by decide) rfl ?_
  refine AW.iload_n 0 (dcN_4 dcg_656 :) rfl ?_
  refine AW.if_ne (tgt := 12) (dcN_5 dcg_656 :) (by decide) (fun c3 => ?_) (fun c3 => ?_)
  · replace h := hF h c3
    refine AW.iload_n 0 (dcN_8 dcg_656 :) rfl ?_
    refine AW.sipush (dcN_9 dcg_656 :) (by decide) (by decide) ?_
    refine AW.iadd (dcN_10 dcg_656 :) ?_
    refine AW.sipush (dcN_11 dcg_656 :) (by decide) (by decide) ?_
    refine AW.idiv (dcN_12 dcg_656 :) (by decide) ?_
    refine AW.istore_n (lv1 := [(3, iv ((nw (r1.1 + 1439)).tdiv 1440)), (2, iv r1.1), (0, rv z 117), (1, iv x1)]) (dcN_13 dcg_656 :) (by decide) rfl ?_
    refine AW.aloadr_n 2 (dcN_14 dcg_656 :) rfl ?_
    refine AW.aloadr_n 2 (dcN_15 dcg_656 :) rfl ?_
    refine AW.getR af_X12_115_117 sr_117_50 (dcN_16 dcg_656 :) ?_
    refine AW.iload_n 3 (dcN_17 dcg_656 :) rfl ?_
    obtain ⟨k4, h⟩ := hK h
    refine AW.iald kc_149 sk_149 k4 (dcN_18 dcg_656 :) ?_
    refine AW.aloadr_n 2 (dcN_19 dcg_656 :) rfl ?_
    refine AW.getR af_X12_124_117 sr_117_53 (dcN_20 dcg_656 :) ?_
    refine AW.iload_n 3 (dcN_0 dcg_657 :) rfl ?_
    refine AW.iald kc_152 sk_152 k4 (dcN_1 dcg_657 :) ?_
    refine AW.sipush (dcN_2 dcg_657 :) (by decide) (by decide) ?_
    refine AW.idiv (dcN_3 dcg_657 :) (by decide) ?_
    refine AW.bipush (dcN_4 dcg_657 :) (by decide) (by decide) ?_
    refine AW.idiv (dcN_5 dcg_657 :) (by decide) ?_
    refine AW.aloadr_n 2 (dcN_6 dcg_657 :) rfl ?_
    refine AW.getR af_X12_118_117 sr_117_51 (dcN_7 dcg_657 :) ?_
    refine AW.iload_n 3 (dcN_8 dcg_657 :) rfl ?_
    refine AW.iald kc_150 sk_150 k4 (dcN_9 dcg_657 :) ?_
    refine AW.aloadr_n 2 (dcN_10 dcg_657 :) rfl ?_
    refine AW.getR af_X12_121_117 sr_117_52 (dcN_11 dcg_657 :) ?_
    refine AW.iload_n 3 (dcN_12 dcg_657 :) rfl ?_
    refine AW.iald kc_151 sk_151 k4 (dcN_13 dcg_657 :) ?_
    obtain ⟨t5, e6, h⟩ := hBe h
    refine AW.join (tgt := 62) (lv1 := [(3, iv ((nw (r1.1 + 1439)).tdiv 1440)), (2, iv r1.1), (0, rv z 117), (1, iv x1)]) (st1 := [iv t5, iv ((nw ((nw (r1.2 152 (ix x1))).tdiv 1440)).tdiv 7), iv (r1.2 149 (ix x1)), rv z 117]) (g1 := r1.2) ?_ (fun J54 => ?_)
    · obtain ⟨r7, e8, h⟩ := hC h
      refine AW.callVi (As := [iv (r1.2 149 (ix x1)), iv ((nw ((nw (r1.2 152 (ix x1))).tdiv 1440)).tdiv 7), iv t5]) (st := []) (M_price_ok e8) cq_X12_451 cr_117_X12_price (Nat.le_trans (by decide) hdd) rfl (dcN_18 dcg_657 :) rfl (Nat.le_of_ble_eq_true rfl) ?_
      refine AW.istore (lv1 := [(4, iv r7.1), (3, iv ((nw (r1.1 + 1439)).tdiv 1440)), (2, iv r1.1), (0, rv z 117), (1, iv x1)]) (dcN_0 dcg_658 :) (by decide) rfl ?_
      refine AW.aloadr_n 3 (dcN_1 dcg_658 :) rfl ?_
      refine AW.getI af_X12_454_117 sr_117_100 (dcN_2 dcg_658 :) ?_
      obtain ⟨r13, e14, h⟩ := hC h
      refine AW.join (tgt := 102) (lv1 := []) (st1 := [iv r13.1]) (g1 := r13.2) ?_ (fun J71 => ?_)
      · exact AW.iret1 rfl (dcN_2 dcg_659 :) h rfl
      replace h := e14
      refine AW.if_eq (tgt := 99) (dcN_3 dcg_658 :) (by decide) (fun c9 => ?_) (fun c9 => ?_)
      · replace h := hT h c9
        refine AW.ldcw (dcN_1 dcg_659 :) cw_X12_450 ?_
        refine AW.sub (lv1 := []) [] rfl ?_
        cases h
        exact J71
      · replace h := hF h c9
        refine AW.iload 0 (dcN_4 dcg_658 :) rfl ?_
        refine AW.i2l (dcN_5 dcg_658 :) ?_
        refine AW.iload_n 1 (dcN_6 dcg_658 :) rfl ?_
        refine AW.bipush (dcN_7 dcg_658 :) (by decide) (by decide) ?_
        obtain ⟨t10, e11, h⟩ := hBe h
        refine AW.join (tgt := 89) (lv1 := [(4, iv r7.1), (3, iv ((nw (r1.1 + 1439)).tdiv 1440)), (2, iv r1.1), (0, rv z 117), (1, iv x1)]) (st1 := [iv t10, jv (nw r7.1)]) (g1 := r7.2) ?_ (fun J80 => ?_)
        · refine AW.i2l (dcN_12 dcg_658 :) ?_
          refine AW.lmul (dcN_13 dcg_658 :) ?_
          refine AW.ldc2 (dcN_14 dcg_658 :) cw_X12_457 ?_
          refine AW.ldiv (dcN_15 dcg_658 :) (by decide) ?_
          refine AW.l2i (dcN_16 dcg_658 :) ?_
          refine AW.goto (tgt := 102) (dcN_0 dcg_659 :) (by decide) ?_
          refine AW.sub (lv1 := []) [] rfl ?_
          cases h
          exact J71
        refine AW.icmp_le (tgt := 88) (dcN_8 dcg_658 :) (by decide) (fun c12 => ?_) (fun c12 => ?_)
        · refine AW.iload_n 1 (dcN_11 dcg_658 :) rfl ?_
          exact AW.val (e11.trans (if_pos c12)) J80
        · refine AW.bipush (dcN_9 dcg_658 :) (by decide) (by decide) ?_
          refine AW.goto (tgt := 89) (dcN_10 dcg_658 :) (by decide) ?_
          exact AW.val (e11.trans (if_neg c12)) J80
    refine AW.icmp_eq (tgt := 61) (dcN_14 dcg_657 :) (by decide) (fun c15 => ?_) (fun c15 => ?_)
    · refine AW.iconst (dcN_17 dcg_657 :) ?_
      exact AW.val (e6.trans (if_pos c15)) J54
    · refine AW.iconst (dcN_15 dcg_657 :) ?_
      refine AW.goto (tgt := 62) (dcN_16 dcg_657 :) (by decide) ?_
      exact AW.val (e6.trans (if_neg c15)) J54
  · replace h := hT h c3
    refine AW.iconst (dcN_6 dcg_656 :) ?_
    exact AW.iret1 rfl (dcN_7 dcg_656 :) h rfl
set_option synthInstance.maxHeartbeats 2000000 in
theorem M_turningBack_b_ok {z : AZ} {d : Nat} (hdd : 8 ≤ d) {x1 : Int} {x3 : Int} : ∀ (tag : Nat) (x2 : Int) (x4 : Int) (g : AG) (r : Int × AG), M_turningBack_b x1 x3 tag x2 x4 g = some r → (tag = 1 → AW z (RX12, cX12_turningBack, 8, (some .int)) d (QD (some .int) r) 26 [(0, rv z 117), (1, iv x1), (2, iv x2), (3, iv x3), (4, iv x4)] [] g) ∧ (tag = 2 → AW z (RX12, cX12_turningBack, 8, (some .int)) d (QD (some .int) r) 167 [(2, iv x2)] [] g) := by
  refine M_turningBack_b.partial_correctness x1 x3 (fun tag x2 x4 g r => (tag = 1 → AW z (RX12, cX12_turningBack, 8, (some .int)) d (QD (some .int) r) 26 [(0, rv z 117), (1, iv x1), (2, iv x2), (3, iv x3), (4, iv x4)] [] g) ∧ (tag = 2 → AW z (RX12, cX12_turningBack, 8, (some .int)) d (QD (some .int) r) 167 [(2, iv x2)] [] g)) ?_
  intro fb9 ih tag x2 x4 g r h
  refine ⟨fun h9 => ?_, fun h9 => ?_⟩
  · subst h9
    replace h := hT h rfl
    refine AW.iload 4 (dcN_17 dcg_650 :) rfl ?_
    refine AW.aloadr_n 0 (dcN_18 dcg_650 :) rfl ?_
    refine AW.getR af_X12_121_117 sr_117_52 (dcN_19 dcg_650 :) ?_
    refine AW.iload_n 1 (dcN_0 dcg_651 :) rfl ?_
    obtain ⟨k1, h⟩ := hK h
    refine AW.iald kc_151 sk_151 k1 (dcN_1 dcg_651 :) ?_
    refine AW.aloadr_n 0 (dcN_2 dcg_651 :) rfl ?_
    refine AW.getR af_X12_118_117 sr_117_51 (dcN_3 dcg_651 :) ?_
    refine AW.iload_n 1 (dcN_4 dcg_651 :) rfl ?_
    refine AW.iald kc_150 sk_150 k1 (dcN_5 dcg_651 :) ?_
    refine AW.isub (dcN_6 dcg_651 :) ?_
    refine AW.iload_n 3 (dcN_7 dcg_651 :) rfl ?_
    refine AW.imul (dcN_8 dcg_651 :) ?_
    refine AW.icmp_gt (tgt := 167) (dcN_9 dcg_651 :) (by decide) (fun c2 => ?_) (fun c2 => ?_)
    · replace h := hT h c2
      refine AW.sub (lv1 := [(2, iv x2)]) [2] rfl ?_
      exact (ih _ _ _ _ _ h).2 rfl
    · replace h := hF h c2
      refine AW.aloadr_n 0 (dcN_10 dcg_651 :) rfl ?_
      refine AW.getR af_X12_124_117 sr_117_53 (dcN_11 dcg_651 :) ?_
      refine AW.iload_n 1 (dcN_12 dcg_651 :) rfl ?_
      refine AW.iald kc_152 sk_152 k1 (dcN_13 dcg_651 :) ?_
      refine AW.aloadr_n 0 (dcN_14 dcg_651 :) rfl ?_
      refine AW.getR af_X12_127_117 sr_117_54 (dcN_15 dcg_651 :) ?_
      refine AW.iload_n 1 (dcN_16 dcg_651 :) rfl ?_
      refine AW.iald kc_153 sk_153 k1 (dcN_17 dcg_651 :) ?_
      refine AW.icmp_gt (tgt := 167) (dcN_18 dcg_651 :) (by decide) (fun c3 => ?_) (fun c3 => ?_)
      · replace h := hT h c3
        refine AW.sub (lv1 := [(2, iv x2)]) [2] rfl ?_
        exact (ih _ _ _ _ _ h).2 rfl
      · replace h := hF h c3
        refine AW.aloadr_n 0 (dcN_19 dcg_651 :) rfl ?_
        refine AW.getR af_X12_118_117 sr_117_51 (dcN_20 dcg_651 :) ?_
        refine AW.iload_n 1 (dcN_0 dcg_652 :) rfl ?_
        refine AW.iald kc_150 sk_150 k1 (dcN_1 dcg_652 :) ?_
        refine AW.iload 4 (dcN_2 dcg_652 :) rfl ?_
        refine AW.iload_n 3 (dcN_3 dcg_652 :) rfl ?_
        refine AW.imul (dcN_4 dcg_652 :) ?_
        refine AW.iadd (dcN_5 dcg_652 :) ?_
        refine AW.istore (lv1 := [(5, iv ((g 150 (ix x1)) + (x4 * x3))), (0, rv z 117), (1, iv x1), (2, iv x2), (3, iv x3), (4, iv x4)]) (dcN_6 dcg_652 :) (by decide) rfl ?_
        refine AW.aloadr_n 1 (dcN_7 dcg_652 :) rfl ?_
        refine AW.aloadr_n 1 (dcN_8 dcg_652 :) rfl ?_
        refine AW.getR af_X12_115_117 sr_117_50 (dcN_9 dcg_652 :) ?_
        refine AW.iload_n 2 (dcN_10 dcg_652 :) rfl ?_
        refine AW.iald kc_149 sk_149 k1 (dcN_11 dcg_652 :) ?_
        refine AW.aloadr_n 1 (dcN_12 dcg_652 :) rfl ?_
        refine AW.getR af_X12_118_117 sr_117_51 (dcN_13 dcg_652 :) ?_
        refine AW.iload_n 2 (dcN_14 dcg_652 :) rfl ?_
        refine AW.iald kc_150 sk_150 k1 (dcN_15 dcg_652 :) ?_
        refine AW.iload 0 (dcN_16 dcg_652 :) rfl ?_
        refine AW.aloadr_n 1 (dcN_17 dcg_652 :) rfl ?_
        refine AW.getR af_X12_124_117 sr_117_53 (dcN_18 dcg_652 :) ?_
        refine AW.iload_n 2 (dcN_19 dcg_652 :) rfl ?_
        refine AW.iald kc_152 sk_152 k1 (dcN_20 dcg_652 :) ?_
        obtain ⟨r4, e5, h⟩ := hC h
        refine AW.callVi (As := [iv (g 149 (ix x1)), iv (g 150 (ix x1)), iv ((g 150 (ix x1)) + (x4 * x3)), iv (g 152 (ix x1))]) (st := []) (M_led_ok e5) cq_X12_441 cr_117_X12_led (Nat.le_trans (by decide) hdd) rfl (dcN_21 dcg_652 :) rfl (Nat.le_of_ble_eq_true rfl) ?_
        refine AW.istore (lv1 := [(6, iv r4.1), (5, iv ((g 150 (ix x1)) + (x4 * x3))), (0, rv z 117), (1, iv x1), (2, iv x2), (3, iv x3), (4, iv x4)]) (dcN_0 dcg_653 :) (by decide) rfl ?_
        refine AW.iload 0 (dcN_1 dcg_653 :) rfl ?_
        refine AW.iconst (dcN_2 dcg_653 :) ?_
        refine AW.icmp_ne (tgt := 119) (dcN_3 dcg_653 :) (by decide) (fun c6 => ?_) (fun c6 => ?_)
        · replace h := hF h c6
          refine AW.aloadr_n 2 (dcN_11 dcg_653 :) rfl ?_
          refine AW.aloadr_n 2 (dcN_12 dcg_653 :) rfl ?_
          refine AW.getR af_X12_115_117 sr_117_50 (dcN_13 dcg_653 :) ?_
          refine AW.iload_n 3 (dcN_14 dcg_653 :) rfl ?_
          refine AW.iald kc_149 sk_149 k1 (dcN_15 dcg_653 :) ?_
          refine AW.iload 1 (dcN_16 dcg_653 :) rfl ?_
          refine AW.aloadr_n 2 (dcN_0 dcg_654 :) rfl ?_
          refine AW.getR af_X12_118_117 sr_117_51 (dcN_1 dcg_654 :) ?_
          refine AW.iload_n 3 (dcN_2 dcg_654 :) rfl ?_
          refine AW.iald kc_150 sk_150 k1 (dcN_3 dcg_654 :) ?_
          refine AW.iload 0 (dcN_4 dcg_654 :) rfl ?_
          obtain ⟨r7, e8, h⟩ := hC h
          refine AW.callVi (As := [iv (r4.2 149 (ix x1)), iv ((g 150 (ix x1)) + (x4 * x3)), iv (r4.2 150 (ix x1)), iv r4.1]) (st := []) (M_led_ok e8) cq_X12_441 cr_117_X12_led (Nat.le_trans (by decide) hdd) rfl (dcN_5 dcg_654 :) rfl (Nat.le_of_ble_eq_true rfl) ?_
          refine AW.istore (lv1 := [(7, iv r7.1), (6, iv r4.1), (5, iv ((g 150 (ix x1)) + (x4 * x3))), (0, rv z 117), (1, iv x1), (2, iv x2), (3, iv x3), (4, iv x4)]) (dcN_6 dcg_654 :) (by decide) rfl ?_
          refine AW.iload 0 (dcN_7 dcg_654 :) rfl ?_
          refine AW.iconst (dcN_8 dcg_654 :) ?_
          obtain ⟨r11, e12, h⟩ := hC h
          refine AW.join (tgt := 161) (lv1 := [(0, rv z 117), (1, iv x1), (2, iv r11.1), (3, iv x3), (4, iv x4)]) (st1 := []) (g1 := r11.2) ?_ (fun J144 => ?_)
          · refine AW.iinc (lv1 := [(4, iv (x4 + 1)), (0, rv z 117), (1, iv x1), (2, iv r11.1), (3, iv x3)]) 4 (dcN_1 dcg_655 :) rfl (by decide) rfl ?_
            refine AW.goto (tgt := 26) (dcN_2 dcg_655 :) (by decide) ?_
            refine AW.sub (lv1 := [(0, rv z 117), (1, iv x1), (2, iv r11.1), (3, iv x3), (4, iv (x4 + 1))]) [1, 2, 3, 4, 0] rfl ?_
            exact (ih _ _ _ _ _ h).1 rfl
          replace h := e12
          refine AW.icmp_eq (tgt := 161) (dcN_9 dcg_654 :) (by decide) (fun c9 => ?_) (fun c9 => ?_)
          · replace h := hT h c9
            refine AW.sub (lv1 := [(0, rv z 117), (1, iv x1), (2, iv x2), (3, iv x3), (4, iv x4)]) [3, 4, 5, 6, 7] rfl ?_
            cases h
            exact J144
          · replace h := hF h c9
            refine AW.iload 0 (dcN_10 dcg_654 :) rfl ?_
            refine AW.aloadr_n 3 (dcN_11 dcg_654 :) rfl ?_
            refine AW.getR af_X12_127_117 sr_117_54 (dcN_12 dcg_654 :) ?_
            refine AW.iload_n 4 (dcN_13 dcg_654 :) rfl ?_
            refine AW.iald kc_153 sk_153 k1 (dcN_14 dcg_654 :) ?_
            refine AW.icmp_gt (tgt := 161) (dcN_15 dcg_654 :) (by decide) (fun c10 => ?_) (fun c10 => ?_)
            · replace h := hT h c10
              refine AW.sub (lv1 := [(0, rv z 117), (1, iv x1), (2, iv x2), (3, iv x3), (4, iv x4)]) [3, 4, 5, 6, 7] rfl ?_
              cases h
              exact J144
            · replace h := hF h c10
              refine AW.iload 2 (dcN_16 dcg_654 :) rfl ?_
              refine AW.istore_n (lv1 := [(2, iv ((g 150 (ix x1)) + (x4 * x3))), (7, iv r7.1), (6, iv r4.1), (5, iv ((g 150 (ix x1)) + (x4 * x3))), (0, rv z 117), (1, iv x1), (3, iv x3), (4, iv x4)]) (dcN_0 dcg_655 :) (by decide) rfl ?_
              refine AW.sub (lv1 := [(0, rv z 117), (1, iv x1), (2, iv ((g 150 (ix x1)) + (x4 * x3))), (3, iv x3), (4, iv x4)]) [4, 5, 0, 6, 7] rfl ?_
              cases h
              exact J144
        · replace h := hT h c6
          refine AW.iload_n 4 (dcN_4 dcg_653 :) rfl ?_
          refine AW.iconst (dcN_5 dcg_653 :) ?_
          obtain ⟨t13, e14, h⟩ := hBe h
          refine AW.join (tgt := 118) (lv1 := [(6, iv r4.1), (5, iv ((g 150 (ix x1)) + (x4 * x3))), (0, rv z 117), (1, iv x1), (2, iv x2), (3, iv x3), (4, iv x4)]) (st1 := [iv t13]) (g1 := r4.2) ?_ (fun J108 => ?_)
          · exact AW.iret1 rfl (dcN_10 dcg_653 :) h rfl
          refine AW.icmp_ne (tgt := 117) (dcN_6 dcg_653 :) (by decide) (fun c15 => ?_) (fun c15 => ?_)
          · refine AW.iload_n 4 (dcN_9 dcg_653 :) rfl ?_
            exact AW.val (e14.trans (if_neg c15)) J108
          · refine AW.ldcw (dcN_7 dcg_653 :) cw_X12_450 ?_
            refine AW.goto (tgt := 118) (dcN_8 dcg_653 :) (by decide) ?_
            exact AW.val (e14.trans (if_pos c15)) J108
  · subst h9
    replace h := hF h (by decide)
    replace h := hT h rfl
    refine AW.iload_n 0 (dcN_3 dcg_655 :) rfl ?_
    refine AW.iconst (dcN_4 dcg_655 :) ?_
    obtain ⟨t1, e2, h⟩ := hBe h
    refine AW.join (tgt := 179) (lv1 := [(2, iv x2)]) (st1 := [iv t1]) (g1 := g) ?_ (fun J169 => ?_)
    · exact AW.iret1 rfl (dcN_9 dcg_655 :) h rfl
    refine AW.icmp_ne (tgt := 178) (dcN_5 dcg_655 :) (by decide) (fun c3 => ?_) (fun c3 => ?_)
    · refine AW.iload_n 0 (dcN_8 dcg_655 :) rfl ?_
      exact AW.val (e2.trans (if_neg c3)) J169
    · refine AW.ldcw (dcN_6 dcg_655 :) cw_X12_450 ?_
      refine AW.goto (tgt := 179) (dcN_7 dcg_655 :) (by decide) ?_
      exact AW.val (e2.trans (if_pos c3)) J169
theorem M_turningBack_ok {z : AZ} {x1 : Int} {g : AG} {r : Int × AG} (h : M_turningBack x1 g = some r) : AMf z yX12_turningBack cX12_turningBack 8 (some .int) 8 [rv z 117, iv x1] g r := by
  intro d hdd
  refine AM.of (by decide +kernel) (Nat.le_of_ble_eq_true rfl) ?_
  show AW z (RX12, cX12_turningBack, 8, (some .int)) d (QD (some .int) r) 0 [(0, rv z 117), (1, iv x1)] [] g
  unfold M_turningBack at h
  refine AW.iconst (dcN_0 dcg_650 :) ?_
  refine AW.istore_n (lv1 := [(2, iv (-1)), (0, rv z 117), (1, iv x1)]) (dcN_1 dcg_650 :) (by decide) rfl ?_
  refine AW.aloadr_n 1 (dcN_2 dcg_650 :) rfl ?_
  refine AW.getR af_X12_118_117 sr_117_51 (dcN_3 dcg_650 :) ?_
  refine AW.iload_n 2 (dcN_4 dcg_650 :) rfl ?_
  obtain ⟨k1, h⟩ := hK h
  refine AW.iald kc_150 sk_150 k1 (dcN_5 dcg_650 :) ?_
  refine AW.aloadr_n 1 (dcN_6 dcg_650 :) rfl ?_
  refine AW.getR af_X12_121_117 sr_117_52 (dcN_7 dcg_650 :) ?_
  refine AW.iload_n 2 (dcN_8 dcg_650 :) rfl ?_
  refine AW.iald kc_151 sk_151 k1 (dcN_9 dcg_650 :) ?_
  obtain ⟨t2, e3, h⟩ := hBe h
  refine AW.join (tgt := 22) (lv1 := [(2, iv (-1)), (0, rv z 117), (1, iv x1)]) (st1 := [iv t2]) (g1 := g) ?_ (fun J14 => ?_)
  · refine AW.istore_n (lv1 := [(3, iv t2), (2, iv (-1)), (0, rv z 117), (1, iv x1)]) (dcN_14 dcg_650 :) (by decide) rfl ?_
    refine AW.iconst (dcN_15 dcg_650 :) ?_
    refine AW.istore (lv1 := [(4, iv 0), (3, iv t2), (2, iv (-1)), (0, rv z 117), (1, iv x1)]) (dcN_16 dcg_650 :) (by decide) rfl ?_
    refine AW.sub (lv1 := [(0, rv z 117), (1, iv x1), (2, iv (-1)), (3, iv t2), (4, iv 0)]) [3, 4, 2, 1, 0] rfl ?_
    exact (M_turningBack_b_ok hdd _ _ _ _ _ h).1 rfl
  refine AW.icmp_ge (tgt := 21) (dcN_10 dcg_650 :) (by decide) (fun c4 => ?_) (fun c4 => ?_)
  · refine AW.iconst (dcN_13 dcg_650 :) ?_
    exact AW.val (e3.trans (if_pos c4)) J14
  · refine AW.iconst (dcN_11 dcg_650 :) ?_
    refine AW.goto (tgt := 22) (dcN_12 dcg_650 :) (by decide) ?_
    exact AW.val (e3.trans (if_neg c4)) J14
theorem M_back_ok {z : AZ} {x1 : Int} {x2 : Int} {g : AG} {r : Int × AG} (h : M_back x1 x2 g = some r) : AMf z yX12_back cX12_back 3 (some .int) 10 [rv z 117, iv x1, iv x2] g r := by
  intro d hdd
  refine AM.of (by decide +kernel) (Nat.le_of_ble_eq_true rfl) ?_
  show AW z (RX12, cX12_back, 3, (some .int)) d (QD (some .int) r) 0 [(0, rv z 117), (1, iv x1), (2, iv x2)] [] g
  unfold M_back at h
  refine AW.iload_n 1 (dcN_0 dcg_660 :) rfl ?_
  refine AW.iconst (dcN_1 dcg_660 :) ?_
  refine AW.aloadr_n 0 (dcN_2 dcg_660 :) rfl ?_
  refine AW.getI af_X12_444_117 sr_117_49 (dcN_3 dcg_660 :) ?_
  refine AW.iconst (dcN_4 dcg_660 :) ?_
  refine AW.isub (dcN_5 dcg_660 :) ?_
  refine AW.callSi (As := [iv x1, iv 0, iv ((g 117 49) - 1)]) (st := []) M_isIn_ok cq_X12_3 st_X12_isIn (Nat.le_trans (by decide) hdd) rfl (dcN_6 dcg_660 :) rfl (Nat.le_of_ble_eq_true rfl) ?_
  obtain ⟨r8, e9, h⟩ := hC h
  refine AW.join (tgt := 46) (lv1 := []) (st1 := [iv r8.1]) (g1 := r8.2) ?_ (fun J11 => ?_)
  · exact AW.iret1 rfl dX12_back_46 h rfl
  replace h := e9
  refine AW.if_eq (tgt := 43) (dcN_7 dcg_660 :) (by decide) (fun c1 => ?_) (fun c1 => ?_)
  · replace h := hT h c1
    refine AW.ldcw (dcN_11 dcg_661 :) cw_X12_450 ?_
    refine AW.sub (lv1 := []) [] rfl ?_
    cases h
    exact J11
  · replace h := hF h c1
    refine AW.iload_n 2 (dcN_8 dcg_660 :) rfl ?_
    refine AW.iconst (dcN_9 dcg_660 :) ?_
    refine AW.iconst (dcN_10 dcg_660 :) ?_
    refine AW.callSi (As := [iv x2, iv 0, iv 1]) (st := []) M_isIn_ok cq_X12_3 st_X12_isIn (Nat.le_trans (by decide) hdd) rfl (dcN_11 dcg_660 :) rfl (Nat.le_of_ble_eq_true rfl) ?_
    refine AW.if_eq (tgt := 43) (dcN_0 dcg_661 :) (by decide) (fun c2 => ?_) (fun c2 => ?_)
    · replace h := hT h c2
      refine AW.ldcw (dcN_11 dcg_661 :) cw_X12_450 ?_
      refine AW.sub (lv1 := []) [] rfl ?_
      cases h
      exact J11
    · replace h := hF h c2
      refine AW.iload_n 2 (dcN_1 dcg_661 :) rfl ?_
      refine AW.if_ne (tgt := 35) (dcN_2 dcg_661 :) (by decide) (fun c3 => ?_) (fun c3 => ?_)
      · replace h := hF h c3
        refine AW.aloadr_n 0 (dcN_7 dcg_661 :) rfl ?_
        refine AW.iload_n 1 (dcN_8 dcg_661 :) rfl ?_
        obtain ⟨r4, e5, h⟩ := hC h
        refine AW.callVi (As := [iv x1]) (st := []) (M_refund_ok e5) cq_X12_462 cr_117_X12_refund (Nat.le_trans (by decide) hdd) rfl (dcN_9 dcg_661 :) rfl (Nat.le_of_ble_eq_true rfl) ?_
        refine AW.goto (tgt := 46) (dcN_10 dcg_661 :) (by decide) ?_
        refine AW.sub (lv1 := []) [] rfl ?_
        cases h
        exact J11
      · replace h := hT h c3
        refine AW.aloadr_n 0 (dcN_3 dcg_661 :) rfl ?_
        refine AW.iload_n 1 (dcN_4 dcg_661 :) rfl ?_
        obtain ⟨r6, e7, h⟩ := hC h
        refine AW.callVi (As := [iv x1]) (st := []) (M_turningBack_ok e7) cq_X12_459 cr_117_X12_turningBack (Nat.le_trans (by decide) hdd) rfl (dcN_5 dcg_661 :) rfl (Nat.le_of_ble_eq_true rfl) ?_
        refine AW.goto (tgt := 46) (dcN_6 dcg_661 :) (by decide) ?_
        refine AW.sub (lv1 := []) [] rfl ?_
        cases h
        exact J11
set_option synthInstance.maxHeartbeats 2000000 in
theorem M_rung_b_ok {z : AZ} {d : Nat} (hdd : 9 ≤ d) {x2 : Int} : ∀ (x1 : Int) (x3 : Int) (g : AG) (r : Int × AG), M_rung_b x2 x1 x3 g = some r → AW z (RX12, cX12_rung, 5, (some .int)) d (QD (some .int) r) 9 [(0, rv z 117), (1, iv x1), (2, iv x2), (3, iv x3)] [] g := by
  refine M_rung_b.partial_correctness x2 (fun x1 x3 g r => AW z (RX12, cX12_rung, 5, (some .int)) d (QD (some .int) r) 9 [(0, rv z 117), (1, iv x1), (2, iv x2), (3, iv x3)] [] g) ?_
  intro fb9 ih x1 x3 g r h
  refine AW.iload_n 3 (dcN_7 dcg_662 :) rfl ?_
  refine AW.aloadr_n 0 (dcN_8 dcg_662 :) rfl ?_
  refine AW.getI af_X12_444_117 sr_117_49 (dcN_9 dcg_662 :) ?_
  refine AW.icmp_ge (tgt := 67) (dcN_10 dcg_662 :) (by decide) (fun c1 => ?_) (fun c1 => ?_)
  · replace h := hT h c1
    refine AW.iload_n 1 (dcN_1 dcg_664 :) rfl ?_
    exact AW.iret1 rfl (dcN_2 dcg_664 :) h rfl
  · replace h := hF h c1
    refine AW.aloadr_n 0 (dcN_11 dcg_662 :) rfl ?_
    refine AW.iload_n 3 (dcN_12 dcg_662 :) rfl ?_
    obtain ⟨r2, e3, h⟩ := hC h
    refine AW.callVi (As := [iv x3]) (st := []) (M_lateOf_ok e3) cq_X12_447 cr_117_X12_lateOf (Nat.le_trans (by decide) hdd) rfl (dcN_13 dcg_662 :) rfl (Nat.le_of_ble_eq_true rfl) ?_
    obtain ⟨t4, e5, h⟩ := hBe h
    refine AW.join (tgt := 30) (lv1 := [(0, rv z 117), (1, iv x1), (2, iv x2), (3, iv x3)]) (st1 := [iv t4]) (g1 := r2.2) ?_ (fun J22 => ?_)
    · refine AW.istore (lv1 := [(4, iv t4), (0, rv z 117), (1, iv x1), (2, iv x2), (3, iv x3)]) (dcN_18 dcg_662 :) (by decide) rfl ?_
      refine AW.aloadr_n 1 (dcN_0 dcg_663 :) rfl ?_
      refine AW.iconst (dcN_1 dcg_663 :) ?_
      obtain ⟨g6, e7, h⟩ := hBe h
      refine AW.putI ap_X12_232_117 sr_117_11 (dcN_2 dcg_663 :) e7 ?_
      refine AW.iload 0 (dcN_3 dcg_663 :) rfl ?_
      obtain ⟨r12, e13, h⟩ := hC h
      refine AW.join (tgt := 56) (lv1 := [(0, rv z 117), (1, iv r12.1), (2, iv x2), (3, iv x3)]) (st1 := []) (g1 := r12.2) ?_ (fun J39 => ?_)
      · refine AW.aloadr_n 0 (dcN_15 dcg_663 :) rfl ?_
        refine AW.iload_n 2 (dcN_16 dcg_663 :) rfl ?_
        obtain ⟨g14, e15, h⟩ := hBe h
        refine AW.putI ap_X12_232_117 sr_117_11 (dcN_17 dcg_663 :) e15 ?_
        refine AW.iinc (lv1 := [(3, iv (x3 + 1)), (0, rv z 117), (1, iv r12.1), (2, iv x2)]) 3 (dcN_18 dcg_663 :) rfl (by decide) rfl ?_
        refine AW.goto (tgt := 9) (dcN_0 dcg_664 :) (by decide) ?_
        refine AW.sub (lv1 := [(0, rv z 117), (1, iv r12.1), (2, iv x2), (3, iv (x3 + 1))]) [1, 2, 3, 0] rfl ?_
        exact ih _ _ _ _ h
      replace h := e13
      refine AW.if_eq (tgt := 56) (dcN_4 dcg_663 :) (by decide) (fun c8 => ?_) (fun c8 => ?_)
      · replace h := hT h c8
        refine AW.sub (lv1 := [(0, rv z 117), (1, iv x1), (2, iv x2), (3, iv x3)]) [1, 2, 3, 4] rfl ?_
        cases h
        exact J39
      · replace h := hF h c8
        refine AW.aloadr_n 1 (dcN_5 dcg_663 :) rfl ?_
        refine AW.iload_n 4 (dcN_6 dcg_663 :) rfl ?_
        obtain ⟨r9, e10, h⟩ := hC h
        refine AW.callVi (As := [iv x3]) (st := []) (M_lateOf_ok e10) cq_X12_447 cr_117_X12_lateOf (Nat.le_trans (by decide) hdd) rfl (dcN_7 dcg_663 :) rfl (Nat.le_of_ble_eq_true rfl) ?_
        refine AW.if_ne (tgt := 56) (dcN_8 dcg_663 :) (by decide) (fun c11 => ?_) (fun c11 => ?_)
        · replace h := hF h c11
          refine AW.sub (lv1 := [(0, rv z 117), (1, iv x1), (2, iv x2), (3, iv x3)]) [1, 2, 3, 4] rfl ?_
          cases h
          exact J39
        · replace h := hT h c11
          refine AW.iload_n 2 (dcN_9 dcg_663 :) rfl ?_
          refine AW.iconst (dcN_10 dcg_663 :) ?_
          refine AW.iload_n 4 (dcN_11 dcg_663 :) rfl ?_
          refine AW.ishl (dcN_12 dcg_663 :) ?_
          refine AW.ior (dcN_13 dcg_663 :) ?_
          refine AW.istore_n (lv1 := [(1, iv (orI x1 (shlI 1 x3))), (4, iv t4), (0, rv z 117), (2, iv x2), (3, iv x3)]) (dcN_14 dcg_663 :) (by decide) rfl ?_
          refine AW.sub (lv1 := [(0, rv z 117), (1, iv (orI x1 (shlI 1 x3))), (2, iv x2), (3, iv x3)]) [2, 0, 3, 4] rfl ?_
          cases h
          exact J39
    refine AW.if_le (tgt := 29) (dcN_14 dcg_662 :) (by decide) (fun c16 => ?_) (fun c16 => ?_)
    · refine AW.iconst (dcN_17 dcg_662 :) ?_
      exact AW.val (e5.trans (if_pos c16)) J22
    · refine AW.iconst (dcN_15 dcg_662 :) ?_
      refine AW.goto (tgt := 30) (dcN_16 dcg_662 :) (by decide) ?_
      exact AW.val (e5.trans (if_neg c16)) J22
theorem M_rung_ok {z : AZ} {g : AG} {r : Int × AG} (h : M_rung g = some r) : AMf z yX12_rung cX12_rung 5 (some .int) 9 [rv z 117] g r := by
  intro d hdd
  refine AM.of (by decide +kernel) (Nat.le_of_ble_eq_true rfl) ?_
  show AW z (RX12, cX12_rung, 5, (some .int)) d (QD (some .int) r) 0 [(0, rv z 117)] [] g
  unfold M_rung at h
  refine AW.iconst (dcN_0 dcg_662 :) ?_
  refine AW.istore_n (lv1 := [(1, iv 0), (0, rv z 117)]) (dcN_1 dcg_662 :) (by decide) rfl ?_
  refine AW.aloadr_n 1 (dcN_2 dcg_662 :) rfl ?_
  refine AW.getI af_X12_232_117 sr_117_11 (dcN_3 dcg_662 :) ?_
  refine AW.istore_n (lv1 := [(2, iv (g 117 11)), (1, iv 0), (0, rv z 117)]) (dcN_4 dcg_662 :) (by decide) rfl ?_
  refine AW.iconst (dcN_5 dcg_662 :) ?_
  refine AW.istore_n (lv1 := [(3, iv 0), (2, iv (g 117 11)), (1, iv 0), (0, rv z 117)]) (dcN_6 dcg_662 :) (by decide) rfl ?_
  refine AW.sub (lv1 := [(0, rv z 117), (1, iv 0), (2, iv (g 117 11)), (3, iv 0)]) [3, 2, 1, 0] rfl ?_
  exact M_rung_b_ok hdd _ _ _ _ h
theorem M_pump_ok {z : AZ} {x1 : Int} {x2 : Int} {g : AG} {r : Int × AG} (h : M_pump x1 x2 g = some r) : AMf z yX12_pump cX12_pump 3 (some .boolean) 2 [rv z 117, iv x1, iv x2] g r := by
  intro d hdd
  refine AM.of (by decide +kernel) (Nat.le_of_ble_eq_true rfl) ?_
  show AW z (RX12, cX12_pump, 3, (some .boolean)) d (QD (some .boolean) r) 0 [(0, rv z 117), (1, iv x1), (2, iv x2)] [] g
  unfold M_pump at h
  refine AW.iload_n 1 (dcN_0 dcg_665 :) rfl ?_
  refine AW.callSi (As := [iv x1]) (st := []) M_isPoint_ok cq_X12_238 st_X12_isPoint (Nat.le_trans (by decide) hdd) rfl (dcN_1 dcg_665 :) rfl (Nat.le_of_ble_eq_true rfl) ?_
  refine AW.if_ne (tgt := 9) (dcN_2 dcg_665 :) (by decide) (fun c1 => ?_) (fun c1 => ?_)
  · replace h := hF h c1
    refine AW.aloadr_n 0 (dcN_5 dcg_665 :) rfl ?_
    refine AW.getR af_X12_130_117 sr_117_55 (dcN_6 dcg_665 :) ?_
    refine AW.iload_n 1 (dcN_7 dcg_665 :) rfl ?_
    refine AW.iload_n 2 (dcN_8 dcg_665 :) rfl ?_
    obtain ⟨k2, h⟩ := hK h
    obtain ⟨k3, h⟩ := hK h
    obtain ⟨g4, e5, h⟩ := hBe h
    refine AW.zast kc_154 sk_154 k2 k3 (dcN_9 dcg_665 :) e5 ?_
    refine AW.iconst (dcN_10 dcg_665 :) ?_
    exact AW.zret1 rfl (Or.inr rfl) (dcN_11 dcg_665 :) h rfl
  · replace h := hT h c1
    refine AW.iconst (dcN_3 dcg_665 :) ?_
    exact AW.zret1 rfl (Or.inl rfl) (dcN_4 dcg_665 :) h rfl
set_option synthInstance.maxHeartbeats 2000000 in
theorem M_pumped_b_ok {z : AZ} {d : Nat} (hdd : 8 ≤ d) {x1 : Int} {x2 : Int} {x3 : Int} {x4 : Int} {x5 : Int} : ∀ (x6 : Int) (x7 : Int) (x8 : Int) (g : AG) (r : Int × AG), M_pumped_b x1 x2 x3 x4 x5 x6 x7 x8 g = some r → AW z (RX12, cX12_pumped, 10, (some .int)) d (QD (some .int) r) 53 [(0, rv z 117), (1, iv x1), (2, iv x2), (3, iv x3), (4, iv x4), (5, iv x5), (6, iv x6), (7, iv x7), (8, iv x8)] [] g := by
  refine M_pumped_b.partial_correctness x1 x2 x3 x4 x5 (fun x6 x7 x8 g r => AW z (RX12, cX12_pumped, 10, (some .int)) d (QD (some .int) r) 53 [(0, rv z 117), (1, iv x1), (2, iv x2), (3, iv x3), (4, iv x4), (5, iv x5), (6, iv x6), (7, iv x7), (8, iv x8)] [] g) ?_
  intro fb9 ih x6 x7 x8 g r h
  refine AW.iload 8 (dcN_13 dcg_667 :) rfl ?_
  refine AW.bipush (dcN_14 dcg_667 :) (by decide) (by decide) ?_
  refine AW.icmp_ge (tgt := 121) (dcN_15 dcg_667 :) (by decide) (fun c1 => ?_) (fun c1 => ?_)
  · replace h := hT h c1
    refine AW.iload 6 (dcN_10 dcg_669 :) rfl ?_
    refine AW.iconst (dcN_11 dcg_669 :) ?_
    obtain ⟨t2, e3, h⟩ := hBe h
    refine AW.join (tgt := 164) (lv1 := [(0, rv z 117), (1, iv x1), (2, iv x2), (3, iv x3), (4, iv x4), (5, iv x5), (6, iv x6), (7, iv x7), (8, iv x8)]) (st1 := [iv t2]) (g1 := g) ?_ (fun J124 => ?_)
    · exact AW.iret1 rfl (dcN_2 dcg_671 :) h rfl
    refine AW.icmp_eq (tgt := 132) (dcN_12 dcg_669 :) (by decide) (fun c4 => ?_) (fun c4 => ?_)
    · refine AW.iload 6 (dcN_1 dcg_670 :) rfl ?_
      refine AW.goto (tgt := 164) (dcN_2 dcg_670 :) (by decide) ?_
      exact AW.val (e3.trans (if_pos c4)) J124
    · refine AW.iload 5 (dcN_13 dcg_669 :) rfl ?_
      refine AW.if_ne (tgt := 137) (dcN_0 dcg_670 :) (by decide) (fun c5 => ?_) (fun c5 => ?_)
      · refine AW.iload 5 (dcN_3 dcg_670 :) rfl ?_
        refine AW.iconst (dcN_4 dcg_670 :) ?_
        refine AW.icmp_ne (tgt := 148) (dcN_5 dcg_670 :) (by decide) (fun c6 => ?_) (fun c6 => ?_)
        · refine AW.iload 4 (dcN_8 dcg_670 :) rfl ?_
          refine AW.sipush (dcN_9 dcg_670 :) (by decide) (by decide) ?_
          refine AW.iadd (dcN_10 dcg_670 :) ?_
          refine AW.iload 7 (dcN_11 dcg_670 :) rfl ?_
          refine AW.icmp_ge (tgt := 163) (dcN_12 dcg_670 :) (by decide) (fun c7 => ?_) (fun c7 => ?_)
          · refine AW.iconst (dcN_1 dcg_671 :) ?_
            exact AW.val (e3.trans ((if_neg c4).trans ((if_neg c5).trans ((if_neg c6).trans (if_pos c7))))) J124
          · refine AW.iconst (dcN_13 dcg_670 :) ?_
            refine AW.goto (tgt := 164) (dcN_0 dcg_671 :) (by decide) ?_
            exact AW.val (e3.trans ((if_neg c4).trans ((if_neg c5).trans ((if_neg c6).trans (if_neg c7))))) J124
        · refine AW.iload 7 (dcN_6 dcg_670 :) rfl ?_
          refine AW.goto (tgt := 164) (dcN_7 dcg_670 :) (by decide) ?_
          exact AW.val (e3.trans ((if_neg c4).trans ((if_neg c5).trans (if_pos c6)))) J124
      · refine AW.iload 6 (dcN_1 dcg_670 :) rfl ?_
        refine AW.goto (tgt := 164) (dcN_2 dcg_670 :) (by decide) ?_
        exact AW.val (e3.trans ((if_neg c4).trans (if_pos c5))) J124
  · replace h := hF h c1
    refine AW.aloadr_n 0 (dcN_16 dcg_667 :) rfl ?_
    refine AW.getR af_X12_130_117 sr_117_55 (dcN_17 dcg_667 :) ?_
    refine AW.iload 8 (dcN_0 dcg_668 :) rfl ?_
    obtain ⟨k8, h⟩ := hK h
    refine AW.zald kc_154 sk_154 k8 (dcN_1 dcg_668 :) ?_
    obtain ⟨r12, e13, h⟩ := hC h
    refine AW.join (tgt := 83) (lv1 := [(0, rv z 117), (1, iv x1), (2, iv x2), (3, iv x3), (4, iv x4), (5, iv x5), (6, iv x6), (7, iv x7), (8, iv x8)]) (st1 := [iv r12.1]) (g1 := r12.2) ?_ (fun J67 => ?_)
    · refine AW.istore (lv1 := [(9, iv r12.1), (0, rv z 117), (1, iv x1), (2, iv x2), (3, iv x3), (4, iv x4), (5, iv x5), (6, iv x6), (7, iv x7), (8, iv x8)]) (dcN_11 dcg_668 :) (by decide) rfl ?_
      refine AW.iload 0 (dcN_12 dcg_668 :) rfl ?_
      refine AW.iconst (dcN_13 dcg_668 :) ?_
      obtain ⟨r17, e18, h⟩ := hC h
      refine AW.join (tgt := 115) (lv1 := [(0, rv z 117), (1, iv x1), (2, iv x2), (3, iv x3), (4, iv x4), (5, iv x5), (6, iv r17.1), (7, iv r17.2.1), (8, iv x8)]) (st1 := []) (g1 := r17.2.2) ?_ (fun J88 => ?_)
      · refine AW.iinc (lv1 := [(8, iv (x8 + 1)), (0, rv z 117), (1, iv x1), (2, iv x2), (3, iv x3), (4, iv x4), (5, iv x5), (6, iv r17.1), (7, iv r17.2.1)]) 8 (dcN_8 dcg_669 :) rfl (by decide) rfl ?_
        refine AW.goto (tgt := 53) (dcN_9 dcg_669 :) (by decide) ?_
        refine AW.sub (lv1 := [(0, rv z 117), (1, iv x1), (2, iv x2), (3, iv x3), (4, iv x4), (5, iv x5), (6, iv r17.1), (7, iv r17.2.1), (8, iv (x8 + 1))]) [1, 2, 3, 4, 5, 6, 7, 8, 0] rfl ?_
        exact ih _ _ _ _ _ h
      replace h := e18
      refine AW.icmp_eq (tgt := 115) (dcN_14 dcg_668 :) (by decide) (fun c14 => ?_) (fun c14 => ?_)
      · replace h := hT h c14
        refine AW.sub (lv1 := [(0, rv z 117), (1, iv x1), (2, iv x2), (3, iv x3), (4, iv x4), (5, iv x5), (6, iv x6), (7, iv x7), (8, iv x8)]) [1, 2, 3, 4, 5, 6, 7, 8, 9] rfl ?_
        cases h
        exact J88
      · replace h := hF h c14
        refine AW.iload 7 (dcN_15 dcg_668 :) rfl ?_
        refine AW.iconst (dcN_16 dcg_668 :) ?_
        refine AW.icmp_eq (tgt := 107) (dcN_17 dcg_668 :) (by decide) (fun c15 => ?_) (fun c15 => ?_)
        · replace h := hT h c15
          refine AW.iload 9 (dcN_4 dcg_669 :) rfl ?_
          refine AW.istore (lv1 := [(6, iv x8), (9, iv r12.1), (0, rv z 117), (1, iv x1), (2, iv x2), (3, iv x3), (4, iv x4), (5, iv x5), (7, iv x7), (8, iv x8)]) (dcN_5 dcg_669 :) (by decide) rfl ?_
          refine AW.iload 1 (dcN_6 dcg_669 :) rfl ?_
          refine AW.istore (lv1 := [(7, iv r12.1), (6, iv x8), (9, iv r12.1), (0, rv z 117), (1, iv x1), (2, iv x2), (3, iv x3), (4, iv x4), (5, iv x5), (8, iv x8)]) (dcN_7 dcg_669 :) (by decide) rfl ?_
          refine AW.sub (lv1 := [(0, rv z 117), (1, iv x1), (2, iv x2), (3, iv x3), (4, iv x4), (5, iv x5), (6, iv x8), (7, iv r12.1), (8, iv x8)]) [3, 4, 5, 6, 7, 8, 1, 0, 9] rfl ?_
          cases h
          exact J88
        · replace h := hF h c15
          refine AW.iload 0 (dcN_0 dcg_669 :) rfl ?_
          refine AW.iload 8 (dcN_1 dcg_669 :) rfl ?_
          refine AW.icmp_lt (tgt := 107) (dcN_2 dcg_669 :) (by decide) (fun c16 => ?_) (fun c16 => ?_)
          · replace h := hT h c16
            refine AW.iload 9 (dcN_4 dcg_669 :) rfl ?_
            refine AW.istore (lv1 := [(6, iv x8), (9, iv r12.1), (0, rv z 117), (1, iv x1), (2, iv x2), (3, iv x3), (4, iv x4), (5, iv x5), (7, iv x7), (8, iv x8)]) (dcN_5 dcg_669 :) (by decide) rfl ?_
            refine AW.iload 1 (dcN_6 dcg_669 :) rfl ?_
            refine AW.istore (lv1 := [(7, iv r12.1), (6, iv x8), (9, iv r12.1), (0, rv z 117), (1, iv x1), (2, iv x2), (3, iv x3), (4, iv x4), (5, iv x5), (8, iv x8)]) (dcN_7 dcg_669 :) (by decide) rfl ?_
            refine AW.sub (lv1 := [(0, rv z 117), (1, iv x1), (2, iv x2), (3, iv x3), (4, iv x4), (5, iv x5), (6, iv x8), (7, iv r12.1), (8, iv x8)]) [3, 4, 5, 6, 7, 8, 1, 0, 9] rfl ?_
            cases h
            exact J88
          · replace h := hF h c16
            refine AW.goto (tgt := 115) (dcN_3 dcg_669 :) (by decide) ?_
            refine AW.sub (lv1 := [(0, rv z 117), (1, iv x1), (2, iv x2), (3, iv x3), (4, iv x4), (5, iv x5), (6, iv x6), (7, iv x7), (8, iv x8)]) [1, 2, 3, 4, 5, 6, 7, 8, 9] rfl ?_
            cases h
            exact J88
    replace h := e13
    refine AW.if_eq (tgt := 82) (dcN_2 dcg_668 :) (by decide) (fun c9 => ?_) (fun c9 => ?_)
    · replace h := hT h c9
      refine AW.iconst (dcN_10 dcg_668 :) ?_
      cases h
      exact J67
    · replace h := hF h c9
      refine AW.aloadr_n 0 (dcN_3 dcg_668 :) rfl ?_
      refine AW.iload_n 1 (dcN_4 dcg_668 :) rfl ?_
      refine AW.iload_n 2 (dcN_5 dcg_668 :) rfl ?_
      refine AW.iload 8 (dcN_6 dcg_668 :) rfl ?_
      refine AW.iload_n 3 (dcN_7 dcg_668 :) rfl ?_
      obtain ⟨r10, e11, h⟩ := hC h
      refine AW.callVi (As := [iv x1, iv x2, iv x8, iv x3]) (st := []) (M_led_ok e11) cq_X12_441 cr_117_X12_led (Nat.le_trans (by decide) hdd) rfl (dcN_8 dcg_668 :) rfl (Nat.le_of_ble_eq_true rfl) ?_
      refine AW.goto (tgt := 83) (dcN_9 dcg_668 :) (by decide) ?_
      cases h
      exact J67
theorem M_pumped_ok {z : AZ} {x1 : Int} {x2 : Int} {x3 : Int} {x4 : Int} {x5 : Int} {g : AG} {r : Int × AG} (h : M_pumped x1 x2 x3 x4 x5 g = some r) : AMf z yX12_pumped cX12_pumped 10 (some .int) 8 [rv z 117, iv x1, iv x2, iv x3, iv x4, iv x5] g r := by
  intro d hdd
  refine AM.of (by decide +kernel) (Nat.le_of_ble_eq_true rfl) ?_
  show AW z (RX12, cX12_pumped, 10, (some .int)) d (QD (some .int) r) 0 [(0, rv z 117), (1, iv x1), (2, iv x2), (3, iv x3), (4, iv x4), (5, iv x5)] [] g
  unfold M_pumped at h
  refine AW.aloadr_n 0 (dcN_0 dcg_666 :) rfl ?_
  refine AW.iload_n 1 (dcN_1 dcg_666 :) rfl ?_
  refine AW.callVi (As := [iv x1]) (st := []) M_isBoat_ok cq_X12_435 cr_117_X12_isBoat (Nat.le_trans (by decide) hdd) rfl (dcN_2 dcg_666 :) rfl (Nat.le_of_ble_eq_true rfl) ?_
  refine AW.if_eq (tgt := 42) (dcN_3 dcg_666 :) (by decide) (fun c1 => ?_) (fun c1 => ?_)
  · replace h := hT h c1
    refine AW.iconst (dcN_5 dcg_667 :) ?_
    exact AW.iret1 rfl (dcN_6 dcg_667 :) h rfl
  · replace h := hF h c1
    refine AW.iload_n 2 (dcN_4 dcg_666 :) rfl ?_
    refine AW.callSi (As := [iv x2]) (st := []) M_isPoint_ok cq_X12_238 st_X12_isPoint (Nat.le_trans (by decide) hdd) rfl (dcN_5 dcg_666 :) rfl (Nat.le_of_ble_eq_true rfl) ?_
    refine AW.if_eq (tgt := 42) (dcN_6 dcg_666 :) (by decide) (fun c2 => ?_) (fun c2 => ?_)
    · replace h := hT h c2
      refine AW.iconst (dcN_5 dcg_667 :) ?_
      exact AW.iret1 rfl (dcN_6 dcg_667 :) h rfl
    · replace h := hF h c2
      refine AW.iload_n 3 (dcN_7 dcg_666 :) rfl ?_
      refine AW.callSi (As := [iv x3]) (st := []) M_isTime_ok cq_X12_438 st_X12_isTime (Nat.le_trans (by decide) hdd) rfl (dcN_8 dcg_666 :) rfl (Nat.le_of_ble_eq_true rfl) ?_
      refine AW.if_eq (tgt := 42) (dcN_9 dcg_666 :) (by decide) (fun c3 => ?_) (fun c3 => ?_)
      · replace h := hT h c3
        refine AW.iconst (dcN_5 dcg_667 :) ?_
        exact AW.iret1 rfl (dcN_6 dcg_667 :) h rfl
      · replace h := hF h c3
        refine AW.iload 4 (dcN_10 dcg_666 :) rfl ?_
        refine AW.iconst (dcN_11 dcg_666 :) ?_
        refine AW.iload_n 3 (dcN_12 dcg_666 :) rfl ?_
        refine AW.callSi (As := [iv x4, iv 0, iv x3]) (st := []) M_isIn_ok cq_X12_3 st_X12_isIn (Nat.le_trans (by decide) hdd) rfl (dcN_13 dcg_666 :) rfl (Nat.le_of_ble_eq_true rfl) ?_
        refine AW.if_eq (tgt := 42) (dcN_14 dcg_666 :) (by decide) (fun c4 => ?_) (fun c4 => ?_)
        · replace h := hT h c4
          refine AW.iconst (dcN_5 dcg_667 :) ?_
          exact AW.iret1 rfl (dcN_6 dcg_667 :) h rfl
        · replace h := hF h c4
          refine AW.iload 5 (dcN_0 dcg_667 :) rfl ?_
          refine AW.iconst (dcN_1 dcg_667 :) ?_
          refine AW.iconst (dcN_2 dcg_667 :) ?_
          refine AW.callSi (As := [iv x5, iv 0, iv 2]) (st := []) M_isIn_ok cq_X12_3 st_X12_isIn (Nat.le_trans (by decide) hdd) rfl (dcN_3 dcg_667 :) rfl (Nat.le_of_ble_eq_true rfl) ?_
          refine AW.if_ne (tgt := 44) (dcN_4 dcg_667 :) (by decide) (fun c5 => ?_) (fun c5 => ?_)
          · replace h := hF h c5
            refine AW.iconst (dcN_7 dcg_667 :) ?_
            refine AW.istore (lv1 := [(6, iv (-1)), (0, rv z 117), (1, iv x1), (2, iv x2), (3, iv x3), (4, iv x4), (5, iv x5)]) (dcN_8 dcg_667 :) (by decide) rfl ?_
            refine AW.iconst (dcN_9 dcg_667 :) ?_
            refine AW.istore (lv1 := [(7, iv (-1)), (6, iv (-1)), (0, rv z 117), (1, iv x1), (2, iv x2), (3, iv x3), (4, iv x4), (5, iv x5)]) (dcN_10 dcg_667 :) (by decide) rfl ?_
            refine AW.iconst (dcN_11 dcg_667 :) ?_
            refine AW.istore (lv1 := [(8, iv 0), (7, iv (-1)), (6, iv (-1)), (0, rv z 117), (1, iv x1), (2, iv x2), (3, iv x3), (4, iv x4), (5, iv x5)]) (dcN_12 dcg_667 :) (by decide) rfl ?_
            refine AW.sub (lv1 := [(0, rv z 117), (1, iv x1), (2, iv x2), (3, iv x3), (4, iv x4), (5, iv x5), (6, iv (-1)), (7, iv (-1)), (8, iv 0)]) [3, 4, 5, 6, 7, 8, 2, 1, 0] rfl ?_
            exact M_pumped_b_ok hdd _ _ _ _ _ h
          · replace h := hT h c5
            refine AW.iconst (dcN_5 dcg_667 :) ?_
            exact AW.iret1 rfl (dcN_6 dcg_667 :) h rfl
set_option synthInstance.maxHeartbeats 2000000 in
theorem M_log_b_ok {z : AZ} {d : Nat} (hdd : 2 ≤ d) {x1 : Int} {x2 : Int} {x3 : Int} {g : AG} : ∀ (r : Int × AG), M_log_b x1 x2 x3 g = some r → AW z (RX12, cX12_log, 4, (some .int)) d (QD (some .int) r) 66 [(0, rv z 117), (1, iv x1), (2, iv x2), (3, iv x3)] [] g := by
  intro r h
  unfold M_log_b at h
  refine AW.aloadr_n 0 (dcN_2 dcg_674 :) rfl ?_
  refine AW.getR af_X12_136_117 sr_117_57 (dcN_3 dcg_674 :) ?_
  refine AW.bipush (dcN_4 dcg_674 :) (by decide) (by decide) ?_
  refine AW.iload_n 1 (dcN_5 dcg_674 :) rfl ?_
  refine AW.imul (dcN_6 dcg_674 :) ?_
  refine AW.aloadr_n 0 (dcN_7 dcg_674 :) rfl ?_
  refine AW.getR af_X12_133_117 sr_117_56 (dcN_8 dcg_674 :) ?_
  refine AW.iload_n 1 (dcN_9 dcg_674 :) rfl ?_
  obtain ⟨k1, h⟩ := hK h
  refine AW.iald kc_155 sk_155 k1 (dcN_10 dcg_674 :) ?_
  refine AW.iadd (dcN_11 dcg_674 :) ?_
  refine AW.iload_n 2 (dcN_12 dcg_674 :) rfl ?_
  obtain ⟨k2, h⟩ := hK h
  obtain ⟨g3, e4, h⟩ := hBe h
  refine AW.iast kc_156 sk_156 k2 (dcN_13 dcg_674 :) e4 ?_
  refine AW.aloadr_n 0 (dcN_14 dcg_674 :) rfl ?_
  refine AW.getR af_X12_139_117 sr_117_58 (dcN_15 dcg_674 :) ?_
  refine AW.bipush (dcN_16 dcg_674 :) (by decide) (by decide) ?_
  refine AW.iload_n 1 (dcN_17 dcg_674 :) rfl ?_
  refine AW.imul (dcN_18 dcg_674 :) ?_
  refine AW.aloadr_n 0 (dcN_19 dcg_674 :) rfl ?_
  refine AW.getR af_X12_133_117 sr_117_56 (dcN_20 dcg_674 :) ?_
  refine AW.iload_n 1 (dcN_21 dcg_674 :) rfl ?_
  refine AW.iald kc_155 sk_155 k1 (dcN_0 dcg_675 :) ?_
  refine AW.iadd (dcN_1 dcg_675 :) ?_
  refine AW.iload_n 3 (dcN_2 dcg_675 :) rfl ?_
  obtain ⟨k5, h⟩ := hK h
  obtain ⟨g6, e7, h⟩ := hBe h
  refine AW.iast kc_157 sk_157 k5 (dcN_3 dcg_675 :) e7 ?_
  refine AW.aloadr_n 0 (dcN_4 dcg_675 :) rfl ?_
  refine AW.getR af_X12_133_117 sr_117_56 (dcN_5 dcg_675 :) ?_
  refine AW.iload_n 1 (dcN_6 dcg_675 :) rfl ?_
  refine AW.dup2r (dcN_7 dcg_675 :) ?_
  refine AW.iald kc_155 sk_155 k1 (dcN_8 dcg_675 :) ?_
  refine AW.iconst (dcN_9 dcg_675 :) ?_
  refine AW.iadd (dcN_10 dcg_675 :) ?_
  obtain ⟨g8, e9, h⟩ := hBe h
  refine AW.iast kc_155 sk_155 k1 (dcN_11 dcg_675 :) e9 ?_
  refine AW.aloadr_n 0 (dcN_12 dcg_675 :) rfl ?_
  refine AW.getR af_X12_133_117 sr_117_56 (dcN_13 dcg_675 :) ?_
  refine AW.iload_n 1 (dcN_14 dcg_675 :) rfl ?_
  refine AW.iald kc_155 sk_155 k1 (dcN_15 dcg_675 :) ?_
  exact AW.iret1 rfl (dcN_16 dcg_675 :) h rfl
theorem M_log_ok {z : AZ} {x1 : Int} {x2 : Int} {x3 : Int} {g : AG} {r : Int × AG} (h : M_log x1 x2 x3 g = some r) : AMf z yX12_log cX12_log 4 (some .int) 2 [rv z 117, iv x1, iv x2, iv x3] g r := by
  intro d hdd
  refine AM.of (by decide +kernel) (Nat.le_of_ble_eq_true rfl) ?_
  show AW z (RX12, cX12_log, 4, (some .int)) d (QD (some .int) r) 0 [(0, rv z 117), (1, iv x1), (2, iv x2), (3, iv x3)] [] g
  unfold M_log at h
  refine AW.aloadr_n 0 (dcN_0 dcg_672 :) rfl ?_
  refine AW.iload_n 1 (dcN_1 dcg_672 :) rfl ?_
  refine AW.callVi (As := [iv x1]) (st := []) M_isBoat_ok cq_X12_435 cr_117_X12_isBoat (Nat.le_trans (by decide) hdd) rfl (dcN_2 dcg_672 :) rfl (Nat.le_of_ble_eq_true rfl) ?_
  refine AW.if_eq (tgt := 64) (dcN_3 dcg_672 :) (by decide) (fun c1 => ?_) (fun c1 => ?_)
  · replace h := hT h c1
    refine AW.iconst (dcN_0 dcg_674 :) ?_
    exact AW.iret1 rfl (dcN_1 dcg_674 :) h rfl
  · replace h := hF h c1
    refine AW.iload_n 2 (dcN_4 dcg_672 :) rfl ?_
    refine AW.callSi (As := [iv x2]) (st := []) M_isPoint_ok cq_X12_238 st_X12_isPoint (Nat.le_trans (by decide) hdd) rfl (dcN_5 dcg_672 :) rfl (Nat.le_of_ble_eq_true rfl) ?_
    refine AW.if_eq (tgt := 64) (dcN_6 dcg_672 :) (by decide) (fun c2 => ?_) (fun c2 => ?_)
    · replace h := hT h c2
      refine AW.iconst (dcN_0 dcg_674 :) ?_
      exact AW.iret1 rfl (dcN_1 dcg_674 :) h rfl
    · replace h := hF h c2
      refine AW.iload_n 3 (dcN_7 dcg_672 :) rfl ?_
      refine AW.callSi (As := [iv x3]) (st := []) M_isTime_ok cq_X12_438 st_X12_isTime (Nat.le_trans (by decide) hdd) rfl (dcN_8 dcg_672 :) rfl (Nat.le_of_ble_eq_true rfl) ?_
      refine AW.if_eq (tgt := 64) (dcN_9 dcg_672 :) (by decide) (fun c3 => ?_) (fun c3 => ?_)
      · replace h := hT h c3
        refine AW.iconst (dcN_0 dcg_674 :) ?_
        exact AW.iret1 rfl (dcN_1 dcg_674 :) h rfl
      · replace h := hF h c3
        refine AW.aloadr_n 0 (dcN_10 dcg_672 :) rfl ?_
        refine AW.getR af_X12_133_117 sr_117_56 (dcN_11 dcg_672 :) ?_
        refine AW.iload_n 1 (dcN_12 dcg_672 :) rfl ?_
        obtain ⟨k4, h⟩ := hK h
        refine AW.iald kc_155 sk_155 k4 (dcN_13 dcg_672 :) ?_
        refine AW.bipush (dcN_14 dcg_672 :) (by decide) (by decide) ?_
        refine AW.icmp_eq (tgt := 64) (dcN_15 dcg_672 :) (by decide) (fun c5 => ?_) (fun c5 => ?_)
        · replace h := hT h c5
          refine AW.iconst (dcN_0 dcg_674 :) ?_
          exact AW.iret1 rfl (dcN_1 dcg_674 :) h rfl
        · replace h := hF h c5
          refine AW.aloadr_n 0 (dcN_0 dcg_673 :) rfl ?_
          refine AW.getR af_X12_133_117 sr_117_56 (dcN_1 dcg_673 :) ?_
          refine AW.iload_n 1 (dcN_2 dcg_673 :) rfl ?_
          refine AW.iald kc_155 sk_155 k4 (dcN_3 dcg_673 :) ?_
          refine AW.if_le (tgt := 66) (dcN_4 dcg_673 :) (by decide) (fun c6 => ?_) (fun c6 => ?_)
          · replace h := hT h c6
            exact M_log_b_ok hdd _ h
          · replace h := hF h c6
            refine AW.iload_n 3 (dcN_5 dcg_673 :) rfl ?_
            refine AW.aloadr_n 0 (dcN_6 dcg_673 :) rfl ?_
            refine AW.getR af_X12_139_117 sr_117_58 (dcN_7 dcg_673 :) ?_
            refine AW.bipush (dcN_8 dcg_673 :) (by decide) (by decide) ?_
            refine AW.iload_n 1 (dcN_9 dcg_673 :) rfl ?_
            refine AW.imul (dcN_10 dcg_673 :) ?_
            refine AW.aloadr_n 0 (dcN_11 dcg_673 :) rfl ?_
            refine AW.getR af_X12_133_117 sr_117_56 (dcN_12 dcg_673 :) ?_
            refine AW.iload_n 1 (dcN_13 dcg_673 :) rfl ?_
            refine AW.iald kc_155 sk_155 k4 (dcN_14 dcg_673 :) ?_
            refine AW.iadd (dcN_15 dcg_673 :) ?_
            refine AW.iconst (dcN_16 dcg_673 :) ?_
            refine AW.isub (dcN_17 dcg_673 :) ?_
            obtain ⟨k7, h⟩ := hK h
            refine AW.iald kc_157 sk_157 k7 (dcN_18 dcg_673 :) ?_
            refine AW.icmp_gt (tgt := 66) (dcN_19 dcg_673 :) (by decide) (fun c8 => ?_) (fun c8 => ?_)
            · replace h := hT h c8
              exact M_log_b_ok hdd _ h
            · replace h := hF h c8
              refine AW.iconst (dcN_0 dcg_674 :) ?_
              exact AW.iret1 rfl (dcN_1 dcg_674 :) h rfl
theorem M_isSpan_ok {z : AZ} {x0 : Int} {x1 : Int} {g : AG} : AMf z yX12_isSpan cX12_isSpan 2 (some .boolean) 2 [iv x0, iv x1] g ((M_isSpan x0 x1), g) := by
  intro d hdd
  refine AM.of (by decide +kernel) (Nat.le_of_ble_eq_true rfl) ?_
  show AW z (RX12, cX12_isSpan, 2, (some .boolean)) d (QD (some .boolean) ((M_isSpan x0 x1), g)) 0 [(0, iv x0), (1, iv x1)] [] g
  refine AW.iload_n 0 (dcN_0 dcg_685 :) rfl ?_
  refine AW.callSi (As := [iv x0]) (st := []) M_isTime_ok cq_X12_438 st_X12_isTime (Nat.le_trans (by decide) hdd) rfl (dcN_1 dcg_685 :) rfl (Nat.le_of_ble_eq_true rfl) ?_
  refine AW.join (tgt := 23) (lv1 := [(0, iv x0), (1, iv x1)]) (st1 := [iv (if nw (M_isTime x0) = 0 then 0 else (if nw (M_isIn x1 x0 20159) = 0 then 0 else 1))]) (g1 := g) ?_ (fun J4 => ?_)
  · exact AW.zret rfl (by (repeat' split) <;> first | exact Or.inl rfl | exact Or.inr rfl) (dcN_11 dcg_685 :) ⟨congrArg (fun v => some (iv v)) (show M_isSpan x0 x1  = (if nw (M_isTime x0) = 0 then 0 else (if nw (M_isIn x1 x0 20159) = 0 then 0 else 1)) from rfl).symm, rfl⟩
  refine AW.if_eq (tgt := 22) (dcN_2 dcg_685 :) (by decide) (fun c1 => ?_) (fun c1 => ?_)
  · refine AW.iconst (dcN_10 dcg_685 :) ?_
    exact AW.val (if_pos c1) J4
  · refine AW.iload_n 1 (dcN_3 dcg_685 :) rfl ?_
    refine AW.iload_n 0 (dcN_4 dcg_685 :) rfl ?_
    refine AW.sipush (dcN_5 dcg_685 :) (by decide) (by decide) ?_
    refine AW.callSi (As := [iv x1, iv x0, iv 20159]) (st := []) M_isIn_ok cq_X12_3 st_X12_isIn (Nat.le_trans (by decide) hdd) rfl (dcN_6 dcg_685 :) rfl (Nat.le_of_ble_eq_true rfl) ?_
    refine AW.if_eq (tgt := 22) (dcN_7 dcg_685 :) (by decide) (fun c2 => ?_) (fun c2 => ?_)
    · refine AW.iconst (dcN_10 dcg_685 :) ?_
      exact AW.val ((if_neg c1).trans (if_pos c2)) J4
    · refine AW.iconst (dcN_8 dcg_685 :) ?_
      refine AW.goto (tgt := 23) (dcN_9 dcg_685 :) (by decide) ?_
      exact AW.val ((if_neg c1).trans (if_neg c2)) J4
set_option synthInstance.maxHeartbeats 2000000 in
theorem M_between_b_ok {z : AZ} {d : Nat} (hdd : 8 ≤ d) {x1 : Int} {x2 : Int} {x5 : Int} {x8 : Int} {x9 : Int} {g : AG} : ∀ (r : Int × AG), M_between_b x1 x2 x5 x8 x9 g = some r → AW z (RX12, cX12_between, 11, (some .boolean)) d (QD (some .boolean) r) 136 [(0, rv z 117), (1, iv x1), (2, iv x2), (5, iv x5), (8, iv x8), (9, iv x9)] [] g := by
  intro r h
  unfold M_between_b at h
  refine AW.iload 5 (dcN_6 dcg_680 :) rfl ?_
  refine AW.if_eq (tgt := 143) (dcN_7 dcg_680 :) (by decide) (fun c1 => ?_) (fun c1 => ?_)
  · replace h := hT h c1
    refine AW.aloadr_n 0 (dcN_10 dcg_680 :) rfl ?_
    refine AW.iload_n 1 (dcN_11 dcg_680 :) rfl ?_
    refine AW.iload_n 2 (dcN_12 dcg_680 :) rfl ?_
    refine AW.aloadr_n 0 (dcN_13 dcg_680 :) rfl ?_
    refine AW.getR af_X12_136_117 sr_117_57 (dcN_14 dcg_680 :) ?_
    refine AW.bipush (dcN_15 dcg_680 :) (by decide) (by decide) ?_
    refine AW.iload_n 1 (dcN_16 dcg_680 :) rfl ?_
    refine AW.imul (dcN_17 dcg_680 :) ?_
    refine AW.iload 3 (dcN_18 dcg_680 :) rfl ?_
    refine AW.iadd (dcN_19 dcg_680 :) ?_
    refine AW.iconst (dcN_20 dcg_680 :) ?_
    refine AW.iadd (dcN_21 dcg_680 :) ?_
    obtain ⟨k2, h⟩ := hK h
    refine AW.iald kc_156 sk_156 k2 (dcN_22 dcg_680 :) ?_
    refine AW.iload 4 (dcN_0 dcg_681 :) rfl ?_
    obtain ⟨r3, e4, h⟩ := hC h
    refine AW.callVi (As := [iv x1, iv x2, iv (g 156 (ix (((10 * x1) + x5) + 1))), iv x8]) (st := []) (M_led_ok e4) cq_X12_441 cr_117_X12_led (Nat.le_trans (by decide) hdd) rfl (dcN_1 dcg_681 :) rfl (Nat.le_of_ble_eq_true rfl) ?_
    refine AW.istore (lv1 := [(10, iv r3.1), (0, rv z 117), (1, iv x1), (2, iv x2), (5, iv x5), (8, iv x8), (9, iv x9)]) (dcN_2 dcg_681 :) (by decide) rfl ?_
    refine AW.iload 0 (dcN_3 dcg_681 :) rfl ?_
    refine AW.iconst (dcN_4 dcg_681 :) ?_
    obtain ⟨r9, e10, h⟩ := hC h
    refine AW.join (tgt := 197) (lv1 := []) (st1 := [iv r9.1]) (g1 := r9.2) ?_ (fun J170 => ?_)
    · obtain ⟨k11, h⟩ := hK h
      exact AW.zret1 rfl k11 (dcN_3 dcg_682 :) h rfl
    replace h := e10
    refine AW.icmp_eq (tgt := 196) (dcN_5 dcg_681 :) (by decide) (fun c5 => ?_) (fun c5 => ?_)
    · replace h := hT h c5
      refine AW.iconst (dcN_2 dcg_682 :) ?_
      refine AW.sub (lv1 := []) [] rfl ?_
      cases h
      exact J170
    · replace h := hF h c5
      refine AW.iload 0 (dcN_6 dcg_681 :) rfl ?_
      refine AW.aloadr_n 1 (dcN_7 dcg_681 :) rfl ?_
      refine AW.getR af_X12_139_117 sr_117_58 (dcN_8 dcg_681 :) ?_
      refine AW.bipush (dcN_9 dcg_681 :) (by decide) (by decide) ?_
      refine AW.iload_n 2 (dcN_10 dcg_681 :) rfl ?_
      refine AW.imul (dcN_11 dcg_681 :) ?_
      refine AW.iload 4 (dcN_12 dcg_681 :) rfl ?_
      refine AW.iadd (dcN_13 dcg_681 :) ?_
      refine AW.iconst (dcN_14 dcg_681 :) ?_
      refine AW.iadd (dcN_15 dcg_681 :) ?_
      refine AW.iald kc_157 sk_157 k2 (dcN_16 dcg_681 :) ?_
      obtain ⟨t6, e7, h⟩ := hBe h
      refine AW.join (tgt := 197) (lv1 := [(10, iv r3.1), (0, rv z 117), (1, iv x1), (2, iv x2), (5, iv x5), (8, iv x8), (9, iv x9)]) (st1 := [iv t6]) (g1 := r3.2) ?_ (fun J189 => ?_)
      · refine AW.sub (lv1 := []) [] rfl ?_
        cases h
        exact J170
      refine AW.icmp_gt (tgt := 196) (dcN_17 dcg_681 :) (by decide) (fun c8 => ?_) (fun c8 => ?_)
      · refine AW.iconst (dcN_2 dcg_682 :) ?_
        exact AW.val (e7.trans (if_pos c8)) J189
      · refine AW.iconst (dcN_0 dcg_682 :) ?_
        refine AW.goto (tgt := 197) (dcN_1 dcg_682 :) (by decide) ?_
        exact AW.val (e7.trans (if_neg c8)) J189
  · replace h := hF h c1
    refine AW.iconst (dcN_8 dcg_680 :) ?_
    exact AW.zret1 rfl (Or.inr rfl) (dcN_9 dcg_680 :) h rfl
theorem M_between_ok {z : AZ} {x1 : Int} {x2 : Int} {x3 : Int} {x4 : Int} {x5 : Int} {g : AG} {r : Int × AG} (h : M_between x1 x2 x3 x4 x5 g = some r) : AMf z yX12_between cX12_between 11 (some .boolean) 8 [rv z 117, iv x1, iv x2, iv x3, iv x4, iv x5] g r := by
  intro d hdd
  refine AM.of (by decide +kernel) (Nat.le_of_ble_eq_true rfl) ?_
  show AW z (RX12, cX12_between, 11, (some .boolean)) d (QD (some .boolean) r) 0 [(0, rv z 117), (1, iv x1), (2, iv x2), (3, iv x3), (4, iv x4), (5, iv x5)] [] g
  unfold M_between at h
  refine AW.iload 5 (dcN_0 dcg_676 :) rfl ?_
  refine AW.iconst (dcN_1 dcg_676 :) ?_
  obtain ⟨r3, e4, h⟩ := hC h
  refine AW.join (tgt := 22) (lv1 := [(0, rv z 117), (1, iv x1), (2, iv x2), (3, iv x3), (4, iv x4), (5, iv x5)]) (st1 := [iv r3.1]) (g1 := r3.2) ?_ (fun J3 => ?_)
  · refine AW.istore (lv1 := [(6, iv r3.1), (0, rv z 117), (1, iv x1), (2, iv x2), (3, iv x3), (4, iv x4), (5, iv x5)]) (dcN_13 dcg_676 :) (by decide) rfl ?_
    refine AW.aloadr_n 1 (dcN_14 dcg_676 :) rfl ?_
    refine AW.iload_n 2 (dcN_15 dcg_676 :) rfl ?_
    refine AW.iload 6 (dcN_16 dcg_676 :) rfl ?_
    refine AW.iconst (dcN_17 dcg_676 :) ?_
    obtain ⟨r8, e9, h⟩ := hC h
    refine AW.join (tgt := 53) (lv1 := [(0, rv z 117), (1, iv x1), (2, iv x2), (3, iv x3), (4, iv x4), (5, iv x5), (6, iv r3.1)]) (st1 := [iv r8.1, iv x1, rv z 117]) (g1 := r8.2) ?_ (fun J29 => ?_)
    · refine AW.iload_n 2 (dcN_13 dcg_677 :) rfl ?_
      refine AW.iload 6 (dcN_14 dcg_677 :) rfl ?_
      obtain ⟨r10, e11, h⟩ := hC h
      refine AW.callVi (As := [iv x1, iv r8.1, iv x2, iv r3.1]) (st := []) (M_led_ok e11) cq_X12_441 cr_117_X12_led (Nat.le_trans (by decide) hdd) rfl (dcN_15 dcg_677 :) rfl (Nat.le_of_ble_eq_true rfl) ?_
      refine AW.istore (lv1 := [(7, iv r10.1), (0, rv z 117), (1, iv x1), (2, iv x2), (3, iv x3), (4, iv x4), (5, iv x5), (6, iv r3.1)]) (dcN_16 dcg_677 :) (by decide) rfl ?_
      refine AW.iload 0 (dcN_17 dcg_677 :) rfl ?_
      refine AW.iconst (dcN_18 dcg_677 :) ?_
      refine AW.icmp_ne (tgt := 69) (dcN_0 dcg_678 :) (by decide) (fun c12 => ?_) (fun c12 => ?_)
      · replace h := hF h c12
        refine AW.iload 0 (dcN_3 dcg_678 :) rfl ?_
        refine AW.iload_n 4 (dcN_4 dcg_678 :) rfl ?_
        obtain ⟨t13, e14, h⟩ := hBe h
        refine AW.join (tgt := 81) (lv1 := [(7, iv r10.1), (0, rv z 117), (1, iv x1), (2, iv x2), (3, iv x3), (4, iv x4), (5, iv x5), (6, iv r3.1)]) (st1 := [iv t13]) (g1 := r10.2) ?_ (fun J72 => ?_)
        · refine AW.istore (lv1 := [(8, iv t13), (7, iv r10.1), (0, rv z 117), (1, iv x1), (2, iv x2), (3, iv x3), (4, iv x4), (5, iv x5), (6, iv r3.1)]) (dcN_9 dcg_678 :) (by decide) rfl ?_
          refine AW.iload 7 (dcN_10 dcg_678 :) rfl ?_
          refine AW.iconst (dcN_11 dcg_678 :) ?_
          refine AW.iadd (dcN_12 dcg_678 :) ?_
          refine AW.aloadr_n 2 (dcN_13 dcg_678 :) rfl ?_
          refine AW.getR af_X12_133_117 sr_117_56 (dcN_14 dcg_678 :) ?_
          refine AW.iload_n 3 (dcN_15 dcg_678 :) rfl ?_
          obtain ⟨k15, h⟩ := hK h
          refine AW.iald kc_155 sk_155 k15 (dcN_16 dcg_678 :) ?_
          obtain ⟨t16, e17, h⟩ := hBe h
          refine AW.join (tgt := 101) (lv1 := [(8, iv t13), (7, iv r10.1), (0, rv z 117), (1, iv x1), (2, iv x2), (3, iv x3), (4, iv x4), (5, iv x5), (6, iv r3.1)]) (st1 := [iv t16]) (g1 := r10.2) ?_ (fun J93 => ?_)
          · refine AW.istore (lv1 := [(9, iv t16), (8, iv t13), (7, iv r10.1), (0, rv z 117), (1, iv x1), (2, iv x2), (3, iv x3), (4, iv x4), (5, iv x5), (6, iv r3.1)]) (dcN_3 dcg_679 :) (by decide) rfl ?_
            refine AW.iload 1 (dcN_4 dcg_679 :) rfl ?_
            refine AW.iload 7 (dcN_5 dcg_679 :) rfl ?_
            refine AW.icmp_gt (tgt := 134) (dcN_6 dcg_679 :) (by decide) (fun c18 => ?_) (fun c18 => ?_)
            · replace h := hT h c18
              refine AW.iconst (dcN_4 dcg_680 :) ?_
              exact AW.zret1 rfl (Or.inl rfl) (dcN_5 dcg_680 :) h rfl
            · replace h := hF h c18
              refine AW.iload 0 (dcN_7 dcg_679 :) rfl ?_
              refine AW.if_ne (tgt := 136) (dcN_8 dcg_679 :) (by decide) (fun c19 => ?_) (fun c19 => ?_)
              · replace h := hF h c19
                refine AW.sub (lv1 := [(0, rv z 117), (1, iv x1), (2, iv x2), (5, iv x5), (8, iv t13), (9, iv t16)]) [3, 4, 5, 8, 1, 0] rfl ?_
                exact M_between_b_ok hdd _ h
              · replace h := hT h c19
                refine AW.iload 1 (dcN_9 dcg_679 :) rfl ?_
                refine AW.aloadr_n 3 (dcN_10 dcg_679 :) rfl ?_
                refine AW.getR af_X12_139_117 sr_117_58 (dcN_11 dcg_679 :) ?_
                refine AW.bipush (dcN_12 dcg_679 :) (by decide) (by decide) ?_
                refine AW.iload_n 4 (dcN_13 dcg_679 :) rfl ?_
                refine AW.imul (dcN_14 dcg_679 :) ?_
                refine AW.iload 8 (dcN_15 dcg_679 :) rfl ?_
                refine AW.iadd (dcN_16 dcg_679 :) ?_
                refine AW.iconst (dcN_0 dcg_680 :) ?_
                refine AW.iadd (dcN_1 dcg_680 :) ?_
                obtain ⟨k20, h⟩ := hK h
                refine AW.iald kc_157 sk_157 k20 (dcN_2 dcg_680 :) ?_
                refine AW.icmp_lt (tgt := 136) (dcN_3 dcg_680 :) (by decide) (fun c21 => ?_) (fun c21 => ?_)
                · replace h := hT h c21
                  refine AW.sub (lv1 := [(0, rv z 117), (1, iv x1), (2, iv x2), (5, iv x5), (8, iv t13), (9, iv t16)]) [3, 4, 5, 8, 1, 0] rfl ?_
                  exact M_between_b_ok hdd _ h
                · replace h := hF h c21
                  refine AW.iconst (dcN_4 dcg_680 :) ?_
                  exact AW.zret1 rfl (Or.inl rfl) (dcN_5 dcg_680 :) h rfl
          refine AW.icmp_ne (tgt := 100) (dcN_17 dcg_678 :) (by decide) (fun c22 => ?_) (fun c22 => ?_)
          · refine AW.iconst (dcN_2 dcg_679 :) ?_
            exact AW.val (e17.trans (if_neg c22)) J93
          · refine AW.iconst (dcN_0 dcg_679 :) ?_
            refine AW.goto (tgt := 101) (dcN_1 dcg_679 :) (by decide) ?_
            exact AW.val (e17.trans (if_pos c22)) J93
        refine AW.icmp_le (tgt := 80) (dcN_5 dcg_678 :) (by decide) (fun c23 => ?_) (fun c23 => ?_)
        · refine AW.iload_n 4 (dcN_8 dcg_678 :) rfl ?_
          exact AW.val (e14.trans (if_pos c23)) J72
        · refine AW.iload 0 (dcN_6 dcg_678 :) rfl ?_
          refine AW.goto (tgt := 81) (dcN_7 dcg_678 :) (by decide) ?_
          exact AW.val (e14.trans (if_neg c23)) J72
      · replace h := hT h c12
        refine AW.iconst (dcN_1 dcg_678 :) ?_
        exact AW.zret1 rfl (Or.inl rfl) (dcN_2 dcg_678 :) h rfl
    replace h := e9
    refine AW.icmp_ne (tgt := 41) (dcN_18 dcg_676 :) (by decide) (fun c5 => ?_) (fun c5 => ?_)
    · replace h := hF h c5
      refine AW.aloadr_n 1 (dcN_5 dcg_677 :) rfl ?_
      refine AW.getR af_X12_136_117 sr_117_57 (dcN_6 dcg_677 :) ?_
      refine AW.bipush (dcN_7 dcg_677 :) (by decide) (by decide) ?_
      refine AW.iload_n 2 (dcN_8 dcg_677 :) rfl ?_
      refine AW.imul (dcN_9 dcg_677 :) ?_
      refine AW.iload 6 (dcN_10 dcg_677 :) rfl ?_
      refine AW.iadd (dcN_11 dcg_677 :) ?_
      obtain ⟨k6, h⟩ := hK h
      refine AW.iald kc_156 sk_156 k6 (dcN_12 dcg_677 :) ?_
      refine AW.sub (lv1 := [(0, rv z 117), (1, iv x1), (2, iv x2), (3, iv x3), (4, iv x4), (5, iv x5), (6, iv r3.1)]) [1, 2, 3, 4, 5, 6, 0] rfl ?_
      cases h
      exact J29
    · replace h := hT h c5
      refine AW.aloadr_n 1 (dcN_0 dcg_677 :) rfl ?_
      refine AW.getR af_X12_38_117 sr_117_8 (dcN_1 dcg_677 :) ?_
      refine AW.iload_n 2 (dcN_2 dcg_677 :) rfl ?_
      obtain ⟨k7, h⟩ := hK h
      refine AW.iald kc_126 sk_126 k7 (dcN_3 dcg_677 :) ?_
      refine AW.goto (tgt := 53) (dcN_4 dcg_677 :) (by decide) ?_
      refine AW.sub (lv1 := [(0, rv z 117), (1, iv x1), (2, iv x2), (3, iv x3), (4, iv x4), (5, iv x5), (6, iv r3.1)]) [1, 2, 3, 4, 5, 6, 0] rfl ?_
      cases h
      exact J29
  replace h := e4
  refine AW.icmp_ne (tgt := 10) (dcN_2 dcg_676 :) (by decide) (fun c1 => ?_) (fun c1 => ?_)
  · replace h := hF h c1
    refine AW.aloadr_n 0 (dcN_5 dcg_676 :) rfl ?_
    refine AW.getR af_X12_139_117 sr_117_58 (dcN_6 dcg_676 :) ?_
    refine AW.bipush (dcN_7 dcg_676 :) (by decide) (by decide) ?_
    refine AW.iload_n 1 (dcN_8 dcg_676 :) rfl ?_
    refine AW.imul (dcN_9 dcg_676 :) ?_
    refine AW.iload 5 (dcN_10 dcg_676 :) rfl ?_
    refine AW.iadd (dcN_11 dcg_676 :) ?_
    obtain ⟨k2, h⟩ := hK h
    refine AW.iald kc_157 sk_157 k2 (dcN_12 dcg_676 :) ?_
    cases h
    exact J3
  · replace h := hT h c1
    refine AW.iconst (dcN_3 dcg_676 :) ?_
    refine AW.goto (tgt := 22) (dcN_4 dcg_676 :) (by decide) ?_
    cases h
    exact J3
set_option synthInstance.maxHeartbeats 2000000 in
theorem M_canHaveBeen_b_ok {z : AZ} {d : Nat} (hdd : 9 ≤ d) {x1 : Int} {x2 : Int} {x3 : Int} {x4 : Int} : ∀ (x5 : Int) (g : AG) (r : Int × AG), M_canHaveBeen_b x1 x2 x3 x4 x5 g = some r → AW z (RX12, cX12_canHaveBeen, 6, (some .boolean)) d (QD (some .boolean) r) 3 [(0, rv z 117), (1, iv x1), (2, iv x2), (3, iv x3), (4, iv x4), (5, iv x5)] [] g := by
  refine M_canHaveBeen_b.partial_correctness x1 x2 x3 x4 (fun x5 g r => AW z (RX12, cX12_canHaveBeen, 6, (some .boolean)) d (QD (some .boolean) r) 3 [(0, rv z 117), (1, iv x1), (2, iv x2), (3, iv x3), (4, iv x4), (5, iv x5)] [] g) ?_
  intro fb9 ih x5 g r h
  refine AW.iload 5 (dcN_2 dcg_683 :) rfl ?_
  refine AW.aloadr_n 0 (dcN_3 dcg_683 :) rfl ?_
  refine AW.getR af_X12_133_117 sr_117_56 (dcN_4 dcg_683 :) ?_
  refine AW.iload_n 1 (dcN_5 dcg_683 :) rfl ?_
  obtain ⟨k1, h⟩ := hK h
  refine AW.iald kc_155 sk_155 k1 (dcN_6 dcg_683 :) ?_
  refine AW.icmp_ge (tgt := 36) (dcN_7 dcg_683 :) (by decide) (fun c2 => ?_) (fun c2 => ?_)
  · replace h := hT h c2
    refine AW.iconst (dcN_8 dcg_684 :) ?_
    exact AW.zret1 rfl (Or.inl rfl) (dcN_9 dcg_684 :) h rfl
  · replace h := hF h c2
    refine AW.aloadr_n 0 (dcN_8 dcg_683 :) rfl ?_
    refine AW.iload_n 1 (dcN_9 dcg_683 :) rfl ?_
    refine AW.iload_n 2 (dcN_10 dcg_683 :) rfl ?_
    refine AW.iload_n 3 (dcN_11 dcg_683 :) rfl ?_
    refine AW.iload 4 (dcN_0 dcg_684 :) rfl ?_
    refine AW.iload 5 (dcN_1 dcg_684 :) rfl ?_
    obtain ⟨r3, e4, h⟩ := hC h
    refine AW.callVi (As := [iv x1, iv x2, iv x3, iv x4, iv x5]) (st := []) (M_between_ok e4) cq_X12_465 cr_117_X12_between (Nat.le_trans (by decide) hdd) rfl (dcN_2 dcg_684 :) rfl (Nat.le_of_ble_eq_true rfl) ?_
    refine AW.if_eq (tgt := 30) (dcN_3 dcg_684 :) (by decide) (fun c5 => ?_) (fun c5 => ?_)
    · replace h := hT h c5
      refine AW.iinc (lv1 := [(5, iv (x5 + 1)), (0, rv z 117), (1, iv x1), (2, iv x2), (3, iv x3), (4, iv x4)]) 5 (dcN_6 dcg_684 :) rfl (by decide) rfl ?_
      refine AW.goto (tgt := 3) (dcN_7 dcg_684 :) (by decide) ?_
      refine AW.sub (lv1 := [(0, rv z 117), (1, iv x1), (2, iv x2), (3, iv x3), (4, iv x4), (5, iv (x5 + 1))]) [1, 2, 3, 4, 5, 0] rfl ?_
      exact ih _ _ _ h
    · replace h := hF h c5
      refine AW.iconst (dcN_4 dcg_684 :) ?_
      exact AW.zret1 rfl (Or.inr rfl) (dcN_5 dcg_684 :) h rfl
theorem M_canHaveBeen_ok {z : AZ} {x1 : Int} {x2 : Int} {x3 : Int} {x4 : Int} {g : AG} {r : Int × AG} (h : M_canHaveBeen x1 x2 x3 x4 g = some r) : AMf z yX12_canHaveBeen cX12_canHaveBeen 6 (some .boolean) 9 [rv z 117, iv x1, iv x2, iv x3, iv x4] g r := by
  intro d hdd
  refine AM.of (by decide +kernel) (Nat.le_of_ble_eq_true rfl) ?_
  show AW z (RX12, cX12_canHaveBeen, 6, (some .boolean)) d (QD (some .boolean) r) 0 [(0, rv z 117), (1, iv x1), (2, iv x2), (3, iv x3), (4, iv x4)] [] g
  unfold M_canHaveBeen at h
  refine AW.iconst (dcN_0 dcg_683 :) ?_
  refine AW.istore (lv1 := [(5, iv (-1)), (0, rv z 117), (1, iv x1), (2, iv x2), (3, iv x3), (4, iv x4)]) (dcN_1 dcg_683 :) (by decide) rfl ?_
  refine AW.sub (lv1 := [(0, rv z 117), (1, iv x1), (2, iv x2), (3, iv x3), (4, iv x4), (5, iv (-1))]) [1, 2, 3, 4, 5, 0] rfl ?_
  exact M_canHaveBeen_b_ok hdd _ _ _ h
theorem M_could_ok {z : AZ} {x1 : Int} {x2 : Int} {x3 : Int} {x4 : Int} {g : AG} {r : Int × AG} (h : M_could x1 x2 x3 x4 g = some r) : AMf z yX12_could cX12_could 5 (some .int) 10 [rv z 117, iv x1, iv x2, iv x3, iv x4] g r := by
  intro d hdd
  refine AM.of (by decide +kernel) (Nat.le_of_ble_eq_true rfl) ?_
  show AW z (RX12, cX12_could, 5, (some .int)) d (QD (some .int) r) 0 [(0, rv z 117), (1, iv x1), (2, iv x2), (3, iv x3), (4, iv x4)] [] g
  unfold M_could at h
  refine AW.aloadr_n 0 (dcN_0 dcg_686 :) rfl ?_
  refine AW.iload_n 1 (dcN_1 dcg_686 :) rfl ?_
  refine AW.callVi (As := [iv x1]) (st := []) M_isBoat_ok cq_X12_435 cr_117_X12_isBoat (Nat.le_trans (by decide) hdd) rfl (dcN_2 dcg_686 :) rfl (Nat.le_of_ble_eq_true rfl) ?_
  obtain ⟨r9, e10, h⟩ := hC h
  refine AW.join (tgt := 45) (lv1 := []) (st1 := [iv r9.1]) (g1 := r9.2) ?_ (fun J5 => ?_)
  · exact AW.iret1 rfl (dcN_11 dcg_687 :) h rfl
  replace h := e10
  refine AW.if_eq (tgt := 44) (dcN_3 dcg_686 :) (by decide) (fun c1 => ?_) (fun c1 => ?_)
  · replace h := hT h c1
    refine AW.iconst (dcN_10 dcg_687 :) ?_
    refine AW.sub (lv1 := []) [] rfl ?_
    cases h
    exact J5
  · replace h := hF h c1
    refine AW.iload_n 2 (dcN_4 dcg_686 :) rfl ?_
    refine AW.callSi (As := [iv x2]) (st := []) M_isPoint_ok cq_X12_238 st_X12_isPoint (Nat.le_trans (by decide) hdd) rfl (dcN_5 dcg_686 :) rfl (Nat.le_of_ble_eq_true rfl) ?_
    refine AW.if_eq (tgt := 44) (dcN_6 dcg_686 :) (by decide) (fun c2 => ?_) (fun c2 => ?_)
    · replace h := hT h c2
      refine AW.iconst (dcN_10 dcg_687 :) ?_
      refine AW.sub (lv1 := []) [] rfl ?_
      cases h
      exact J5
    · replace h := hF h c2
      refine AW.iload_n 3 (dcN_7 dcg_686 :) rfl ?_
      refine AW.iload 4 (dcN_8 dcg_686 :) rfl ?_
      refine AW.callSi (As := [iv x3, iv x4]) (st := []) M_isSpan_ok cq_X12_469 st_X12_isSpan (Nat.le_trans (by decide) hdd) rfl (dcN_9 dcg_686 :) rfl (Nat.le_of_ble_eq_true rfl) ?_
      refine AW.if_eq (tgt := 44) (dcN_10 dcg_686 :) (by decide) (fun c3 => ?_) (fun c3 => ?_)
      · replace h := hT h c3
        refine AW.iconst (dcN_10 dcg_687 :) ?_
        refine AW.sub (lv1 := []) [] rfl ?_
        cases h
        exact J5
      · replace h := hF h c3
        refine AW.aloadr_n 0 (dcN_11 dcg_686 :) rfl ?_
        refine AW.iload_n 1 (dcN_0 dcg_687 :) rfl ?_
        refine AW.iload_n 2 (dcN_1 dcg_687 :) rfl ?_
        refine AW.iload_n 3 (dcN_2 dcg_687 :) rfl ?_
        refine AW.iload 4 (dcN_3 dcg_687 :) rfl ?_
        obtain ⟨r4, e5, h⟩ := hC h
        refine AW.callVi (As := [iv x1, iv x2, iv x3, iv x4]) (st := []) (M_canHaveBeen_ok e5) cq_X12_472 cr_117_X12_canHaveBeen (Nat.le_trans (by decide) hdd) rfl (dcN_4 dcg_687 :) rfl (Nat.le_of_ble_eq_true rfl) ?_
        obtain ⟨t6, e7, h⟩ := hBe h
        refine AW.join (tgt := 45) (lv1 := [(0, rv z 117), (1, iv x1), (2, iv x2), (3, iv x3), (4, iv x4)]) (st1 := [iv t6]) (g1 := r4.2) ?_ (fun J33 => ?_)
        · refine AW.sub (lv1 := []) [] rfl ?_
          cases h
          exact J5
        refine AW.if_eq (tgt := 40) (dcN_5 dcg_687 :) (by decide) (fun c8 => ?_) (fun c8 => ?_)
        · refine AW.iconst (dcN_8 dcg_687 :) ?_
          refine AW.goto (tgt := 45) (dcN_9 dcg_687 :) (by decide) ?_
          exact AW.val (e7.trans (if_pos c8)) J33
        · refine AW.iconst (dcN_6 dcg_687 :) ?_
          refine AW.goto (tgt := 45) (dcN_7 dcg_687 :) (by decide) ?_
          exact AW.val (e7.trans (if_neg c8)) J33
set_option synthInstance.maxHeartbeats 2000000 in
theorem M_whose_b_ok {z : AZ} {d : Nat} (hdd : 10 ≤ d) {x1 : Int} {x2 : Int} {x3 : Int} {x4 : Int} : ∀ (x5 : Int) (x6 : Int) (x7 : Int) (x8 : Int) (g : AG) (r : Int × AG), M_whose_b x1 x2 x3 x4 x5 x6 x7 x8 g = some r → AW z (RX12, cX12_whose, 9, (some .int)) d (QD (some .int) r) 39 [(0, rv z 117), (1, iv x1), (2, iv x2), (3, iv x3), (4, iv x4), (5, iv x5), (6, iv x6), (7, iv x7), (8, iv x8)] [] g := by
  refine M_whose_b.partial_correctness x1 x2 x3 x4 (fun x5 x6 x7 x8 g r => AW z (RX12, cX12_whose, 9, (some .int)) d (QD (some .int) r) 39 [(0, rv z 117), (1, iv x1), (2, iv x2), (3, iv x3), (4, iv x4), (5, iv x5), (6, iv x6), (7, iv x7), (8, iv x8)] [] g) ?_
  intro fb9 ih x5 x6 x7 x8 g r h
  refine AW.iload 8 (dcN_4 dcg_689 :) rfl ?_
  refine AW.aloadr_n 0 (dcN_5 dcg_689 :) rfl ?_
  refine AW.getI af_X12_235_117 sr_117_12 (dcN_6 dcg_689 :) ?_
  refine AW.icmp_ge (tgt := 85) (dcN_7 dcg_689 :) (by decide) (fun c1 => ?_) (fun c1 => ?_)
  · replace h := hT h c1
    refine AW.iload 4 (dcN_10 dcg_690 :) rfl ?_
    obtain ⟨t2, e3, h⟩ := hBe h
    refine AW.join (tgt := 107) (lv1 := [(0, rv z 117), (1, iv x1), (2, iv x2), (3, iv x3), (4, iv x4), (5, iv x5), (6, iv x6), (7, iv x7), (8, iv x8)]) (st1 := [iv t2]) (g1 := g) ?_ (fun J87 => ?_)
    · exact AW.iret1 rfl (dcN_5 dcg_691 :) h rfl
    refine AW.if_ne (tgt := 95) (dcN_11 dcg_690 :) (by decide) (fun c4 => ?_) (fun c4 => ?_)
    · refine AW.iload 7 (dcN_14 dcg_690 :) rfl ?_
      refine AW.iconst (dcN_0 dcg_691 :) ?_
      refine AW.icmp_ne (tgt := 106) (dcN_1 dcg_691 :) (by decide) (fun c5 => ?_) (fun c5 => ?_)
      · refine AW.iconst (dcN_4 dcg_691 :) ?_
        exact AW.val (e3.trans ((if_neg c4).trans (if_neg c5))) J87
      · refine AW.iload 6 (dcN_2 dcg_691 :) rfl ?_
        refine AW.goto (tgt := 107) (dcN_3 dcg_691 :) (by decide) ?_
        exact AW.val (e3.trans ((if_neg c4).trans (if_pos c5))) J87
    · refine AW.iload 5 (dcN_12 dcg_690 :) rfl ?_
      refine AW.goto (tgt := 107) (dcN_13 dcg_690 :) (by decide) ?_
      exact AW.val (e3.trans (if_pos c4)) J87
  · replace h := hF h c1
    refine AW.aloadr_n 0 (dcN_8 dcg_689 :) rfl ?_
    refine AW.iload 8 (dcN_9 dcg_689 :) rfl ?_
    refine AW.iload_n 1 (dcN_10 dcg_689 :) rfl ?_
    refine AW.iload_n 2 (dcN_11 dcg_689 :) rfl ?_
    refine AW.iload_n 3 (dcN_12 dcg_689 :) rfl ?_
    obtain ⟨r6, e7, h⟩ := hC h
    refine AW.callVi (As := [iv x8, iv x1, iv x2, iv x3]) (st := []) (M_canHaveBeen_ok e7) cq_X12_472 cr_117_X12_canHaveBeen (Nat.le_trans (by decide) hdd) rfl (dcN_13 dcg_689 :) rfl (Nat.le_of_ble_eq_true rfl) ?_
    obtain ⟨r9, e10, h⟩ := hC h
    refine AW.join (tgt := 79) (lv1 := [(0, rv z 117), (1, iv x1), (2, iv x2), (3, iv x3), (4, iv x4), (5, iv r9.1), (6, iv r9.2.1), (7, iv r9.2.2.1), (8, iv x8)]) (st1 := []) (g1 := r9.2.2.2) ?_ (fun J57 => ?_)
    · refine AW.iinc (lv1 := [(8, iv (x8 + 1)), (0, rv z 117), (1, iv x1), (2, iv x2), (3, iv x3), (4, iv x4), (5, iv r9.1), (6, iv r9.2.1), (7, iv r9.2.2.1)]) 8 (dcN_8 dcg_690 :) rfl (by decide) rfl ?_
      refine AW.goto (tgt := 39) (dcN_9 dcg_690 :) (by decide) ?_
      refine AW.sub (lv1 := [(0, rv z 117), (1, iv x1), (2, iv x2), (3, iv x3), (4, iv x4), (5, iv r9.1), (6, iv r9.2.1), (7, iv r9.2.2.1), (8, iv (x8 + 1))]) [1, 2, 3, 4, 5, 6, 7, 8, 0] rfl ?_
      exact ih _ _ _ _ _ _ h
    replace h := e10
    refine AW.if_ne (tgt := 63) (dcN_14 dcg_689 :) (by decide) (fun c8 => ?_) (fun c8 => ?_)
    · replace h := hF h c8
      refine AW.iload 5 (dcN_16 dcg_689 :) rfl ?_
      refine AW.iconst (dcN_0 dcg_690 :) ?_
      refine AW.iload 8 (dcN_1 dcg_690 :) rfl ?_
      refine AW.ishl (dcN_2 dcg_690 :) ?_
      refine AW.ior (dcN_3 dcg_690 :) ?_
      refine AW.istore (lv1 := [(5, iv (orI x5 (shlI 1 x8))), (0, rv z 117), (1, iv x1), (2, iv x2), (3, iv x3), (4, iv x4), (6, iv x6), (7, iv x7), (8, iv x8)]) (dcN_4 dcg_690 :) (by decide) rfl ?_
      refine AW.iload 8 (dcN_5 dcg_690 :) rfl ?_
      refine AW.istore (lv1 := [(6, iv x8), (5, iv (orI x5 (shlI 1 x8))), (0, rv z 117), (1, iv x1), (2, iv x2), (3, iv x3), (4, iv x4), (7, iv x7), (8, iv x8)]) (dcN_6 dcg_690 :) (by decide) rfl ?_
      refine AW.iinc (lv1 := [(7, iv (x7 + 1)), (6, iv x8), (5, iv (orI x5 (shlI 1 x8))), (0, rv z 117), (1, iv x1), (2, iv x2), (3, iv x3), (4, iv x4), (8, iv x8)]) 7 (dcN_7 dcg_690 :) rfl (by decide) rfl ?_
      refine AW.sub (lv1 := [(0, rv z 117), (1, iv x1), (2, iv x2), (3, iv x3), (4, iv x4), (5, iv (orI x5 (shlI 1 x8))), (6, iv x8), (7, iv (x7 + 1)), (8, iv x8)]) [3, 4, 5, 6, 7, 2, 1, 0, 8] rfl ?_
      cases h
      exact J57
    · replace h := hT h c8
      refine AW.goto (tgt := 79) (dcN_15 dcg_689 :) (by decide) ?_
      cases h
      exact J57
theorem M_whose_ok {z : AZ} {x1 : Int} {x2 : Int} {x3 : Int} {x4 : Int} {g : AG} {r : Int × AG} (h : M_whose x1 x2 x3 x4 g = some r) : AMf z yX12_whose cX12_whose 9 (some .int) 10 [rv z 117, iv x1, iv x2, iv x3, iv x4] g r := by
  intro d hdd
  refine AM.of (by decide +kernel) (Nat.le_of_ble_eq_true rfl) ?_
  show AW z (RX12, cX12_whose, 9, (some .int)) d (QD (some .int) r) 0 [(0, rv z 117), (1, iv x1), (2, iv x2), (3, iv x3), (4, iv x4)] [] g
  unfold M_whose at h
  refine AW.iload_n 1 (dcN_0 dcg_688 :) rfl ?_
  refine AW.callSi (As := [iv x1]) (st := []) M_isPoint_ok cq_X12_238 st_X12_isPoint (Nat.le_trans (by decide) hdd) rfl (dcN_1 dcg_688 :) rfl (Nat.le_of_ble_eq_true rfl) ?_
  refine AW.if_eq (tgt := 25) (dcN_2 dcg_688 :) (by decide) (fun c1 => ?_) (fun c1 => ?_)
  · replace h := hT h c1
    refine AW.iconst (dcN_12 dcg_688 :) ?_
    exact AW.iret1 rfl (dcN_13 dcg_688 :) h rfl
  · replace h := hF h c1
    refine AW.iload_n 2 (dcN_3 dcg_688 :) rfl ?_
    refine AW.iload_n 3 (dcN_4 dcg_688 :) rfl ?_
    refine AW.callSi (As := [iv x2, iv x3]) (st := []) M_isSpan_ok cq_X12_469 st_X12_isSpan (Nat.le_trans (by decide) hdd) rfl (dcN_5 dcg_688 :) rfl (Nat.le_of_ble_eq_true rfl) ?_
    refine AW.if_eq (tgt := 25) (dcN_6 dcg_688 :) (by decide) (fun c2 => ?_) (fun c2 => ?_)
    · replace h := hT h c2
      refine AW.iconst (dcN_12 dcg_688 :) ?_
      exact AW.iret1 rfl (dcN_13 dcg_688 :) h rfl
    · replace h := hF h c2
      refine AW.iload 4 (dcN_7 dcg_688 :) rfl ?_
      refine AW.iconst (dcN_8 dcg_688 :) ?_
      refine AW.iconst (dcN_9 dcg_688 :) ?_
      refine AW.callSi (As := [iv x4, iv 0, iv 1]) (st := []) M_isIn_ok cq_X12_3 st_X12_isIn (Nat.le_trans (by decide) hdd) rfl (dcN_10 dcg_688 :) rfl (Nat.le_of_ble_eq_true rfl) ?_
      refine AW.if_ne (tgt := 27) (dcN_11 dcg_688 :) (by decide) (fun c3 => ?_) (fun c3 => ?_)
      · replace h := hF h c3
        refine AW.iconst (dcN_14 dcg_688 :) ?_
        refine AW.istore (lv1 := [(5, iv 0), (0, rv z 117), (1, iv x1), (2, iv x2), (3, iv x3), (4, iv x4)]) (dcN_15 dcg_688 :) (by decide) rfl ?_
        refine AW.iconst (dcN_16 dcg_688 :) ?_
        refine AW.istore (lv1 := [(6, iv (-1)), (5, iv 0), (0, rv z 117), (1, iv x1), (2, iv x2), (3, iv x3), (4, iv x4)]) (dcN_17 dcg_688 :) (by decide) rfl ?_
        refine AW.iconst (dcN_0 dcg_689 :) ?_
        refine AW.istore (lv1 := [(7, iv 0), (6, iv (-1)), (5, iv 0), (0, rv z 117), (1, iv x1), (2, iv x2), (3, iv x3), (4, iv x4)]) (dcN_1 dcg_689 :) (by decide) rfl ?_
        refine AW.iconst (dcN_2 dcg_689 :) ?_
        refine AW.istore (lv1 := [(8, iv 0), (7, iv 0), (6, iv (-1)), (5, iv 0), (0, rv z 117), (1, iv x1), (2, iv x2), (3, iv x3), (4, iv x4)]) (dcN_3 dcg_689 :) (by decide) rfl ?_
        refine AW.sub (lv1 := [(0, rv z 117), (1, iv x1), (2, iv x2), (3, iv x3), (4, iv x4), (5, iv 0), (6, iv (-1)), (7, iv 0), (8, iv 0)]) [4, 5, 6, 7, 8, 3, 2, 1, 0] rfl ?_
        exact M_whose_b_ok hdd _ _ _ _ _ _ h
      · replace h := hT h c3
        refine AW.iconst (dcN_12 dcg_688 :) ?_
        exact AW.iret1 rfl (dcN_13 dcg_688 :) h rfl
end
