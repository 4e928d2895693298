theorem M_refund_ok {z : AZ} {x1 : Int} {g : AG} {r : Int × AG} (h : M_refund x1 g = some r) : AMf z yX12_refund cX12_refund 5 (some .int) 9 [rv z 117, iv x1] g r := by
  intro d hdd
  refine AM.of (by decide +kernel) (Nat.le_of_ble_eq_true rfl) ?_
  show AW z (RX12, cX12_refund, 5, (some .int)) d (QD (some .int) r) 0 [(0, rv z 117), (1, iv x1)] [] g
  unfold M_refund at h
  refine AW.aloadr_n 0 (dcN_0 dcg_656 :) rfl ?_
  refine AW.iload_n 1 (dcN_1 dcg_656 :) rfl ?_
  obtain ⟨r1, e2, h⟩ := hC h
  refine AW.callVi (As := [iv x1]) (st := []) (M_lateOf_ok e2) cq_X12_447 cr_117_X12_lateOf (Nat.le_trans (by decide) hdd) rfl (dcN_2 dcg_656 :) rfl (Nat.le_of_ble_eq_true rfl) ?_
  refine AW.istore_n (lv1 := [(2, iv r1.1), (0, rv z 117), (1, iv x1)]) (dcN_3 dcg_656 :) (by decide) rfl ?_
  refine AW.iload_n 0 (dcN_4 dcg_656 :) rfl ?_
  refine AW.if_ne (tgt := 12) (dcN_5 dcg_656 :) (by decide) (fun c3 => ?_) (fun c3 => ?_)
  · replace h := hF h c3
    refine AW.iload_n 0 (dcN_8 dcg_656 :) rfl ?_
    refine AW.sipush (dcN_9 dcg_656 :) (by decide) (by decide) ?_
    refine AW.iadd (dcN_10 dcg_656 :) ?_
    refine AW.sipush (dcN_11 dcg_656 :) (by decide) (by decide) ?_
    refine AW.idiv (dcN_12 dcg_656 :) (by decide) ?_
    refine AW.istore_n (lv1 := [(3, iv ((nw (r1.1 + 1439)).tdiv 1440)), (2, iv r1.1), (0, rv z 117), (1, iv x1)]) (dcN_13 dcg_656 :) (by decide) rfl ?_
    refine AW.aloadr_n 2 (dcN_14 dcg_656 :) rfl ?_
    refine AW.aloadr_n 2 (dcN_15 dcg_656 :) rfl ?_
    refine AW.getR af_X12_115_117 sr_117_50 (dcN_16 dcg_656 :) ?_
    refine AW.iload_n 3 (dcN_17 dcg_656 :) rfl ?_
    obtain ⟨k4, h⟩ := hK h
    refine AW.iald kc_149 sk_149 k4 (dcN_18 dcg_656 :) ?_
    refine AW.aloadr_n 2 (dcN_19 dcg_656 :) rfl ?_
    refine AW.getR af_X12_124_117 sr_117_53 (dcN_20 dcg_656 :) ?_
    refine AW.iload_n 3 (dcN_0 dcg_657 :) rfl ?_
    refine AW.iald kc_152 sk_152 k4 (dcN_1 dcg_657 :) ?_
    refine AW.sipush (dcN_2 dcg_657 :) (by decide) (by decide) ?_
    refine AW.idiv (dcN_3 dcg_657 :) (by decide) ?_
    refine AW.bipush (dcN_4 dcg_657 :) (by decide) (by decide) ?_
    refine AW.idiv (dcN_5 dcg_657 :) (by decide) ?_
    refine AW.aloadr_n 2 (dcN_6 dcg_657 :) rfl ?_
    refine AW.getR af_X12_118_117 sr_117_51 (dcN_7 dcg_657 :) ?_
    refine AW.iload_n 3 (dcN_8 dcg_657 :) rfl ?_
    refine AW.iald kc_150 sk_150 k4 (dcN_9 dcg_657 :) ?_
    refine AW.aloadr_n 2 (dcN_10 dcg_657 :) rfl ?_
    refine AW.getR af_X12_121_117 sr_117_52 (dcN_11 dcg_657 :) ?_
    refine AW.iload_n 3 (dcN_12 dcg_657 :) rfl ?_
    refine AW.iald kc_151 sk_151 k4 (dcN_13 dcg_657 :) ?_
    obtain ⟨t5, e6, h⟩ := hBe h
    refine AW.join (tgt := 62) (lv1 := [(3, iv ((nw (r1.1 + 1439)).tdiv 1440)), (2, iv r1.1), (0, rv z 117), (1, iv x1)]) (st1 := [iv t5, iv ((nw ((nw (r1.2 152 (ix x1))).tdiv 1440)).tdiv 7), iv (r1.2 149 (ix x1)), rv z 117]) (g1 := r1.2) ?_ (fun J54 => ?_)
    · obtain ⟨r7, e8, h⟩ := hC h
      refine AW.callVi (As := [iv (r1.2 149 (ix x1)), iv ((nw ((nw (r1.2 152 (ix x1))).tdiv 1440)).tdiv 7), iv t5]) (st := []) (M_price_ok e8) cq_X12_451 cr_117_X12_price (Nat.le_trans (by decide) hdd) rfl (dcN_18 dcg_657 :) rfl (Nat.le_of_ble_eq_true rfl) ?_
      refine AW.istore (lv1 := [(4, iv r7.1), (3, iv ((nw (r1.1 + 1439)).tdiv 1440)), (2, iv r1.1), (0, rv z 117), (1, iv x1)]) (dcN_0 dcg_658 :) (by decide) rfl ?_
      refine AW.aloadr_n 3 (dcN_1 dcg_658 :) rfl ?_
      refine AW.getI af_X12_454_117 sr_117_100 (dcN_2 dcg_658 :) ?_
      obtain ⟨r13, e14, h⟩ := hC h
      refine AW.join (tgt := 102) (lv1 := []) (st1 := [iv r13.1]) (g1 := r13.2) ?_ (fun J71 => ?_)
      · exact AW.iret1 rfl (dcN_2 dcg_659 :) h rfl
      replace h := e14
      refine AW.if_eq (tgt := 99) (dcN_3 dcg_658 :) (by decide) (fun c9 => ?_) (fun c9 => ?_)
      · replace h := hT h c9
        refine AW.ldcw (dcN_1 dcg_659 :) cw_X12_450 ?_
        refine AW.sub (lv1 := []) [] rfl ?_
        cases h
        exact J71
      · replace h := hF h c9
        refine AW.iload 0 (dcN_4 dcg_658 :) rfl ?_
        refine AW.i2l (dcN_5 dcg_658 :) ?_
        refine AW.iload_n 1 (dcN_6 dcg_658 :) rfl ?_
        refine AW.bipush (dcN_7 dcg_658 :) (by decide) (by decide) ?_
        obtain ⟨t10, e11, h⟩ := hBe h
        refine AW.join (tgt := 89) (lv1 := [(4, iv r7.1), (3, iv ((nw (r1.1 + 1439)).tdiv 1440)), (2, iv r1.1), (0, rv z 117), (1, iv x1)]) (st1 := [iv t10, jv (nw r7.1)]) (g1 := r7.2) ?_ (fun J80 => ?_)
        · refine AW.i2l (dcN_12 dcg_658 :) ?_
          refine AW.lmul (dcN_13 dcg_658 :) ?_
          refine AW.ldc2 (dcN_14 dcg_658 :) cw_X12_457 ?_
          refine AW.ldiv (dcN_15 dcg_658 :) (by decide) ?_
          refine AW.l2i (dcN_16 dcg_658 :) ?_
          refine AW.goto (tgt := 102) (dcN_0 dcg_659 :) (by decide) ?_
          refine AW.sub (lv1 := []) [] rfl ?_
          cases h
          exact J71
        refine AW.icmp_le (tgt := 88) (dcN_8 dcg_658 :) (by decide) (fun c12 => ?_) (fun c12 => ?_)
        · refine AW.iload_n 1 (dcN_11 dcg_658 :) rfl ?_
          exact AW.val (e11.trans (if_pos c12)) J80
        · refine AW.bipush (dcN_9 dcg_658 :) (by decide) (by decide) ?_
          refine AW.goto (tgt := 89) (dcN_10 dcg_658 :) (by decide) ?_
          exact AW.val (e11.trans (if_neg c12)) J80
    refine AW.icmp_eq (tgt := 61) (dcN_14 dcg_657 :) (by decide) (fun c15 => ?_) (fun c15 => ?_)
    · refine AW.iconst (dcN_17 dcg_657 :) ?_
      exact AW.val (e6.trans (if_pos c15)) J54
    · refine AW.iconst (dcN_15 dcg_657 :) ?_
      refine AW.goto (tgt := 62) (dcN_16 dcg_657 :) (by decide) ?_
      exact AW.val (e6.trans (if_neg c15)) J54
  · replace h := hT h c3
    refine AW.iconst (dcN_6 dcg_656 :) ?_
    exact AW.iret1 rfl (dcN_7 dcg_656 :) h rfl
set_option synthInstance.maxHeartbeats 2000000 in
theorem M_turningBack_b_ok {z : AZ} {d : Nat} (hdd : 8 ≤ d) {x1 : Int} {x3 : Int} : ∀ (tag : Nat) (x2 : Int) (x4 : Int) (g : AG) (r : Int × AG), M_turningBack_b x1 x3 tag x2 x4 g = some r → (tag = 1 → AW z (RX12, cX12_turningBack, 8, (some .int)) d (QD (some .int) r) 26 [(0, rv z 117), (1, iv x1), (2, iv x2), (3, iv x3), (4, iv x4)] [] g) ∧ (tag = 2 → AW z (RX12, cX12_turningBack, 8, (some .int)) d (QD (some .int) r) 167 [(2, iv x2)] [] g) := by
  refine M_turningBack_b.partial_correctness x1 x3 (fun tag x2 x4 g r => (tag = 1 → AW z (RX12, cX12_turningBack, 8, (some .int)) d (QD (some .int) r) 26 [(0, rv z 117), (1, iv x1), (2, iv x2), (3, iv x3), (4, iv x4)] [] g) ∧ (tag = 2 → AW z (RX12, cX12_turningBack, 8, (some .int)) d (QD (some .int) r) 167 [(2, iv x2)] [] g)) ?_
  intro fb9 ih tag x2 x4 g r h
  refine ⟨fun h9 => ?_, fun h9 => ?_⟩
  · subst h9
    replace h := hT h rfl
    refine AW.iload 4 (dcN_17 dcg_650 :) rfl ?_
    refine AW.aloadr_n 0 (dcN_18 dcg_650 :) rfl ?_
    refine AW.getR af_X12_121_117 sr_117_52 (dcN_19 dcg_650 :) ?_
    refine AW.iload_n 1 (dcN_0 dcg_651 :) rfl ?_
    obtain ⟨k1, h⟩ := hK h
    refine AW.iald kc_151 sk_151 k1 (dcN_1 dcg_651 :) ?_
    refine AW.aloadr_n 0 (dcN_2 dcg_651 :) rfl ?_
    refine AW.getR af_X12_118_117 sr_117_51 (dcN_3 dcg_651 :) ?_
    refine AW.iload_n 1 (dcN_4 dcg_651 :) rfl ?_
    refine AW.iald kc_150 sk_150 k1 (dcN_5 dcg_651 :) ?_
    refine AW.isub (dcN_6 dcg_651 :) ?_
    refine AW.iload_n 3 (dcN_7 dcg_651 :) rfl ?_
    refine AW.imul (dcN_8 dcg_651 :) ?_
    refine AW.icmp_gt (tgt := 167) (dcN_9 dcg_651 :) (by decide) (fun c2 => ?_) (fun c2 => ?_)
    · replace h := hT h c2
      refine AW.sub (lv1 := [(2, iv x2)]) [2] rfl ?_
      exact (ih _ _ _ _ _ h).2 rfl
    · replace h := hF h c2
      refine AW.aloadr_n 0 (dcN_10 dcg_651 :) rfl ?_
      refine AW.getR af_X12_124_117 sr_117_53 (dcN_11 dcg_651 :) ?_
      refine AW.iload_n 1 (dcN_12 dcg_651 :) rfl ?_
      refine AW.iald kc_152 sk_152 k1 (dcN_13 dcg_651 :) ?_
      refine AW.aloadr_n 0 (dcN_14 dcg_651 :) rfl ?_
      refine AW.getR af_X12_127_117 sr_117_54 (dcN_15 dcg_651 :) ?_
      refine AW.iload_n 1 (dcN_16 dcg_651 :) rfl ?_
      refine AW.iald kc_153 sk_153 k1 (dcN_17 dcg_651 :) ?_
      refine AW.icmp_gt (tgt := 167) (dcN_18 dcg_651 :) (by decide) (fun c3 => ?_) (fun c3 => ?_)
      · replace h := hT h c3
        refine AW.sub (lv1 := [(2, iv x2)]) [2] rfl ?_
        exact (ih _ _ _ _ _ h).2 rfl
      · replace h := hF h c3
        refine AW.aloadr_n 0 (dcN_19 dcg_651 :) rfl ?_
        refine AW.getR af_X12_118_117 sr_117_51 (dcN_20 dcg_651 :) ?_
        refine AW.iload_n 1 (dcN_0 dcg_652 :) rfl ?_
        refine AW.iald kc_150 sk_150 k1 (dcN_1 dcg_652 :) ?_
        refine AW.iload 4 (dcN_2 dcg_652 :) rfl ?_
        refine AW.iload_n 3 (dcN_3 dcg_652 :) rfl ?_
        refine AW.imul (dcN_4 dcg_652 :) ?_
        refine AW.iadd (dcN_5 dcg_652 :) ?_
        refine AW.istore (lv1 := [(5, iv ((g 150 (ix x1)) + (x4 * x3))), (0, rv z 117), (1, iv x1), (2, iv x2), (3, iv x3), (4, iv x4)]) (dcN_6 dcg_652 :) (by decide) rfl ?_
        refine AW.aloadr_n 1 (dcN_7 dcg_652 :) rfl ?_
        refine AW.aloadr_n 1 (dcN_8 dcg_652 :) rfl ?_
        refine AW.getR af_X12_115_117 sr_117_50 (dcN_9 dcg_652 :) ?_
        refine AW.iload_n 2 (dcN_10 dcg_652 :) rfl ?_
        refine AW.iald kc_149 sk_149 k1 (dcN_11 dcg_652 :) ?_
        refine AW.aloadr_n 1 (dcN_12 dcg_652 :) rfl ?_
        refine AW.getR af_X12_118_117 sr_117_51 (dcN_13 dcg_652 :) ?_
        refine AW.iload_n 2 (dcN_14 dcg_652 :) rfl ?_
        refine AW.iald kc_150 sk_150 k1 (dcN_15 dcg_652 :) ?_
        refine AW.iload 0 (dcN_16 dcg_652 :) rfl ?_
        refine AW.aloadr_n 1 (dcN_17 dcg_652 :) rfl ?_
        refine AW.getR af_X12_124_117 sr_117_53 (dcN_18 dcg_652 :) ?_
        refine AW.iload_n 2 (dcN_19 dcg_652 :) rfl ?_
        refine AW.iald kc_152 sk_152 k1 (dcN_20 dcg_652 :) ?_
        obtain ⟨r4, e5, h⟩ := hC h
        refine AW.callVi (As := [iv (g 149 (ix x1)), iv (g 150 (ix x1)), iv ((g 150 (ix x1)) + (x4 * x3)), iv (g 152 (ix x1))]) (st := []) (M_led_ok e5) cq_X12_441 cr_117_X12_led (Nat.le_trans (by decide) hdd) rfl (dcN_21 dcg_652 :) rfl (Nat.le_of_ble_eq_true rfl) ?_
        refine AW.istore (lv1 := [(6, iv r4.1), (5, iv ((g 150 (ix x1)) + (x4 * x3))), (0, rv z 117), (1, iv x1), (2, iv x2), (3, iv x3), (4, iv x4)]) (dcN_0 dcg_653 :) (by decide) rfl ?_
        refine AW.iload 0 (dcN_1 dcg_653 :) rfl ?_
        refine AW.iconst (dcN_2 dcg_653 :) ?_
        refine AW.icmp_ne (tgt := 119) (dcN_3 dcg_653 :) (by decide) (fun c6 => ?_) (fun c6 => ?_)
        · replace h := hF h c6
          refine AW.aloadr_n 2 (dcN_11 dcg_653 :) rfl ?_
          refine AW.aloadr_n 2 (dcN_12 dcg_653 :) rfl ?_
          refine AW.getR af_X12_115_117 sr_117_50 (dcN_13 dcg_653 :) ?_
          refine AW.iload_n 3 (dcN_14 dcg_653 :) rfl ?_
          refine AW.iald kc_149 sk_149 k1 (dcN_15 dcg_653 :) ?_
          refine AW.iload 1 (dcN_16 dcg_653 :) rfl ?_
          refine AW.aloadr_n 2 (dcN_0 dcg_654 :) rfl ?_
          refine AW.getR af_X12_118_117 sr_117_51 (dcN_1 dcg_654 :) ?_
          refine AW.iload_n 3 (dcN_2 dcg_654 :) rfl ?_
          refine AW.iald kc_150 sk_150 k1 (dcN_3 dcg_654 :) ?_
          refine AW.iload 0 (dcN_4 dcg_654 :) rfl ?_
          obtain ⟨r7, e8, h⟩ := hC h
          refine AW.callVi (As := [iv (r4.2 149 (ix x1)), iv ((g 150 (ix x1)) + (x4 * x3)), iv (r4.2 150 (ix x1)), iv r4.1]) (st := []) (M_led_ok e8) cq_X12_441 cr_117_X12_led (Nat.le_trans (by decide) hdd) rfl (dcN_5 dcg_654 :) rfl (Nat.le_of_ble_eq_true rfl) ?_
          refine AW.istore (lv1 := [(7, iv r7.1), (6, iv r4.1), (5, iv ((g 150 (ix x1)) + (x4 * x3))), (0, rv z 117), (1, iv x1), (2, iv x2), (3, iv x3), (4, iv x4)]) (dcN_6 dcg_654 :) (by decide) rfl ?_
          refine AW.iload 0 (dcN_7 dcg_654 :) rfl ?_
          refine AW.iconst (dcN_8 dcg_654 :) ?_
          obtain ⟨r11, e12, h⟩ := hC h
          refine AW.join (tgt := 161) (lv1 := [(0, rv z 117), (1, iv x1), (2, iv r11.1), (3, iv x3), (4, iv x4)]) (st1 := []) (g1 := r11.2) ?_ (fun J144 => ?_)
          · refine AW.iinc (lv1 := [(4, iv (x4 + 1)), (0, rv z 117), (1, iv x1), (2, iv r11.1), (3, iv x3)]) 4 (dcN_1 dcg_655 :) rfl (by decide) rfl ?_
            refine AW.goto (tgt := 26) (dcN_2 dcg_655 :) (by decide) ?_
            refine AW.sub (lv1 := [(0, rv z 117), (1, iv x1), (2, iv r11.1), (3, iv x3), (4, iv (x4 + 1))]) [1, 2, 3, 4, 0] rfl ?_
            exact (ih _ _ _ _ _ h).1 rfl
          replace h := e12
          refine AW.icmp_eq (tgt := 161) (dcN_9 dcg_654 :) (by decide) (fun c9 => ?_) (fun c9 => ?_)
          · replace h := hT h c9
            refine AW.sub (lv1 := [(0, rv z 117), (1, iv x1), (2, iv x2), (3, iv x3), (4, iv x4)]) [3, 4, 5, 6, 7] rfl ?_
            cases h
            exact J144
          · replace h := hF h c9
            refine AW.iload 0 (dcN_10 dcg_654 :) rfl ?_
            refine AW.aloadr_n 3 (dcN_11 dcg_654 :) rfl ?_
            refine AW.getR af_X12_127_117 sr_117_54 (dcN_12 dcg_654 :) ?_
            refine AW.iload_n 4 (dcN_13 dcg_654 :) rfl ?_
            refine AW.iald kc_153 sk_153 k1 (dcN_14 dcg_654 :) ?_
            refine AW.icmp_gt (tgt := 161) (dcN_15 dcg_654 :) (by decide) (fun c10 => ?_) (fun c10 => ?_)
            · replace h := hT h c10
              refine AW.sub (lv1 := [(0, rv z 117), (1, iv x1), (2, iv x2), (3, iv x3), (4, iv x4)]) [3, 4, 5, 6, 7] rfl ?_
              cases h
              exact J144
            · replace h := hF h c10
              refine AW.iload 2 (dcN_16 dcg_654 :) rfl ?_
              refine AW.istore_n (lv1 := [(2, iv ((g 150 (ix x1)) + (x4 * x3))), (7, iv r7.1), (6, iv r4.1), (5, iv ((g 150 (ix x1)) + (x4 * x3))), (0, rv z 117), (1, iv x1), (3, iv x3), (4, iv x4)]) (dcN_0 dcg_655 :) (by decide) rfl ?_
              refine AW.sub (lv1 := [(0, rv z 117), (1, iv x1), (2, iv ((g 150 (ix x1)) + (x4 * x3))), (3, iv x3), (4, iv x4)]) [4, 5, 0, 6, 7] rfl ?_
              cases h
              exact J144
        · replace h := hT h c6
          refine AW.iload_n 4 (dcN_4 dcg_653 :) rfl ?_
          refine AW.iconst (dcN_5 dcg_653 :) ?_
          obtain ⟨t13, e14, h⟩ := hBe h
          refine AW.join (tgt := 118) (lv1 := [(6, iv r4.1), (5, iv ((g 150 (ix x1)) + (x4 * x3))), (0, rv z 117), (1, iv x1), (2, iv x2), (3, iv x3), (4, iv x4)]) (st1 := [iv t13]) (g1 := r4.2) ?_ (fun J108 => ?_)
          · exact AW.iret1 rfl (dcN_10 dcg_653 :) h rfl
          refine AW.icmp_ne (tgt := 117) (dcN_6 dcg_653 :) (by decide) (fun c15 => ?_) (fun c15 => ?_)
          · refine AW.iload_n 4 (dcN_9 dcg_653 :) rfl ?_
            exact AW.val (e14.trans (if_neg c15)) J108
          · refine AW.ldcw (dcN_7 dcg_653 :) cw_X12_450 ?_
            refine AW.goto (tgt := 118) (dcN_8 dcg_653 :) (by decide) ?_
            exact AW.val (e14.trans (if_pos c15)) J108
  · subst h9
    replace h := hF h (by decide)
    replace h := hT h rfl
    refine AW.iload_n 0 (dcN_3 dcg_655 :) rfl ?_
    refine AW.iconst (dcN_4 dcg_655 :) ?_
    obtain ⟨t1, e2, h⟩ := hBe h
    refine AW.join (tgt := 179) (lv1 := [(2, iv x2)]) (st1 := [iv t1]) (g1 := g) ?_ (fun J169 => ?_)
    · exact AW.iret1 rfl (dcN_9 dcg_655 :) h rfl
    refine AW.icmp_ne (tgt := 178) (dcN_5 dcg_655 :) (by decide) (fun c3 => ?_) (fun c3 => ?_)
    · refine AW.iload_n 0 (dcN_8 dcg_655 :) rfl ?_
      exact AW.val (e2.trans (if_neg c3)) J169
    · refine AW.ldcw (dcN_6 dcg_655 :) cw_X12_450 ?_
      refine AW.goto (tgt := 179) (dcN_7 dcg_655 :) (by decide) ?_
      exact AW.val (e2.trans (if_pos c3)) J169
theorem M_turningBack_ok {z : AZ} {x1 : Int} {g : AG} {r : Int × AG} (h : M_turningBack x1 g = some r) : AMf z yX12_turningBack cX12_turningBack 8 (some .int) 8 [rv z 117, iv x1] g r := by
  intro d hdd
  refine AM.of (by decide +kernel) (Nat.le_of_ble_eq_true rfl) ?_
  show AW z (RX12, cX12_turningBack, 8, (some .int)) d (QD (some .int) r) 0 [(0, rv z 117), (1, iv x1)] [] g
  unfold M_turningBack at h
  refine AW.iconst (dcN_0 dcg_650 :) ?_
  refine AW.istore_n (lv1 := [(2, iv (-1)), (0, rv z 117), (1, iv x1)]) (dcN_1 dcg_650 :) (by decide) rfl ?_
  refine AW.aloadr_n 1 (dcN_2 dcg_650 :) rfl ?_
  refine AW.getR af_X12_118_117 sr_117_51 (dcN_3 dcg_650 :) ?_
  refine AW.iload_n 2 (dcN_4 dcg_650 :) rfl ?_
  obtain ⟨k1, h⟩ := hK h
  refine AW.iald kc_150 sk_150 k1 (dcN_5 dcg_650 :) ?_
  refine AW.aloadr_n 1 (dcN_6 dcg_650 :) rfl ?_
  refine AW.getR af_X12_121_117 sr_117_52 (dcN_7 dcg_650 :) ?_
  refine AW.iload_n 2 (dcN_8 dcg_650 :) rfl ?_
  refine AW.iald kc_151 sk_151 k1 (dcN_9 dcg_650 :) ?_
  obtain ⟨t2, e3, h⟩ := hBe h
  refine AW.join (tgt := 22) (lv1 := [(2, iv (-1)), (0, rv z 117), (1, iv x1)]) (st1 := [iv t2]) (g1 := g) ?_ (fun J14 => ?_)
  · refine AW.istore_n (lv1 := [(3, iv t2), (2, iv (-1)), (0, rv z 117), (1, iv x1)]) (dcN_14 dcg_650 :) (by decide) rfl ?_
    refine AW.iconst (dcN_15 dcg_650 :) ?_
    refine AW.istore (lv1 := [(4, iv 0), (3, iv t2), (2, iv (-1)), (0, rv z 117), (1, iv x1)]) (dcN_16 dcg_650 :) (by decide) rfl ?_
    refine AW.sub (lv1 := [(0, rv z 117), (1, iv x1), (2, iv (-1)), (3, iv t2), (4, iv 0)]) [3, 4, 2, 1, 0] rfl ?_
    exact (M_turningBack_b_ok hdd _ _ _ _ _ h).1 rfl
  refine AW.icmp_ge (tgt := 21) (dcN_10 dcg_650 :) (by decide) (fun c4 => ?_) (fun c4 => ?_)
  · refine AW.iconst (dcN_13 dcg_650 :) ?_
    exact AW.val (e3.trans (if_pos c4)) J14
  · refine AW.iconst (dcN_11 dcg_650 :) ?_
    refine AW.goto (tgt := 22) (dcN_12 dcg_650 :) (by decide) ?_
    exact AW.val (e3.trans (if_neg c4)) J14
theorem M_back_ok {z : AZ} {x1 : Int} {x2 : Int} {g : AG} {r : Int × AG} (h : M_back x1 x2 g = some r) : AMf z yX12_back cX12_back 3 (some .int) 10 [rv z 117, iv x1, iv x2] g r := by
  intro d hdd
  refine AM.of (by decide +kernel) (Nat.le_of_ble_eq_true rfl) ?_
  show AW z (RX12, cX12_back, 3, (some .int)) d (QD (some .int) r) 0 [(0, rv z 117), (1, iv x1), (2, iv x2)] [] g
  unfold M_back at h
  refine AW.iload_n 1 (dcN_0 dcg_660 :) rfl ?_
  refine AW.iconst (dcN_1 dcg_660 :) ?_
  refine AW.aloadr_n 0 (dcN_2 dcg_660 :) rfl ?_
  refine AW.getI af_X12_444_117 sr_117_49 (dcN_3 dcg_660 :) ?_
  refine AW.iconst (dcN_4 dcg_660 :) ?_
  refine AW.isub (dcN_5 dcg_660 :) ?_
  refine AW.callSi (As := [iv x1, iv 0, iv ((g 117 49) - 1)]) (st := []) M_isIn_ok cq_X12_3 st_X12_isIn (Nat.le_trans (by decide) hdd) rfl (dcN_6 dcg_660 :) rfl (Nat.le_of_ble_eq_true rfl) ?_
  obtain ⟨r8, e9, h⟩ := hC h
  refine AW.join (tgt := 46) (lv1 := []) (st1 := [iv r8.1]) (g1 := r8.2) ?_ (fun J11 => ?_)
  · exact AW.iret1 rfl dX12_back_46 h rfl
  replace h := e9
  refine AW.if_eq (tgt := 43) (dcN_7 dcg_660 :) (by decide) (fun c1 => ?_) (fun c1 => ?_)
  · replace h := hT h c1
    refine AW.ldcw (dcN_11 dcg_661 :) cw_X12_450 ?_
    refine AW.sub (lv1 := []) [] rfl ?_
    cases h
    exact J11
  · replace h := hF h c1
    refine AW.iload_n 2 (dcN_8 dcg_660 :) rfl ?_
    refine AW.iconst (dcN_9 dcg_660 :) ?_
    refine AW.iconst (dcN_10 dcg_660 :) ?_
    refine AW.callSi (As := [iv x2, iv 0, iv 1]) (st := []) M_isIn_ok cq_X12_3 st_X12_isIn (Nat.le_trans (by decide) hdd) rfl (dcN_11 dcg_660 :) rfl (Nat.le_of_ble_eq_true rfl) ?_
    refine AW.if_eq (tgt := 43) (dcN_0 dcg_661 :) (by decide) (fun c2 => ?_) (fun c2 => ?_)
    · replace h := hT h c2
      refine AW.ldcw (dcN_11 dcg_661 :) cw_X12_450 ?_
      refine AW.sub (lv1 := []) [] rfl ?_
      cases h
      exact J11
    · replace h := hF h c2
      refine AW.iload_n 2 (dcN_1 dcg_661 :) rfl ?_
      refine AW.if_ne (tgt := 35) (dcN_2 dcg_661 :) (by decide) (fun c3 => ?_) (fun c3 => ?_)
      · replace h := hF h c3
        refine AW.aloadr_n 0 (dcN_7 dcg_661 :) rfl ?_
        refine AW.iload_n 1 (dcN_8 dcg_661 :) rfl ?_
        obtain ⟨r4, e5, h⟩ := hC h
        refine AW.callVi (As := [iv x1]) (st := []) (M_refund_ok e5) cq_X12_462 cr_117_X12_refund (Nat.le_trans (by decide) hdd) rfl (dcN_9 dcg_661 :) rfl (Nat.le_of_ble_eq_true rfl) ?_
        refine AW.goto (tgt := 46) (dcN_10 dcg_661 :) (by decide) ?_
        refine AW.sub (lv1 := []) [] rfl ?_
        cases h
        exact J11
      · replace h := hT h c3
        refine AW.aloadr_n 0 (dcN_3 dcg_661 :) rfl ?_
        refine AW.iload_n 1 (dcN_4 dcg_661 :) rfl ?_
        obtain ⟨r6, e7, h⟩ := hC h
        refine AW.callVi (As := [iv x1]) (st := []) (M_turningBack_ok e7) cq_X12_459 cr_117_X12_turningBack (Nat.le_trans (by decide) hdd) rfl (dcN_5 dcg_661 :) rfl (Nat.le_of_ble_eq_true rfl) ?_
        refine AW.goto (tgt := 46) (dcN_6 dcg_661 :) (by decide) ?_
        refine AW.sub (lv1 := []) [] rfl ?_
        cases h
        exact J11
set_option synthInstance.maxHeartbeats 2000000 in
theorem M_rung_b_ok {z : AZ} {d : Nat} (hdd : 9 ≤ d) {x2 : Int} : ∀ (x1 : Int) (x3 : Int) (g : AG) (r : Int × AG), M_rung_b x2 x1 x3 g = some r → AW z (RX12, cX12_rung, 5, (some .int)) d (QD (some .int) r) 9 [(0, rv z 117), (1, iv x1), (2, iv x2), (3, iv x3)] [] g := by
  refine M_rung_b.partial_correctness x2 (fun x1 x3 g r => AW z (RX12, cX12_rung, 5, (some .int)) d (QD (some .int) r) 9 [(0, rv z 117), (1, iv x1), (2, iv x2), (3, iv x3)] [] g) ?_
  intro fb9 ih x1 x3 g r h
  refine AW.iload_n 3 (dcN_7 dcg_662 :) rfl ?_
  refine AW.aloadr_n 0 (dcN_8 dcg_662 :) rfl ?_
  refine AW.getI af_X12_444_117 sr_117_49 (dcN_9 dcg_662 :) ?_
  refine AW.icmp_ge (tgt := 67) (dcN_10 dcg_662 :) (by decide) (fun c1 => ?_) (fun c1 => ?_)
  · replace h := hT h c1
    refine AW.iload_n 1 (dcN_1 dcg_664 :) rfl ?_
    exact AW.iret1 rfl (dcN_2 dcg_664 :) h rfl
  · replace h := hF h c1
    refine AW.aloadr_n 0 (dcN_11 dcg_662 :) rfl ?_
    refine AW.iload_n 3 (dcN_12 dcg_662 :) rfl ?_
    obtain ⟨r2, e3, h⟩ := hC h
    refine AW.callVi (As := [iv x3]) (st := []) (M_lateOf_ok e3) cq_X12_447 cr_117_X12_lateOf (Nat.le_trans (by decide) hdd) rfl (dcN_13 dcg_662 :) rfl (Nat.le_of_ble_eq_true rfl) ?_
    obtain ⟨t4, e5, h⟩ := hBe h
    refine AW.join (tgt := 30) (lv1 := [(0, rv z 117), (1, iv x1), (2, iv x2), (3, iv x3)]) (st1 := [iv t4]) (g1 := r2.2) ?_ (fun J22 => ?_)
    · refine AW.istore (lv1 := [(4, iv t4), (0, rv z 117), (1, iv x1), (2, iv x2), (3, iv x3)]) (dcN_18 dcg_662 :) (by decide) rfl ?_
      refine AW.aloadr_n 1 (dcN_0 dcg_663 :) rfl ?_
      refine AW.iconst (dcN_1 dcg_663 :) ?_
      obtain ⟨g6, e7, h⟩ := hBe h
      refine AW.putI ap_X12_232_117 sr_117_11 (dcN_2 dcg_663 :) e7 ?_
      refine AW.iload 0 (dcN_3 dcg_663 :) rfl ?_
      obtain ⟨r12, e13, h⟩ := hC h
      refine AW.join (tgt := 56) (lv1 := [(0, rv z 117), (1, iv r12.1), (2, iv x2), (3, iv x3)]) (st1 := []) (g1 := r12.2) ?_ (fun J39 => ?_)
      · refine AW.aloadr_n 0 (dcN_15 dcg_663 :) rfl ?_
        refine AW.iload_n 2 (dcN_16 dcg_663 :) rfl ?_
        obtain ⟨g14, e15, h⟩ := hBe h
        refine AW.putI ap_X12_232_117 sr_117_11 (dcN_17 dcg_663 :) e15 ?_
        refine AW.iinc (lv1 := [(3, iv (x3 + 1)), (0, rv z 117), (1, iv r12.1), (2, iv x2)]) 3 (dcN_18 dcg_663 :) rfl (by decide) rfl ?_
        refine AW.goto (tgt := 9) (dcN_0 dcg_664 :) (by decide) ?_
        refine AW.sub (lv1 := [(0, rv z 117), (1, iv r12.1), (2, iv x2), (3, iv (x3 + 1))]) [1, 2, 3, 0] rfl ?_
        exact ih _ _ _ _ h
      replace h := e13
      refine AW.if_eq (tgt := 56) (dcN_4 dcg_663 :) (by decide) (fun c8 => ?_) (fun c8 => ?_)
      · replace h := hT h c8
        refine AW.sub (lv1 := [(0, rv z 117), (1, iv x1), (2, iv x2), (3, iv x3)]) [1, 2, 3, 4] rfl ?_
        cases h
        exact J39
      · replace h := hF h c8
        refine AW.aloadr_n 1 (dcN_5 dcg_663 :) rfl ?_
        refine AW.iload_n 4 (dcN_6 dcg_663 :) rfl ?_
        obtain ⟨r9, e10, h⟩ := hC h
        refine AW.callVi (As := [iv x3]) (st := []) (M_lateOf_ok e10) cq_X12_447 cr_117_X12_lateOf (Nat.le_trans (by decide) hdd) rfl (dcN_7 dcg_663 :) rfl (Nat.le_of_ble_eq_true rfl) ?_
        refine AW.if_ne (tgt := 56) (dcN_8 dcg_663 :) (by decide) (fun c11 => ?_) (fun c11 => ?_)
        · replace h := hF h c11
          refine AW.sub (lv1 := [(0, rv z 117), (1, iv x1), (2, iv x2), (3, iv x3)]) [1, 2, 3, 4] rfl ?_
          cases h
          exact J39
        · replace h := hT h c11
          refine AW.iload_n 2 (dcN_9 dcg_663 :) rfl ?_
          refine AW.iconst (dcN_10 dcg_663 :) ?_
          refine AW.iload_n 4 (dcN_11 dcg_663 :) rfl ?_
          refine AW.ishl (dcN_12 dcg_663 :) ?_
          refine AW.ior (dcN_13 dcg_663 :) ?_
          refine AW.istore_n (lv1 := [(1, iv (orI x1 (shlI 1 x3))), (4, iv t4), (0, rv z 117), (2, iv x2), (3, iv x3)]) (dcN_14 dcg_663 :) (by decide) rfl ?_
          refine AW.sub (lv1 := [(0, rv z 117), (1, iv (orI x1 (shlI 1 x3))), (2, iv x2), (3, iv x3)]) [2, 0, 3, 4] rfl ?_
          cases h
          exact J39
    refine AW.if_le (tgt := 29) (dcN_14 dcg_662 :) (by decide) (fun c16 => ?_) (fun c16 => ?_)
    · refine AW.iconst (dcN_17 dcg_662 :) ?_
      exact AW.val (e5.trans (if_pos c16)) J22
    · refine AW.iconst (dcN_15 dcg_662 :) ?_
      refine AW.goto (tgt := 30) (dcN_16 dcg_662 :) (by decide) ?_
      exact AW.val (e5.trans (if_neg c16)) J22
theorem M_rung_ok {z : AZ} {g : AG} {r : Int × AG} (h : M_rung g = some r) : AMf z yX12_rung cX12_rung 5 (some .int) 9 [rv z 117] g r := by
  intro d hdd
  refine AM.of (by decide +kernel) (Nat.le_of_ble_eq_true rfl) ?_
  show AW z (RX12, cX12_rung, 5, (some .int)) d (QD (some .int) r) 0 [(0, rv z 117)] [] g
  unfold M_rung at h
  refine AW.iconst (dcN_0 dcg_662 :) ?_
  refine AW.istore_n (lv1 := [(1, iv 0), (0, rv z 117)]) (dcN_1 dcg_662 :) (by decide) rfl ?_
  refine AW.aloadr_n 1 (dcN_2 dcg_662 :) rfl ?_
  refine AW.getI af_X12_232_117 sr_117_11 (dcN_3 dcg_662 :) ?_
  refine AW.istore_n (lv1 := [(2, iv (g 117 11)), (1, iv 0), (0, rv z 117)]) (dcN_4 dcg_662 :) (by decide) rfl ?_
  refine AW.iconst (dcN_5 dcg_662 :) ?_
  refine AW.istore_n (lv1 := [(3, iv 0), (2, iv (g 117 11)), (1, iv 0), (0, rv z 117)]) (dcN_6 dcg_662 :) (by decide) rfl ?_
  refine AW.sub (lv1 := [(0, rv z 117), (1, iv 0), (2, iv (g 117 11)), (3, iv 0)]) [3, 2, 1, 0] rfl ?_
  exact M_rung_b_ok hdd _ _ _ _ h
theorem M_pump_ok {z : AZ} {x1 : Int} {x2 : Int} {g : AG} {r : Int × AG} (h : M_pump x1 x2 g = some r) : AMf z yX12_pump cX12_pump 3 (some .boolean) 2 [rv z 117, iv x1, iv x2] g r := by
  intro d hdd
  refine AM.of (by decide +kernel) (Nat.le_of_ble_eq_true rfl) ?_
  show AW z (RX12, cX12_pump, 3, (some .boolean)) d (QD (some .boolean) r) 0 [(0, rv z 117), (1, iv x1), (2, iv x2)] [] g
  unfold M_pump at h
  refine AW.iload_n 1 (dcN_0 dcg_665 :) rfl ?_
  refine AW.callSi (As := [iv x1]) (st := []) M_isPoint_ok cq_X12_238 st_X12_isPoint (Nat.le_trans (by decide) hdd) rfl (dcN_1 dcg_665 :) rfl (Nat.le_of_ble_eq_true rfl) ?_
  refine AW.if_ne (tgt := 9) (dcN_2 dcg_665 :) (by decide) (fun c1 => ?_) (fun c1 => ?_)
  · replace h := hF h c1
    refine AW.aloadr_n 0 (dcN_5 dcg_665 :) rfl ?_
    refine AW.getR af_X12_130_117 sr_117_55 (dcN_6 dcg_665 :) ?_
    refine AW.iload_n 1 (dcN_7 dcg_665 :) rfl ?_
    refine AW.iload_n 2 (dcN_8 dcg_665 :) rfl ?_
    obtain ⟨k2, h⟩ := hK h
    obtain ⟨k3, h⟩ := hK h
    obtain ⟨g4, e5, h⟩ := hBe h
    refine AW.zast kc_154 sk_154 k2 k3 (dcN_9 dcg_665 :) e5 ?_
    refine AW.iconst (dcN_10 dcg_665 :) ?_
    exact AW.zret1 rfl (Or.inr rfl) (dcN_11 dcg_665 :) h rfl
  · replace h := hT h c1
    refine AW.iconst (dcN_3 dcg_665 :) ?_
    exact AW.zret1 rfl (Or.inl rfl) (dcN_4 dcg_665 :) h rfl
set_option synthInstance.maxHeartbeats 2000000 in
theorem M_pumped_b_ok {z : AZ} {d : Nat} (hdd : 8 ≤ d) {x1 : Int} {x2 : Int} {x3 : Int} {x4 : Int} {x5 : Int} : ∀ (x6 : Int) (x7 : Int) (x8 : Int) (g : AG) (r : Int × AG), M_pumped_b x1 x2 x3 x4 x5 x6 x7 x8 g = some r → AW z (RX12, cX12_pumped, 10, (some .int)) d (QD (some .int) r) 53 [(0, rv z 117), (1, iv x1), (2, iv x2), (3, iv x3), (4, iv x4), (5, iv x5), (6, iv x6), (7, iv x7), (8, iv x8)] [] g := by
  refine M_pumped_b.partial_correctness x1 x2 x3 x4 x5 (fun x6 x7 x8 g r => AW z (RX12, cX12_pumped, 10, (some .int)) d (QD (some .int) r) 53 [(0, rv z 117), (1, iv x1), (2, iv x2), (3, iv x3), (4, iv x4), (5, iv x5), (6, iv x6), (7, iv x7), (8, iv x8)] [] g) ?_
  intro fb9 ih x6 x7 x8 g r h
  refine AW.iload 8 (dcN_13 dcg_667 :) rfl ?_
  refine AW.bipush (dcN_14 dcg_667 :) (by decide) (by decide) ?_
  refine AW.icmp_ge (tgt := 121) (dcN_15 dcg_667 :) (by decide) (fun c1 => ?_) (fun c1 => ?_)
  · replace h := hT h c1
    refine AW.iload 6 (dcN_10 dcg_669 :) rfl ?_
    refine AW.iconst (dcN_11 dcg_669 :) ?_
    obtain ⟨t2, e3, h⟩ := hBe h
    refine AW.join (tgt := 164) (lv1 := [(0, rv z 117), (1, iv x1), (2, iv x2), (3, iv x3), (4, iv x4), (5, iv x5), (6, iv x6), (7, iv x7), (8, iv x8)]) (st1 := [iv t2]) (g1 := g) ?_ (fun J124 => ?_)
    · exact AW.iret1 rfl (dcN_2 dcg_671 :) h rfl
    refine AW.icmp_eq (tgt := 132) (dcN_12 dcg_669 :) (by decide) (fun c4 => ?_) (fun c4 => ?_)
    · refine AW.iload 6 (dcN_1 dcg_670 :) rfl ?_
      refine AW.goto (tgt := 164) (dcN_2 dcg_670 :) (by decide) ?_
      exact AW.val (e3.trans (if_pos c4)) J124
    · refine AW.iload 5 (dcN_13 dcg_669 :) rfl ?_
      refine AW.if_ne (tgt := 137) (dcN_0 dcg_670 :) (by decide) (fun c5 => ?_) (fun c5 => ?_)
      · refine AW.iload 5 (dcN_3 dcg_670 :) rfl ?_
        refine AW.iconst (dcN_4 dcg_670 :) ?_
        refine AW.icmp_ne (tgt := 148) (dcN_5 dcg_670 :) (by decide) (fun c6 => ?_) (fun c6 => ?_)
        · refine AW.iload 4 (dcN_8 dcg_670 :) rfl ?_
          refine AW.sipush (dcN_9 dcg_670 :) (by decide) (by decide) ?_
          refine AW.iadd (dcN_10 dcg_670 :) ?_
          refine AW.iload 7 (dcN_11 dcg_670 :) rfl ?_
          refine AW.icmp_ge (tgt := 163) (dcN_12 dcg_670 :) (by decide) (fun c7 => ?_) (fun c7 => ?_)
          · refine AW.iconst (dcN_1 dcg_671 :) ?_
            exact AW.val (e3.trans ((if_neg c4).trans ((if_neg c5).trans ((if_neg c6).trans (if_pos c7))))) J124
          · refine AW.iconst (dcN_13 dcg_670 :) ?_
            refine AW.goto (tgt := 164) (dcN_0 dcg_671 :) (by decide) ?_
            exact AW.val (e3.trans ((if_neg c4).trans ((if_neg c5).trans ((if_neg c6).trans (if_neg c7))))) J124
        · refine AW.iload 7 (dcN_6 dcg_670 :) rfl ?_
          refine AW.goto (tgt := 164) (dcN_7 dcg_670 :) (by decide) ?_
          exact AW.val (e3.trans ((if_neg c4).trans ((if_neg c5).trans (if_pos c6)))) J124
      · refine AW.iload 6 (dcN_1 dcg_670 :) rfl ?_
        refine AW.goto (tgt := 164) (dcN_2 dcg_670 :) (by decide) ?_
        exact AW.val (e3.trans ((if_neg c4).trans (if_pos c5))) J124
  · replace h := hF h c1
    refine AW.aloadr_n 0 (dcN_16 dcg_667 :) rfl ?_
    refine AW.getR af_X12_130_117 sr_117_55 (dcN_17 dcg_667 :) ?_
    refine AW.iload 8 (dcN_0 dcg_668 :) rfl ?_
    obtain ⟨k8, h⟩ := hK h
    refine AW.zald kc_154 sk_154 k8 (dcN_1 dcg_668 :) ?_
    obtain ⟨r12, e13, h⟩ := hC h
    refine AW.join (tgt := 83) (lv1 := [(0, rv z 117), (1, iv x1), (2, iv x2), (3, iv x3), (4, iv x4), (5, iv x5), (6, iv x6), (7, iv x7), (8, iv x8)]) (st1 := [iv r12.1]) (g1 := r12.2) ?_ (fun J67 => ?_)
    · refine AW.istore (lv1 := [(9, iv r12.1), (0, rv z 117), (1, iv x1), (2, iv x2), (3, iv x3), (4, iv x4), (5, iv x5), (6, iv x6), (7, iv x7), (8, iv x8)]) (dcN_11 dcg_668 :) (by decide) rfl ?_
      refine AW.iload 0 (dcN_12 dcg_668 :) rfl ?_
      refine AW.iconst (dcN_13 dcg_668 :) ?_
      obtain ⟨r17, e18, h⟩ := hC h
      refine AW.join (tgt := 115) (lv1 := [(0, rv z 117), (1, iv x1), (2, iv x2), (3, iv x3), (4, iv x4), (5, iv x5), (6, iv r17.1), (7, iv r17.2.1), (8, iv x8)]) (st1 := []) (g1 := r17.2.2) ?_ (fun J88 => ?_)
      · refine AW.iinc (lv1 := [(8, iv (x8 + 1)), (0, rv z 117), (1, iv x1), (2, iv x2), (3, iv x3), (4, iv x4), (5, iv x5), (6, iv r17.1), (7, iv r17.2.1)]) 8 (dcN_8 dcg_669 :) rfl (by decide) rfl ?_
        refine AW.goto (tgt := 53) (dcN_9 dcg_669 :) (by decide) ?_
        refine AW.sub (lv1 := [(0, rv z 117), (1, iv x1), (2, iv x2), (3, iv x3), (4, iv x4), (5, iv x5), (6, iv r17.1), (7, iv r17.2.1), (8, iv (x8 + 1))]) [1, 2, 3, 4, 5, 6, 7, 8, 0] rfl ?_
        exact ih _ _ _ _ _ h
      replace h := e18
      refine AW.icmp_eq (tgt := 115) (dcN_14 dcg_668 :) (by decide) (fun c14 => ?_) (fun c14 => ?_)
      · replace h := hT h c14
        refine AW.sub (lv1 := [(0, rv z 117), (1, iv x1), (2, iv x2), (3, iv x3), (4, iv x4), (5, iv x5), (6, iv x6), (7, iv x7), (8, iv x8)]) [1, 2, 3, 4, 5, 6, 7, 8, 9] rfl ?_
        cases h
        exact J88
      · replace h := hF h c14
        refine AW.iload 7 (dcN_15 dcg_668 :) rfl ?_
        refine AW.iconst (dcN_16 dcg_668 :) ?_
        refine AW.icmp_eq (tgt := 107) (dcN_17 dcg_668 :) (by decide) (fun c15 => ?_) (fun c15 => ?_)
        · replace h := hT h c15
          refine AW.iload 9 (dcN_4 dcg_669 :) rfl ?_
          refine AW.istore (lv1 := [(6, iv x8), (9, iv r12.1), (0, rv z 117), (1, iv x1), (2, iv x2), (3, iv x3), (4, iv x4), (5, iv x5), (7, iv x7), (8, iv x8)]) (dcN_5 dcg_669 :) (by decide) rfl ?_
          refine AW.iload 1 (dcN_6 dcg_669 :) rfl ?_
          refine AW.istore (lv1 := [(7, iv r12.1), (6, iv x8), (9, iv r12.1), (0, rv z 117), (1, iv x1), (2, iv x2), (3, iv x3), (4, iv x4), (5, iv x5), (8, iv x8)]) (dcN_7 dcg_669 :) (by decide) rfl ?_
          refine AW.sub (lv1 := [(0, rv z 117), (1, iv x1), (2, iv x2), (3, iv x3), (4, iv x4), (5, iv x5), (6, iv x8), (7, iv r12.1), (8, iv x8)]) [3, 4, 5, 6, 7, 8, 1, 0, 9] rfl ?_
          cases h
          exact J88
        · replace h := hF h c15
          refine AW.iload 0 (dcN_0 dcg_669 :) rfl ?_
          refine AW.iload 8 (dcN_1 dcg_669 :) rfl ?_
          refine AW.icmp_lt (tgt := 107) (dcN_2 dcg_669 :) (by decide) (fun c16 => ?_) (fun c16 => ?_)
          · replace h := hT h c16
            refine AW.iload 9 (dcN_4 dcg_669 :) rfl ?_
            refine AW.istore (lv1 := [(6, iv x8), (9, iv r12.1), (0, rv z 117), (1, iv x1), (2, iv x2), (3, iv x3), (4, iv x4), (5, iv x5), (7, iv x7), (8, iv x8)]) (dcN_5 dcg_669 :) (by decide) rfl ?_
            refine AW.iload 1 (dcN_6 dcg_669 :) rfl ?_
            refine AW.istore (lv1 := [(7, iv r12.1), (6, iv x8), (9, iv r12.1), (0, rv z 117), (1, iv x1), (2, iv x2), (3, iv x3), (4, iv x4), (5, iv x5), (8, iv x8)]) (dcN_7 dcg_669 :) (by decide) rfl ?_
            refine AW.sub (lv1 := [(0, rv z 117), (1, iv x1), (2, iv x2), (3, iv x3), (4, iv x4), (5, iv x5), (6, iv x8), (7, iv r12.1), (8, iv x8)]) [3, 4, 5, 6, 7, 8, 1, 0, 9] rfl ?_
            cases h
            exact J88
          · replace h := hF h c16
            refine AW.goto (tgt := 115) (dcN_3 dcg_669 :) (by decide) ?_
            refine AW.sub (lv1 := [(0, rv z 117), (1, iv x1), (2, iv x2), (3, iv x3), (4, iv x4), (5, iv x5), (6, iv x6), (7, iv x7), (8, iv x8)]) [1, 2, 3, 4, 5, 6, 7, 8, 9] rfl ?_
            cases h
            exact J88
    replace h := e13
    refine AW.if_eq (tgt := 82) (dcN_2 dcg_668 :) (by decide) (fun c9 => ?_) (fun c9 => ?_)
    · replace h := hT h c9
      refine AW.iconst (dcN_10 dcg_668 :) ?_
      cases h
      exact J67
    · replace h := hF h c9
      refine AW.aloadr_n 0 (dcN_3 dcg_668 :) rfl ?_
      refine AW.iload_n 1 (dcN_4 dcg_668 :) rfl ?_
      refine AW.iload_n 2 (dcN_5 dcg_668 :) rfl ?_
      refine AW.iload 8 (dcN_6 dcg_668 :) rfl ?_
      refine AW.iload_n 3 (dcN_7 dcg_668 :) rfl ?_
      obtain ⟨r10, e11, h⟩ := hC h
      refine AW.callVi (As := [iv x1, iv x2, iv x8, iv x3]) (st := []) (M_led_ok e11) cq_X12_441 cr_117_X12_led (Nat.le_trans (by decide) hdd) rfl (dcN_8 dcg_668 :) rfl (Nat.le_of_ble_eq_true rfl) ?_
      refine AW.goto (tgt := 83) (dcN_9 dcg_668 :) (by decide) ?_
      cases h
      exact J67
theorem M_pumped_ok {z : AZ} {x1 : Int} {x2 : Int} {x3 : Int} {x4 : Int} {x5 : Int} {g : AG} {r : Int × AG} (h : M_pumped x1 x2 x3 x4 x5 g = some r) : AMf z yX12_pumped cX12_pumped 10 (some .int) 8 [rv z 117, iv x1, iv x2, iv x3, iv x4, iv x5] g r := by
  intro d hdd
  refine AM.of (by decide +kernel) (Nat.le_of_ble_eq_true rfl) ?_
  show AW z (RX12, cX12_pumped, 10, (some .int)) d (QD (some .int) r) 0 [(0, rv z 117), (1, iv x1), (2, iv x2), (3, iv x3), (4, iv x4), (5, iv x5)] [] g
  unfold M_pumped at h
  refine AW.aloadr_n 0 (dcN_0 dcg_666 :) rfl ?_
  refine AW.iload_n 1 (dcN_1 dcg_666 :) rfl ?_
  refine AW.callVi (As := [iv x1]) (st := []) M_isBoat_ok cq_X12_435 cr_117_X12_isBoat (Nat.le_trans (by decide) hdd) rfl (dcN_2 dcg_666 :) rfl (Nat.le_of_ble_eq_true rfl) ?_
  refine AW.if_eq (tgt := 42) (dcN_3 dcg_666 :) (by decide) (fun c1 => ?_) (fun c1 => ?_)
  · replace h := hT h c1
    refine AW.iconst (dcN_5 dcg_667 :) ?_
    exact AW.iret1 rfl (dcN_6 dcg_667 :) h rfl
  · replace h := hF h c1
    refine AW.iload_n 2 (dcN_4 dcg_666 :) rfl ?_
    refine AW.callSi (As := [iv x2]) (st := []) M_isPoint_ok cq_X12_238 st_X12_isPoint (Nat.le_trans (by decide) hdd) rfl (dcN_5 dcg_666 :) rfl (Nat.le_of_ble_eq_true rfl) ?_
    refine AW.if_eq (tgt := 42) (dcN_6 dcg_666 :) (by decide) (fun c2 => ?_) (fun c2 => ?_)
    · replace h := hT h c2
      refine AW.iconst (dcN_5 dcg_667 :) ?_
      exact AW.iret1 rfl (dcN_6 dcg_667 :) h rfl
    · replace h := hF h c2
      refine AW.iload_n 3 (dcN_7 dcg_666 :) rfl ?_
      refine AW.callSi (As := [iv x3]) (st := []) M_isTime_ok cq_X12_438 st_X12_isTime (Nat.le_trans (by decide) hdd) rfl (dcN_8 dcg_666 :) rfl (Nat.le_of_ble_eq_true rfl) ?_
      refine AW.if_eq (tgt := 42) (dcN_9 dcg_666 :) (by decide) (fun c3 => ?_) (fun c3 => ?_)
      · replace h := hT h c3
        refine AW.iconst (dcN_5 dcg_667 :) ?_
        exact AW.iret1 rfl (dcN_6 dcg_667 :) h rfl
      · replace h := hF h c3
        refine AW.iload 4 (dcN_10 dcg_666 :) rfl ?_
        refine AW.iconst (dcN_11 dcg_666 :) ?_
        refine AW.iload_n 3 (dcN_12 dcg_666 :) rfl ?_
        refine AW.callSi (As := [iv x4, iv 0, iv x3]) (st := []) M_isIn_ok cq_X12_3 st_X12_isIn (Nat.le_trans (by decide) hdd) rfl (dcN_13 dcg_666 :) rfl (Nat.le_of_ble_eq_true rfl) ?_
        refine AW.if_eq (tgt := 42) (dcN_14 dcg_666 :) (by decide) (fun c4 => ?_) (fun c4 => ?_)
        · replace h := hT h c4
          refine AW.iconst (dcN_5 dcg_667 :) ?_
          exact AW.iret1 rfl (dcN_6 dcg_667 :) h rfl
        · replace h := hF h c4
          refine AW.iload 5 (dcN_0 dcg_667 :) rfl ?_
          refine AW.iconst (dcN_1 dcg_667 :) ?_
          refine AW.iconst (dcN_2 dcg_667 :) ?_
          refine AW.callSi (As := [iv x5, iv 0, iv 2]) (st := []) M_isIn_ok cq_X12_3 st_X12_isIn (Nat.le_trans (by decide) hdd) rfl (dcN_3 dcg_667 :) rfl (Nat.le_of_ble_eq_true rfl) ?_
          refine AW.if_ne (tgt := 44) (dcN_4 dcg_667 :) (by decide) (fun c5 => ?_) (fun c5 => ?_)
          · replace h := hF h c5
            refine AW.iconst (dcN_7 dcg_667 :) ?_
            refine AW.istore (lv1 := [(6, iv (-1)), (0, rv z 117), (1, iv x1), (2, iv x2), (3, iv x3), (4, iv x4), (5, iv x5)]) (dcN_8 dcg_667 :) (by decide) rfl ?_
            refine AW.iconst (dcN_9 dcg_667 :) ?_
            refine AW.istore (lv1 := [(7, iv (-1)), (6, iv (-1)), (0, rv z 117), (1, iv x1), (2, iv x2), (3, iv x3), (4, iv x4), (5, iv x5)]) (dcN_10 dcg_667 :) (by decide) rfl ?_
            refine AW.iconst (dcN_11 dcg_667 :) ?_
            refine AW.istore (lv1 := [(8, iv 0), (7, iv (-1)), (6, iv (-1)), (0, rv z 117), (1, iv x1), (2, iv x2), (3, iv x3), (4, iv x4), (5, iv x5)]) (dcN_12 dcg_667 :) (by decide) rfl ?_
            refine AW.sub (lv1 := [(0, rv z 117), (1, iv x1), (2, iv x2), (3, iv x3), (4, iv x4), (5, iv x5), (6, iv (-1)), (7, iv (-1)), (8, iv 0)]) [3, 4, 5, 6, 7, 8, 2, 1, 0] rfl ?_
            exact M_pumped_b_ok hdd _ _ _ _ _ h
          · replace h := hT h c5
            refine AW.iconst (dcN_5 dcg_667 :) ?_
            exact AW.iret1 rfl (dcN_6 dcg_667 :) h rfl
set_option synthInstance.maxHeartbeats 2000000 in
theorem M_log_b_ok {z : AZ} {d : Nat} (hdd : 2 ≤ d) {x1 : Int} {x2 : Int} {x3 : Int} {g : AG} : ∀ (r : Int × AG), M_log_b x1 x2 x3 g = some r → AW z (RX12, cX12_log, 4, (some .int)) d (QD (some .int) r) 66 [(0, rv z 117), (1, iv x1), (2, iv x2), (3, iv x3)] [] g := by
  intro r h
  unfold M_log_b at h
  refine AW.aloadr_n 0 (dcN_2 dcg_674 :) rfl ?_
  refine AW.getR af_X12_136_117 sr_117_57 (dcN_3 dcg_674 :) ?_
  refine AW.bipush (dcN_4 dcg_674 :) (by decide) (by decide) ?_
  refine AW.iload_n 1 (dcN_5 dcg_674 :) rfl ?_
  refine AW.imul (dcN_6 dcg_674 :) ?_
  refine AW.aloadr_n 0 (dcN_7 dcg_674 :) rfl ?_
  refine AW.getR af_X12_133_117 sr_117_56 (dcN_8 dcg_674 :) ?_
  refine AW.iload_n 1 (dcN_9 dcg_674 :) rfl ?_
  obtain ⟨k1, h⟩ := hK h
  refine AW.iald kc_155 sk_155 k1 (dcN_10 dcg_674 :) ?_
  refine AW.iadd (dcN_11 dcg_674 :) ?_
  refine AW.iload_n 2 (dcN_12 dcg_674 :) rfl ?_
  obtain ⟨k2, h⟩ := hK h
  obtain ⟨g3, e4, h⟩ := hBe h
  refine AW.iast kc_156 sk_156 k2 (dcN_13 dcg_674 :) e4 ?_
  refine AW.aloadr_n 0 (dcN_14 dcg_674 :) rfl ?_
  refine AW.getR af_X12_139_117 sr_117_58 (dcN_15 dcg_674 :) ?_
  refine AW.bipush (dcN_16 dcg_674 :) (by decide) (by decide) ?_
  refine AW.iload_n 1 (dcN_17 dcg_674 :) rfl ?_
  refine AW.imul (dcN_18 dcg_674 :) ?_
  refine AW.aloadr_n 0 (dcN_19 dcg_674 :) rfl ?_
  refine AW.getR af_X12_133_117 sr_117_56 (dcN_20 dcg_674 :) ?_
  refine AW.iload_n 1 (dcN_21 dcg_674 :) rfl ?_
  refine AW.iald kc_155 sk_155 k1 (dcN_0 dcg_675 :) ?_
  refine AW.iadd (dcN_1 dcg_675 :) ?_
  refine AW.iload_n 3 (dcN_2 dcg_675 :) rfl ?_
  obtain ⟨k5, h⟩ := hK h
  obtain ⟨g6, e7, h⟩ := hBe h
  refine AW.iast kc_157 sk_157 k5 (dcN_3 dcg_675 :) e7 ?_
  refine AW.aloadr_n 0 (dcN_4 dcg_675 :) rfl ?_
  refine AW.getR af_X12_133_117 sr_117_56 (dcN_5 dcg_675 :) ?_
  refine AW.iload_n 1 (dcN_6 dcg_675 :) rfl ?_
  refine AW.dup2r (dcN_7 dcg_675 :) ?_
  refine AW.iald kc_155 sk_155 k1 (dcN_8 dcg_675 :) ?_
  refine AW.iconst (dcN_9 dcg_675 :) ?_
  refine AW.iadd (dcN_10 dcg_675 :) ?_
  obtain ⟨g8, e9, h⟩ := hBe h
  refine AW.iast kc_155 sk_155 k1 (dcN_11 dcg_675 :) e9 ?_
  refine AW.aloadr_n 0 (dcN_12 dcg_675 :) rfl ?_
  refine AW.getR af_X12_133_117 sr_117_56 (dcN_13 dcg_675 :) ?_
  refine AW.iload_n 1 (dcN_14 dcg_675 :) rfl ?_
  refine AW.iald kc_155 sk_155 k1 (dcN_15 dcg_675 :) ?_
  exact AW.iret1 rfl (dcN_16 dcg_675 :) h rfl
theorem M_log_ok {z : AZ} {x1 : Int} {x2 : Int} {x3 : Int} {g : AG} {r : Int × AG} (h : M_log x1 x2 x3 g = some r) : AMf z yX12_log cX12_log 4 (some .int) 2 [rv z 117, iv x1, iv x2, iv x3] g r := by
  intro d hdd
  refine AM.of (by decide +kernel) (Nat.le_of_ble_eq_true rfl) ?_
  show AW z (RX12, cX12_log, 4, (some .int)) d (QD (some .int) r) 0 [(0, rv z 117), (1, iv x1), (2, iv x2), (3, iv x3)] [] g
  unfold M_log at h
  refine AW.aloadr_n 0 (dcN_0 dcg_672 :) rfl ?_
  refine AW.iload_n 1 (dcN_1 dcg_672 :) rfl ?_
  refine AW.callVi (As := [iv x1]) (st := []) M_isBoat_ok cq_X12_435 cr_117_X12_isBoat (Nat.le_trans (by decide) hdd) rfl (dcN_2 dcg_672 :) rfl (Nat.le_of_ble_eq_true rfl) ?_
  refine AW.if_eq (tgt := 64) (dcN_3 dcg_672 :) (by decide) (fun c1 => ?_) (fun c1 => ?_)
  · replace h := hT h c1
    refine AW.iconst (dcN_0 dcg_674 :) ?_
    exact AW.iret1 rfl (dcN_1 dcg_674 :) h rfl
  · replace h := hF h c1
    refine AW.iload_n 2 (dcN_4 dcg_672 :) rfl ?_
    refine AW.callSi (As := [iv x2]) (st := []) M_isPoint_ok cq_X12_238 st_X12_isPoint (Nat.le_trans (by decide) hdd) rfl (dcN_5 dcg_672 :) rfl (Nat.le_of_ble_eq_true rfl) ?_
    refine AW.if_eq (tgt := 64) (dcN_6 dcg_672 :) (by decide) (fun c2 => ?_) (fun c2 => ?_)
    · replace h := hT h c2
      refine AW.iconst (dcN_0 dcg_674 :) ?_
      exact AW.iret1 rfl (dcN_1 dcg_674 :) h rfl
    · replace h := hF h c2
      refine AW.iload_n 3 (dcN_7 dcg_672 :) rfl ?_
      refine AW.callSi (As := [iv x3]) (st := []) M_isTime_ok cq_X12_438 st_X12_isTime (Nat.le_trans (by decide) hdd) rfl (dcN_8 dcg_672 :) rfl (Nat.le_of_ble_eq_true rfl) ?_
      refine AW.if_eq (tgt := 64) (dcN_9 dcg_672 :) (by decide) (fun c3 => ?_) (fun c3 => ?_)
      · replace h := hT h c3
        refine AW.iconst (dcN_0 dcg_674 :) ?_
        exact AW.iret1 rfl (dcN_1 dcg_674 :) h rfl
      · replace h := hF h c3
        refine AW.aloadr_n 0 (dcN_10 dcg_672 :) rfl ?_
        refine AW.getR af_X12_133_117 sr_117_56 (dcN_11 dcg_672 :) ?_
        refine AW.iload_n 1 (dcN_12 dcg_672 :) rfl ?_
        obtain ⟨k4, h⟩ := hK h
        refine AW.iald kc_155 sk_155 k4 (dcN_13 dcg_672 :) ?_
        refine AW.bipush (dcN_14 dcg_672 :) (by decide) (by decide) ?_
        refine AW.icmp_eq (tgt := 64) (dcN_15 dcg_672 :) (by decide) (fun c5 => ?_) (fun c5 => ?_)
        · replace h := hT h c5
          refine AW.iconst (dcN_0 dcg_674 :) ?_
          exact AW.iret1 rfl (dcN_1 dcg_674 :) h rfl
        · replace h := hF h c5
          refine AW.aloadr_n 0 (dcN_0 dcg_673 :) rfl ?_
          refine AW.getR af_X12_133_117 sr_117_56 (dcN_1 dcg_673 :) ?_
          refine AW.iload_n 1 (dcN_2 dcg_673 :) rfl ?_
          refine AW.iald kc_155 sk_155 k4 (dcN_3 dcg_673 :) ?_
          refine AW.if_le (tgt := 66) (dcN_4 dcg_673 :) (by decide) (fun c6 => ?_) (fun c6 => ?_)
          · replace h := hT h c6
            exact M_log_b_ok hdd _ h
          · replace h := hF h c6
            refine AW.iload_n 3 (dcN_5 dcg_673 :) rfl ?_
            refine AW.aloadr_n 0 (dcN_6 dcg_673 :) rfl ?_
            refine AW.getR af_X12_139_117 sr_117_58 (dcN_7 dcg_673 :) ?_
            refine AW.bipush (dcN_8 dcg_673 :) (by decide) (by decide) ?_
            refine AW.iload_n 1 (dcN_9 dcg_673 :) rfl ?_
            refine AW.imul (dcN_10 dcg_673 :) ?_
            refine AW.aloadr_n 0 (dcN_11 dcg_673 :) rfl ?_
            refine AW.getR af_X12_133_117 sr_117_56 (dcN_12 dcg_673 :) ?_
            refine AW.iload_n 1 (dcN_13 dcg_673 :) rfl ?_
            refine AW.iald kc_155 sk_155 k4 (dcN_14 dcg_673 :) ?_
            refine AW.iadd (dcN_15 dcg_673 :) ?_
            refine AW.iconst (dcN_16 dcg_673 :) ?_
            refine AW.isub (dcN_17 dcg_673 :) ?_
            obtain ⟨k7, h⟩ := hK h
            refine AW.iald kc_157 sk_157 k7 (dcN_18 dcg_673 :) ?_
            refine AW.icmp_gt (tgt := 66) (dcN_19 dcg_673 :) (by decide) (fun c8 => ?_) (fun c8 => ?_)
            · replace h := hT h c8
              exact M_log_b_ok hdd _ h
            · replace h := hF h c8
              refine AW.iconst (dcN_0 dcg_674 :) ?_
              exact AW.iret1 rfl (dcN_1 dcg_674 :) h rfl
theorem M_isSpan_ok {z : AZ} {x0 : Int} {x1 : Int} {g : AG} : AMf z yX12_isSpan cX12_isSpan 2 (some .boolean) 2 [iv x0, iv x1] g ((M_isSpan x0 x1), g) := by
  intro d hdd
  refine AM.of (by decide +kernel) (Nat.le_of_ble_eq_true rfl) ?_
  show AW z (RX12, cX12_isSpan, 2, (some .boolean)) d (QD (some .boolean) ((M_isSpan x0 x1), g)) 0 [(0, iv x0), (1, iv x1)] [] g
  refine AW.iload_n 0 (dcN_0 dcg_685 :) rfl ?_
  refine AW.callSi (As := [iv x0]) (st := []) M_isTime_ok cq_X12_438 st_X12_isTime (Nat.le_trans (by decide) hdd) rfl (dcN_1 dcg_685 :) rfl (Nat.le_of_ble_eq_true rfl) ?_
  refine AW.join (tgt := 23) (lv1 := [(0, iv x0), (1, iv x1)]) (st1 := [iv (if nw (M_isTime x0) = 0 then 0 else (if nw (M_isIn x1 x0 20159) = 0 then 0 else 1))]) (g1 := g) ?_ (fun J4 => ?_)
  · exact AW.zret rfl (by (repeat' split) <;> first | exact Or.inl rfl | exact Or.inr rfl) (dcN_11 dcg_685 :) ⟨congrArg (fun v => some (iv v)) (show M_isSpan x0 x1  = (if nw (M_isTime x0) = 0 then 0 else (if nw (M_isIn x1 x0 20159) = 0 then 0 else 1)) from rfl).symm, rfl⟩
  refine AW.if_eq (tgt := 22) (dcN_2 dcg_685 :) (by decide) (fun c1 => ?_) (fun c1 => ?_)
  · refine AW.iconst (dcN_10 dcg_685 :) ?_
    exact AW.val (if_pos c1) J4
  · refine AW.iload_n 1 (dcN_3 dcg_685 :) rfl ?_
    refine AW.iload_n 0 (dcN_4 dcg_685 :) rfl ?_
    refine AW.sipush (dcN_5 dcg_685 :) (by decide) (by decide) ?_
    refine AW.callSi (As := [iv x1, iv x0, iv 20159]) (st := []) M_isIn_ok cq_X12_3 st_X12_isIn (Nat.le_trans (by decide) hdd) rfl (dcN_6 dcg_685 :) rfl (Nat.le_of_ble_eq_true rfl) ?_
    refine AW.if_eq (tgt := 22) (dcN_7 dcg_685 :) (by decide) (fun c2 => ?_) (fun c2 => ?_)
    · refine AW.iconst (dcN_10 dcg_685 :) ?_
      exact AW.val ((if_neg c1).trans (if_pos c2)) J4
    · refine AW.iconst (dcN_8 dcg_685 :) ?_
      refine AW.goto (tgt := 23) (dcN_9 dcg_685 :) (by decide) ?_
      exact AW.val ((if_neg c1).trans (if_neg c2)) J4
set_option synthInstance.maxHeartbeats 2000000 in
theorem M_between_b_ok {z : AZ} {d : Nat} (hdd : 8 ≤ d) {x1 : Int} {x2 : Int} {x5 : Int} {x8 : Int} {x9 : Int} {g : AG} : ∀ (r : Int × AG), M_between_b x1 x2 x5 x8 x9 g = some r → AW z (RX12, cX12_between, 11, (some .boolean)) d (QD (some .boolean) r) 136 [(0, rv z 117), (1, iv x1), (2, iv x2), (5, iv x5), (8, iv x8), (9, iv x9)] [] g := by
  intro r h
  unfold M_between_b at h
  refine AW.iload 5 (dcN_6 dcg_680 :) rfl ?_
  refine AW.if_eq (tgt := 143) (dcN_7 dcg_680 :) (by decide) (fun c1 => ?_) (fun c1 => ?_)
  · replace h := hT h c1
    refine AW.aloadr_n 0 (dcN_10 dcg_680 :) rfl ?_
    refine AW.iload_n 1 (dcN_11 dcg_680 :) rfl ?_
    refine AW.iload_n 2 (dcN_12 dcg_680 :) rfl ?_
    refine AW.aloadr_n 0 (dcN_13 dcg_680 :) rfl ?_
    refine AW.getR af_X12_136_117 sr_117_57 (dcN_14 dcg_680 :) ?_
    refine AW.bipush (dcN_15 dcg_680 :) (by decide) (by decide) ?_
    refine AW.iload_n 1 (dcN_16 dcg_680 :) rfl ?_
    refine AW.imul (dcN_17 dcg_680 :) ?_
    refine AW.iload 3 (dcN_18 dcg_680 :) rfl ?_
    refine AW.iadd (dcN_19 dcg_680 :) ?_
    refine AW.iconst (dcN_20 dcg_680 :) ?_
    refine AW.iadd (dcN_21 dcg_680 :) ?_
    obtain ⟨k2, h⟩ := hK h
    refine AW.iald kc_156 sk_156 k2 (dcN_22 dcg_680 :) ?_
    refine AW.iload 4 (dcN_0 dcg_681 :) rfl ?_
    obtain ⟨r3, e4, h⟩ := hC h
    refine AW.callVi (As := [iv x1, iv x2, iv (g 156 (ix (((10 * x1) + x5) + 1))), iv x8]) (st := []) (M_led_ok e4) cq_X12_441 cr_117_X12_led (Nat.le_trans (by decide) hdd) rfl (dcN_1 dcg_681 :) rfl (Nat.le_of_ble_eq_true rfl) ?_
    refine AW.istore (lv1 := [(10, iv r3.1), (0, rv z 117), (1, iv x1), (2, iv x2), (5, iv x5), (8, iv x8), (9, iv x9)]) (dcN_2 dcg_681 :) (by decide) rfl ?_
    refine AW.iload 0 (dcN_3 dcg_681 :) rfl ?_
    refine AW.iconst (dcN_4 dcg_681 :) ?_
    obtain ⟨r9, e10, h⟩ := hC h
    refine AW.join (tgt := 197) (lv1 := []) (st1 := [iv r9.1]) (g1 := r9.2) ?_ (fun J170 => ?_)
    · obtain ⟨k11, h⟩ := hK h
      exact AW.zret1 rfl k11 (dcN_3 dcg_682 :) h rfl
    replace h := e10
    refine AW.icmp_eq (tgt := 196) (dcN_5 dcg_681 :) (by decide) (fun c5 => ?_) (fun c5 => ?_)
    · replace h := hT h c5
      refine AW.iconst (dcN_2 dcg_682 :) ?_
      refine AW.sub (lv1 := []) [] rfl ?_
      cases h
      exact J170
    · replace h := hF h c5
      refine AW.iload 0 (dcN_6 dcg_681 :) rfl ?_
      refine AW.aloadr_n 1 (dcN_7 dcg_681 :) rfl ?_
      refine AW.getR af_X12_139_117 sr_117_58 (dcN_8 dcg_681 :) ?_
      refine AW.bipush (dcN_9 dcg_681 :) (by decide) (by decide) ?_
      refine AW.iload_n 2 (dcN_10 dcg_681 :) rfl ?_
      refine AW.imul (dcN_11 dcg_681 :) ?_
      refine AW.iload 4 (dcN_12 dcg_681 :) rfl ?_
      refine AW.iadd (dcN_13 dcg_681 :) ?_
      refine AW.iconst (dcN_14 dcg_681 :) ?_
      refine AW.iadd (dcN_15 dcg_681 :) ?_
      refine AW.iald kc_157 sk_157 k2 (dcN_16 dcg_681 :) ?_
      obtain ⟨t6, e7, h⟩ := hBe h
      refine AW.join (tgt := 197) (lv1 := [(10, iv r3.1), (0, rv z 117), (1, iv x1), (2, iv x2), (5, iv x5), (8, iv x8), (9, iv x9)]) (st1 := [iv t6]) (g1 := r3.2) ?_ (fun J189 => ?_)
      · refine AW.sub (lv1 := []) [] rfl ?_
        cases h
        exact J170
      refine AW.icmp_gt (tgt := 196) (dcN_17 dcg_681 :) (by decide) (fun c8 => ?_) (fun c8 => ?_)
      · refine AW.iconst (dcN_2 dcg_682 :) ?_
        exact AW.val (e7.trans (if_pos c8)) J189
      · refine AW.iconst (dcN_0 dcg_682 :) ?_
        refine AW.goto (tgt := 197) (dcN_1 dcg_682 :) (by decide) ?_
        exact AW.val (e7.trans (if_neg c8)) J189
  · replace h := hF h c1
    refine AW.iconst (dcN_8 dcg_680 :) ?_
    exact AW.zret1 rfl (Or.inr rfl) (dcN_9 dcg_680 :) h rfl
theorem M_between_ok {z : AZ} {x1 : Int} {x2 : Int} {x3 : Int} {x4 : Int} {x5 : Int} {g : AG} {r : Int × AG} (h : M_between x1 x2 x3 x4 x5 g = some r) : AMf z yX12_between cX12_between 11 (some .boolean) 8 [rv z 117, iv x1, iv x2, iv x3, iv x4, iv x5] g r := by
  intro d hdd
  refine AM.of (by decide +kernel) (Nat.le_of_ble_eq_true rfl) ?_
  show AW z (RX12, cX12_between, 11, (some .boolean)) d (QD (some .boolean) r) 0 [(0, rv z 117), (1, iv x1), (2, iv x2), (3, iv x3), (4, iv x4), (5, iv x5)] [] g
  unfold M_between at h
  refine AW.iload 5 (dcN_0 dcg_676 :) rfl ?_
  refine AW.iconst (dcN_1 dcg_676 :) ?_
  obtain ⟨r3, e4, h⟩ := hC h
  refine AW.join (tgt := 22) (lv1 := [(0, rv z 117), (1, iv x1), (2, iv x2), (3, iv x3), (4, iv x4), (5, iv x5)]) (st1 := [iv r3.1]) (g1 := r3.2) ?_ (fun J3 => ?_)
  · refine AW.istore (lv1 := [(6, iv r3.1), (0, rv z 117), (1, iv x1), (2, iv x2), (3, iv x3), (4, iv x4), (5, iv x5)]) (dcN_13 dcg_676 :) (by decide) rfl ?_
    refine AW.aloadr_n 1 (dcN_14 dcg_676 :) rfl ?_
    refine AW.iload_n 2 (dcN_15 dcg_676 :) rfl ?_
    refine AW.iload 6 (dcN_16 dcg_676 :) rfl ?_
    refine AW.iconst (dcN_17 dcg_676 :) ?_
    obtain ⟨r8, e9, h⟩ := hC h
    refine AW.join (tgt := 53) (lv1 := [(0, rv z 117), (1, iv x1), (2, iv x2), (3, iv x3), (4, iv x4), (5, iv x5), (6, iv r3.1)]) (st1 := [iv r8.1, iv x1, rv z 117]) (g1 := r8.2) ?_ (fun J29 => ?_)
    · refine AW.iload_n 2 (dcN_13 dcg_677 :) rfl ?_
      refine AW.iload 6 (dcN_14 dcg_677 :) rfl ?_
      obtain ⟨r10, e11, h⟩ := hC h
      refine AW.callVi (As := [iv x1, iv r8.1, iv x2, iv r3.1]) (st := []) (M_led_ok e11) cq_X12_441 cr_117_X12_led (Nat.le_trans (by decide) hdd) rfl (dcN_15 dcg_677 :) rfl (Nat.le_of_ble_eq_true rfl) ?_
      refine AW.istore (lv1 := [(7, iv r10.1), (0, rv z 117), (1, iv x1), (2, iv x2), (3, iv x3), (4, iv x4), (5, iv x5), (6, iv r3.1)]) (dcN_16 dcg_677 :) (by decide) rfl ?_
      refine AW.iload 0 (dcN_17 dcg_677 :) rfl ?_
      refine AW.iconst (dcN_18 dcg_677 :) ?_
      refine AW.icmp_ne (tgt := 69) (dcN_0 dcg_678 :) (by decide) (fun c12 => ?_) (fun c12 => ?_)
      · replace h := hF h c12
        refine AW.iload 0 (dcN_3 dcg_678 :) rfl ?_
        refine AW.iload_n 4 (dcN_4 dcg_678 :) rfl ?_
        obtain ⟨t13, e14, h⟩ := hBe h
        refine AW.join (tgt := 81) (lv1 := [(7, iv r10.1), (0, rv z 117), (1, iv x1), (2, iv x2), (3, iv x3), (4, iv x4), (5, iv x5), (6, iv r3.1)]) (st1 := [iv t13]) (g1 := r10.2) ?_ (fun J72 => ?_)
        · refine AW.istore (lv1 := [(8, iv t13), (7, iv r10.1), (0, rv z 117), (1, iv x1), (2, iv x2), (3, iv x3), (4, iv x4), (5, iv x5), (6, iv r3.1)]) (dcN_9 dcg_678 :) (by decide) rfl ?_
          refine AW.iload 7 (dcN_10 dcg_678 :) rfl ?_
          refine AW.iconst (dcN_11 dcg_678 :) ?_
          refine AW.iadd (dcN_12 dcg_678 :) ?_
          refine AW.aloadr_n 2 (dcN_13 dcg_678 :) rfl ?_
          refine AW.getR af_X12_133_117 sr_117_56 (dcN_14 dcg_678 :) ?_
          refine AW.iload_n 3 (dcN_15 dcg_678 :) rfl ?_
          obtain ⟨k15, h⟩ := hK h
          refine AW.iald kc_155 sk_155 k15 (dcN_16 dcg_678 :) ?_
          obtain ⟨t16, e17, h⟩ := hBe h
          refine AW.join (tgt := 101) (lv1 := [(8, iv t13), (7, iv r10.1), (0, rv z 117), (1, iv x1), (2, iv x2), (3, iv x3), (4, iv x4), (5, iv x5), (6, iv r3.1)]) (st1 := [iv t16]) (g1 := r10.2) ?_ (fun J93 => ?_)
          · refine AW.istore (lv1 := [(9, iv t16), (8, iv t13), (7, iv r10.1), (0, rv z 117), (1, iv x1), (2, iv x2), (3, iv x3), (4, iv x4), (5, iv x5), (6, iv r3.1)]) (dcN_3 dcg_679 :) (by decide) rfl ?_
            refine AW.iload 1 (dcN_4 dcg_679 :) rfl ?_
            refine AW.iload 7 (dcN_5 dcg_679 :) rfl ?_
            refine AW.icmp_gt (tgt := 134) (dcN_6 dcg_679 :) (by decide) (fun c18 => ?_) (fun c18 => ?_)
            · replace h := hT h c18
              refine AW.iconst (dcN_4 dcg_680 :) ?_
              exact AW.zret1 rfl (Or.inl rfl) (dcN_5 dcg_680 :) h rfl
            · replace h := hF h c18
              refine AW.iload 0 (dcN_7 dcg_679 :) rfl ?_
              refine AW.if_ne (tgt := 136) (dcN_8 dcg_679 :) (by decide) (fun c19 => ?_) (fun c19 => ?_)
              · replace h := hF h c19
                refine AW.sub (lv1 := [(0, rv z 117), (1, iv x1), (2, iv x2), (5, iv x5), (8, iv t13), (9, iv t16)]) [3, 4, 5, 8, 1, 0] rfl ?_
                exact M_between_b_ok hdd _ h
              · replace h := hT h c19
                refine AW.iload 1 (dcN_9 dcg_679 :) rfl ?_
                refine AW.aloadr_n 3 (dcN_10 dcg_679 :) rfl ?_
                refine AW.getR af_X12_139_117 sr_117_58 (dcN_11 dcg_679 :) ?_
                refine AW.bipush (dcN_12 dcg_679 :) (by decide) (by decide) ?_
                refine AW.iload_n 4 (dcN_13 dcg_679 :) rfl ?_
                refine AW.imul (dcN_14 dcg_679 :) ?_
                refine AW.iload 8 (dcN_15 dcg_679 :) rfl ?_
                refine AW.iadd (dcN_16 dcg_679 :) ?_
                refine AW.iconst (dcN_0 dcg_680 :) ?_
                refine AW.iadd (dcN_1 dcg_680 :) ?_
                obtain ⟨k20, h⟩ := hK h
                refine AW.iald kc_157 sk_157 k20 (dcN_2 dcg_680 :) ?_
                refine AW.icmp_lt (tgt := 136) (dcN_3 dcg_680 :) (by decide) (fun c21 => ?_) (fun c21 => ?_)
                · replace h := hT h c21
                  refine AW.sub (lv1 := [(0, rv z 117), (1, iv x1), (2, iv x2), (5, iv x5), (8, iv t13), (9, iv t16)]) [3, 4, 5, 8, 1, 0] rfl ?_
                  exact M_between_b_ok hdd _ h
                · replace h := hF h c21
                  refine AW.iconst (dcN_4 dcg_680 :) ?_
                  exact AW.zret1 rfl (Or.inl rfl) (dcN_5 dcg_680 :) h rfl
          refine AW.icmp_ne (tgt := 100) (dcN_17 dcg_678 :) (by decide) (fun c22 => ?_) (fun c22 => ?_)
          · refine AW.iconst (dcN_2 dcg_679 :) ?_
            exact AW.val (e17.trans (if_neg c22)) J93
          · refine AW.iconst (dcN_0 dcg_679 :) ?_
            refine AW.goto (tgt := 101) (dcN_1 dcg_679 :) (by decide) ?_
            exact AW.val (e17.trans (if_pos c22)) J93
        refine AW.icmp_le (tgt := 80) (dcN_5 dcg_678 :) (by decide) (fun c23 => ?_) (fun c23 => ?_)
        · refine AW.iload_n 4 (dcN_8 dcg_678 :) rfl ?_
          exact AW.val (e14.trans (if_pos c23)) J72
        · refine AW.iload 0 (dcN_6 dcg_678 :) rfl ?_
          refine AW.goto (tgt := 81) (dcN_7 dcg_678 :) (by decide) ?_
          exact AW.val (e14.trans (if_neg c23)) J72
      · replace h := hT h c12
        refine AW.iconst (dcN_1 dcg_678 :) ?_
        exact AW.zret1 rfl (Or.inl rfl) (dcN_2 dcg_678 :) h rfl
    replace h := e9
    refine AW.icmp_ne (tgt := 41) (dcN_18 dcg_676 :) (by decide) (fun c5 => ?_) (fun c5 => ?_)
    · replace h := hF h c5
      refine AW.aloadr_n 1 (dcN_5 dcg_677 :) rfl ?_
      refine AW.getR af_X12_136_117 sr_117_57 (dcN_6 dcg_677 :) ?_
      refine AW.bipush (dcN_7 dcg_677 :) (by decide) (by decide) ?_
      refine AW.iload_n 2 (dcN_8 dcg_677 :) rfl ?_
      refine AW.imul (dcN_9 dcg_677 :) ?_
      refine AW.iload 6 (dcN_10 dcg_677 :) rfl ?_
      refine AW.iadd (dcN_11 dcg_677 :) ?_
      obtain ⟨k6, h⟩ := hK h
      refine AW.iald kc_156 sk_156 k6 (dcN_12 dcg_677 :) ?_
      refine AW.sub (lv1 := [(0, rv z 117), (1, iv x1), (2, iv x2), (3, iv x3), (4, iv x4), (5, iv x5), (6, iv r3.1)]) [1, 2, 3, 4, 5, 6, 0] rfl ?_
      cases h
      exact J29
    · replace h := hT h c5
      refine AW.aloadr_n 1 (dcN_0 dcg_677 :) rfl ?_
      refine AW.getR af_X12_38_117 sr_117_8 (dcN_1 dcg_677 :) ?_
      refine AW.iload_n 2 (dcN_2 dcg_677 :) rfl ?_
      obtain ⟨k7, h⟩ := hK h
      refine AW.iald kc_126 sk_126 k7 (dcN_3 dcg_677 :) ?_
      refine AW.goto (tgt := 53) (dcN_4 dcg_677 :) (by decide) ?_
      refine AW.sub (lv1 := [(0, rv z 117), (1, iv x1), (2, iv x2), (3, iv x3), (4, iv x4), (5, iv x5), (6, iv r3.1)]) [1, 2, 3, 4, 5, 6, 0] rfl ?_
      cases h
      exact J29
  replace h := e4
  refine AW.icmp_ne (tgt := 10) (dcN_2 dcg_676 :) (by decide) (fun c1 => ?_) (fun c1 => ?_)
  · replace h := hF h c1
    refine AW.aloadr_n 0 (dcN_5 dcg_676 :) rfl ?_
    refine AW.getR af_X12_139_117 sr_117_58 (dcN_6 dcg_676 :) ?_
    refine AW.bipush (dcN_7 dcg_676 :) (by decide) (by decide) ?_
    refine AW.iload_n 1 (dcN_8 dcg_676 :) rfl ?_
    refine AW.imul (dcN_9 dcg_676 :) ?_
    refine AW.iload 5 (dcN_10 dcg_676 :) rfl ?_
    refine AW.iadd (dcN_11 dcg_676 :) ?_
    obtain ⟨k2, h⟩ := hK h
    refine AW.iald kc_157 sk_157 k2 (dcN_12 dcg_676 :) ?_
    cases h
    exact J3
  · replace h := hT h c1
    refine AW.iconst (dcN_3 dcg_676 :) ?_
    refine AW.goto (tgt := 22) (dcN_4 dcg_676 :) (by decide) ?_
    cases h
    exact J3
set_option synthInstance.maxHeartbeats 2000000 in
theorem M_canHaveBeen_b_ok {z : AZ} {d : Nat} (hdd : 9 ≤ d) {x1 : Int} {x2 : Int} {x3 : Int} {x4 : Int} : ∀ (x5 : Int) (g : AG) (r : Int × AG), M_canHaveBeen_b x1 x2 x3 x4 x5 g = some r → AW z (RX12, cX12_canHaveBeen, 6, (some .boolean)) d (QD (some .boolean) r) 3 [(0, rv z 117), (1, iv x1), (2, iv x2), (3, iv x3), (4, iv x4), (5, iv x5)] [] g := by
  refine M_canHaveBeen_b.partial_correctness x1 x2 x3 x4 (fun x5 g r => AW z (RX12, cX12_canHaveBeen, 6, (some .boolean)) d (QD (some .boolean) r) 3 [(0, rv z 117), (1, iv x1), (2, iv x2), (3, iv x3), (4, iv x4), (5, iv x5)] [] g) ?_
  intro fb9 ih x5 g r h
  refine AW.iload 5 (dcN_2 dcg_683 :) rfl ?_
  refine AW.aloadr_n 0 (dcN_3 dcg_683 :) rfl ?_
  refine AW.getR af_X12_133_117 sr_117_56 (dcN_4 dcg_683 :) ?_
  refine AW.iload_n 1 (dcN_5 dcg_683 :) rfl ?_
  obtain ⟨k1, h⟩ := hK h
  refine AW.iald kc_155 sk_155 k1 (dcN_6 dcg_683 :) ?_
  refine AW.icmp_ge (tgt := 36) (dcN_7 dcg_683 :) (by decide) (fun c2 => ?_) (fun c2 => ?_)
  · replace h := hT h c2
    refine AW.iconst (dcN_8 dcg_684 :) ?_
    exact AW.zret1 rfl (Or.inl rfl) (dcN_9 dcg_684 :) h rfl
  · replace h := hF h c2
    refine AW.aloadr_n 0 (dcN_8 dcg_683 :) rfl ?_
    refine AW.iload_n 1 (dcN_9 dcg_683 :) rfl ?_
    refine AW.iload_n 2 (dcN_10 dcg_683 :) rfl ?_
    refine AW.iload_n 3 (dcN_11 dcg_683 :) rfl ?_
    refine AW.iload 4 (dcN_0 dcg_684 :) rfl ?_
    refine AW.iload 5 (dcN_1 dcg_684 :) rfl ?_
    obtain ⟨r3, e4, h⟩ := hC h
    refine AW.callVi (As := [iv x1, iv x2, iv x3, iv x4, iv x5]) (st := []) (M_between_ok e4) cq_X12_465 cr_117_X12_between (Nat.le_trans (by decide) hdd) rfl (dcN_2 dcg_684 :) rfl (Nat.le_of_ble_eq_true rfl) ?_
    refine AW.if_eq (tgt := 30) (dcN_3 dcg_684 :) (by decide) (fun c5 => ?_) (fun c5 => ?_)
    · replace h := hT h c5
      refine AW.iinc (lv1 := [(5, iv (x5 + 1)), (0, rv z 117), (1, iv x1), (2, iv x2), (3, iv x3), (4, iv x4)]) 5 (dcN_6 dcg_684 :) rfl (by decide) rfl ?_
      refine AW.goto (tgt := 3) (dcN_7 dcg_684 :) (by decide) ?_
      refine AW.sub (lv1 := [(0, rv z 117), (1, iv x1), (2, iv x2), (3, iv x3), (4, iv x4), (5, iv (x5 + 1))]) [1, 2, 3, 4, 5, 0] rfl ?_
      exact ih _ _ _ h
    · replace h := hF h c5
      refine AW.iconst (dcN_4 dcg_684 :) ?_
      exact AW.zret1 rfl (Or.inr rfl) (dcN_5 dcg_684 :) h rfl
theorem M_canHaveBeen_ok {z : AZ} {x1 : Int} {x2 : Int} {x3 : Int} {x4 : Int} {g : AG} {r : Int × AG} (h : M_canHaveBeen x1 x2 x3 x4 g = some r) : AMf z yX12_canHaveBeen cX12_canHaveBeen 6 (some .boolean) 9 [rv z 117, iv x1, iv x2, iv x3, iv x4] g r := by
  intro d hdd
  refine AM.of (by decide +kernel) (Nat.le_of_ble_eq_true rfl) ?_
  show AW z (RX12, cX12_canHaveBeen, 6, (some .boolean)) d (QD (some .boolean) r) 0 [(0, rv z 117), (1, iv x1), (2, iv x2), (3, iv x3), (4, iv x4)] [] g
  unfold M_canHaveBeen at h
  refine AW.iconst (dcN_0 dcg_683 :) ?_
  refine AW.istore (lv1 := [(5, iv (-1)), (0, rv z 117), (1, iv x1), (2, iv x2), (3, iv x3), (4, iv x4)]) (dcN_1 dcg_683 :) (by decide) rfl ?_
  refine AW.sub (lv1 := [(0, rv z 117), (1, iv x1), (2, iv x2), (3, iv x3), (4, iv x4), (5, iv (-1))]) [1, 2, 3, 4, 5, 0] rfl ?_
  exact M_canHaveBeen_b_ok hdd _ _ _ h
theorem M_could_ok {z : AZ} {x1 : Int} {x2 : Int} {x3 : Int} {x4 : Int} {g : AG} {r : Int × AG} (h : M_could x1 x2 x3 x4 g = some r) : AMf z yX12_could cX12_could 5 (some .int) 10 [rv z 117, iv x1, iv x2, iv x3, iv x4] g r := by
  intro d hdd
  refine AM.of (by decide +kernel) (Nat.le_of_ble_eq_true rfl) ?_
  show AW z (RX12, cX12_could, 5, (some .int)) d (QD (some .int) r) 0 [(0, rv z 117), (1, iv x1), (2, iv x2), (3, iv x3), (4, iv x4)] [] g
  unfold M_could at h
  refine AW.aloadr_n 0 (dcN_0 dcg_686 :) rfl ?_
  refine AW.iload_n 1 (dcN_1 dcg_686 :) rfl ?_
  refine AW.callVi (As := [iv x1]) (st := []) M_isBoat_ok cq_X12_435 cr_117_X12_isBoat (Nat.le_trans (by decide) hdd) rfl (dcN_2 dcg_686 :) rfl (Nat.le_of_ble_eq_true rfl) ?_
  obtain ⟨r9, e10, h⟩ := hC h
  refine AW.join (tgt := 45) (lv1 := []) (st1 := [iv r9.1]) (g1 := r9.2) ?_ (fun J5 => ?_)
  · exact AW.iret1 rfl (dcN_11 dcg_687 :) h rfl
  replace h := e10
  refine AW.if_eq (tgt := 44) (dcN_3 dcg_686 :) (by decide) (fun c1 => ?_) (fun c1 => ?_)
  · replace h := hT h c1
    refine AW.iconst (dcN_10 dcg_687 :) ?_
    refine AW.sub (lv1 := []) [] rfl ?_
    cases h
    exact J5
  · replace h := hF h c1
    refine AW.iload_n 2 (dcN_4 dcg_686 :) rfl ?_
    refine AW.callSi (As := [iv x2]) (st := []) M_isPoint_ok cq_X12_238 st_X12_isPoint (Nat.le_trans (by decide) hdd) rfl (dcN_5 dcg_686 :) rfl (Nat.le_of_ble_eq_true rfl) ?_
    refine AW.if_eq (tgt := 44) (dcN_6 dcg_686 :) (by decide) (fun c2 => ?_) (fun c2 => ?_)
    · replace h := hT h c2
      refine AW.iconst (dcN_10 dcg_687 :) ?_
      refine AW.sub (lv1 := []) [] rfl ?_
      cases h
      exact J5
    · replace h := hF h c2
      refine AW.iload_n 3 (dcN_7 dcg_686 :) rfl ?_
      refine AW.iload 4 (dcN_8 dcg_686 :) rfl ?_
      refine AW.callSi (As := [iv x3, iv x4]) (st := []) M_isSpan_ok cq_X12_469 st_X12_isSpan (Nat.le_trans (by decide) hdd) rfl (dcN_9 dcg_686 :) rfl (Nat.le_of_ble_eq_true rfl) ?_
      refine AW.if_eq (tgt := 44) (dcN_10 dcg_686 :) (by decide) (fun c3 => ?_) (fun c3 => ?_)
      · replace h := hT h c3
        refine AW.iconst (dcN_10 dcg_687 :) ?_
        refine AW.sub (lv1 := []) [] rfl ?_
        cases h
        exact J5
      · replace h := hF h c3
        refine AW.aloadr_n 0 (dcN_11 dcg_686 :) rfl ?_
        refine AW.iload_n 1 (dcN_0 dcg_687 :) rfl ?_
        refine AW.iload_n 2 (dcN_1 dcg_687 :) rfl ?_
        refine AW.iload_n 3 (dcN_2 dcg_687 :) rfl ?_
        refine AW.iload 4 (dcN_3 dcg_687 :) rfl ?_
        obtain ⟨r4, e5, h⟩ := hC h
        refine AW.callVi (As := [iv x1, iv x2, iv x3, iv x4]) (st := []) (M_canHaveBeen_ok e5) cq_X12_472 cr_117_X12_canHaveBeen (Nat.le_trans (by decide) hdd) rfl (dcN_4 dcg_687 :) rfl (Nat.le_of_ble_eq_true rfl) ?_
        obtain ⟨t6, e7, h⟩ := hBe h
        refine AW.join (tgt := 45) (lv1 := [(0, rv z 117), (1, iv x1), (2, iv x2), (3, iv x3), (4, iv x4)]) (st1 := [iv t6]) (g1 := r4.2) ?_ (fun J33 => ?_)
        · refine AW.sub (lv1 := []) [] rfl ?_
          cases h
          exact J5
        refine AW.if_eq (tgt := 40) (dcN_5 dcg_687 :) (by decide) (fun c8 => ?_) (fun c8 => ?_)
        · refine AW.iconst (dcN_8 dcg_687 :) ?_
          refine AW.goto (tgt := 45) (dcN_9 dcg_687 :) (by decide) ?_
          exact AW.val (e7.trans (if_pos c8)) J33
        · refine AW.iconst (dcN_6 dcg_687 :) ?_
          refine AW.goto (tgt := 45) (dcN_7 dcg_687 :) (by decide) ?_
          exact AW.val (e7.trans (if_neg c8)) J33
set_option synthInstance.maxHeartbeats 2000000 in
theorem M_whose_b_ok {z : AZ} {d : Nat} (hdd : 10 ≤ d) {x1 : Int} {x2 : Int} {x3 : Int} {x4 : Int} : ∀ (x5 : Int) (x6 : Int) (x7 : Int) (x8 : Int) (g : AG) (r : Int × AG), M_whose_b x1 x2 x3 x4 x5 x6 x7 x8 g = some r → AW z (RX12, cX12_whose, 9, (some .int)) d (QD (some .int) r) 39 [(0, rv z 117), (1, iv x1), (2, iv x2), (3, iv x3), (4, iv x4), (5, iv x5), (6, iv x6), (7, iv x7), (8, iv x8)] [] g := by
  refine M_whose_b.partial_correctness x1 x2 x3 x4 (fun x5 x6 x7 x8 g r => AW z (RX12, cX12_whose, 9, (some .int)) d (QD (some .int) r) 39 [(0, rv z 117), (1, iv x1), (2, iv x2), (3, iv x3), (4, iv x4), (5, iv x5), (6, iv x6), (7, iv x7), (8, iv x8)] [] g) ?_
  intro fb9 ih x5 x6 x7 x8 g r h
  refine AW.iload 8 (dcN_4 dcg_689 :) rfl ?_
  refine AW.aloadr_n 0 (dcN_5 dcg_689 :) rfl ?_
  refine AW.getI af_X12_235_117 sr_117_12 (dcN_6 dcg_689 :) ?_
  refine AW.icmp_ge (tgt := 85) (dcN_7 dcg_689 :) (by decide) (fun c1 => ?_) (fun c1 => ?_)
  · replace h := hT h c1
    refine AW.iload 4 (dcN_10 dcg_690 :) rfl ?_
    obtain ⟨t2, e3, h⟩ := hBe h
    refine AW.join (tgt := 107) (lv1 := [(0, rv z 117), (1, iv x1), (2, iv x2), (3, iv x3), (4, iv x4), (5, iv x5), (6, iv x6), (7, iv x7), (8, iv x8)]) (st1 := [iv t2]) (g1 := g) ?_ (fun J87 => ?_)
    · exact AW.iret1 rfl (dcN_5 dcg_691 :) h rfl
    refine AW.if_ne (tgt := 95) (dcN_11 dcg_690 :) (by decide) (fun c4 => ?_) (fun c4 => ?_)
    · refine AW.iload 7 (dcN_14 dcg_690 :) rfl ?_
      refine AW.iconst (dcN_0 dcg_691 :) ?_
      refine AW.icmp_ne (tgt := 106) (dcN_1 dcg_691 :) (by decide) (fun c5 => ?_) (fun c5 => ?_)
      · refine AW.iconst (dcN_4 dcg_691 :) ?_
        exact AW.val (e3.trans ((if_neg c4).trans (if_neg c5))) J87
      · refine AW.iload 6 (dcN_2 dcg_691 :) rfl ?_
        refine AW.goto (tgt := 107) (dcN_3 dcg_691 :) (by decide) ?_
        exact AW.val (e3.trans ((if_neg c4).trans (if_pos c5))) J87
    · refine AW.iload 5 (dcN_12 dcg_690 :) rfl ?_
      refine AW.goto (tgt := 107) (dcN_13 dcg_690 :) (by decide) ?_
      exact AW.val (e3.trans (if_pos c4)) J87
  · replace h := hF h c1
    refine AW.aloadr_n 0 (dcN_8 dcg_689 :) rfl ?_
    refine AW.iload 8 (dcN_9 dcg_689 :) rfl ?_
    refine AW.iload_n 1 (dcN_10 dcg_689 :) rfl ?_
    refine AW.iload_n 2 (dcN_11 dcg_689 :) rfl ?_
    refine AW.iload_n 3 (dcN_12 dcg_689 :) rfl ?_
    obtain ⟨r6, e7, h⟩ := hC h
    refine AW.callVi (As := [iv x8, iv x1, iv x2, iv x3]) (st := []) (M_canHaveBeen_ok e7) cq_X12_472 cr_117_X12_canHaveBeen (Nat.le_trans (by decide) hdd) rfl (dcN_13 dcg_689 :) rfl (Nat.le_of_ble_eq_true rfl) ?_
    obtain ⟨r9, e10, h⟩ := hC h
    refine AW.join (tgt := 79) (lv1 := [(0, rv z 117), (1, iv x1), (2, iv x2), (3, iv x3), (4, iv x4), (5, iv r9.1), (6, iv r9.2.1), (7, iv r9.2.2.1), (8, iv x8)]) (st1 := []) (g1 := r9.2.2.2) ?_ (fun J57 => ?_)
    · refine AW.iinc (lv1 := [(8, iv (x8 + 1)), (0, rv z 117), (1, iv x1), (2, iv x2), (3, iv x3), (4, iv x4), (5, iv r9.1), (6, iv r9.2.1), (7, iv r9.2.2.1)]) 8 (dcN_8 dcg_690 :) rfl (by decide) rfl ?_
      refine AW.goto (tgt := 39) (dcN_9 dcg_690 :) (by decide) ?_
      refine AW.sub (lv1 := [(0, rv z 117), (1, iv x1), (2, iv x2), (3, iv x3), (4, iv x4), (5, iv r9.1), (6, iv r9.2.1), (7, iv r9.2.2.1), (8, iv (x8 + 1))]) [1, 2, 3, 4, 5, 6, 7, 8, 0] rfl ?_
      exact ih _ _ _ _ _ _ h
    replace h := e10
    refine AW.if_ne (tgt := 63) (dcN_14 dcg_689 :) (by decide) (fun c8 => ?_) (fun c8 => ?_)
    · replace h := hF h c8
      refine AW.iload 5 (dcN_16 dcg_689 :) rfl ?_
      refine AW.iconst (dcN_0 dcg_690 :) ?_
      refine AW.iload 8 (dcN_1 dcg_690 :) rfl ?_
      refine AW.ishl (dcN_2 dcg_690 :) ?_
      refine AW.ior (dcN_3 dcg_690 :) ?_
      refine AW.istore (lv1 := [(5, iv (orI x5 (shlI 1 x8))), (0, rv z 117), (1, iv x1), (2, iv x2), (3, iv x3), (4, iv x4), (6, iv x6), (7, iv x7), (8, iv x8)]) (dcN_4 dcg_690 :) (by decide) rfl ?_
      refine AW.iload 8 (dcN_5 dcg_690 :) rfl ?_
      refine AW.istore (lv1 := [(6, iv x8), (5, iv (orI x5 (shlI 1 x8))), (0, rv z 117), (1, iv x1), (2, iv x2), (3, iv x3), (4, iv x4), (7, iv x7), (8, iv x8)]) (dcN_6 dcg_690 :) (by decide) rfl ?_
      refine AW.iinc (lv1 := [(7, iv (x7 + 1)), (6, iv x8), (5, iv (orI x5 (shlI 1 x8))), (0, rv z 117), (1, iv x1), (2, iv x2), (3, iv x3), (4, iv x4), (8, iv x8)]) 7 (dcN_7 dcg_690 :) rfl (by decide) rfl ?_
      refine AW.sub (lv1 := [(0, rv z 117), (1, iv x1), (2, iv x2), (3, iv x3), (4, iv x4), (5, iv (orI x5 (shlI 1 x8))), (6, iv x8), (7, iv (x7 + 1)), (8, iv x8)]) [3, 4, 5, 6, 7, 2, 1, 0, 8] rfl ?_
      cases h
      exact J57
    · replace h := hT h c8
      refine AW.goto (tgt := 79) (dcN_15 dcg_689 :) (by decide) ?_
      cases h
      exact J57
theorem M_whose_ok {z : AZ} {x1 : Int} {x2 : Int} {x3 : Int} {x4 : Int} {g : AG} {r : Int × AG} (h : M_whose x1 x2 x3 x4 g = some r) : AMf z yX12_whose cX12_whose 9 (some .int) 10 [rv z 117, iv x1, iv x2, iv x3, iv x4] g r := by
  intro d hdd
  refine AM.of (by decide +kernel) (Nat.le_of_ble_eq_true rfl) ?_
  show AW z (RX12, cX12_whose, 9, (some .int)) d (QD (some .int) r) 0 [(0, rv z 117), (1, iv x1), (2, iv x2), (3, iv x3), (4, iv x4)] [] g
  unfold M_whose at h
  refine AW.iload_n 1 (dcN_0 dcg_688 :) rfl ?_
  refine AW.callSi (As := [iv x1]) (st := []) M_isPoint_ok cq_X12_238 st_X12_isPoint (Nat.le_trans (by decide) hdd) rfl (dcN_1 dcg_688 :) rfl (Nat.le_of_ble_eq_true rfl) ?_
  refine AW.if_eq (tgt := 25) (dcN_2 dcg_688 :) (by decide) (fun c1 => ?_) (fun c1 => ?_)
  · replace h := hT h c1
    refine AW.iconst (dcN_12 dcg_688 :) ?_
    exact AW.iret1 rfl (dcN_13 dcg_688 :) h rfl
  · replace h := hF h c1
    refine AW.iload_n 2 (dcN_3 dcg_688 :) rfl ?_
    refine AW.iload_n 3 (dcN_4 dcg_688 :) rfl ?_
    refine AW.callSi (As := [iv x2, iv x3]) (st := []) M_isSpan_ok cq_X12_469 st_X12_isSpan (Nat.le_trans (by decide) hdd) rfl (dcN_5 dcg_688 :) rfl (Nat.le_of_ble_eq_true rfl) ?_
    refine AW.if_eq (tgt := 25) (dcN_6 dcg_688 :) (by decide) (fun c2 => ?_) (fun c2 => ?_)
    · replace h := hT h c2
      refine AW.iconst (dcN_12 dcg_688 :) ?_
      exact AW.iret1 rfl (dcN_13 dcg_688 :) h rfl
    · replace h := hF h c2
      refine AW.iload 4 (dcN_7 dcg_688 :) rfl ?_
      refine AW.iconst (dcN_8 dcg_688 :) ?_
      refine AW.iconst (dcN_9 dcg_688 :) ?_
      refine AW.callSi (As := [iv x4, iv 0, iv 1]) (st := []) M_isIn_ok cq_X12_3 st_X12_isIn (Nat.le_trans (by decide) hdd) rfl (dcN_10 dcg_688 :) rfl (Nat.le_of_ble_eq_true rfl) ?_
      refine AW.if_ne (tgt := 27) (dcN_11 dcg_688 :) (by decide) (fun c3 => ?_) (fun c3 => ?_)
      · replace h := hF h c3
        refine AW.iconst (dcN_14 dcg_688 :) ?_
        refine AW.istore (lv1 := [(5, iv 0), (0, rv z 117), (1, iv x1), (2, iv x2), (3, iv x3), (4, iv x4)]) (dcN_15 dcg_688 :) (by decide) rfl ?_
        refine AW.iconst (dcN_16 dcg_688 :) ?_
        refine AW.istore (lv1 := [(6, iv (-1)), (5, iv 0), (0, rv z 117), (1, iv x1), (2, iv x2), (3, iv x3), (4, iv x4)]) (dcN_17 dcg_688 :) (by decide) rfl ?_
        refine AW.iconst (dcN_0 dcg_689 :) ?_
        refine AW.istore (lv1 := [(7, iv 0), (6, iv (-1)), (5, iv 0), (0, rv z 117), (1, iv x1), (2, iv x2), (3, iv x3), (4, iv x4)]) (dcN_1 dcg_689 :) (by decide) rfl ?_
        refine AW.iconst (dcN_2 dcg_689 :) ?_
        refine AW.istore (lv1 := [(8, iv 0), (7, iv 0), (6, iv (-1)), (5, iv 0), (0, rv z 117), (1, iv x1), (2, iv x2), (3, iv x3), (4, iv x4)]) (dcN_3 dcg_689 :) (by decide) rfl ?_
        refine AW.sub (lv1 := [(0, rv z 117), (1, iv x1), (2, iv x2), (3, iv x3), (4, iv x4), (5, iv 0), (6, iv (-1)), (7, iv 0), (8, iv 0)]) [4, 5, 6, 7, 8, 3, 2, 1, 0] rfl ?_
        exact M_whose_b_ok hdd _ _ _ _ _ _ h
      · replace h := hT h c3
        refine AW.iconst (dcN_12 dcg_688 :) ?_
        exact AW.iret1 rfl (dcN_13 dcg_688 :) h rfl
