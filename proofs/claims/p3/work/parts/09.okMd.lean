theorem M_refund_ok {z : AZ} {x1 : Int} {g : AG} {r : Int × AG} (h : M_refund x1 g = some r) : AMf z yX12_refund cX12_refund 5 (some .int) 9 [rv z 117, iv x1] g r := by
  intro d hdd
  refine AM.of (by decide +kernel) (Nat.le_of_ble_eq_true rfl) ?_
  show AW z (RX12, cX12_refund, 5, (some .int)) d (QD (some .int) r) 0 [(0, rv z 117), (1, iv x1)] [] g
  unfold M_refund at h
  refine AW.aloadr_n 0 dX12_refund_0 rfl ?_
  refine AW.iload_n 1 dX12_refund_1 rfl ?_
  obtain ⟨r1, e2, h⟩ := hC h
  refine AW.callVi (As := [iv x1]) (st := []) (M_lateOf_ok e2) cq_X12_447 cr_117_X12_lateOf (Nat.le_trans (by decide) hdd) rfl dX12_refund_2 rfl (Nat.le_of_ble_eq_true rfl) ?_
  refine AW.istore_n (lv1 := [(2, iv r1.1), (0, rv z 117), (1, iv x1)]) dX12_refund_5 (by decide) rfl ?_
  refine AW.iload_n 0 dX12_refund_6 rfl ?_
  refine AW.if_ne (tgt := 12) dX12_refund_7 (by decide) (fun c3 => ?_) (fun c3 => ?_)
  · replace h := hF h c3
    refine AW.iload_n 0 dX12_refund_12 rfl ?_
    refine AW.sipush dX12_refund_13 (by decide) (by decide) ?_
    refine AW.iadd dX12_refund_16 ?_
    refine AW.sipush dX12_refund_17 (by decide) (by decide) ?_
    refine AW.idiv dX12_refund_20 (by decide) ?_
    refine AW.istore_n (lv1 := [(3, iv ((nw (r1.1 + 1439)).tdiv 1440)), (2, iv r1.1), (0, rv z 117), (1, iv x1)]) dX12_refund_21 (by decide) rfl ?_
    refine AW.aloadr_n 2 dX12_refund_22 rfl ?_
    refine AW.aloadr_n 2 dX12_refund_23 rfl ?_
    refine AW.getR af_X12_115_117 sr_117_50 dX12_refund_24 ?_
    refine AW.iload_n 3 dX12_refund_27 rfl ?_
    obtain ⟨k4, h⟩ := hK h
    refine AW.iald kc_149 sk_149 k4 dX12_refund_28 ?_
    refine AW.aloadr_n 2 dX12_refund_29 rfl ?_
    refine AW.getR af_X12_124_117 sr_117_53 dX12_refund_30 ?_
    refine AW.iload_n 3 dX12_refund_33 rfl ?_
    refine AW.iald kc_152 sk_152 k4 dX12_refund_34 ?_
    refine AW.sipush dX12_refund_35 (by decide) (by decide) ?_
    refine AW.idiv dX12_refund_38 (by decide) ?_
    refine AW.bipush dX12_refund_39 (by decide) (by decide) ?_
    refine AW.idiv dX12_refund_41 (by decide) ?_
    refine AW.aloadr_n 2 dX12_refund_42 rfl ?_
    refine AW.getR af_X12_118_117 sr_117_51 dX12_refund_43 ?_
    refine AW.iload_n 3 dX12_refund_46 rfl ?_
    refine AW.iald kc_150 sk_150 k4 dX12_refund_47 ?_
    refine AW.aloadr_n 2 dX12_refund_48 rfl ?_
    refine AW.getR af_X12_121_117 sr_117_52 dX12_refund_49 ?_
    refine AW.iload_n 3 dX12_refund_52 rfl ?_
    refine AW.iald kc_151 sk_151 k4 dX12_refund_53 ?_
    obtain ⟨t5, e6, h⟩ := hBe h
    refine AW.join (tgt := 62) (lv1 := [(3, iv ((nw (r1.1 + 1439)).tdiv 1440)), (2, iv r1.1), (0, rv z 117), (1, iv x1)]) (st1 := [iv t5, iv ((nw ((nw (r1.2 152 (ix x1))).tdiv 1440)).tdiv 7), iv (r1.2 149 (ix x1)), rv z 117]) (g1 := r1.2) ?_ (fun J54 => ?_)
    · obtain ⟨r7, e8, h⟩ := hC h
      refine AW.callVi (As := [iv (r1.2 149 (ix x1)), iv ((nw ((nw (r1.2 152 (ix x1))).tdiv 1440)).tdiv 7), iv t5]) (st := []) (M_price_ok e8) cq_X12_451 cr_117_X12_price (Nat.le_trans (by decide) hdd) rfl dX12_refund_62 rfl (Nat.le_of_ble_eq_true rfl) ?_
      refine AW.istore (lv1 := [(4, iv r7.1), (3, iv ((nw (r1.1 + 1439)).tdiv 1440)), (2, iv r1.1), (0, rv z 117), (1, iv x1)]) dX12_refund_65 (by decide) rfl ?_
      refine AW.aloadr_n 3 dX12_refund_67 rfl ?_
      refine AW.getI af_X12_454_117 sr_117_100 dX12_refund_68 ?_
      obtain ⟨r13, e14, h⟩ := hC h
      refine AW.join (tgt := 102) (lv1 := []) (st1 := [iv r13.1]) (g1 := r13.2) ?_ (fun J71 => ?_)
      · exact AW.iret1 rfl dX12_refund_102 h rfl
      replace h := e14
      refine AW.if_eq (tgt := 99) dX12_refund_71 (by decide) (fun c9 => ?_) (fun c9 => ?_)
      · replace h := hT h c9
        refine AW.ldcw dX12_refund_99 cw_X12_450 ?_
        refine AW.sub (lv1 := []) [] rfl ?_
        cases h
        exact J71
      · replace h := hF h c9
        refine AW.iload 0 dX12_refund_74 rfl ?_
        refine AW.i2l dX12_refund_76 ?_
        refine AW.iload_n 1 dX12_refund_77 rfl ?_
        refine AW.bipush dX12_refund_78 (by decide) (by decide) ?_
        obtain ⟨t10, e11, h⟩ := hBe h
        refine AW.join (tgt := 89) (lv1 := [(4, iv r7.1), (3, iv ((nw (r1.1 + 1439)).tdiv 1440)), (2, iv r1.1), (0, rv z 117), (1, iv x1)]) (st1 := [iv t10, jv (nw r7.1)]) (g1 := r7.2) ?_ (fun J80 => ?_)
        · refine AW.i2l dX12_refund_89 ?_
          refine AW.lmul dX12_refund_90 ?_
          refine AW.ldc2 dX12_refund_91 cw_X12_457 ?_
          refine AW.ldiv dX12_refund_94 (by decide) ?_
          refine AW.l2i dX12_refund_95 ?_
          refine AW.goto (tgt := 102) dX12_refund_96 (by decide) ?_
          refine AW.sub (lv1 := []) [] rfl ?_
          cases h
          exact J71
        refine AW.icmp_le (tgt := 88) dX12_refund_80 (by decide) (fun c12 => ?_) (fun c12 => ?_)
        · refine AW.iload_n 1 dX12_refund_88 rfl ?_
          exact AW.val (e11.trans (if_pos c12)) J80
        · refine AW.bipush dX12_refund_83 (by decide) (by decide) ?_
          refine AW.goto (tgt := 89) dX12_refund_85 (by decide) ?_
          exact AW.val (e11.trans (if_neg c12)) J80
    refine AW.icmp_eq (tgt := 61) dX12_refund_54 (by decide) (fun c15 => ?_) (fun c15 => ?_)
    · refine AW.iconst dX12_refund_61 ?_
      exact AW.val (e6.trans (if_pos c15)) J54
    · refine AW.iconst dX12_refund_57 ?_
      refine AW.goto (tgt := 62) dX12_refund_58 (by decide) ?_
      exact AW.val (e6.trans (if_neg c15)) J54
  · replace h := hT h c3
    refine AW.iconst dX12_refund_10 ?_
    exact AW.iret1 rfl dX12_refund_11 h rfl
set_option synthInstance.maxHeartbeats 2000000 in
theorem M_turningBack_b_ok {z : AZ} {d : Nat} (hdd : 8 ≤ d) {x1 : Int} {x3 : Int} : ∀ (tag : Nat) (x2 : Int) (x4 : Int) (g : AG) (r : Int × AG), M_turningBack_b x1 x3 tag x2 x4 g = some r → (tag = 1 → AW z (RX12, cX12_turningBack, 8, (some .int)) d (QD (some .int) r) 26 [(0, rv z 117), (1, iv x1), (2, iv x2), (3, iv x3), (4, iv x4)] [] g) ∧ (tag = 2 → AW z (RX12, cX12_turningBack, 8, (some .int)) d (QD (some .int) r) 167 [(2, iv x2)] [] g) := by
  refine M_turningBack_b.partial_correctness x1 x3 (fun tag x2 x4 g r => (tag = 1 → AW z (RX12, cX12_turningBack, 8, (some .int)) d (QD (some .int) r) 26 [(0, rv z 117), (1, iv x1), (2, iv x2), (3, iv x3), (4, iv x4)] [] g) ∧ (tag = 2 → AW z (RX12, cX12_turningBack, 8, (some .int)) d (QD (some .int) r) 167 [(2, iv x2)] [] g)) ?_
  intro fb9 ih tag x2 x4 g r h
  refine ⟨fun h9 => ?_, fun h9 => ?_⟩
  · subst h9
    replace h := hT h rfl
    refine AW.iload 4 dX12_turningBack_26 rfl ?_
    refine AW.aloadr_n 0 dX12_turningBack_28 rfl ?_
    refine AW.getR af_X12_121_117 sr_117_52 dX12_turningBack_29 ?_
    refine AW.iload_n 1 dX12_turningBack_32 rfl ?_
    obtain ⟨k1, h⟩ := hK h
    refine AW.iald kc_151 sk_151 k1 dX12_turningBack_33 ?_
    refine AW.aloadr_n 0 dX12_turningBack_34 rfl ?_
    refine AW.getR af_X12_118_117 sr_117_51 dX12_turningBack_35 ?_
    refine AW.iload_n 1 dX12_turningBack_38 rfl ?_
    refine AW.iald kc_150 sk_150 k1 dX12_turningBack_39 ?_
    refine AW.isub dX12_turningBack_40 ?_
    refine AW.iload_n 3 dX12_turningBack_41 rfl ?_
    refine AW.imul dX12_turningBack_42 ?_
    refine AW.icmp_gt (tgt := 167) dX12_turningBack_43 (by decide) (fun c2 => ?_) (fun c2 => ?_)
    · replace h := hT h c2
      refine AW.sub (lv1 := [(2, iv x2)]) [2] rfl ?_
      exact (ih _ _ _ _ _ h).2 rfl
    · replace h := hF h c2
      refine AW.aloadr_n 0 dX12_turningBack_46 rfl ?_
      refine AW.getR af_X12_124_117 sr_117_53 dX12_turningBack_47 ?_
      refine AW.iload_n 1 dX12_turningBack_50 rfl ?_
      refine AW.iald kc_152 sk_152 k1 dX12_turningBack_51 ?_
      refine AW.aloadr_n 0 dX12_turningBack_52 rfl ?_
      refine AW.getR af_X12_127_117 sr_117_54 dX12_turningBack_53 ?_
      refine AW.iload_n 1 dX12_turningBack_56 rfl ?_
      refine AW.iald kc_153 sk_153 k1 dX12_turningBack_57 ?_
      refine AW.icmp_gt (tgt := 167) dX12_turningBack_58 (by decide) (fun c3 => ?_) (fun c3 => ?_)
      · replace h := hT h c3
        refine AW.sub (lv1 := [(2, iv x2)]) [2] rfl ?_
        exact (ih _ _ _ _ _ h).2 rfl
      · replace h := hF h c3
        refine AW.aloadr_n 0 dX12_turningBack_61 rfl ?_
        refine AW.getR af_X12_118_117 sr_117_51 dX12_turningBack_62 ?_
        refine AW.iload_n 1 dX12_turningBack_65 rfl ?_
        refine AW.iald kc_150 sk_150 k1 dX12_turningBack_66 ?_
        refine AW.iload 4 dX12_turningBack_67 rfl ?_
        refine AW.iload_n 3 dX12_turningBack_69 rfl ?_
        refine AW.imul dX12_turningBack_70 ?_
        refine AW.iadd dX12_turningBack_71 ?_
        refine AW.istore (lv1 := [(5, iv ((g 150 (ix x1)) + (x4 * x3))), (0, rv z 117), (1, iv x1), (2, iv x2), (3, iv x3), (4, iv x4)]) dX12_turningBack_72 (by decide) rfl ?_
        refine AW.aloadr_n 1 dX12_turningBack_74 rfl ?_
        refine AW.aloadr_n 1 dX12_turningBack_75 rfl ?_
        refine AW.getR af_X12_115_117 sr_117_50 dX12_turningBack_76 ?_
        refine AW.iload_n 2 dX12_turningBack_79 rfl ?_
        refine AW.iald kc_149 sk_149 k1 dX12_turningBack_80 ?_
        refine AW.aloadr_n 1 dX12_turningBack_81 rfl ?_
        refine AW.getR af_X12_118_117 sr_117_51 dX12_turningBack_82 ?_
        refine AW.iload_n 2 dX12_turningBack_85 rfl ?_
        refine AW.iald kc_150 sk_150 k1 dX12_turningBack_86 ?_
        refine AW.iload 0 dX12_turningBack_87 rfl ?_
        refine AW.aloadr_n 1 dX12_turningBack_89 rfl ?_
        refine AW.getR af_X12_124_117 sr_117_53 dX12_turningBack_90 ?_
        refine AW.iload_n 2 dX12_turningBack_93 rfl ?_
        refine AW.iald kc_152 sk_152 k1 dX12_turningBack_94 ?_
        obtain ⟨r4, e5, h⟩ := hC h
        refine AW.callVi (As := [iv (g 149 (ix x1)), iv (g 150 (ix x1)), iv ((g 150 (ix x1)) + (x4 * x3)), iv (g 152 (ix x1))]) (st := []) (M_led_ok e5) cq_X12_441 cr_117_X12_led (Nat.le_trans (by decide) hdd) rfl dX12_turningBack_95 rfl (Nat.le_of_ble_eq_true rfl) ?_
        refine AW.istore (lv1 := [(6, iv r4.1), (5, iv ((g 150 (ix x1)) + (x4 * x3))), (0, rv z 117), (1, iv x1), (2, iv x2), (3, iv x3), (4, iv x4)]) dX12_turningBack_98 (by decide) rfl ?_
        refine AW.iload 0 dX12_turningBack_100 rfl ?_
        refine AW.iconst dX12_turningBack_102 ?_
        refine AW.icmp_ne (tgt := 119) dX12_turningBack_103 (by decide) (fun c6 => ?_) (fun c6 => ?_)
        · replace h := hF h c6
          refine AW.aloadr_n 2 dX12_turningBack_119 rfl ?_
          refine AW.aloadr_n 2 dX12_turningBack_120 rfl ?_
          refine AW.getR af_X12_115_117 sr_117_50 dX12_turningBack_121 ?_
          refine AW.iload_n 3 dX12_turningBack_124 rfl ?_
          refine AW.iald kc_149 sk_149 k1 dX12_turningBack_125 ?_
          refine AW.iload 1 dX12_turningBack_126 rfl ?_
          refine AW.aloadr_n 2 dX12_turningBack_128 rfl ?_
          refine AW.getR af_X12_118_117 sr_117_51 dX12_turningBack_129 ?_
          refine AW.iload_n 3 dX12_turningBack_132 rfl ?_
          refine AW.iald kc_150 sk_150 k1 dX12_turningBack_133 ?_
          refine AW.iload 0 dX12_turningBack_134 rfl ?_
          obtain ⟨r7, e8, h⟩ := hC h
          refine AW.callVi (As := [iv (r4.2 149 (ix x1)), iv ((g 150 (ix x1)) + (x4 * x3)), iv (r4.2 150 (ix x1)), iv r4.1]) (st := []) (M_led_ok e8) cq_X12_441 cr_117_X12_led (Nat.le_trans (by decide) hdd) rfl dX12_turningBack_136 rfl (Nat.le_of_ble_eq_true rfl) ?_
          refine AW.istore (lv1 := [(7, iv r7.1), (6, iv r4.1), (5, iv ((g 150 (ix x1)) + (x4 * x3))), (0, rv z 117), (1, iv x1), (2, iv x2), (3, iv x3), (4, iv x4)]) dX12_turningBack_139 (by decide) rfl ?_
          refine AW.iload 0 dX12_turningBack_141 rfl ?_
          refine AW.iconst dX12_turningBack_143 ?_
          obtain ⟨r11, e12, h⟩ := hC h
          refine AW.join (tgt := 161) (lv1 := [(0, rv z 117), (1, iv x1), (2, iv r11.1), (3, iv x3), (4, iv x4)]) (st1 := []) (g1 := r11.2) ?_ (fun J144 => ?_)
          · refine AW.iinc (lv1 := [(4, iv (x4 + 1)), (0, rv z 117), (1, iv x1), (2, iv r11.1), (3, iv x3)]) 4 dX12_turningBack_161 rfl (by decide) rfl ?_
            refine AW.goto (tgt := 26) dX12_turningBack_164 (by decide) ?_
            refine AW.sub (lv1 := [(0, rv z 117), (1, iv x1), (2, iv r11.1), (3, iv x3), (4, iv (x4 + 1))]) [1, 2, 3, 4, 0] rfl ?_
            exact (ih _ _ _ _ _ h).1 rfl
          replace h := e12
          refine AW.icmp_eq (tgt := 161) dX12_turningBack_144 (by decide) (fun c9 => ?_) (fun c9 => ?_)
          · replace h := hT h c9
            refine AW.sub (lv1 := [(0, rv z 117), (1, iv x1), (2, iv x2), (3, iv x3), (4, iv x4)]) [3, 4, 5, 6, 7] rfl ?_
            cases h
            exact J144
          · replace h := hF h c9
            refine AW.iload 0 dX12_turningBack_147 rfl ?_
            refine AW.aloadr_n 3 dX12_turningBack_149 rfl ?_
            refine AW.getR af_X12_127_117 sr_117_54 dX12_turningBack_150 ?_
            refine AW.iload_n 4 dX12_turningBack_153 rfl ?_
            refine AW.iald kc_153 sk_153 k1 dX12_turningBack_154 ?_
            refine AW.icmp_gt (tgt := 161) dX12_turningBack_155 (by decide) (fun c10 => ?_) (fun c10 => ?_)
            · replace h := hT h c10
              refine AW.sub (lv1 := [(0, rv z 117), (1, iv x1), (2, iv x2), (3, iv x3), (4, iv x4)]) [3, 4, 5, 6, 7] rfl ?_
              cases h
              exact J144
            · replace h := hF h c10
              refine AW.iload 2 dX12_turningBack_158 rfl ?_
              refine AW.istore_n (lv1 := [(2, iv ((g 150 (ix x1)) + (x4 * x3))), (7, iv r7.1), (6, iv r4.1), (5, iv ((g 150 (ix x1)) + (x4 * x3))), (0, rv z 117), (1, iv x1), (3, iv x3), (4, iv x4)]) dX12_turningBack_160 (by decide) rfl ?_
              refine AW.sub (lv1 := [(0, rv z 117), (1, iv x1), (2, iv ((g 150 (ix x1)) + (x4 * x3))), (3, iv x3), (4, iv x4)]) [4, 5, 0, 6, 7] rfl ?_
              cases h
              exact J144
        · replace h := hT h c6
          refine AW.iload_n 4 dX12_turningBack_106 rfl ?_
          refine AW.iconst dX12_turningBack_107 ?_
          obtain ⟨t13, e14, h⟩ := hBe h
          refine AW.join (tgt := 118) (lv1 := [(6, iv r4.1), (5, iv ((g 150 (ix x1)) + (x4 * x3))), (0, rv z 117), (1, iv x1), (2, iv x2), (3, iv x3), (4, iv x4)]) (st1 := [iv t13]) (g1 := r4.2) ?_ (fun J108 => ?_)
          · exact AW.iret1 rfl dX12_turningBack_118 h rfl
          refine AW.icmp_ne (tgt := 117) dX12_turningBack_108 (by decide) (fun c15 => ?_) (fun c15 => ?_)
          · refine AW.iload_n 4 dX12_turningBack_117 rfl ?_
            exact AW.val (e14.trans (if_neg c15)) J108
          · refine AW.ldcw dX12_turningBack_111 cw_X12_450 ?_
            refine AW.goto (tgt := 118) dX12_turningBack_114 (by decide) ?_
            exact AW.val (e14.trans (if_pos c15)) J108
  · subst h9
    replace h := hF h (by decide)
    replace h := hT h rfl
    refine AW.iload_n 0 dX12_turningBack_167 rfl ?_
    refine AW.iconst dX12_turningBack_168 ?_
    obtain ⟨t1, e2, h⟩ := hBe h
    refine AW.join (tgt := 179) (lv1 := [(2, iv x2)]) (st1 := [iv t1]) (g1 := g) ?_ (fun J169 => ?_)
    · exact AW.iret1 rfl dX12_turningBack_179 h rfl
    refine AW.icmp_ne (tgt := 178) dX12_turningBack_169 (by decide) (fun c3 => ?_) (fun c3 => ?_)
    · refine AW.iload_n 0 dX12_turningBack_178 rfl ?_
      exact AW.val (e2.trans (if_neg c3)) J169
    · refine AW.ldcw dX12_turningBack_172 cw_X12_450 ?_
      refine AW.goto (tgt := 179) dX12_turningBack_175 (by decide) ?_
      exact AW.val (e2.trans (if_pos c3)) J169
theorem M_turningBack_ok {z : AZ} {x1 : Int} {g : AG} {r : Int × AG} (h : M_turningBack x1 g = some r) : AMf z yX12_turningBack cX12_turningBack 8 (some .int) 8 [rv z 117, iv x1] g r := by
  intro d hdd
  refine AM.of (by decide +kernel) (Nat.le_of_ble_eq_true rfl) ?_
  show AW z (RX12, cX12_turningBack, 8, (some .int)) d (QD (some .int) r) 0 [(0, rv z 117), (1, iv x1)] [] g
  unfold M_turningBack at h
  refine AW.iconst dX12_turningBack_0 ?_
  refine AW.istore_n (lv1 := [(2, iv (-1)), (0, rv z 117), (1, iv x1)]) dX12_turningBack_1 (by decide) rfl ?_
  refine AW.aloadr_n 1 dX12_turningBack_2 rfl ?_
  refine AW.getR af_X12_118_117 sr_117_51 dX12_turningBack_3 ?_
  refine AW.iload_n 2 dX12_turningBack_6 rfl ?_
  obtain ⟨k1, h⟩ := hK h
  refine AW.iald kc_150 sk_150 k1 dX12_turningBack_7 ?_
  refine AW.aloadr_n 1 dX12_turningBack_8 rfl ?_
  refine AW.getR af_X12_121_117 sr_117_52 dX12_turningBack_9 ?_
  refine AW.iload_n 2 dX12_turningBack_12 rfl ?_
  refine AW.iald kc_151 sk_151 k1 dX12_turningBack_13 ?_
  obtain ⟨t2, e3, h⟩ := hBe h
  refine AW.join (tgt := 22) (lv1 := [(2, iv (-1)), (0, rv z 117), (1, iv x1)]) (st1 := [iv t2]) (g1 := g) ?_ (fun J14 => ?_)
  · refine AW.istore_n (lv1 := [(3, iv t2), (2, iv (-1)), (0, rv z 117), (1, iv x1)]) dX12_turningBack_22 (by decide) rfl ?_
    refine AW.iconst dX12_turningBack_23 ?_
    refine AW.istore (lv1 := [(4, iv 0), (3, iv t2), (2, iv (-1)), (0, rv z 117), (1, iv x1)]) dX12_turningBack_24 (by decide) rfl ?_
    refine AW.sub (lv1 := [(0, rv z 117), (1, iv x1), (2, iv (-1)), (3, iv t2), (4, iv 0)]) [3, 4, 2, 1, 0] rfl ?_
    exact (M_turningBack_b_ok hdd _ _ _ _ _ h).1 rfl
  refine AW.icmp_ge (tgt := 21) dX12_turningBack_14 (by decide) (fun c4 => ?_) (fun c4 => ?_)
  · refine AW.iconst dX12_turningBack_21 ?_
    exact AW.val (e3.trans (if_pos c4)) J14
  · refine AW.iconst dX12_turningBack_17 ?_
    refine AW.goto (tgt := 22) dX12_turningBack_18 (by decide) ?_
    exact AW.val (e3.trans (if_neg c4)) J14
theorem M_back_ok {z : AZ} {x1 : Int} {x2 : Int} {g : AG} {r : Int × AG} (h : M_back x1 x2 g = some r) : AMf z yX12_back cX12_back 3 (some .int) 10 [rv z 117, iv x1, iv x2] g r := by
  intro d hdd
  refine AM.of (by decide +kernel) (Nat.le_of_ble_eq_true rfl) ?_
  show AW z (RX12, cX12_back, 3, (some .int)) d (QD (some .int) r) 0 [(0, rv z 117), (1, iv x1), (2, iv x2)] [] g
  unfold M_back at h
  refine AW.iload_n 1 dX12_back_0 rfl ?_
  refine AW.iconst dX12_back_1 ?_
  refine AW.aloadr_n 0 dX12_back_2 rfl ?_
  refine AW.getI af_X12_444_117 sr_117_49 dX12_back_3 ?_
  refine AW.iconst dX12_back_6 ?_
  refine AW.isub dX12_back_7 ?_
  refine AW.callSi (As := [iv x1, iv 0, iv ((g 117 49) - 1)]) (st := []) M_isIn_ok cq_X12_3 st_X12_isIn (Nat.le_trans (by decide) hdd) rfl dX12_back_8 rfl (Nat.le_of_ble_eq_true rfl) ?_
  obtain ⟨r8, e9, h⟩ := hC h
  refine AW.join (tgt := 46) (lv1 := []) (st1 := [iv r8.1]) (g1 := r8.2) ?_ (fun J11 => ?_)
  · exact AW.iret1 rfl dX12_back_46 h rfl
  replace h := e9
  refine AW.if_eq (tgt := 43) dX12_back_11 (by decide) (fun c1 => ?_) (fun c1 => ?_)
  · replace h := hT h c1
    refine AW.ldcw dX12_back_43 cw_X12_450 ?_
    refine AW.sub (lv1 := []) [] rfl ?_
    cases h
    exact J11
  · replace h := hF h c1
    refine AW.iload_n 2 dX12_back_14 rfl ?_
    refine AW.iconst dX12_back_15 ?_
    refine AW.iconst dX12_back_16 ?_
    refine AW.callSi (As := [iv x2, iv 0, iv 1]) (st := []) M_isIn_ok cq_X12_3 st_X12_isIn (Nat.le_trans (by decide) hdd) rfl dX12_back_17 rfl (Nat.le_of_ble_eq_true rfl) ?_
    refine AW.if_eq (tgt := 43) dX12_back_20 (by decide) (fun c2 => ?_) (fun c2 => ?_)
    · replace h := hT h c2
      refine AW.ldcw dX12_back_43 cw_X12_450 ?_
      refine AW.sub (lv1 := []) [] rfl ?_
      cases h
      exact J11
    · replace h := hF h c2
      refine AW.iload_n 2 dX12_back_23 rfl ?_
      refine AW.if_ne (tgt := 35) dX12_back_24 (by decide) (fun c3 => ?_) (fun c3 => ?_)
      · replace h := hF h c3
        refine AW.aloadr_n 0 dX12_back_35 rfl ?_
        refine AW.iload_n 1 dX12_back_36 rfl ?_
        obtain ⟨r4, e5, h⟩ := hC h
        refine AW.callVi (As := [iv x1]) (st := []) (M_refund_ok e5) cq_X12_462 cr_117_X12_refund (Nat.le_trans (by decide) hdd) rfl dX12_back_37 rfl (Nat.le_of_ble_eq_true rfl) ?_
        refine AW.goto (tgt := 46) dX12_back_40 (by decide) ?_
        refine AW.sub (lv1 := []) [] rfl ?_
        cases h
        exact J11
      · replace h := hT h c3
        refine AW.aloadr_n 0 dX12_back_27 rfl ?_
        refine AW.iload_n 1 dX12_back_28 rfl ?_
        obtain ⟨r6, e7, h⟩ := hC h
        refine AW.callVi (As := [iv x1]) (st := []) (M_turningBack_ok e7) cq_X12_459 cr_117_X12_turningBack (Nat.le_trans (by decide) hdd) rfl dX12_back_29 rfl (Nat.le_of_ble_eq_true rfl) ?_
        refine AW.goto (tgt := 46) dX12_back_32 (by decide) ?_
        refine AW.sub (lv1 := []) [] rfl ?_
        cases h
        exact J11
set_option synthInstance.maxHeartbeats 2000000 in
theorem M_rung_b_ok {z : AZ} {d : Nat} (hdd : 9 ≤ d) {x2 : Int} : ∀ (x1 : Int) (x3 : Int) (g : AG) (r : Int × AG), M_rung_b x2 x1 x3 g = some r → AW z (RX12, cX12_rung, 5, (some .int)) d (QD (some .int) r) 9 [(0, rv z 117), (1, iv x1), (2, iv x2), (3, iv x3)] [] g := by
  refine M_rung_b.partial_correctness x2 (fun x1 x3 g r => AW z (RX12, cX12_rung, 5, (some .int)) d (QD (some .int) r) 9 [(0, rv z 117), (1, iv x1), (2, iv x2), (3, iv x3)] [] g) ?_
  intro fb9 ih x1 x3 g r h
  refine AW.iload_n 3 dX12_rung_9 rfl ?_
  refine AW.aloadr_n 0 dX12_rung_10 rfl ?_
  refine AW.getI af_X12_444_117 sr_117_49 dX12_rung_11 ?_
  refine AW.icmp_ge (tgt := 67) dX12_rung_14 (by decide) (fun c1 => ?_) (fun c1 => ?_)
  · replace h := hT h c1
    refine AW.iload_n 1 dX12_rung_67 rfl ?_
    exact AW.iret1 rfl dX12_rung_68 h rfl
  · replace h := hF h c1
    refine AW.aloadr_n 0 dX12_rung_17 rfl ?_
    refine AW.iload_n 3 dX12_rung_18 rfl ?_
    obtain ⟨r2, e3, h⟩ := hC h
    refine AW.callVi (As := [iv x3]) (st := []) (M_lateOf_ok e3) cq_X12_447 cr_117_X12_lateOf (Nat.le_trans (by decide) hdd) rfl dX12_rung_19 rfl (Nat.le_of_ble_eq_true rfl) ?_
    obtain ⟨t4, e5, h⟩ := hBe h
    refine AW.join (tgt := 30) (lv1 := [(0, rv z 117), (1, iv x1), (2, iv x2), (3, iv x3)]) (st1 := [iv t4]) (g1 := r2.2) ?_ (fun J22 => ?_)
    · refine AW.istore (lv1 := [(4, iv t4), (0, rv z 117), (1, iv x1), (2, iv x2), (3, iv x3)]) dX12_rung_30 (by decide) rfl ?_
      refine AW.aloadr_n 1 dX12_rung_32 rfl ?_
      refine AW.iconst dX12_rung_33 ?_
      obtain ⟨g6, e7, h⟩ := hBe h
      refine AW.putI ap_X12_232_117 sr_117_11 dX12_rung_34 e7 ?_
      refine AW.iload 0 dX12_rung_37 rfl ?_
      obtain ⟨r12, e13, h⟩ := hC h
      refine AW.join (tgt := 56) (lv1 := [(0, rv z 117), (1, iv r12.1), (2, iv x2), (3, iv x3)]) (st1 := []) (g1 := r12.2) ?_ (fun J39 => ?_)
      · refine AW.aloadr_n 0 dX12_rung_56 rfl ?_
        refine AW.iload_n 2 dX12_rung_57 rfl ?_
        obtain ⟨g14, e15, h⟩ := hBe h
        refine AW.putI ap_X12_232_117 sr_117_11 dX12_rung_58 e15 ?_
        refine AW.iinc (lv1 := [(3, iv (x3 + 1)), (0, rv z 117), (1, iv r12.1), (2, iv x2)]) 3 dX12_rung_61 rfl (by decide) rfl ?_
        refine AW.goto (tgt := 9) dX12_rung_64 (by decide) ?_
        refine AW.sub (lv1 := [(0, rv z 117), (1, iv r12.1), (2, iv x2), (3, iv (x3 + 1))]) [1, 2, 3, 0] rfl ?_
        exact ih _ _ _ _ h
      replace h := e13
      refine AW.if_eq (tgt := 56) dX12_rung_39 (by decide) (fun c8 => ?_) (fun c8 => ?_)
      · replace h := hT h c8
        refine AW.sub (lv1 := [(0, rv z 117), (1, iv x1), (2, iv x2), (3, iv x3)]) [1, 2, 3, 4] rfl ?_
        cases h
        exact J39
      · replace h := hF h c8
        refine AW.aloadr_n 1 dX12_rung_42 rfl ?_
        refine AW.iload_n 4 dX12_rung_43 rfl ?_
        obtain ⟨r9, e10, h⟩ := hC h
        refine AW.callVi (As := [iv x3]) (st := []) (M_lateOf_ok e10) cq_X12_447 cr_117_X12_lateOf (Nat.le_trans (by decide) hdd) rfl dX12_rung_44 rfl (Nat.le_of_ble_eq_true rfl) ?_
        refine AW.if_ne (tgt := 56) dX12_rung_47 (by decide) (fun c11 => ?_) (fun c11 => ?_)
        · replace h := hF h c11
          refine AW.sub (lv1 := [(0, rv z 117), (1, iv x1), (2, iv x2), (3, iv x3)]) [1, 2, 3, 4] rfl ?_
          cases h
          exact J39
        · replace h := hT h c11
          refine AW.iload_n 2 dX12_rung_50 rfl ?_
          refine AW.iconst dX12_rung_51 ?_
          refine AW.iload_n 4 dX12_rung_52 rfl ?_
          refine AW.ishl dX12_rung_53 ?_
          refine AW.ior dX12_rung_54 ?_
          refine AW.istore_n (lv1 := [(1, iv (orI x1 (shlI 1 x3))), (4, iv t4), (0, rv z 117), (2, iv x2), (3, iv x3)]) dX12_rung_55 (by decide) rfl ?_
          refine AW.sub (lv1 := [(0, rv z 117), (1, iv (orI x1 (shlI 1 x3))), (2, iv x2), (3, iv x3)]) [2, 0, 3, 4] rfl ?_
          cases h
          exact J39
    refine AW.if_le (tgt := 29) dX12_rung_22 (by decide) (fun c16 => ?_) (fun c16 => ?_)
    · refine AW.iconst dX12_rung_29 ?_
      exact AW.val (e5.trans (if_pos c16)) J22
    · refine AW.iconst dX12_rung_25 ?_
      refine AW.goto (tgt := 30) dX12_rung_26 (by decide) ?_
      exact AW.val (e5.trans (if_neg c16)) J22
theorem M_rung_ok {z : AZ} {g : AG} {r : Int × AG} (h : M_rung g = some r) : AMf z yX12_rung cX12_rung 5 (some .int) 9 [rv z 117] g r := by
  intro d hdd
  refine AM.of (by decide +kernel) (Nat.le_of_ble_eq_true rfl) ?_
  show AW z (RX12, cX12_rung, 5, (some .int)) d (QD (some .int) r) 0 [(0, rv z 117)] [] g
  unfold M_rung at h
  refine AW.iconst dX12_rung_0 ?_
  refine AW.istore_n (lv1 := [(1, iv 0), (0, rv z 117)]) dX12_rung_1 (by decide) rfl ?_
  refine AW.aloadr_n 1 dX12_rung_2 rfl ?_
  refine AW.getI af_X12_232_117 sr_117_11 dX12_rung_3 ?_
  refine AW.istore_n (lv1 := [(2, iv (g 117 11)), (1, iv 0), (0, rv z 117)]) dX12_rung_6 (by decide) rfl ?_
  refine AW.iconst dX12_rung_7 ?_
  refine AW.istore_n (lv1 := [(3, iv 0), (2, iv (g 117 11)), (1, iv 0), (0, rv z 117)]) dX12_rung_8 (by decide) rfl ?_
  refine AW.sub (lv1 := [(0, rv z 117), (1, iv 0), (2, iv (g 117 11)), (3, iv 0)]) [3, 2, 1, 0] rfl ?_
  exact M_rung_b_ok hdd _ _ _ _ h
theorem M_pump_ok {z : AZ} {x1 : Int} {x2 : Int} {g : AG} {r : Int × AG} (h : M_pump x1 x2 g = some r) : AMf z yX12_pump cX12_pump 3 (some .boolean) 2 [rv z 117, iv x1, iv x2] g r := by
  intro d hdd
  refine AM.of (by decide +kernel) (Nat.le_of_ble_eq_true rfl) ?_
  show AW z (RX12, cX12_pump, 3, (some .boolean)) d (QD (some .boolean) r) 0 [(0, rv z 117), (1, iv x1), (2, iv x2)] [] g
  unfold M_pump at h
  refine AW.iload_n 1 dX12_pump_0 rfl ?_
  refine AW.callSi (As := [iv x1]) (st := []) M_isPoint_ok cq_X12_238 st_X12_isPoint (Nat.le_trans (by decide) hdd) rfl dX12_pump_1 rfl (Nat.le_of_ble_eq_true rfl) ?_
  refine AW.if_ne (tgt := 9) dX12_pump_4 (by decide) (fun c1 => ?_) (fun c1 => ?_)
  · replace h := hF h c1
    refine AW.aloadr_n 0 dX12_pump_9 rfl ?_
    refine AW.getR af_X12_130_117 sr_117_55 dX12_pump_10 ?_
    refine AW.iload_n 1 dX12_pump_13 rfl ?_
    refine AW.iload_n 2 dX12_pump_14 rfl ?_
    obtain ⟨k2, h⟩ := hK h
    obtain ⟨k3, h⟩ := hK h
    obtain ⟨g4, e5, h⟩ := hBe h
    refine AW.zast kc_154 sk_154 k2 k3 dX12_pump_15 e5 ?_
    refine AW.iconst dX12_pump_16 ?_
    exact AW.zret1 rfl (Or.inr rfl) dX12_pump_17 h rfl
  · replace h := hT h c1
    refine AW.iconst dX12_pump_7 ?_
    exact AW.zret1 rfl (Or.inl rfl) dX12_pump_8 h rfl
set_option synthInstance.maxHeartbeats 2000000 in
theorem M_pumped_b_ok {z : AZ} {d : Nat} (hdd : 8 ≤ d) {x1 : Int} {x2 : Int} {x3 : Int} {x4 : Int} {x5 : Int} : ∀ (x6 : Int) (x7 : Int) (x8 : Int) (g : AG) (r : Int × AG), M_pumped_b x1 x2 x3 x4 x5 x6 x7 x8 g = some r → AW z (RX12, cX12_pumped, 10, (some .int)) d (QD (some .int) r) 53 [(0, rv z 117), (1, iv x1), (2, iv x2), (3, iv x3), (4, iv x4), (5, iv x5), (6, iv x6), (7, iv x7), (8, iv x8)] [] g := by
  refine M_pumped_b.partial_correctness x1 x2 x3 x4 x5 (fun x6 x7 x8 g r => AW z (RX12, cX12_pumped, 10, (some .int)) d (QD (some .int) r) 53 [(0, rv z 117), (1, iv x1), (2, iv x2), (3, iv x3), (4, iv x4), (5, iv x5), (6, iv x6), (7, iv x7), (8, iv x8)] [] g) ?_
  intro fb9 ih x6 x7 x8 g r h
  refine AW.iload 8 dX12_pumped_53 rfl ?_
  refine AW.bipush dX12_pumped_55 (by decide) (by decide) ?_
  refine AW.icmp_ge (tgt := 121) dX12_pumped_57 (by decide) (fun c1 => ?_) (fun c1 => ?_)
  · replace h := hT h c1
    refine AW.iload 6 dX12_pumped_121 rfl ?_
    refine AW.iconst dX12_pumped_123 ?_
    obtain ⟨t2, e3, h⟩ := hBe h
    refine AW.join (tgt := 164) (lv1 := [(0, rv z 117), (1, iv x1), (2, iv x2), (3, iv x3), (4, iv x4), (5, iv x5), (6, iv x6), (7, iv x7), (8, iv x8)]) (st1 := [iv t2]) (g1 := g) ?_ (fun J124 => ?_)
    · exact AW.iret1 rfl dX12_pumped_164 h rfl
    refine AW.icmp_eq (tgt := 132) dX12_pumped_124 (by decide) (fun c4 => ?_) (fun c4 => ?_)
    · refine AW.iload 6 dX12_pumped_132 rfl ?_
      refine AW.goto (tgt := 164) dX12_pumped_134 (by decide) ?_
      exact AW.val (e3.trans (if_pos c4)) J124
    · refine AW.iload 5 dX12_pumped_127 rfl ?_
      refine AW.if_ne (tgt := 137) dX12_pumped_129 (by decide) (fun c5 => ?_) (fun c5 => ?_)
      · refine AW.iload 5 dX12_pumped_137 rfl ?_
        refine AW.iconst dX12_pumped_139 ?_
        refine AW.icmp_ne (tgt := 148) dX12_pumped_140 (by decide) (fun c6 => ?_) (fun c6 => ?_)
        · refine AW.iload 4 dX12_pumped_148 rfl ?_
          refine AW.sipush dX12_pumped_150 (by decide) (by decide) ?_
          refine AW.iadd dX12_pumped_153 ?_
          refine AW.iload 7 dX12_pumped_154 rfl ?_
          refine AW.icmp_ge (tgt := 163) dX12_pumped_156 (by decide) (fun c7 => ?_) (fun c7 => ?_)
          · refine AW.iconst dX12_pumped_163 ?_
            exact AW.val (e3.trans ((if_neg c4).trans ((if_neg c5).trans ((if_neg c6).trans (if_pos c7))))) J124
          · refine AW.iconst dX12_pumped_159 ?_
            refine AW.goto (tgt := 164) dX12_pumped_160 (by decide) ?_
            exact AW.val (e3.trans ((if_neg c4).trans ((if_neg c5).trans ((if_neg c6).trans (if_neg c7))))) J124
        · refine AW.iload 7 dX12_pumped_143 rfl ?_
          refine AW.goto (tgt := 164) dX12_pumped_145 (by decide) ?_
          exact AW.val (e3.trans ((if_neg c4).trans ((if_neg c5).trans (if_pos c6)))) J124
      · refine AW.iload 6 dX12_pumped_132 rfl ?_
        refine AW.goto (tgt := 164) dX12_pumped_134 (by decide) ?_
        exact AW.val (e3.trans ((if_neg c4).trans (if_pos c5))) J124
  · replace h := hF h c1
    refine AW.aloadr_n 0 dX12_pumped_60 rfl ?_
    refine AW.getR af_X12_130_117 sr_117_55 dX12_pumped_61 ?_
    refine AW.iload 8 dX12_pumped_64 rfl ?_
    obtain ⟨k8, h⟩ := hK h
    refine AW.zald kc_154 sk_154 k8 dX12_pumped_66 ?_
    obtain ⟨r12, e13, h⟩ := hC h
    refine AW.join (tgt := 83) (lv1 := [(0, rv z 117), (1, iv x1), (2, iv x2), (3, iv x3), (4, iv x4), (5, iv x5), (6, iv x6), (7, iv x7), (8, iv x8)]) (st1 := [iv r12.1]) (g1 := r12.2) ?_ (fun J67 => ?_)
    · refine AW.istore (lv1 := [(9, iv r12.1), (0, rv z 117), (1, iv x1), (2, iv x2), (3, iv x3), (4, iv x4), (5, iv x5), (6, iv x6), (7, iv x7), (8, iv x8)]) dX12_pumped_83 (by decide) rfl ?_
      refine AW.iload 0 dX12_pumped_85 rfl ?_
      refine AW.iconst dX12_pumped_87 ?_
      obtain ⟨r17, e18, h⟩ := hC h
      refine AW.join (tgt := 115) (lv1 := [(0, rv z 117), (1, iv x1), (2, iv x2), (3, iv x3), (4, iv x4), (5, iv x5), (6, iv r17.1), (7, iv r17.2.1), (8, iv x8)]) (st1 := []) (g1 := r17.2.2) ?_ (fun J88 => ?_)
      · refine AW.iinc (lv1 := [(8, iv (x8 + 1)), (0, rv z 117), (1, iv x1), (2, iv x2), (3, iv x3), (4, iv x4), (5, iv x5), (6, iv r17.1), (7, iv r17.2.1)]) 8 dX12_pumped_115 rfl (by decide) rfl ?_
        refine AW.goto (tgt := 53) dX12_pumped_118 (by decide) ?_
        refine AW.sub (lv1 := [(0, rv z 117), (1, iv x1), (2, iv x2), (3, iv x3), (4, iv x4), (5, iv x5), (6, iv r17.1), (7, iv r17.2.1), (8, iv (x8 + 1))]) [1, 2, 3, 4, 5, 6, 7, 8, 0] rfl ?_
        exact ih _ _ _ _ _ h
      replace h := e18
      refine AW.icmp_eq (tgt := 115) dX12_pumped_88 (by decide) (fun c14 => ?_) (fun c14 => ?_)
      · replace h := hT h c14
        refine AW.sub (lv1 := [(0, rv z 117), (1, iv x1), (2, iv x2), (3, iv x3), (4, iv x4), (5, iv x5), (6, iv x6), (7, iv x7), (8, iv x8)]) [1, 2, 3, 4, 5, 6, 7, 8, 9] rfl ?_
        cases h
        exact J88
      · replace h := hF h c14
        refine AW.iload 7 dX12_pumped_91 rfl ?_
        refine AW.iconst dX12_pumped_93 ?_
        refine AW.icmp_eq (tgt := 107) dX12_pumped_94 (by decide) (fun c15 => ?_) (fun c15 => ?_)
        · replace h := hT h c15
          refine AW.iload 9 dX12_pumped_107 rfl ?_
          refine AW.istore (lv1 := [(6, iv x8), (9, iv r12.1), (0, rv z 117), (1, iv x1), (2, iv x2), (3, iv x3), (4, iv x4), (5, iv x5), (7, iv x7), (8, iv x8)]) dX12_pumped_109 (by decide) rfl ?_
          refine AW.iload 1 dX12_pumped_111 rfl ?_
          refine AW.istore (lv1 := [(7, iv r12.1), (6, iv x8), (9, iv r12.1), (0, rv z 117), (1, iv x1), (2, iv x2), (3, iv x3), (4, iv x4), (5, iv x5), (8, iv x8)]) dX12_pumped_113 (by decide) rfl ?_
          refine AW.sub (lv1 := [(0, rv z 117), (1, iv x1), (2, iv x2), (3, iv x3), (4, iv x4), (5, iv x5), (6, iv x8), (7, iv r12.1), (8, iv x8)]) [3, 4, 5, 6, 7, 8, 1, 0, 9] rfl ?_
          cases h
          exact J88
        · replace h := hF h c15
          refine AW.iload 0 dX12_pumped_97 rfl ?_
          refine AW.iload 8 dX12_pumped_99 rfl ?_
          refine AW.icmp_lt (tgt := 107) dX12_pumped_101 (by decide) (fun c16 => ?_) (fun c16 => ?_)
          · replace h := hT h c16
            refine AW.iload 9 dX12_pumped_107 rfl ?_
            refine AW.istore (lv1 := [(6, iv x8), (9, iv r12.1), (0, rv z 117), (1, iv x1), (2, iv x2), (3, iv x3), (4, iv x4), (5, iv x5), (7, iv x7), (8, iv x8)]) dX12_pumped_109 (by decide) rfl ?_
            refine AW.iload 1 dX12_pumped_111 rfl ?_
            refine AW.istore (lv1 := [(7, iv r12.1), (6, iv x8), (9, iv r12.1), (0, rv z 117), (1, iv x1), (2, iv x2), (3, iv x3), (4, iv x4), (5, iv x5), (8, iv x8)]) dX12_pumped_113 (by decide) rfl ?_
            refine AW.sub (lv1 := [(0, rv z 117), (1, iv x1), (2, iv x2), (3, iv x3), (4, iv x4), (5, iv x5), (6, iv x8), (7, iv r12.1), (8, iv x8)]) [3, 4, 5, 6, 7, 8, 1, 0, 9] rfl ?_
            cases h
            exact J88
          · replace h := hF h c16
            refine AW.goto (tgt := 115) dX12_pumped_104 (by decide) ?_
            refine AW.sub (lv1 := [(0, rv z 117), (1, iv x1), (2, iv x2), (3, iv x3), (4, iv x4), (5, iv x5), (6, iv x6), (7, iv x7), (8, iv x8)]) [1, 2, 3, 4, 5, 6, 7, 8, 9] rfl ?_
            cases h
            exact J88
    replace h := e13
    refine AW.if_eq (tgt := 82) dX12_pumped_67 (by decide) (fun c9 => ?_) (fun c9 => ?_)
    · replace h := hT h c9
      refine AW.iconst dX12_pumped_82 ?_
      cases h
      exact J67
    · replace h := hF h c9
      refine AW.aloadr_n 0 dX12_pumped_70 rfl ?_
      refine AW.iload_n 1 dX12_pumped_71 rfl ?_
      refine AW.iload_n 2 dX12_pumped_72 rfl ?_
      refine AW.iload 8 dX12_pumped_73 rfl ?_
      refine AW.iload_n 3 dX12_pumped_75 rfl ?_
      obtain ⟨r10, e11, h⟩ := hC h
      refine AW.callVi (As := [iv x1, iv x2, iv x8, iv x3]) (st := []) (M_led_ok e11) cq_X12_441 cr_117_X12_led (Nat.le_trans (by decide) hdd) rfl dX12_pumped_76 rfl (Nat.le_of_ble_eq_true rfl) ?_
      refine AW.goto (tgt := 83) dX12_pumped_79 (by decide) ?_
      cases h
      exact J67
theorem M_pumped_ok {z : AZ} {x1 : Int} {x2 : Int} {x3 : Int} {x4 : Int} {x5 : Int} {g : AG} {r : Int × AG} (h : M_pumped x1 x2 x3 x4 x5 g = some r) : AMf z yX12_pumped cX12_pumped 10 (some .int) 8 [rv z 117, iv x1, iv x2, iv x3, iv x4, iv x5] g r := by
  intro d hdd
  refine AM.of (by decide +kernel) (Nat.le_of_ble_eq_true rfl) ?_
  show AW z (RX12, cX12_pumped, 10, (some .int)) d (QD (some .int) r) 0 [(0, rv z 117), (1, iv x1), (2, iv x2), (3, iv x3), (4, iv x4), (5, iv x5)] [] g
  unfold M_pumped at h
  refine AW.aloadr_n 0 dX12_pumped_0 rfl ?_
  refine AW.iload_n 1 dX12_pumped_1 rfl ?_
  refine AW.callVi (As := [iv x1]) (st := []) M_isBoat_ok cq_X12_435 cr_117_X12_isBoat (Nat.le_trans (by decide) hdd) rfl dX12_pumped_2 rfl (Nat.le_of_ble_eq_true rfl) ?_
  refine AW.if_eq (tgt := 42) dX12_pumped_5 (by decide) (fun c1 => ?_) (fun c1 => ?_)
  · replace h := hT h c1
    refine AW.iconst dX12_pumped_42 ?_
    exact AW.iret1 rfl dX12_pumped_43 h rfl
  · replace h := hF h c1
    refine AW.iload_n 2 dX12_pumped_8 rfl ?_
    refine AW.callSi (As := [iv x2]) (st := []) M_isPoint_ok cq_X12_238 st_X12_isPoint (Nat.le_trans (by decide) hdd) rfl dX12_pumped_9 rfl (Nat.le_of_ble_eq_true rfl) ?_
    refine AW.if_eq (tgt := 42) dX12_pumped_12 (by decide) (fun c2 => ?_) (fun c2 => ?_)
    · replace h := hT h c2
      refine AW.iconst dX12_pumped_42 ?_
      exact AW.iret1 rfl dX12_pumped_43 h rfl
    · replace h := hF h c2
      refine AW.iload_n 3 dX12_pumped_15 rfl ?_
      refine AW.callSi (As := [iv x3]) (st := []) M_isTime_ok cq_X12_438 st_X12_isTime (Nat.le_trans (by decide) hdd) rfl dX12_pumped_16 rfl (Nat.le_of_ble_eq_true rfl) ?_
      refine AW.if_eq (tgt := 42) dX12_pumped_19 (by decide) (fun c3 => ?_) (fun c3 => ?_)
      · replace h := hT h c3
        refine AW.iconst dX12_pumped_42 ?_
        exact AW.iret1 rfl dX12_pumped_43 h rfl
      · replace h := hF h c3
        refine AW.iload 4 dX12_pumped_22 rfl ?_
        refine AW.iconst dX12_pumped_24 ?_
        refine AW.iload_n 3 dX12_pumped_25 rfl ?_
        refine AW.callSi (As := [iv x4, iv 0, iv x3]) (st := []) M_isIn_ok cq_X12_3 st_X12_isIn (Nat.le_trans (by decide) hdd) rfl dX12_pumped_26 rfl (Nat.le_of_ble_eq_true rfl) ?_
        refine AW.if_eq (tgt := 42) dX12_pumped_29 (by decide) (fun c4 => ?_) (fun c4 => ?_)
        · replace h := hT h c4
          refine AW.iconst dX12_pumped_42 ?_
          exact AW.iret1 rfl dX12_pumped_43 h rfl
        · replace h := hF h c4
          refine AW.iload 5 dX12_pumped_32 rfl ?_
          refine AW.iconst dX12_pumped_34 ?_
          refine AW.iconst dX12_pumped_35 ?_
          refine AW.callSi (As := [iv x5, iv 0, iv 2]) (st := []) M_isIn_ok cq_X12_3 st_X12_isIn (Nat.le_trans (by decide) hdd) rfl dX12_pumped_36 rfl (Nat.le_of_ble_eq_true rfl) ?_
          refine AW.if_ne (tgt := 44) dX12_pumped_39 (by decide) (fun c5 => ?_) (fun c5 => ?_)
          · replace h := hF h c5
            refine AW.iconst dX12_pumped_44 ?_
            refine AW.istore (lv1 := [(6, iv (-1)), (0, rv z 117), (1, iv x1), (2, iv x2), (3, iv x3), (4, iv x4), (5, iv x5)]) dX12_pumped_45 (by decide) rfl ?_
            refine AW.iconst dX12_pumped_47 ?_
            refine AW.istore (lv1 := [(7, iv (-1)), (6, iv (-1)), (0, rv z 117), (1, iv x1), (2, iv x2), (3, iv x3), (4, iv x4), (5, iv x5)]) dX12_pumped_48 (by decide) rfl ?_
            refine AW.iconst dX12_pumped_50 ?_
            refine AW.istore (lv1 := [(8, iv 0), (7, iv (-1)), (6, iv (-1)), (0, rv z 117), (1, iv x1), (2, iv x2), (3, iv x3), (4, iv x4), (5, iv x5)]) dX12_pumped_51 (by decide) rfl ?_
            refine AW.sub (lv1 := [(0, rv z 117), (1, iv x1), (2, iv x2), (3, iv x3), (4, iv x4), (5, iv x5), (6, iv (-1)), (7, iv (-1)), (8, iv 0)]) [3, 4, 5, 6, 7, 8, 2, 1, 0] rfl ?_
            exact M_pumped_b_ok hdd _ _ _ _ _ h
          · replace h := hT h c5
            refine AW.iconst dX12_pumped_42 ?_
            exact AW.iret1 rfl dX12_pumped_43 h rfl
set_option synthInstance.maxHeartbeats 2000000 in
theorem M_log_b_ok {z : AZ} {d : Nat} (hdd : 2 ≤ d) {x1 : Int} {x2 : Int} {x3 : Int} {g : AG} : ∀ (r : Int × AG), M_log_b x1 x2 x3 g = some r → AW z (RX12, cX12_log, 4, (some .int)) d (QD (some .int) r) 66 [(0, rv z 117), (1, iv x1), (2, iv x2), (3, iv x3)] [] g := by
  intro r h
  unfold M_log_b at h
  refine AW.aloadr_n 0 dX12_log_66 rfl ?_
  refine AW.getR af_X12_136_117 sr_117_57 dX12_log_67 ?_
  refine AW.bipush dX12_log_70 (by decide) (by decide) ?_
  refine AW.iload_n 1 dX12_log_72 rfl ?_
  refine AW.imul dX12_log_73 ?_
  refine AW.aloadr_n 0 dX12_log_74 rfl ?_
  refine AW.getR af_X12_133_117 sr_117_56 dX12_log_75 ?_
  refine AW.iload_n 1 dX12_log_78 rfl ?_
  obtain ⟨k1, h⟩ := hK h
  refine AW.iald kc_155 sk_155 k1 dX12_log_79 ?_
  refine AW.iadd dX12_log_80 ?_
  refine AW.iload_n 2 dX12_log_81 rfl ?_
  obtain ⟨k2, h⟩ := hK h
  obtain ⟨g3, e4, h⟩ := hBe h
  refine AW.iast kc_156 sk_156 k2 dX12_log_82 e4 ?_
  refine AW.aloadr_n 0 dX12_log_83 rfl ?_
  refine AW.getR af_X12_139_117 sr_117_58 dX12_log_84 ?_
  refine AW.bipush dX12_log_87 (by decide) (by decide) ?_
  refine AW.iload_n 1 dX12_log_89 rfl ?_
  refine AW.imul dX12_log_90 ?_
  refine AW.aloadr_n 0 dX12_log_91 rfl ?_
  refine AW.getR af_X12_133_117 sr_117_56 dX12_log_92 ?_
  refine AW.iload_n 1 dX12_log_95 rfl ?_
  refine AW.iald kc_155 sk_155 k1 dX12_log_96 ?_
  refine AW.iadd dX12_log_97 ?_
  refine AW.iload_n 3 dX12_log_98 rfl ?_
  obtain ⟨k5, h⟩ := hK h
  obtain ⟨g6, e7, h⟩ := hBe h
  refine AW.iast kc_157 sk_157 k5 dX12_log_99 e7 ?_
  refine AW.aloadr_n 0 dX12_log_100 rfl ?_
  refine AW.getR af_X12_133_117 sr_117_56 dX12_log_101 ?_
  refine AW.iload_n 1 dX12_log_104 rfl ?_
  refine AW.dup2r dX12_log_105 ?_
  refine AW.iald kc_155 sk_155 k1 dX12_log_106 ?_
  refine AW.iconst dX12_log_107 ?_
  refine AW.iadd dX12_log_108 ?_
  obtain ⟨g8, e9, h⟩ := hBe h
  refine AW.iast kc_155 sk_155 k1 dX12_log_109 e9 ?_
  refine AW.aloadr_n 0 dX12_log_110 rfl ?_
  refine AW.getR af_X12_133_117 sr_117_56 dX12_log_111 ?_
  refine AW.iload_n 1 dX12_log_114 rfl ?_
  refine AW.iald kc_155 sk_155 k1 dX12_log_115 ?_
  exact AW.iret1 rfl dX12_log_116 h rfl
theorem M_log_ok {z : AZ} {x1 : Int} {x2 : Int} {x3 : Int} {g : AG} {r : Int × AG} (h : M_log x1 x2 x3 g = some r) : AMf z yX12_log cX12_log 4 (some .int) 2 [rv z 117, iv x1, iv x2, iv x3] g r := by
  intro d hdd
  refine AM.of (by decide +kernel) (Nat.le_of_ble_eq_true rfl) ?_
  show AW z (RX12, cX12_log, 4, (some .int)) d (QD (some .int) r) 0 [(0, rv z 117), (1, iv x1), (2, iv x2), (3, iv x3)] [] g
  unfold M_log at h
  refine AW.aloadr_n 0 dX12_log_0 rfl ?_
  refine AW.iload_n 1 dX12_log_1 rfl ?_
  refine AW.callVi (As := [iv x1]) (st := []) M_isBoat_ok cq_X12_435 cr_117_X12_isBoat (Nat.le_trans (by decide) hdd) rfl dX12_log_2 rfl (Nat.le_of_ble_eq_true rfl) ?_
  refine AW.if_eq (tgt := 64) dX12_log_5 (by decide) (fun c1 => ?_) (fun c1 => ?_)
  · replace h := hT h c1
    refine AW.iconst dX12_log_64 ?_
    exact AW.iret1 rfl dX12_log_65 h rfl
  · replace h := hF h c1
    refine AW.iload_n 2 dX12_log_8 rfl ?_
    refine AW.callSi (As := [iv x2]) (st := []) M_isPoint_ok cq_X12_238 st_X12_isPoint (Nat.le_trans (by decide) hdd) rfl dX12_log_9 rfl (Nat.le_of_ble_eq_true rfl) ?_
    refine AW.if_eq (tgt := 64) dX12_log_12 (by decide) (fun c2 => ?_) (fun c2 => ?_)
    · replace h := hT h c2
      refine AW.iconst dX12_log_64 ?_
      exact AW.iret1 rfl dX12_log_65 h rfl
    · replace h := hF h c2
      refine AW.iload_n 3 dX12_log_15 rfl ?_
      refine AW.callSi (As := [iv x3]) (st := []) M_isTime_ok cq_X12_438 st_X12_isTime (Nat.le_trans (by decide) hdd) rfl dX12_log_16 rfl (Nat.le_of_ble_eq_true rfl) ?_
      refine AW.if_eq (tgt := 64) dX12_log_19 (by decide) (fun c3 => ?_) (fun c3 => ?_)
      · replace h := hT h c3
        refine AW.iconst dX12_log_64 ?_
        exact AW.iret1 rfl dX12_log_65 h rfl
      · replace h := hF h c3
        refine AW.aloadr_n 0 dX12_log_22 rfl ?_
        refine AW.getR af_X12_133_117 sr_117_56 dX12_log_23 ?_
        refine AW.iload_n 1 dX12_log_26 rfl ?_
        obtain ⟨k4, h⟩ := hK h
        refine AW.iald kc_155 sk_155 k4 dX12_log_27 ?_
        refine AW.bipush dX12_log_28 (by decide) (by decide) ?_
        refine AW.icmp_eq (tgt := 64) dX12_log_30 (by decide) (fun c5 => ?_) (fun c5 => ?_)
        · replace h := hT h c5
          refine AW.iconst dX12_log_64 ?_
          exact AW.iret1 rfl dX12_log_65 h rfl
        · replace h := hF h c5
          refine AW.aloadr_n 0 dX12_log_33 rfl ?_
          refine AW.getR af_X12_133_117 sr_117_56 dX12_log_34 ?_
          refine AW.iload_n 1 dX12_log_37 rfl ?_
          refine AW.iald kc_155 sk_155 k4 dX12_log_38 ?_
          refine AW.if_le (tgt := 66) dX12_log_39 (by decide) (fun c6 => ?_) (fun c6 => ?_)
          · replace h := hT h c6
            exact M_log_b_ok hdd _ h
          · replace h := hF h c6
            refine AW.iload_n 3 dX12_log_42 rfl ?_
            refine AW.aloadr_n 0 dX12_log_43 rfl ?_
            refine AW.getR af_X12_139_117 sr_117_58 dX12_log_44 ?_
            refine AW.bipush dX12_log_47 (by decide) (by decide) ?_
            refine AW.iload_n 1 dX12_log_49 rfl ?_
            refine AW.imul dX12_log_50 ?_
            refine AW.aloadr_n 0 dX12_log_51 rfl ?_
            refine AW.getR af_X12_133_117 sr_117_56 dX12_log_52 ?_
            refine AW.iload_n 1 dX12_log_55 rfl ?_
            refine AW.iald kc_155 sk_155 k4 dX12_log_56 ?_
            refine AW.iadd dX12_log_57 ?_
            refine AW.iconst dX12_log_58 ?_
            refine AW.isub dX12_log_59 ?_
            obtain ⟨k7, h⟩ := hK h
            refine AW.iald kc_157 sk_157 k7 dX12_log_60 ?_
            refine AW.icmp_gt (tgt := 66) dX12_log_61 (by decide) (fun c8 => ?_) (fun c8 => ?_)
            · replace h := hT h c8
              exact M_log_b_ok hdd _ h
            · replace h := hF h c8
              refine AW.iconst dX12_log_64 ?_
              exact AW.iret1 rfl dX12_log_65 h rfl
theorem M_isSpan_ok {z : AZ} {x0 : Int} {x1 : Int} {g : AG} : AMf z yX12_isSpan cX12_isSpan 2 (some .boolean) 2 [iv x0, iv x1] g ((M_isSpan x0 x1), g) := by
  intro d hdd
  refine AM.of (by decide +kernel) (Nat.le_of_ble_eq_true rfl) ?_
  show AW z (RX12, cX12_isSpan, 2, (some .boolean)) d (QD (some .boolean) ((M_isSpan x0 x1), g)) 0 [(0, iv x0), (1, iv x1)] [] g
  refine AW.iload_n 0 dX12_isSpan_0 rfl ?_
  refine AW.callSi (As := [iv x0]) (st := []) M_isTime_ok cq_X12_438 st_X12_isTime (Nat.le_trans (by decide) hdd) rfl dX12_isSpan_1 rfl (Nat.le_of_ble_eq_true rfl) ?_
  refine AW.join (tgt := 23) (lv1 := [(0, iv x0), (1, iv x1)]) (st1 := [iv (if nw (M_isTime x0) = 0 then 0 else (if nw (M_isIn x1 x0 20159) = 0 then 0 else 1))]) (g1 := g) ?_ (fun J4 => ?_)
  · exact AW.zret rfl (by (repeat' split) <;> first | exact Or.inl rfl | exact Or.inr rfl) dX12_isSpan_23 ⟨congrArg (fun v => some (iv v)) (show M_isSpan x0 x1  = (if nw (M_isTime x0) = 0 then 0 else (if nw (M_isIn x1 x0 20159) = 0 then 0 else 1)) from rfl).symm, rfl⟩
  refine AW.if_eq (tgt := 22) dX12_isSpan_4 (by decide) (fun c1 => ?_) (fun c1 => ?_)
  · refine AW.iconst dX12_isSpan_22 ?_
    exact AW.val (if_pos c1) J4
  · refine AW.iload_n 1 dX12_isSpan_7 rfl ?_
    refine AW.iload_n 0 dX12_isSpan_8 rfl ?_
    refine AW.sipush dX12_isSpan_9 (by decide) (by decide) ?_
    refine AW.callSi (As := [iv x1, iv x0, iv 20159]) (st := []) M_isIn_ok cq_X12_3 st_X12_isIn (Nat.le_trans (by decide) hdd) rfl dX12_isSpan_12 rfl (Nat.le_of_ble_eq_true rfl) ?_
    refine AW.if_eq (tgt := 22) dX12_isSpan_15 (by decide) (fun c2 => ?_) (fun c2 => ?_)
    · refine AW.iconst dX12_isSpan_22 ?_
      exact AW.val ((if_neg c1).trans (if_pos c2)) J4
    · refine AW.iconst dX12_isSpan_18 ?_
      refine AW.goto (tgt := 23) dX12_isSpan_19 (by decide) ?_
      exact AW.val ((if_neg c1).trans (if_neg c2)) J4
set_option synthInstance.maxHeartbeats 2000000 in
theorem M_between_b_ok {z : AZ} {d : Nat} (hdd : 8 ≤ d) {x1 : Int} {x2 : Int} {x5 : Int} {x8 : Int} {x9 : Int} {g : AG} : ∀ (r : Int × AG), M_between_b x1 x2 x5 x8 x9 g = some r → AW z (RX12, cX12_between, 11, (some .boolean)) d (QD (some .boolean) r) 136 [(0, rv z 117), (1, iv x1), (2, iv x2), (5, iv x5), (8, iv x8), (9, iv x9)] [] g := by
  intro r h
  unfold M_between_b at h
  refine AW.iload 5 dX12_between_136 rfl ?_
  refine AW.if_eq (tgt := 143) dX12_between_138 (by decide) (fun c1 => ?_) (fun c1 => ?_)
  · replace h := hT h c1
    refine AW.aloadr_n 0 dX12_between_143 rfl ?_
    refine AW.iload_n 1 dX12_between_144 rfl ?_
    refine AW.iload_n 2 dX12_between_145 rfl ?_
    refine AW.aloadr_n 0 dX12_between_146 rfl ?_
    refine AW.getR af_X12_136_117 sr_117_57 dX12_between_147 ?_
    refine AW.bipush dX12_between_150 (by decide) (by decide) ?_
    refine AW.iload_n 1 dX12_between_152 rfl ?_
    refine AW.imul dX12_between_153 ?_
    refine AW.iload 3 dX12_between_154 rfl ?_
    refine AW.iadd dX12_between_156 ?_
    refine AW.iconst dX12_between_157 ?_
    refine AW.iadd dX12_between_158 ?_
    obtain ⟨k2, h⟩ := hK h
    refine AW.iald kc_156 sk_156 k2 dX12_between_159 ?_
    refine AW.iload 4 dX12_between_160 rfl ?_
    obtain ⟨r3, e4, h⟩ := hC h
    refine AW.callVi (As := [iv x1, iv x2, iv (g 156 (ix (((10 * x1) + x5) + 1))), iv x8]) (st := []) (M_led_ok e4) cq_X12_441 cr_117_X12_led (Nat.le_trans (by decide) hdd) rfl dX12_between_162 rfl (Nat.le_of_ble_eq_true rfl) ?_
    refine AW.istore (lv1 := [(10, iv r3.1), (0, rv z 117), (1, iv x1), (2, iv x2), (5, iv x5), (8, iv x8), (9, iv x9)]) dX12_between_165 (by decide) rfl ?_
    refine AW.iload 0 dX12_between_167 rfl ?_
    refine AW.iconst dX12_between_169 ?_
    obtain ⟨r9, e10, h⟩ := hC h
    refine AW.join (tgt := 197) (lv1 := []) (st1 := [iv r9.1]) (g1 := r9.2) ?_ (fun J170 => ?_)
    · obtain ⟨k11, h⟩ := hK h
      exact AW.zret1 rfl k11 dX12_between_197 h rfl
    replace h := e10
    refine AW.icmp_eq (tgt := 196) dX12_between_170 (by decide) (fun c5 => ?_) (fun c5 => ?_)
    · replace h := hT h c5
      refine AW.iconst dX12_between_196 ?_
      refine AW.sub (lv1 := []) [] rfl ?_
      cases h
      exact J170
    · replace h := hF h c5
      refine AW.iload 0 dX12_between_173 rfl ?_
      refine AW.aloadr_n 1 dX12_between_175 rfl ?_
      refine AW.getR af_X12_139_117 sr_117_58 dX12_between_176 ?_
      refine AW.bipush dX12_between_179 (by decide) (by decide) ?_
      refine AW.iload_n 2 dX12_between_181 rfl ?_
      refine AW.imul dX12_between_182 ?_
      refine AW.iload 4 dX12_between_183 rfl ?_
      refine AW.iadd dX12_between_185 ?_
      refine AW.iconst dX12_between_186 ?_
      refine AW.iadd dX12_between_187 ?_
      refine AW.iald kc_157 sk_157 k2 dX12_between_188 ?_
      obtain ⟨t6, e7, h⟩ := hBe h
      refine AW.join (tgt := 197) (lv1 := [(10, iv r3.1), (0, rv z 117), (1, iv x1), (2, iv x2), (5, iv x5), (8, iv x8), (9, iv x9)]) (st1 := [iv t6]) (g1 := r3.2) ?_ (fun J189 => ?_)
      · refine AW.sub (lv1 := []) [] rfl ?_
        cases h
        exact J170
      refine AW.icmp_gt (tgt := 196) dX12_between_189 (by decide) (fun c8 => ?_) (fun c8 => ?_)
      · refine AW.iconst dX12_between_196 ?_
        exact AW.val (e7.trans (if_pos c8)) J189
      · refine AW.iconst dX12_between_192 ?_
        refine AW.goto (tgt := 197) dX12_between_193 (by decide) ?_
        exact AW.val (e7.trans (if_neg c8)) J189
  · replace h := hF h c1
    refine AW.iconst dX12_between_141 ?_
    exact AW.zret1 rfl (Or.inr rfl) dX12_between_142 h rfl
theorem M_between_ok {z : AZ} {x1 : Int} {x2 : Int} {x3 : Int} {x4 : Int} {x5 : Int} {g : AG} {r : Int × AG} (h : M_between x1 x2 x3 x4 x5 g = some r) : AMf z yX12_between cX12_between 11 (some .boolean) 8 [rv z 117, iv x1, iv x2, iv x3, iv x4, iv x5] g r := by
  intro d hdd
  refine AM.of (by decide +kernel) (Nat.le_of_ble_eq_true rfl) ?_
  show AW z (RX12, cX12_between, 11, (some .boolean)) d (QD (some .boolean) r) 0 [(0, rv z 117), (1, iv x1), (2, iv x2), (3, iv x3), (4, iv x4), (5, iv x5)] [] g
  unfold M_between at h
  refine AW.iload 5 dX12_between_0 rfl ?_
  refine AW.iconst dX12_between_2 ?_
  obtain ⟨r3, e4, h⟩ := hC h
  refine AW.join (tgt := 22) (lv1 := [(0, rv z 117), (1, iv x1), (2, iv x2), (3, iv x3), (4, iv x4), (5, iv x5)]) (st1 := [iv r3.1]) (g1 := r3.2) ?_ (fun J3 => ?_)
  · refine AW.istore (lv1 := [(6, iv r3.1), (0, rv z 117), (1, iv x1), (2, iv x2), (3, iv x3), (4, iv x4), (5, iv x5)]) dX12_between_22 (by decide) rfl ?_
    refine AW.aloadr_n 1 dX12_between_24 rfl ?_
    refine AW.iload_n 2 dX12_between_25 rfl ?_
    refine AW.iload 6 dX12_between_26 rfl ?_
    refine AW.iconst dX12_between_28 ?_
    obtain ⟨r8, e9, h⟩ := hC h
    refine AW.join (tgt := 53) (lv1 := [(0, rv z 117), (1, iv x1), (2, iv x2), (3, iv x3), (4, iv x4), (5, iv x5), (6, iv r3.1)]) (st1 := [iv r8.1, iv x1, rv z 117]) (g1 := r8.2) ?_ (fun J29 => ?_)
    · refine AW.iload_n 2 dX12_between_53 rfl ?_
      refine AW.iload 6 dX12_between_54 rfl ?_
      obtain ⟨r10, e11, h⟩ := hC h
      refine AW.callVi (As := [iv x1, iv r8.1, iv x2, iv r3.1]) (st := []) (M_led_ok e11) cq_X12_441 cr_117_X12_led (Nat.le_trans (by decide) hdd) rfl dX12_between_56 rfl (Nat.le_of_ble_eq_true rfl) ?_
      refine AW.istore (lv1 := [(7, iv r10.1), (0, rv z 117), (1, iv x1), (2, iv x2), (3, iv x3), (4, iv x4), (5, iv x5), (6, iv r3.1)]) dX12_between_59 (by decide) rfl ?_
      refine AW.iload 0 dX12_between_61 rfl ?_
      refine AW.iconst dX12_between_63 ?_
      refine AW.icmp_ne (tgt := 69) dX12_between_64 (by decide) (fun c12 => ?_) (fun c12 => ?_)
      · replace h := hF h c12
        refine AW.iload 0 dX12_between_69 rfl ?_
        refine AW.iload_n 4 dX12_between_71 rfl ?_
        obtain ⟨t13, e14, h⟩ := hBe h
        refine AW.join (tgt := 81) (lv1 := [(7, iv r10.1), (0, rv z 117), (1, iv x1), (2, iv x2), (3, iv x3), (4, iv x4), (5, iv x5), (6, iv r3.1)]) (st1 := [iv t13]) (g1 := r10.2) ?_ (fun J72 => ?_)
        · refine AW.istore (lv1 := [(8, iv t13), (7, iv r10.1), (0, rv z 117), (1, iv x1), (2, iv x2), (3, iv x3), (4, iv x4), (5, iv x5), (6, iv r3.1)]) dX12_between_81 (by decide) rfl ?_
          refine AW.iload 7 dX12_between_83 rfl ?_
          refine AW.iconst dX12_between_85 ?_
          refine AW.iadd dX12_between_86 ?_
          refine AW.aloadr_n 2 dX12_between_87 rfl ?_
          refine AW.getR af_X12_133_117 sr_117_56 dX12_between_88 ?_
          refine AW.iload_n 3 dX12_between_91 rfl ?_
          obtain ⟨k15, h⟩ := hK h
          refine AW.iald kc_155 sk_155 k15 dX12_between_92 ?_
          obtain ⟨t16, e17, h⟩ := hBe h
          refine AW.join (tgt := 101) (lv1 := [(8, iv t13), (7, iv r10.1), (0, rv z 117), (1, iv x1), (2, iv x2), (3, iv x3), (4, iv x4), (5, iv x5), (6, iv r3.1)]) (st1 := [iv t16]) (g1 := r10.2) ?_ (fun J93 => ?_)
          · refine AW.istore (lv1 := [(9, iv t16), (8, iv t13), (7, iv r10.1), (0, rv z 117), (1, iv x1), (2, iv x2), (3, iv x3), (4, iv x4), (5, iv x5), (6, iv r3.1)]) dX12_between_101 (by decide) rfl ?_
            refine AW.iload 1 dX12_between_103 rfl ?_
            refine AW.iload 7 dX12_between_105 rfl ?_
            refine AW.icmp_gt (tgt := 134) dX12_between_107 (by decide) (fun c18 => ?_) (fun c18 => ?_)
            · replace h := hT h c18
              refine AW.iconst dX12_between_134 ?_
              exact AW.zret1 rfl (Or.inl rfl) dX12_between_135 h rfl
            · replace h := hF h c18
              refine AW.iload 0 dX12_between_110 rfl ?_
              refine AW.if_ne (tgt := 136) dX12_between_112 (by decide) (fun c19 => ?_) (fun c19 => ?_)
              · replace h := hF h c19
                refine AW.sub (lv1 := [(0, rv z 117), (1, iv x1), (2, iv x2), (5, iv x5), (8, iv t13), (9, iv t16)]) [3, 4, 5, 8, 1, 0] rfl ?_
                exact M_between_b_ok hdd _ h
              · replace h := hT h c19
                refine AW.iload 1 dX12_between_115 rfl ?_
                refine AW.aloadr_n 3 dX12_between_117 rfl ?_
                refine AW.getR af_X12_139_117 sr_117_58 dX12_between_118 ?_
                refine AW.bipush dX12_between_121 (by decide) (by decide) ?_
                refine AW.iload_n 4 dX12_between_123 rfl ?_
                refine AW.imul dX12_between_124 ?_
                refine AW.iload 8 dX12_between_125 rfl ?_
                refine AW.iadd dX12_between_127 ?_
                refine AW.iconst dX12_between_128 ?_
                refine AW.iadd dX12_between_129 ?_
                obtain ⟨k20, h⟩ := hK h
                refine AW.iald kc_157 sk_157 k20 dX12_between_130 ?_
                refine AW.icmp_lt (tgt := 136) dX12_between_131 (by decide) (fun c21 => ?_) (fun c21 => ?_)
                · replace h := hT h c21
                  refine AW.sub (lv1 := [(0, rv z 117), (1, iv x1), (2, iv x2), (5, iv x5), (8, iv t13), (9, iv t16)]) [3, 4, 5, 8, 1, 0] rfl ?_
                  exact M_between_b_ok hdd _ h
                · replace h := hF h c21
                  refine AW.iconst dX12_between_134 ?_
                  exact AW.zret1 rfl (Or.inl rfl) dX12_between_135 h rfl
          refine AW.icmp_ne (tgt := 100) dX12_between_93 (by decide) (fun c22 => ?_) (fun c22 => ?_)
          · refine AW.iconst dX12_between_100 ?_
            exact AW.val (e17.trans (if_neg c22)) J93
          · refine AW.iconst dX12_between_96 ?_
            refine AW.goto (tgt := 101) dX12_between_97 (by decide) ?_
            exact AW.val (e17.trans (if_pos c22)) J93
        refine AW.icmp_le (tgt := 80) dX12_between_72 (by decide) (fun c23 => ?_) (fun c23 => ?_)
        · refine AW.iload_n 4 dX12_between_80 rfl ?_
          exact AW.val (e14.trans (if_pos c23)) J72
        · refine AW.iload 0 dX12_between_75 rfl ?_
          refine AW.goto (tgt := 81) dX12_between_77 (by decide) ?_
          exact AW.val (e14.trans (if_neg c23)) J72
      · replace h := hT h c12
        refine AW.iconst dX12_between_67 ?_
        exact AW.zret1 rfl (Or.inl rfl) dX12_between_68 h rfl
    replace h := e9
    refine AW.icmp_ne (tgt := 41) dX12_between_29 (by decide) (fun c5 => ?_) (fun c5 => ?_)
    · replace h := hF h c5
      refine AW.aloadr_n 1 dX12_between_41 rfl ?_
      refine AW.getR af_X12_136_117 sr_117_57 dX12_between_42 ?_
      refine AW.bipush dX12_between_45 (by decide) (by decide) ?_
      refine AW.iload_n 2 dX12_between_47 rfl ?_
      refine AW.imul dX12_between_48 ?_
      refine AW.iload 6 dX12_between_49 rfl ?_
      refine AW.iadd dX12_between_51 ?_
      obtain ⟨k6, h⟩ := hK h
      refine AW.iald kc_156 sk_156 k6 dX12_between_52 ?_
      refine AW.sub (lv1 := [(0, rv z 117), (1, iv x1), (2, iv x2), (3, iv x3), (4, iv x4), (5, iv x5), (6, iv r3.1)]) [1, 2, 3, 4, 5, 6, 0] rfl ?_
      cases h
      exact J29
    · replace h := hT h c5
      refine AW.aloadr_n 1 dX12_between_32 rfl ?_
      refine AW.getR af_X12_38_117 sr_117_8 dX12_between_33 ?_
      refine AW.iload_n 2 dX12_between_36 rfl ?_
      obtain ⟨k7, h⟩ := hK h
      refine AW.iald kc_126 sk_126 k7 dX12_between_37 ?_
      refine AW.goto (tgt := 53) dX12_between_38 (by decide) ?_
      refine AW.sub (lv1 := [(0, rv z 117), (1, iv x1), (2, iv x2), (3, iv x3), (4, iv x4), (5, iv x5), (6, iv r3.1)]) [1, 2, 3, 4, 5, 6, 0] rfl ?_
      cases h
      exact J29
  replace h := e4
  refine AW.icmp_ne (tgt := 10) dX12_between_3 (by decide) (fun c1 => ?_) (fun c1 => ?_)
  · replace h := hF h c1
    refine AW.aloadr_n 0 dX12_between_10 rfl ?_
    refine AW.getR af_X12_139_117 sr_117_58 dX12_between_11 ?_
    refine AW.bipush dX12_between_14 (by decide) (by decide) ?_
    refine AW.iload_n 1 dX12_between_16 rfl ?_
    refine AW.imul dX12_between_17 ?_
    refine AW.iload 5 dX12_between_18 rfl ?_
    refine AW.iadd dX12_between_20 ?_
    obtain ⟨k2, h⟩ := hK h
    refine AW.iald kc_157 sk_157 k2 dX12_between_21 ?_
    cases h
    exact J3
  · replace h := hT h c1
    refine AW.iconst dX12_between_6 ?_
    refine AW.goto (tgt := 22) dX12_between_7 (by decide) ?_
    cases h
    exact J3
set_option synthInstance.maxHeartbeats 2000000 in
theorem M_canHaveBeen_b_ok {z : AZ} {d : Nat} (hdd : 9 ≤ d) {x1 : Int} {x2 : Int} {x3 : Int} {x4 : Int} : ∀ (x5 : Int) (g : AG) (r : Int × AG), M_canHaveBeen_b x1 x2 x3 x4 x5 g = some r → AW z (RX12, cX12_canHaveBeen, 6, (some .boolean)) d (QD (some .boolean) r) 3 [(0, rv z 117), (1, iv x1), (2, iv x2), (3, iv x3), (4, iv x4), (5, iv x5)] [] g := by
  refine M_canHaveBeen_b.partial_correctness x1 x2 x3 x4 (fun x5 g r => AW z (RX12, cX12_canHaveBeen, 6, (some .boolean)) d (QD (some .boolean) r) 3 [(0, rv z 117), (1, iv x1), (2, iv x2), (3, iv x3), (4, iv x4), (5, iv x5)] [] g) ?_
  intro fb9 ih x5 g r h
  refine AW.iload 5 dX12_canHaveBeen_3 rfl ?_
  refine AW.aloadr_n 0 dX12_canHaveBeen_5 rfl ?_
  refine AW.getR af_X12_133_117 sr_117_56 dX12_canHaveBeen_6 ?_
  refine AW.iload_n 1 dX12_canHaveBeen_9 rfl ?_
  obtain ⟨k1, h⟩ := hK h
  refine AW.iald kc_155 sk_155 k1 dX12_canHaveBeen_10 ?_
  refine AW.icmp_ge (tgt := 36) dX12_canHaveBeen_11 (by decide) (fun c2 => ?_) (fun c2 => ?_)
  · replace h := hT h c2
    refine AW.iconst dX12_canHaveBeen_36 ?_
    exact AW.zret1 rfl (Or.inl rfl) dX12_canHaveBeen_37 h rfl
  · replace h := hF h c2
    refine AW.aloadr_n 0 dX12_canHaveBeen_14 rfl ?_
    refine AW.iload_n 1 dX12_canHaveBeen_15 rfl ?_
    refine AW.iload_n 2 dX12_canHaveBeen_16 rfl ?_
    refine AW.iload_n 3 dX12_canHaveBeen_17 rfl ?_
    refine AW.iload 4 dX12_canHaveBeen_18 rfl ?_
    refine AW.iload 5 dX12_canHaveBeen_20 rfl ?_
    obtain ⟨r3, e4, h⟩ := hC h
    refine AW.callVi (As := [iv x1, iv x2, iv x3, iv x4, iv x5]) (st := []) (M_between_ok e4) cq_X12_465 cr_117_X12_between (Nat.le_trans (by decide) hdd) rfl dX12_canHaveBeen_22 rfl (Nat.le_of_ble_eq_true rfl) ?_
    refine AW.if_eq (tgt := 30) dX12_canHaveBeen_25 (by decide) (fun c5 => ?_) (fun c5 => ?_)
    · replace h := hT h c5
      refine AW.iinc (lv1 := [(5, iv (x5 + 1)), (0, rv z 117), (1, iv x1), (2, iv x2), (3, iv x3), (4, iv x4)]) 5 dX12_canHaveBeen_30 rfl (by decide) rfl ?_
      refine AW.goto (tgt := 3) dX12_canHaveBeen_33 (by decide) ?_
      refine AW.sub (lv1 := [(0, rv z 117), (1, iv x1), (2, iv x2), (3, iv x3), (4, iv x4), (5, iv (x5 + 1))]) [1, 2, 3, 4, 5, 0] rfl ?_
      exact ih _ _ _ h
    · replace h := hF h c5
      refine AW.iconst dX12_canHaveBeen_28 ?_
      exact AW.zret1 rfl (Or.inr rfl) dX12_canHaveBeen_29 h rfl
theorem M_canHaveBeen_ok {z : AZ} {x1 : Int} {x2 : Int} {x3 : Int} {x4 : Int} {g : AG} {r : Int × AG} (h : M_canHaveBeen x1 x2 x3 x4 g = some r) : AMf z yX12_canHaveBeen cX12_canHaveBeen 6 (some .boolean) 9 [rv z 117, iv x1, iv x2, iv x3, iv x4] g r := by
  intro d hdd
  refine AM.of (by decide +kernel) (Nat.le_of_ble_eq_true rfl) ?_
  show AW z (RX12, cX12_canHaveBeen, 6, (some .boolean)) d (QD (some .boolean) r) 0 [(0, rv z 117), (1, iv x1), (2, iv x2), (3, iv x3), (4, iv x4)] [] g
  unfold M_canHaveBeen at h
  refine AW.iconst dX12_canHaveBeen_0 ?_
  refine AW.istore (lv1 := [(5, iv (-1)), (0, rv z 117), (1, iv x1), (2, iv x2), (3, iv x3), (4, iv x4)]) dX12_canHaveBeen_1 (by decide) rfl ?_
  refine AW.sub (lv1 := [(0, rv z 117), (1, iv x1), (2, iv x2), (3, iv x3), (4, iv x4), (5, iv (-1))]) [1, 2, 3, 4, 5, 0] rfl ?_
  exact M_canHaveBeen_b_ok hdd _ _ _ h
theorem M_could_ok {z : AZ} {x1 : Int} {x2 : Int} {x3 : Int} {x4 : Int} {g : AG} {r : Int × AG} (h : M_could x1 x2 x3 x4 g = some r) : AMf z yX12_could cX12_could 5 (some .int) 10 [rv z 117, iv x1, iv x2, iv x3, iv x4] g r := by
  intro d hdd
  refine AM.of (by decide +kernel) (Nat.le_of_ble_eq_true rfl) ?_
  show AW z (RX12, cX12_could, 5, (some .int)) d (QD (some .int) r) 0 [(0, rv z 117), (1, iv x1), (2, iv x2), (3, iv x3), (4, iv x4)] [] g
  unfold M_could at h
  refine AW.aloadr_n 0 dX12_could_0 rfl ?_
  refine AW.iload_n 1 dX12_could_1 rfl ?_
  refine AW.callVi (As := [iv x1]) (st := []) M_isBoat_ok cq_X12_435 cr_117_X12_isBoat (Nat.le_trans (by decide) hdd) rfl dX12_could_2 rfl (Nat.le_of_ble_eq_true rfl) ?_
  obtain ⟨r9, e10, h⟩ := hC h
  refine AW.join (tgt := 45) (lv1 := []) (st1 := [iv r9.1]) (g1 := r9.2) ?_ (fun J5 => ?_)
  · exact AW.iret1 rfl dX12_could_45 h rfl
  replace h := e10
  refine AW.if_eq (tgt := 44) dX12_could_5 (by decide) (fun c1 => ?_) (fun c1 => ?_)
  · replace h := hT h c1
    refine AW.iconst dX12_could_44 ?_
    refine AW.sub (lv1 := []) [] rfl ?_
    cases h
    exact J5
  · replace h := hF h c1
    refine AW.iload_n 2 dX12_could_8 rfl ?_
    refine AW.callSi (As := [iv x2]) (st := []) M_isPoint_ok cq_X12_238 st_X12_isPoint (Nat.le_trans (by decide) hdd) rfl dX12_could_9 rfl (Nat.le_of_ble_eq_true rfl) ?_
    refine AW.if_eq (tgt := 44) dX12_could_12 (by decide) (fun c2 => ?_) (fun c2 => ?_)
    · replace h := hT h c2
      refine AW.iconst dX12_could_44 ?_
      refine AW.sub (lv1 := []) [] rfl ?_
      cases h
      exact J5
    · replace h := hF h c2
      refine AW.iload_n 3 dX12_could_15 rfl ?_
      refine AW.iload 4 dX12_could_16 rfl ?_
      refine AW.callSi (As := [iv x3, iv x4]) (st := []) M_isSpan_ok cq_X12_469 st_X12_isSpan (Nat.le_trans (by decide) hdd) rfl dX12_could_18 rfl (Nat.le_of_ble_eq_true rfl) ?_
      refine AW.if_eq (tgt := 44) dX12_could_21 (by decide) (fun c3 => ?_) (fun c3 => ?_)
      · replace h := hT h c3
        refine AW.iconst dX12_could_44 ?_
        refine AW.sub (lv1 := []) [] rfl ?_
        cases h
        exact J5
      · replace h := hF h c3
        refine AW.aloadr_n 0 dX12_could_24 rfl ?_
        refine AW.iload_n 1 dX12_could_25 rfl ?_
        refine AW.iload_n 2 dX12_could_26 rfl ?_
        refine AW.iload_n 3 dX12_could_27 rfl ?_
        refine AW.iload 4 dX12_could_28 rfl ?_
        obtain ⟨r4, e5, h⟩ := hC h
        refine AW.callVi (As := [iv x1, iv x2, iv x3, iv x4]) (st := []) (M_canHaveBeen_ok e5) cq_X12_472 cr_117_X12_canHaveBeen (Nat.le_trans (by decide) hdd) rfl dX12_could_30 rfl (Nat.le_of_ble_eq_true rfl) ?_
        obtain ⟨t6, e7, h⟩ := hBe h
        refine AW.join (tgt := 45) (lv1 := [(0, rv z 117), (1, iv x1), (2, iv x2), (3, iv x3), (4, iv x4)]) (st1 := [iv t6]) (g1 := r4.2) ?_ (fun J33 => ?_)
        · refine AW.sub (lv1 := []) [] rfl ?_
          cases h
          exact J5
        refine AW.if_eq (tgt := 40) dX12_could_33 (by decide) (fun c8 => ?_) (fun c8 => ?_)
        · refine AW.iconst dX12_could_40 ?_
          refine AW.goto (tgt := 45) dX12_could_41 (by decide) ?_
          exact AW.val (e7.trans (if_pos c8)) J33
        · refine AW.iconst dX12_could_36 ?_
          refine AW.goto (tgt := 45) dX12_could_37 (by decide) ?_
          exact AW.val (e7.trans (if_neg c8)) J33
set_option synthInstance.maxHeartbeats 2000000 in
theorem M_whose_b_ok {z : AZ} {d : Nat} (hdd : 10 ≤ d) {x1 : Int} {x2 : Int} {x3 : Int} {x4 : Int} : ∀ (x5 : Int) (x6 : Int) (x7 : Int) (x8 : Int) (g : AG) (r : Int × AG), M_whose_b x1 x2 x3 x4 x5 x6 x7 x8 g = some r → AW z (RX12, cX12_whose, 9, (some .int)) d (QD (some .int) r) 39 [(0, rv z 117), (1, iv x1), (2, iv x2), (3, iv x3), (4, iv x4), (5, iv x5), (6, iv x6), (7, iv x7), (8, iv x8)] [] g := by
  refine M_whose_b.partial_correctness x1 x2 x3 x4 (fun x5 x6 x7 x8 g r => AW z (RX12, cX12_whose, 9, (some .int)) d (QD (some .int) r) 39 [(0, rv z 117), (1, iv x1), (2, iv x2), (3, iv x3), (4, iv x4), (5, iv x5), (6, iv x6), (7, iv x7), (8, iv x8)] [] g) ?_
  intro fb9 ih x5 x6 x7 x8 g r h
  refine AW.iload 8 dX12_whose_39 rfl ?_
  refine AW.aloadr_n 0 dX12_whose_41 rfl ?_
  refine AW.getI af_X12_235_117 sr_117_12 dX12_whose_42 ?_
  refine AW.icmp_ge (tgt := 85) dX12_whose_45 (by decide) (fun c1 => ?_) (fun c1 => ?_)
  · replace h := hT h c1
    refine AW.iload 4 dX12_whose_85 rfl ?_
    obtain ⟨t2, e3, h⟩ := hBe h
    refine AW.join (tgt := 107) (lv1 := [(0, rv z 117), (1, iv x1), (2, iv x2), (3, iv x3), (4, iv x4), (5, iv x5), (6, iv x6), (7, iv x7), (8, iv x8)]) (st1 := [iv t2]) (g1 := g) ?_ (fun J87 => ?_)
    · exact AW.iret1 rfl dX12_whose_107 h rfl
    refine AW.if_ne (tgt := 95) dX12_whose_87 (by decide) (fun c4 => ?_) (fun c4 => ?_)
    · refine AW.iload 7 dX12_whose_95 rfl ?_
      refine AW.iconst dX12_whose_97 ?_
      refine AW.icmp_ne (tgt := 106) dX12_whose_98 (by decide) (fun c5 => ?_) (fun c5 => ?_)
      · refine AW.iconst dX12_whose_106 ?_
        exact AW.val (e3.trans ((if_neg c4).trans (if_neg c5))) J87
      · refine AW.iload 6 dX12_whose_101 rfl ?_
        refine AW.goto (tgt := 107) dX12_whose_103 (by decide) ?_
        exact AW.val (e3.trans ((if_neg c4).trans (if_pos c5))) J87
    · refine AW.iload 5 dX12_whose_90 rfl ?_
      refine AW.goto (tgt := 107) dX12_whose_92 (by decide) ?_
      exact AW.val (e3.trans (if_pos c4)) J87
  · replace h := hF h c1
    refine AW.aloadr_n 0 dX12_whose_48 rfl ?_
    refine AW.iload 8 dX12_whose_49 rfl ?_
    refine AW.iload_n 1 dX12_whose_51 rfl ?_
    refine AW.iload_n 2 dX12_whose_52 rfl ?_
    refine AW.iload_n 3 dX12_whose_53 rfl ?_
    obtain ⟨r6, e7, h⟩ := hC h
    refine AW.callVi (As := [iv x8, iv x1, iv x2, iv x3]) (st := []) (M_canHaveBeen_ok e7) cq_X12_472 cr_117_X12_canHaveBeen (Nat.le_trans (by decide) hdd) rfl dX12_whose_54 rfl (Nat.le_of_ble_eq_true rfl) ?_
    obtain ⟨r9, e10, h⟩ := hC h
    refine AW.join (tgt := 79) (lv1 := [(0, rv z 117), (1, iv x1), (2, iv x2), (3, iv x3), (4, iv x4), (5, iv r9.1), (6, iv r9.2.1), (7, iv r9.2.2.1), (8, iv x8)]) (st1 := []) (g1 := r9.2.2.2) ?_ (fun J57 => ?_)
    · refine AW.iinc (lv1 := [(8, iv (x8 + 1)), (0, rv z 117), (1, iv x1), (2, iv x2), (3, iv x3), (4, iv x4), (5, iv r9.1), (6, iv r9.2.1), (7, iv r9.2.2.1)]) 8 dX12_whose_79 rfl (by decide) rfl ?_
      refine AW.goto (tgt := 39) dX12_whose_82 (by decide) ?_
      refine AW.sub (lv1 := [(0, rv z 117), (1, iv x1), (2, iv x2), (3, iv x3), (4, iv x4), (5, iv r9.1), (6, iv r9.2.1), (7, iv r9.2.2.1), (8, iv (x8 + 1))]) [1, 2, 3, 4, 5, 6, 7, 8, 0] rfl ?_
      exact ih _ _ _ _ _ _ h
    replace h := e10
    refine AW.if_ne (tgt := 63) dX12_whose_57 (by decide) (fun c8 => ?_) (fun c8 => ?_)
    · replace h := hF h c8
      refine AW.iload 5 dX12_whose_63 rfl ?_
      refine AW.iconst dX12_whose_65 ?_
      refine AW.iload 8 dX12_whose_66 rfl ?_
      refine AW.ishl dX12_whose_68 ?_
      refine AW.ior dX12_whose_69 ?_
      refine AW.istore (lv1 := [(5, iv (orI x5 (shlI 1 x8))), (0, rv z 117), (1, iv x1), (2, iv x2), (3, iv x3), (4, iv x4), (6, iv x6), (7, iv x7), (8, iv x8)]) dX12_whose_70 (by decide) rfl ?_
      refine AW.iload 8 dX12_whose_72 rfl ?_
      refine AW.istore (lv1 := [(6, iv x8), (5, iv (orI x5 (shlI 1 x8))), (0, rv z 117), (1, iv x1), (2, iv x2), (3, iv x3), (4, iv x4), (7, iv x7), (8, iv x8)]) dX12_whose_74 (by decide) rfl ?_
      refine AW.iinc (lv1 := [(7, iv (x7 + 1)), (6, iv x8), (5, iv (orI x5 (shlI 1 x8))), (0, rv z 117), (1, iv x1), (2, iv x2), (3, iv x3), (4, iv x4), (8, iv x8)]) 7 dX12_whose_76 rfl (by decide) rfl ?_
      refine AW.sub (lv1 := [(0, rv z 117), (1, iv x1), (2, iv x2), (3, iv x3), (4, iv x4), (5, iv (orI x5 (shlI 1 x8))), (6, iv x8), (7, iv (x7 + 1)), (8, iv x8)]) [3, 4, 5, 6, 7, 2, 1, 0, 8] rfl ?_
      cases h
      exact J57
    · replace h := hT h c8
      refine AW.goto (tgt := 79) dX12_whose_60 (by decide) ?_
      cases h
      exact J57
theorem M_whose_ok {z : AZ} {x1 : Int} {x2 : Int} {x3 : Int} {x4 : Int} {g : AG} {r : Int × AG} (h : M_whose x1 x2 x3 x4 g = some r) : AMf z yX12_whose cX12_whose 9 (some .int) 10 [rv z 117, iv x1, iv x2, iv x3, iv x4] g r := by
  intro d hdd
  refine AM.of (by decide +kernel) (Nat.le_of_ble_eq_true rfl) ?_
  show AW z (RX12, cX12_whose, 9, (some .int)) d (QD (some .int) r) 0 [(0, rv z 117), (1, iv x1), (2, iv x2), (3, iv x3), (4, iv x4)] [] g
  unfold M_whose at h
  refine AW.iload_n 1 dX12_whose_0 rfl ?_
  refine AW.callSi (As := [iv x1]) (st := []) M_isPoint_ok cq_X12_238 st_X12_isPoint (Nat.le_trans (by decide) hdd) rfl dX12_whose_1 rfl (Nat.le_of_ble_eq_true rfl) ?_
  refine AW.if_eq (tgt := 25) dX12_whose_4 (by decide) (fun c1 => ?_) (fun c1 => ?_)
  · replace h := hT h c1
    refine AW.iconst dX12_whose_25 ?_
    exact AW.iret1 rfl dX12_whose_26 h rfl
  · replace h := hF h c1
    refine AW.iload_n 2 dX12_whose_7 rfl ?_
    refine AW.iload_n 3 dX12_whose_8 rfl ?_
    refine AW.callSi (As := [iv x2, iv x3]) (st := []) M_isSpan_ok cq_X12_469 st_X12_isSpan (Nat.le_trans (by decide) hdd) rfl dX12_whose_9 rfl (Nat.le_of_ble_eq_true rfl) ?_
    refine AW.if_eq (tgt := 25) dX12_whose_12 (by decide) (fun c2 => ?_) (fun c2 => ?_)
    · replace h := hT h c2
      refine AW.iconst dX12_whose_25 ?_
      exact AW.iret1 rfl dX12_whose_26 h rfl
    · replace h := hF h c2
      refine AW.iload 4 dX12_whose_15 rfl ?_
      refine AW.iconst dX12_whose_17 ?_
      refine AW.iconst dX12_whose_18 ?_
      refine AW.callSi (As := [iv x4, iv 0, iv 1]) (st := []) M_isIn_ok cq_X12_3 st_X12_isIn (Nat.le_trans (by decide) hdd) rfl dX12_whose_19 rfl (Nat.le_of_ble_eq_true rfl) ?_
      refine AW.if_ne (tgt := 27) dX12_whose_22 (by decide) (fun c3 => ?_) (fun c3 => ?_)
      · replace h := hF h c3
        refine AW.iconst dX12_whose_27 ?_
        refine AW.istore (lv1 := [(5, iv 0), (0, rv z 117), (1, iv x1), (2, iv x2), (3, iv x3), (4, iv x4)]) dX12_whose_28 (by decide) rfl ?_
        refine AW.iconst dX12_whose_30 ?_
        refine AW.istore (lv1 := [(6, iv (-1)), (5, iv 0), (0, rv z 117), (1, iv x1), (2, iv x2), (3, iv x3), (4, iv x4)]) dX12_whose_31 (by decide) rfl ?_
        refine AW.iconst dX12_whose_33 ?_
        refine AW.istore (lv1 := [(7, iv 0), (6, iv (-1)), (5, iv 0), (0, rv z 117), (1, iv x1), (2, iv x2), (3, iv x3), (4, iv x4)]) dX12_whose_34 (by decide) rfl ?_
        refine AW.iconst dX12_whose_36 ?_
        refine AW.istore (lv1 := [(8, iv 0), (7, iv 0), (6, iv (-1)), (5, iv 0), (0, rv z 117), (1, iv x1), (2, iv x2), (3, iv x3), (4, iv x4)]) dX12_whose_37 (by decide) rfl ?_
        refine AW.sub (lv1 := [(0, rv z 117), (1, iv x1), (2, iv x2), (3, iv x3), (4, iv x4), (5, iv 0), (6, iv (-1)), (7, iv 0), (8, iv 0)]) [4, 5, 6, 7, 8, 3, 2, 1, 0] rfl ?_
        exact M_whose_b_ok hdd _ _ _ _ _ _ h
      · replace h := hT h c3
        refine AW.iconst dX12_whose_25 ?_
        exact AW.iret1 rfl dX12_whose_26 h rfl
