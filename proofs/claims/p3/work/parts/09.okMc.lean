set_option synthInstance.maxHeartbeats 2000000 in
theorem M_isStopped_b_ok {z : AZ} {d : Nat} (hdd : 1 ≤ d) {x1 : Int} {x2 : Int} {g : AG} : ∀ (tag : Nat) (x3 : Int) (r : Int), M_isStopped_b x1 x2 g tag x3 = some r → (tag = 1 → AW z (RX12, cX12_isStopped, 4, (some .boolean)) d (QD (some .boolean) (r, g)) 2 [(0, rv z 117), (1, iv x1), (2, iv x2), (3, iv x3)] [] g) ∧ (tag = 2 → AW z (RX12, cX12_isStopped, 4, (some .boolean)) d (QD (some .boolean) (r, g)) 41 [(0, rv z 117), (1, iv x1), (2, iv x2), (3, iv x3)] [] g) := by
  refine M_isStopped_b.partial_correctness x1 x2 g (fun tag x3 r => (tag = 1 → AW z (RX12, cX12_isStopped, 4, (some .boolean)) d (QD (some .boolean) (r, g)) 2 [(0, rv z 117), (1, iv x1), (2, iv x2), (3, iv x3)] [] g) ∧ (tag = 2 → AW z (RX12, cX12_isStopped, 4, (some .boolean)) d (QD (some .boolean) (r, g)) 41 [(0, rv z 117), (1, iv x1), (2, iv x2), (3, iv x3)] [] g)) ?_
  intro fb9 ih tag x3 r h
  refine ⟨fun h9 => ?_, fun h9 => ?_⟩
  · subst h9
    replace h := hT h rfl
    refine AW.iload_n 3 dX12_isStopped_2 rfl ?_
    refine AW.aloadr_n 0 dX12_isStopped_3 rfl ?_
    refine AW.getI af_X12_232_117 sr_117_11 dX12_isStopped_4 ?_
    refine AW.icmp_ge (tgt := 47) dX12_isStopped_7 (by decide) (fun c1 => ?_) (fun c1 => ?_)
    · replace h := hT h c1
      refine AW.iconst dX12_isStopped_47 ?_
      exact AW.zret2 rfl (Or.inl rfl) dX12_isStopped_48 h rfl
    · replace h := hF h c1
      refine AW.aloadr_n 0 dX12_isStopped_10 rfl ?_
      refine AW.getR af_X12_23_117 sr_117_3 dX12_isStopped_11 ?_
      refine AW.iload_n 3 dX12_isStopped_14 rfl ?_
      obtain ⟨k2, h⟩ := hK h
      refine AW.iald kc_121 sk_121 k2 dX12_isStopped_15 ?_
      refine AW.iload_n 1 dX12_isStopped_16 rfl ?_
      refine AW.icmp_ne (tgt := 41) dX12_isStopped_17 (by decide) (fun c3 => ?_) (fun c3 => ?_)
      · replace h := hF h c3
        exact (ih _ _ _ h).2 rfl
      · replace h := hT h c3
        refine AW.iload_n 2 dX12_isStopped_20 rfl ?_
        refine AW.aloadr_n 0 dX12_isStopped_21 rfl ?_
        refine AW.getR af_X12_26_117 sr_117_4 dX12_isStopped_22 ?_
        refine AW.iload_n 3 dX12_isStopped_25 rfl ?_
        refine AW.iald kc_122 sk_122 k2 dX12_isStopped_26 ?_
        refine AW.aloadr_n 0 dX12_isStopped_27 rfl ?_
        refine AW.getR af_X12_29_117 sr_117_5 dX12_isStopped_28 ?_
        refine AW.iload_n 3 dX12_isStopped_31 rfl ?_
        refine AW.iald kc_123 sk_123 k2 dX12_isStopped_32 ?_
        refine AW.callSi (As := [iv x2, iv (g 122 (ix x3)), iv (g 123 (ix x3))]) (st := []) M_isIn_ok cq_X12_3 st_X12_isIn (Nat.le_trans (by decide) hdd) rfl dX12_isStopped_33 rfl (Nat.le_of_ble_eq_true rfl) ?_
        refine AW.if_eq (tgt := 41) dX12_isStopped_36 (by decide) (fun c4 => ?_) (fun c4 => ?_)
        · replace h := hT h c4
          exact (ih _ _ _ h).2 rfl
        · replace h := hF h c4
          refine AW.iconst dX12_isStopped_39 ?_
          exact AW.zret2 rfl (Or.inr rfl) dX12_isStopped_40 h rfl
  · subst h9
    replace h := hF h (by decide)
    replace h := hT h rfl
    refine AW.iinc (lv1 := [(3, iv (x3 + 1)), (0, rv z 117), (1, iv x1), (2, iv x2)]) 3 dX12_isStopped_41 rfl (by decide) rfl ?_
    refine AW.goto (tgt := 2) dX12_isStopped_44 (by decide) ?_
    refine AW.sub (lv1 := [(0, rv z 117), (1, iv x1), (2, iv x2), (3, iv (x3 + 1))]) [1, 2, 3, 0] rfl ?_
    exact (ih _ _ _ h).1 rfl
theorem M_isStopped_ok {z : AZ} {x1 : Int} {x2 : Int} {g : AG} {r : Int} (h : M_isStopped x1 x2 g = some r) : AMf z yX12_isStopped cX12_isStopped 4 (some .boolean) 1 [rv z 117, iv x1, iv x2] g (r, g) := by
  intro d hdd
  refine AM.of (by decide +kernel) (Nat.le_of_ble_eq_true rfl) ?_
  show AW z (RX12, cX12_isStopped, 4, (some .boolean)) d (QD (some .boolean) (r, g)) 0 [(0, rv z 117), (1, iv x1), (2, iv x2)] [] g
  unfold M_isStopped at h
  refine AW.iconst dX12_isStopped_0 ?_
  refine AW.istore_n (lv1 := [(3, iv 0), (0, rv z 117), (1, iv x1), (2, iv x2)]) dX12_isStopped_1 (by decide) rfl ?_
  refine AW.sub (lv1 := [(0, rv z 117), (1, iv x1), (2, iv x2), (3, iv 0)]) [1, 2, 3, 0] rfl ?_
  exact (M_isStopped_b_ok hdd _ _ _ h).1 rfl
theorem M_mayBegin_ok {z : AZ} {x1 : Int} {x2 : Int} {x3 : Int} {x4 : Int} {g : AG} {r : Int × AG} (h : M_mayBegin x1 x2 x3 x4 g = some r) : AMf z yX12_mayBegin cX12_mayBegin 6 (some .boolean) 4 [rv z 117, iv x1, iv x2, iv x3, iv x4] g r := by
  intro d hdd
  refine AM.of (by decide +kernel) (Nat.le_of_ble_eq_true rfl) ?_
  show AW z (RX12, cX12_mayBegin, 6, (some .boolean)) d (QD (some .boolean) r) 0 [(0, rv z 117), (1, iv x1), (2, iv x2), (3, iv x3), (4, iv x4)] [] g
  unfold M_mayBegin at h
  refine AW.iload 4 dX12_mayBegin_0 rfl ?_
  refine AW.bipush dX12_mayBegin_2 (by decide) (by decide) ?_
  refine AW.bipush dX12_mayBegin_4 (by decide) (by decide) ?_
  refine AW.callSi (As := [iv x4, iv 8, iv 19]) (st := []) M_isIn_ok cq_X12_3 st_X12_isIn (Nat.le_trans (by decide) hdd) rfl dX12_mayBegin_6 rfl (Nat.le_of_ble_eq_true rfl) ?_
  refine AW.if_eq (tgt := 21) dX12_mayBegin_9 (by decide) (fun c1 => ?_) (fun c1 => ?_)
  · replace h := hT h c1
    refine AW.iconst dX12_mayBegin_21 ?_
    exact AW.zret1 rfl (Or.inl rfl) dX12_mayBegin_22 h rfl
  · replace h := hF h c1
    refine AW.aloadr_n 0 dX12_mayBegin_12 rfl ?_
    refine AW.iload_n 1 dX12_mayBegin_13 rfl ?_
    refine AW.iload_n 3 dX12_mayBegin_14 rfl ?_
    obtain ⟨r2, e3, h⟩ := hC h
    refine AW.callVi (As := [iv x1, iv x3]) (st := []) (M_isStopped_ok e3) cq_X12_410 cr_117_X12_isStopped (Nat.le_trans (by decide) hdd) rfl dX12_mayBegin_15 rfl (Nat.le_of_ble_eq_true rfl) ?_
    refine AW.if_eq (tgt := 23) dX12_mayBegin_18 (by decide) (fun c4 => ?_) (fun c4 => ?_)
    · replace h := hT h c4
      refine AW.iload_n 2 dX12_mayBegin_23 rfl ?_
      refine AW.if_ne (tgt := 29) dX12_mayBegin_24 (by decide) (fun c5 => ?_) (fun c5 => ?_)
      · replace h := hF h c5
        refine AW.iload_n 2 dX12_mayBegin_29 rfl ?_
        refine AW.iconst dX12_mayBegin_30 ?_
        refine AW.icmp_ne (tgt := 77) dX12_mayBegin_31 (by decide) (fun c6 => ?_) (fun c6 => ?_)
        · replace h := hF h c6
          refine AW.iconst dX12_mayBegin_77 ?_
          refine AW.iload_n 1 dX12_mayBegin_78 rfl ?_
          refine AW.imul dX12_mayBegin_79 ?_
          refine AW.iload_n 2 dX12_mayBegin_80 rfl ?_
          refine AW.iadd dX12_mayBegin_81 ?_
          refine AW.iconst dX12_mayBegin_82 ?_
          refine AW.isub dX12_mayBegin_83 ?_
          refine AW.istore (lv1 := [(5, iv (((2 * x1) + x2) - 2)), (0, rv z 117), (1, iv x1), (2, iv x2), (3, iv x3), (4, iv x4)]) dX12_mayBegin_84 (by decide) rfl ?_
          refine AW.aloadr_n 1 dX12_mayBegin_86 rfl ?_
          refine AW.getR af_X12_96_117 sr_117_29 dX12_mayBegin_87 ?_
          refine AW.iload 0 dX12_mayBegin_90 rfl ?_
          obtain ⟨k7, h⟩ := hK h
          refine AW.zald kc_144 sk_144 k7 dX12_mayBegin_92 ?_
          obtain ⟨r15, e16, h⟩ := hC h
          refine AW.join (tgt := 131) (lv1 := []) (st1 := [iv r15.1]) (g1 := r15.2) ?_ (fun J93 => ?_)
          · obtain ⟨k17, h⟩ := hK h
            exact AW.zret1 rfl k17 dX12_mayBegin_131 h rfl
          replace h := e16
          refine AW.if_eq (tgt := 130) dX12_mayBegin_93 (by decide) (fun c8 => ?_) (fun c8 => ?_)
          · replace h := hT h c8
            refine AW.iconst dX12_mayBegin_130 ?_
            refine AW.sub (lv1 := []) [] rfl ?_
            cases h
            exact J93
          · replace h := hF h c8
            refine AW.iload 5 dX12_mayBegin_96 rfl ?_
            refine AW.aloadr_n 1 dX12_mayBegin_98 rfl ?_
            refine AW.getR af_X12_90_117 sr_117_27 dX12_mayBegin_99 ?_
            refine AW.iconst dX12_mayBegin_102 ?_
            refine AW.iload 0 dX12_mayBegin_103 rfl ?_
            refine AW.imul dX12_mayBegin_105 ?_
            obtain ⟨k9, h⟩ := hK h
            refine AW.iald kc_142 sk_142 k9 dX12_mayBegin_106 ?_
            refine AW.icmp_lt (tgt := 130) dX12_mayBegin_107 (by decide) (fun c10 => ?_) (fun c10 => ?_)
            · replace h := hT h c10
              refine AW.iconst dX12_mayBegin_130 ?_
              refine AW.sub (lv1 := []) [] rfl ?_
              cases h
              exact J93
            · replace h := hF h c10
              refine AW.iload 5 dX12_mayBegin_110 rfl ?_
              refine AW.aloadr_n 1 dX12_mayBegin_112 rfl ?_
              refine AW.getR af_X12_90_117 sr_117_27 dX12_mayBegin_113 ?_
              refine AW.iconst dX12_mayBegin_116 ?_
              refine AW.iload 0 dX12_mayBegin_117 rfl ?_
              refine AW.imul dX12_mayBegin_119 ?_
              refine AW.iconst dX12_mayBegin_120 ?_
              refine AW.iadd dX12_mayBegin_121 ?_
              obtain ⟨k11, h⟩ := hK h
              refine AW.iald kc_142 sk_142 k11 dX12_mayBegin_122 ?_
              obtain ⟨t12, e13, h⟩ := hBe h
              refine AW.join (tgt := 131) (lv1 := [(5, iv (((2 * x1) + x2) - 2)), (0, rv z 117), (1, iv x1), (2, iv x2), (3, iv x3), (4, iv x4)]) (st1 := [iv t12]) (g1 := g) ?_ (fun J123 => ?_)
              · refine AW.sub (lv1 := []) [] rfl ?_
                cases h
                exact J93
              refine AW.icmp_ge (tgt := 130) dX12_mayBegin_123 (by decide) (fun c14 => ?_) (fun c14 => ?_)
              · refine AW.iconst dX12_mayBegin_130 ?_
                exact AW.val (e13.trans (if_pos c14)) J123
              · refine AW.iconst dX12_mayBegin_126 ?_
                refine AW.goto (tgt := 131) dX12_mayBegin_127 (by decide) ?_
                exact AW.val (e13.trans (if_neg c14)) J123
        · replace h := hT h c6
          refine AW.aloadr_n 0 dX12_mayBegin_34 rfl ?_
          refine AW.iload_n 3 dX12_mayBegin_35 rfl ?_
          obtain ⟨r18, e19, h⟩ := hC h
          refine AW.callVi (As := [iv x3]) (st := []) (M_locksLine_ok e19) cq_X12_407 cr_117_X12_locksLine (Nat.le_trans (by decide) hdd) rfl dX12_mayBegin_36 rfl (Nat.le_of_ble_eq_true rfl) ?_
          refine AW.istore (lv1 := [(5, iv r18.1), (0, rv z 117), (1, iv x1), (2, iv x2), (3, iv x3), (4, iv x4)]) dX12_mayBegin_39 (by decide) rfl ?_
          refine AW.iload 0 dX12_mayBegin_41 rfl ?_
          refine AW.iconst dX12_mayBegin_43 ?_
          obtain ⟨r26, e27, h⟩ := hC h
          refine AW.join (tgt := 76) (lv1 := []) (st1 := [iv r26.1]) (g1 := r26.2) ?_ (fun J44 => ?_)
          · obtain ⟨k28, h⟩ := hK h
            exact AW.zret1 rfl k28 dX12_mayBegin_76 h rfl
          replace h := e27
          refine AW.icmp_eq (tgt := 71) dX12_mayBegin_44 (by decide) (fun c20 => ?_) (fun c20 => ?_)
          · replace h := hT h c20
            refine AW.iconst dX12_mayBegin_71 ?_
            refine AW.goto (tgt := 76) dX12_mayBegin_72 (by decide) ?_
            refine AW.sub (lv1 := []) [] rfl ?_
            cases h
            exact J44
          · replace h := hF h c20
            refine AW.iload 5 dX12_mayBegin_47 rfl ?_
            refine AW.aloadr_n 1 dX12_mayBegin_49 rfl ?_
            refine AW.getR af_X12_51_117 sr_117_14 dX12_mayBegin_50 ?_
            refine AW.iload 0 dX12_mayBegin_53 rfl ?_
            obtain ⟨k21, h⟩ := hK h
            refine AW.iald kc_129 sk_129 k21 dX12_mayBegin_55 ?_
            refine AW.icmp_lt (tgt := 75) dX12_mayBegin_56 (by decide) (fun c22 => ?_) (fun c22 => ?_)
            · replace h := hT h c22
              refine AW.iconst dX12_mayBegin_75 ?_
              refine AW.sub (lv1 := []) [] rfl ?_
              cases h
              exact J44
            · replace h := hF h c22
              refine AW.iload 5 dX12_mayBegin_59 rfl ?_
              refine AW.aloadr_n 1 dX12_mayBegin_61 rfl ?_
              refine AW.getR af_X12_54_117 sr_117_15 dX12_mayBegin_62 ?_
              refine AW.iload 0 dX12_mayBegin_65 rfl ?_
              refine AW.iald kc_130 sk_130 k21 dX12_mayBegin_67 ?_
              obtain ⟨t23, e24, h⟩ := hBe h
              refine AW.join (tgt := 76) (lv1 := [(5, iv r18.1), (0, rv z 117), (1, iv x1), (2, iv x2), (3, iv x3), (4, iv x4)]) (st1 := [iv t23]) (g1 := r18.2) ?_ (fun J68 => ?_)
              · refine AW.sub (lv1 := []) [] rfl ?_
                cases h
                exact J44
              refine AW.icmp_ge (tgt := 75) dX12_mayBegin_68 (by decide) (fun c25 => ?_) (fun c25 => ?_)
              · refine AW.iconst dX12_mayBegin_75 ?_
                exact AW.val (e24.trans (if_pos c25)) J68
              · refine AW.iconst dX12_mayBegin_71 ?_
                refine AW.goto (tgt := 76) dX12_mayBegin_72 (by decide) ?_
                exact AW.val (e24.trans (if_neg c25)) J68
      · replace h := hT h c5
        refine AW.iconst dX12_mayBegin_27 ?_
        exact AW.zret1 rfl (Or.inr rfl) dX12_mayBegin_28 h rfl
    · replace h := hF h c4
      refine AW.iconst dX12_mayBegin_21 ?_
      exact AW.zret1 rfl (Or.inl rfl) dX12_mayBegin_22 h rfl
set_option synthInstance.maxHeartbeats 2000000 in
theorem M_endOf_b_ok {z : AZ} {d : Nat} (hdd : 5 ≤ d) {x1 : Int} {x2 : Int} {x4 : Int} : ∀ (tag : Nat) (x5 : Int) (g : AG) (r : Int × AG), M_endOf_b x1 x2 x4 tag x5 g = some r → (tag = 1 → AW z (RX12, cX12_endOf, 6, (some .int)) d (QD (some .int) r) 3 [(0, rv z 117), (1, iv x1), (2, iv x2), (4, iv x4), (5, iv x5)] [] g) ∧ (tag = 2 → AW z (RX12, cX12_endOf, 6, (some .int)) d (QD (some .int) r) 50 [(4, iv x4), (5, iv x5)] [] g) := by
  refine M_endOf_b.partial_correctness x1 x2 x4 (fun tag x5 g r => (tag = 1 → AW z (RX12, cX12_endOf, 6, (some .int)) d (QD (some .int) r) 3 [(0, rv z 117), (1, iv x1), (2, iv x2), (4, iv x4), (5, iv x5)] [] g) ∧ (tag = 2 → AW z (RX12, cX12_endOf, 6, (some .int)) d (QD (some .int) r) 50 [(4, iv x4), (5, iv x5)] [] g)) ?_
  intro fb9 ih tag x5 g r h
  refine ⟨fun h9 => ?_, fun h9 => ?_⟩
  · subst h9
    replace h := hT h rfl
    refine AW.iload 4 dX12_endOf_3 rfl ?_
    refine AW.sipush dX12_endOf_5 (by decide) (by decide) ?_
    refine AW.icmp_gt (tgt := 50) dX12_endOf_8 (by decide) (fun c1 => ?_) (fun c1 => ?_)
    · replace h := hT h c1
      refine AW.sub (lv1 := [(4, iv x4), (5, iv x5)]) [3, 4] rfl ?_
      exact (ih _ _ _ _ h).2 rfl
    · replace h := hF h c1
      refine AW.aloadr_n 0 dX12_endOf_11 rfl ?_
      refine AW.iload_n 1 dX12_endOf_12 rfl ?_
      refine AW.iload_n 2 dX12_endOf_13 rfl ?_
      refine AW.iload 4 dX12_endOf_14 rfl ?_
      refine AW.sipush dX12_endOf_16 (by decide) (by decide) ?_
      refine AW.idiv dX12_endOf_19 (by decide) ?_
      refine AW.iload 4 dX12_endOf_20 rfl ?_
      refine AW.sipush dX12_endOf_22 (by decide) (by decide) ?_
      refine AW.irem dX12_endOf_25 (by decide) ?_
      refine AW.bipush dX12_endOf_26 (by decide) (by decide) ?_
      refine AW.idiv dX12_endOf_28 (by decide) ?_
      obtain ⟨r2, e3, h⟩ := hC h
      refine AW.callVi (As := [iv x1, iv x2, iv ((nw x5).tdiv 1440), iv ((nw ((nw x5).tmod 1440)).tdiv 60)]) (st := []) (M_mayBegin_ok e3) cq_X12_413 cr_117_X12_mayBegin (Nat.le_trans (by decide) hdd) rfl dX12_endOf_29 rfl (Nat.le_of_ble_eq_true rfl) ?_
      refine AW.if_ne (tgt := 50) dX12_endOf_32 (by decide) (fun c4 => ?_) (fun c4 => ?_)
      · replace h := hF h c4
        refine AW.sub (lv1 := [(4, iv x4), (5, iv x5)]) [3, 4] rfl ?_
        exact (ih _ _ _ _ h).2 rfl
      · replace h := hT h c4
        refine AW.iload 4 dX12_endOf_35 rfl ?_
        refine AW.bipush dX12_endOf_37 (by decide) (by decide) ?_
        refine AW.idiv dX12_endOf_39 (by decide) ?_
        refine AW.iconst dX12_endOf_40 ?_
        refine AW.iadd dX12_endOf_41 ?_
        refine AW.bipush dX12_endOf_42 (by decide) (by decide) ?_
        refine AW.imul dX12_endOf_44 ?_
        refine AW.istore (lv1 := [(5, iv ((((nw x5).tdiv 60) + 1) * 60)), (0, rv z 117), (1, iv x1), (2, iv x2), (4, iv x4)]) dX12_endOf_45 (by decide) rfl ?_
        refine AW.goto (tgt := 3) dX12_endOf_47 (by decide) ?_
        refine AW.sub (lv1 := [(0, rv z 117), (1, iv x1), (2, iv x2), (4, iv x4), (5, iv ((((nw x5).tdiv 60) + 1) * 60))]) [1, 2, 3, 4, 0] rfl ?_
        exact (ih _ _ _ _ h).1 rfl
  · subst h9
    replace h := hF h (by decide)
    replace h := hT h rfl
    refine AW.iload 1 dX12_endOf_50 rfl ?_
    refine AW.iload 0 dX12_endOf_52 rfl ?_
    refine AW.iadd dX12_endOf_54 ?_
    refine AW.sipush dX12_endOf_55 (by decide) (by decide) ?_
    obtain ⟨t1, e2, h⟩ := hBe h
    refine AW.join (tgt := 78) (lv1 := [(4, iv x4), (5, iv x5)]) (st1 := [iv t1]) (g1 := g) ?_ (fun J58 => ?_)
    · exact AW.iret1 rfl dX12_endOf_78 h rfl
    refine AW.icmp_gt (tgt := 69) dX12_endOf_58 (by decide) (fun c3 => ?_) (fun c3 => ?_)
    · refine AW.iconst dX12_endOf_69 ?_
      refine AW.goto (tgt := 78) dX12_endOf_70 (by decide) ?_
      exact AW.val (e2.trans (if_pos c3)) J58
    · refine AW.iload 1 dX12_endOf_61 rfl ?_
      refine AW.sipush dX12_endOf_63 (by decide) (by decide) ?_
      refine AW.icmp_le (tgt := 73) dX12_endOf_66 (by decide) (fun c4 => ?_) (fun c4 => ?_)
      · refine AW.iload 1 dX12_endOf_73 rfl ?_
        refine AW.iload 0 dX12_endOf_75 rfl ?_
        refine AW.iadd dX12_endOf_77 ?_
        exact AW.val (e2.trans ((if_neg c3).trans (if_pos c4))) J58
      · refine AW.iconst dX12_endOf_69 ?_
        refine AW.goto (tgt := 78) dX12_endOf_70 (by decide) ?_
        exact AW.val (e2.trans ((if_neg c3).trans (if_neg c4))) J58
theorem M_endOf_ok {z : AZ} {x1 : Int} {x2 : Int} {x3 : Int} {x4 : Int} {g : AG} {r : Int × AG} (h : M_endOf x1 x2 x3 x4 g = some r) : AMf z yX12_endOf cX12_endOf 6 (some .int) 5 [rv z 117, iv x1, iv x2, iv x3, iv x4] g r := by
  intro d hdd
  refine AM.of (by decide +kernel) (Nat.le_of_ble_eq_true rfl) ?_
  show AW z (RX12, cX12_endOf, 6, (some .int)) d (QD (some .int) r) 0 [(0, rv z 117), (1, iv x1), (2, iv x2), (3, iv x3), (4, iv x4)] [] g
  unfold M_endOf at h
  refine AW.iload_n 3 dX12_endOf_0 rfl ?_
  refine AW.istore (lv1 := [(5, iv x3), (0, rv z 117), (1, iv x1), (2, iv x2), (3, iv x3), (4, iv x4)]) dX12_endOf_1 (by decide) rfl ?_
  refine AW.sub (lv1 := [(0, rv z 117), (1, iv x1), (2, iv x2), (4, iv x4), (5, iv x3)]) [1, 2, 3, 5, 0] rfl ?_
  exact (M_endOf_b_ok hdd _ _ _ _ h).1 rfl
theorem M_harmOf_ok {z : AZ} {x1 : Int} {x2 : Int} {g : AG} {r : Int × AG} (h : M_harmOf x1 x2 g = some r) : AMf z yX12_harmOf cX12_harmOf 5 (some .int) 3 [rv z 117, iv x1, iv x2] g r := by
  intro d hdd
  refine AM.of (by decide +kernel) (Nat.le_of_ble_eq_true rfl) ?_
  show AW z (RX12, cX12_harmOf, 5, (some .int)) d (QD (some .int) r) 0 [(0, rv z 117), (1, iv x1), (2, iv x2)] [] g
  unfold M_harmOf at h
  refine AW.aloadr_n 0 dX12_harmOf_0 rfl ?_
  obtain ⟨r1, e2, h⟩ := hC h
  refine AW.callVv (As := []) (st := []) (M_forgets_ok e2) cq_X12_401 cr_117_X12_forgets (Nat.le_trans (by decide) hdd) rfl dX12_harmOf_1 rfl (Nat.le_of_ble_eq_true rfl) ?_
  refine AW.aloadr_n 0 dX12_harmOf_4 rfl ?_
  refine AW.getR af_X12_109_117 sr_117_33 dX12_harmOf_5 ?_
  refine AW.iconst dX12_harmOf_8 ?_
  refine AW.iload_n 2 dX12_harmOf_9 rfl ?_
  refine AW.bipush dX12_harmOf_10 (by decide) (by decide) ?_
  refine AW.irem dX12_harmOf_12 (by decide) ?_
  obtain ⟨g3, e4, h⟩ := hBe h
  refine AW.iast kc_148 sk_148 (by decide) dX12_harmOf_13 e4 ?_
  refine AW.aloadr_n 0 dX12_harmOf_14 rfl ?_
  refine AW.getR af_X12_109_117 sr_117_33 dX12_harmOf_15 ?_
  refine AW.iconst dX12_harmOf_18 ?_
  refine AW.iload_n 2 dX12_harmOf_19 rfl ?_
  refine AW.bipush dX12_harmOf_20 (by decide) (by decide) ?_
  refine AW.idiv dX12_harmOf_22 (by decide) ?_
  obtain ⟨g5, e6, h⟩ := hBe h
  refine AW.iast kc_148 sk_148 (by decide) dX12_harmOf_23 e6 ?_
  refine AW.aloadr_n 0 dX12_harmOf_24 rfl ?_
  refine AW.getR af_X12_109_117 sr_117_33 dX12_harmOf_25 ?_
  refine AW.iconst dX12_harmOf_28 ?_
  refine AW.aloadr_n 0 dX12_harmOf_29 rfl ?_
  refine AW.getI af_X12_44_117 sr_117_10 dX12_harmOf_30 ?_
  obtain ⟨g7, e8, h⟩ := hBe h
  refine AW.iast kc_148 sk_148 (by decide) dX12_harmOf_33 e8 ?_
  refine AW.aloadr_n 0 dX12_harmOf_34 rfl ?_
  refine AW.getR af_X12_109_117 sr_117_33 dX12_harmOf_35 ?_
  refine AW.iconst dX12_harmOf_38 ?_
  refine AW.aloadr_n 0 dX12_harmOf_39 rfl ?_
  refine AW.getR af_X12_32_117 sr_117_6 dX12_harmOf_40 ?_
  refine AW.iload_n 1 dX12_harmOf_43 rfl ?_
  obtain ⟨k9, h⟩ := hK h
  refine AW.iald kc_124 sk_124 k9 dX12_harmOf_44 ?_
  obtain ⟨g10, e11, h⟩ := hBe h
  refine AW.iast kc_148 sk_148 (by decide) dX12_harmOf_45 e11 ?_
  refine AW.aloadr_n 0 dX12_harmOf_46 rfl ?_
  refine AW.getR af_X12_109_117 sr_117_33 dX12_harmOf_47 ?_
  refine AW.bipush dX12_harmOf_50 (by decide) (by decide) ?_
  refine AW.aloadr_n 0 dX12_harmOf_52 rfl ?_
  refine AW.getR af_X12_35_117 sr_117_7 dX12_harmOf_53 ?_
  refine AW.iload_n 1 dX12_harmOf_56 rfl ?_
  refine AW.iald kc_125 sk_125 k9 dX12_harmOf_57 ?_
  obtain ⟨g12, e13, h⟩ := hBe h
  refine AW.iast kc_148 sk_148 (by decide) dX12_harmOf_58 e13 ?_
  refine AW.aloadr_n 0 dX12_harmOf_59 rfl ?_
  refine AW.getR af_X12_109_117 sr_117_33 dX12_harmOf_60 ?_
  refine AW.bipush dX12_harmOf_63 (by decide) (by decide) ?_
  refine AW.aloadr_n 0 dX12_harmOf_65 rfl ?_
  refine AW.getR af_X12_41_117 sr_117_9 dX12_harmOf_66 ?_
  refine AW.iload_n 1 dX12_harmOf_69 rfl ?_
  refine AW.iald kc_127 sk_127 k9 dX12_harmOf_70 ?_
  obtain ⟨g14, e15, h⟩ := hBe h
  refine AW.iast kc_148 sk_148 (by decide) dX12_harmOf_71 e15 ?_
  refine AW.aloadr_n 0 dX12_harmOf_72 rfl ?_
  refine AW.iconst dX12_harmOf_73 ?_
  obtain ⟨r16, e17, h⟩ := hC h
  refine AW.callVi (As := [iv 4]) (st := []) (M_serves_ok e17) cq_X12_404 cr_117_X12_serves (Nat.le_trans (by decide) hdd) rfl dX12_harmOf_74 rfl (Nat.le_of_ble_eq_true rfl) ?_
  refine AW.istore_n (lv1 := [(3, iv r16.1), (0, rv z 117), (1, iv x1), (2, iv x2)]) dX12_harmOf_77 (by decide) rfl ?_
  refine AW.iload_n 0 dX12_harmOf_78 rfl ?_
  refine AW.iconst dX12_harmOf_79 ?_
  obtain ⟨r22, e23, h⟩ := hC h
  refine AW.join (tgt := 103) (lv1 := []) (st1 := [iv r22.1]) (g1 := r22.2) ?_ (fun J80 => ?_)
  · refine AW.istore (lv1 := [(4, iv r22.1)]) dX12_harmOf_103 (by decide) rfl ?_
    refine AW.iload 0 dX12_harmOf_105 rfl ?_
    obtain ⟨t24, e25, h⟩ := hBe h
    refine AW.join (tgt := 130) (lv1 := [(4, iv r22.1)]) (st1 := [iv t24]) (g1 := r22.2) ?_ (fun J107 => ?_)
    · exact AW.iret1 rfl dX12_harmOf_130 h rfl
    refine AW.if_ge (tgt := 114) dX12_harmOf_107 (by decide) (fun c26 => ?_) (fun c26 => ?_)
    · refine AW.iload 0 dX12_harmOf_114 rfl ?_
      refine AW.sipush dX12_harmOf_116 (by decide) (by decide) ?_
      refine AW.icmp_le (tgt := 128) dX12_harmOf_119 (by decide) (fun c27 => ?_) (fun c27 => ?_)
      · refine AW.iload 0 dX12_harmOf_128 rfl ?_
        exact AW.val (e25.trans ((if_pos c26).trans (if_pos c27))) J107
      · refine AW.sipush dX12_harmOf_122 (by decide) (by decide) ?_
        refine AW.goto (tgt := 130) dX12_harmOf_125 (by decide) ?_
        exact AW.val (e25.trans ((if_pos c26).trans (if_neg c27))) J107
    · refine AW.iconst dX12_harmOf_110 ?_
      refine AW.goto (tgt := 130) dX12_harmOf_111 (by decide) ?_
      exact AW.val (e25.trans (if_neg c26)) J107
  replace h := e23
  refine AW.icmp_ne (tgt := 87) dX12_harmOf_80 (by decide) (fun c18 => ?_) (fun c18 => ?_)
  · replace h := hF h c18
    refine AW.aloadr_n 1 dX12_harmOf_87 rfl ?_
    refine AW.aloadr_n 1 dX12_harmOf_88 rfl ?_
    refine AW.getR af_X12_57_117 sr_117_16 dX12_harmOf_89 ?_
    refine AW.iload_n 0 dX12_harmOf_92 rfl ?_
    obtain ⟨k19, h⟩ := hK h
    refine AW.iald kc_131 sk_131 k19 dX12_harmOf_93 ?_
    refine AW.aloadr_n 1 dX12_harmOf_94 rfl ?_
    refine AW.getR af_X12_60_117 sr_117_17 dX12_harmOf_95 ?_
    refine AW.iload_n 0 dX12_harmOf_98 rfl ?_
    refine AW.iald kc_132 sk_132 k19 dX12_harmOf_99 ?_
    obtain ⟨r20, e21, h⟩ := hC h
    refine AW.callVi (As := [iv (r16.2 131 (ix r16.1)), iv (r16.2 132 (ix r16.1))]) (st := []) (M_comesTo_ok e21) cq_X12_397 cr_117_X12_comesTo (Nat.le_trans (by decide) hdd) rfl dX12_harmOf_100 rfl (Nat.le_of_ble_eq_true rfl) ?_
    refine AW.sub (lv1 := []) [] rfl ?_
    cases h
    exact J80
  · replace h := hT h c18
    refine AW.iconst dX12_harmOf_83 ?_
    refine AW.goto (tgt := 103) dX12_harmOf_84 (by decide) ?_
    refine AW.sub (lv1 := []) [] rfl ?_
    cases h
    exact J80
set_option synthInstance.maxHeartbeats 2000000 in
theorem M_through_b_ok {z : AZ} {d : Nat} (hdd : 6 ≤ d) {x1 : Int} {x2 : Int} {x3 : Int} : ∀ (tag : Nat) (x5 : Int) (x6 : Int) (x7 : Int) (g : AG) (r : Int × AG), M_through_b x1 x2 x3 tag x5 x6 x7 g = some r → (tag = 1 → AW z (RX12, cX12_through, 8, (some .int)) d (QD (some .int) r) 28 [(0, rv z 117), (1, iv x1), (2, iv x2), (3, iv x3), (5, iv x5)] [] g) ∧ (tag = 2 → AW z (RX12, cX12_through, 8, (some .int)) d (QD (some .int) r) 70 [(0, rv z 117), (1, iv x1), (2, iv x2), (5, iv x5), (6, iv x6)] [] g) ∧ (tag = 3 → AW z (RX12, cX12_through, 8, (some .int)) d (QD (some .int) r) 105 [(0, rv z 117), (1, iv x1), (2, iv x2), (5, iv x5)] [] g) ∧ (tag = 4 → AW z (RX12, cX12_through, 8, (some .int)) d (QD (some .int) r) 125 [(0, rv z 117), (1, iv x1), (2, iv x2), (5, iv x5), (6, iv x6), (7, iv x7)] [] g) := by
  refine M_through_b.partial_correctness x1 x2 x3 (fun tag x5 x6 x7 g r => (tag = 1 → AW z (RX12, cX12_through, 8, (some .int)) d (QD (some .int) r) 28 [(0, rv z 117), (1, iv x1), (2, iv x2), (3, iv x3), (5, iv x5)] [] g) ∧ (tag = 2 → AW z (RX12, cX12_through, 8, (some .int)) d (QD (some .int) r) 70 [(0, rv z 117), (1, iv x1), (2, iv x2), (5, iv x5), (6, iv x6)] [] g) ∧ (tag = 3 → AW z (RX12, cX12_through, 8, (some .int)) d (QD (some .int) r) 105 [(0, rv z 117), (1, iv x1), (2, iv x2), (5, iv x5)] [] g) ∧ (tag = 4 → AW z (RX12, cX12_through, 8, (some .int)) d (QD (some .int) r) 125 [(0, rv z 117), (1, iv x1), (2, iv x2), (5, iv x5), (6, iv x6), (7, iv x7)] [] g)) ?_
  intro fb9 ih tag x5 x6 x7 g r h
  refine ⟨fun h9 => ?_, fun h9 => ?_, fun h9 => ?_, fun h9 => ?_⟩
  · subst h9
    replace h := hT h rfl
    refine AW.aloadr_n 0 dX12_through_28 rfl ?_
    refine AW.getR af_X12_13_117 sr_117_0 dX12_through_29 ?_
    refine AW.iload_n 2 dX12_through_32 rfl ?_
    obtain ⟨k1, h⟩ := hK h
    refine AW.iald kc_118 sk_118 k1 dX12_through_33 ?_
    obtain ⟨r8, e9, h⟩ := hC h
    refine AW.join (tgt := 105) (lv1 := [(0, rv z 117), (1, iv x1), (2, iv x2), (5, iv r8.1)]) (st1 := []) (g1 := r8.2) ?_ (fun J34 => ?_)
    · refine AW.bipush dX12_through_105 (by decide) (by decide) ?_
      refine AW.bipush dX12_through_107 (by decide) (by decide) ?_
      refine AW.aloadr_n 0 dX12_through_109 rfl ?_
      refine AW.getR af_X12_41_117 sr_117_9 dX12_through_110 ?_
      refine AW.iload_n 1 dX12_through_113 rfl ?_
      obtain ⟨k10, h⟩ := hK h
      refine AW.iald kc_127 sk_127 k10 dX12_through_114 ?_
      refine AW.isub dX12_through_115 ?_
      refine AW.bipush dX12_through_116 (by decide) (by decide) ?_
      refine AW.idiv dX12_through_118 (by decide) ?_
      refine AW.iadd dX12_through_119 ?_
      refine AW.istore (lv1 := [(6, iv (15 + ((nw (60 - (r8.2 127 (ix x1)))).tdiv 6))), (0, rv z 117), (1, iv x1), (2, iv x2), (5, iv r8.1)]) dX12_through_120 (by decide) rfl ?_
      refine AW.iconst dX12_through_122 ?_
      refine AW.istore (lv1 := [(7, iv 0), (6, iv (15 + ((nw (60 - (r8.2 127 (ix x1)))).tdiv 6))), (0, rv z 117), (1, iv x1), (2, iv x2), (5, iv r8.1)]) dX12_through_123 (by decide) rfl ?_
      refine AW.sub (lv1 := [(0, rv z 117), (1, iv x1), (2, iv x2), (5, iv r8.1), (6, iv (15 + ((nw (60 - (r8.2 127 (ix x1)))).tdiv 6))), (7, iv 0)]) [2, 3, 4, 5, 1, 0] rfl ?_
      exact (ih _ _ _ _ _ _ h).2.2.2 rfl
    replace h := e9
    refine AW.if_le (tgt := 105) dX12_through_34 (by decide) (fun c2 => ?_) (fun c2 => ?_)
    · replace h := hT h c2
      refine AW.sub (lv1 := [(0, rv z 117), (1, iv x1), (2, iv x2), (5, iv x5)]) [0, 1, 2, 4] rfl ?_
      cases h
      exact J34
    · replace h := hF h c2
      refine AW.aloadr_n 0 dX12_through_37 rfl ?_
      refine AW.iload_n 2 dX12_through_38 rfl ?_
      refine AW.iload_n 3 dX12_through_39 rfl ?_
      obtain ⟨t3, e4, h⟩ := hBe h
      refine AW.join (tgt := 48) (lv1 := [(0, rv z 117), (1, iv x1), (2, iv x2), (3, iv x3), (5, iv x5)]) (st1 := [iv t3, iv x2, rv z 117]) (g1 := g) ?_ (fun J40 => ?_)
      · refine AW.iload 4 dX12_through_48 rfl ?_
        refine AW.bipush dX12_through_50 (by decide) (by decide) ?_
        refine AW.aloadr_n 0 dX12_through_52 rfl ?_
        refine AW.getR af_X12_13_117 sr_117_0 dX12_through_53 ?_
        refine AW.iload_n 2 dX12_through_56 rfl ?_
        refine AW.iald kc_118 sk_118 k1 dX12_through_57 ?_
        refine AW.imul dX12_through_58 ?_
        obtain ⟨r5, e6, h⟩ := hC h
        refine AW.callVi (As := [iv x2, iv t3, iv x5, iv (20 * (g 118 (ix x2)))]) (st := []) (M_endOf_ok e6) cq_X12_417 cr_117_X12_endOf (Nat.le_trans (by decide) hdd) rfl dX12_through_59 rfl (Nat.le_of_ble_eq_true rfl) ?_
        refine AW.istore (lv1 := [(5, iv r5.1), (0, rv z 117), (1, iv x1), (2, iv x2), (3, iv x3)]) dX12_through_62 (by decide) rfl ?_
        refine AW.goto (tgt := 105) dX12_through_64 (by decide) ?_
        refine AW.sub (lv1 := [(0, rv z 117), (1, iv x1), (2, iv x2), (5, iv r5.1)]) [1, 2, 3, 0] rfl ?_
        cases h
        exact J34
      refine AW.if_eq (tgt := 47) dX12_through_40 (by decide) (fun c7 => ?_) (fun c7 => ?_)
      · refine AW.iconst dX12_through_47 ?_
        exact AW.val (e4.trans (if_pos c7)) J40
      · refine AW.iconst dX12_through_43 ?_
        refine AW.goto (tgt := 48) dX12_through_44 (by decide) ?_
        exact AW.val (e4.trans (if_neg c7)) J40
  · subst h9
    replace h := hF h (by decide)
    replace h := hT h rfl
    refine AW.iload 4 dX12_through_70 rfl ?_
    refine AW.aloadr_n 0 dX12_through_72 rfl ?_
    refine AW.getR af_X12_13_117 sr_117_0 dX12_through_73 ?_
    refine AW.iload_n 2 dX12_through_76 rfl ?_
    obtain ⟨k1, h⟩ := hK h
    refine AW.iald kc_118 sk_118 k1 dX12_through_77 ?_
    refine AW.icmp_ge (tgt := 105) dX12_through_78 (by decide) (fun c2 => ?_) (fun c2 => ?_)
    · replace h := hT h c2
      refine AW.sub (lv1 := [(0, rv z 117), (1, iv x1), (2, iv x2), (5, iv x5)]) [0, 1, 2, 3] rfl ?_
      exact (ih _ _ _ _ _ _ h).2.2.1 rfl
    · replace h := hF h c2
      refine AW.iload 3 dX12_through_81 rfl ?_
      refine AW.iconst dX12_through_83 ?_
      refine AW.icmp_eq (tgt := 105) dX12_through_84 (by decide) (fun c3 => ?_) (fun c3 => ?_)
      · replace h := hT h c3
        refine AW.sub (lv1 := [(0, rv z 117), (1, iv x1), (2, iv x2), (5, iv x5)]) [0, 1, 2, 3] rfl ?_
        exact (ih _ _ _ _ _ _ h).2.2.1 rfl
      · replace h := hF h c3
        refine AW.aloadr_n 0 dX12_through_87 rfl ?_
        refine AW.iload_n 2 dX12_through_88 rfl ?_
        refine AW.iconst dX12_through_89 ?_
        refine AW.iload 3 dX12_through_90 rfl ?_
        refine AW.bipush dX12_through_92 (by decide) (by decide) ?_
        obtain ⟨r4, e5, h⟩ := hC h
        refine AW.callVi (As := [iv x2, iv 0, iv x5, iv 20]) (st := []) (M_endOf_ok e5) cq_X12_417 cr_117_X12_endOf (Nat.le_trans (by decide) hdd) rfl dX12_through_94 rfl (Nat.le_of_ble_eq_true rfl) ?_
        refine AW.istore (lv1 := [(5, iv r4.1), (0, rv z 117), (1, iv x1), (2, iv x2), (6, iv x6)]) dX12_through_97 (by decide) rfl ?_
        refine AW.iinc (lv1 := [(6, iv (x6 + 1)), (5, iv r4.1), (0, rv z 117), (1, iv x1), (2, iv x2)]) 4 dX12_through_99 rfl (by decide) rfl ?_
        refine AW.goto (tgt := 70) dX12_through_102 (by decide) ?_
        refine AW.sub (lv1 := [(0, rv z 117), (1, iv x1), (2, iv x2), (5, iv r4.1), (6, iv (x6 + 1))]) [2, 3, 4, 1, 0] rfl ?_
        exact (ih _ _ _ _ _ _ h).2.1 rfl
  · subst h9
    replace h := hF h (by decide)
    replace h := hF h (by decide)
    replace h := hT h rfl
    refine AW.bipush dX12_through_105 (by decide) (by decide) ?_
    refine AW.bipush dX12_through_107 (by decide) (by decide) ?_
    refine AW.aloadr_n 0 dX12_through_109 rfl ?_
    refine AW.getR af_X12_41_117 sr_117_9 dX12_through_110 ?_
    refine AW.iload_n 1 dX12_through_113 rfl ?_
    obtain ⟨k1, h⟩ := hK h
    refine AW.iald kc_127 sk_127 k1 dX12_through_114 ?_
    refine AW.isub dX12_through_115 ?_
    refine AW.bipush dX12_through_116 (by decide) (by decide) ?_
    refine AW.idiv dX12_through_118 (by decide) ?_
    refine AW.iadd dX12_through_119 ?_
    refine AW.istore (lv1 := [(6, iv (15 + ((nw (60 - (g 127 (ix x1)))).tdiv 6))), (0, rv z 117), (1, iv x1), (2, iv x2), (5, iv x5)]) dX12_through_120 (by decide) rfl ?_
    refine AW.iconst dX12_through_122 ?_
    refine AW.istore (lv1 := [(7, iv 0), (6, iv (15 + ((nw (60 - (g 127 (ix x1)))).tdiv 6))), (0, rv z 117), (1, iv x1), (2, iv x2), (5, iv x5)]) dX12_through_123 (by decide) rfl ?_
    refine AW.sub (lv1 := [(0, rv z 117), (1, iv x1), (2, iv x2), (5, iv x5), (6, iv (15 + ((nw (60 - (g 127 (ix x1)))).tdiv 6))), (7, iv 0)]) [2, 3, 4, 5, 1, 0] rfl ?_
    exact (ih _ _ _ _ _ _ h).2.2.2 rfl
  · subst h9
    replace h := hF h (by decide)
    replace h := hF h (by decide)
    replace h := hF h (by decide)
    replace h := hT h rfl
    refine AW.iload 5 dX12_through_125 rfl ?_
    refine AW.aloadr_n 0 dX12_through_127 rfl ?_
    refine AW.getR af_X12_17_117 sr_117_1 dX12_through_128 ?_
    refine AW.iload_n 2 dX12_through_131 rfl ?_
    obtain ⟨k1, h⟩ := hK h
    refine AW.iald kc_119 sk_119 k1 dX12_through_132 ?_
    refine AW.icmp_ge (tgt := 196) dX12_through_133 (by decide) (fun c2 => ?_) (fun c2 => ?_)
    · replace h := hT h c2
      refine AW.iload 3 dX12_through_196 rfl ?_
      exact AW.iret1 rfl dX12_through_198 h rfl
    · replace h := hF h c2
      refine AW.iload 3 dX12_through_136 rfl ?_
      refine AW.iconst dX12_through_138 ?_
      refine AW.icmp_eq (tgt := 196) dX12_through_139 (by decide) (fun c3 => ?_) (fun c3 => ?_)
      · replace h := hT h c3
        refine AW.iload 3 dX12_through_196 rfl ?_
        exact AW.iret1 rfl dX12_through_198 h rfl
      · replace h := hF h c3
        refine AW.aloadr_n 0 dX12_through_142 rfl ?_
        refine AW.iload_n 2 dX12_through_143 rfl ?_
        refine AW.iconst dX12_through_144 ?_
        refine AW.iload 3 dX12_through_145 rfl ?_
        refine AW.iload 4 dX12_through_147 rfl ?_
        obtain ⟨r4, e5, h⟩ := hC h
        refine AW.callVi (As := [iv x2, iv 1, iv x5, iv x6]) (st := []) (M_endOf_ok e5) cq_X12_417 cr_117_X12_endOf (Nat.le_trans (by decide) hdd) rfl dX12_through_149 rfl (Nat.le_of_ble_eq_true rfl) ?_
        refine AW.istore (lv1 := [(5, iv r4.1), (0, rv z 117), (1, iv x1), (2, iv x2), (6, iv x6), (7, iv x7)]) dX12_through_152 (by decide) rfl ?_
        refine AW.aloadr_n 1 dX12_through_154 rfl ?_
        refine AW.getI af_X12_421_117 sr_117_47 dX12_through_155 ?_
        obtain ⟨r12, e13, h⟩ := hC h
        refine AW.join (tgt := 190) (lv1 := [(0, rv z 117), (1, iv x1), (2, iv x2), (5, iv r4.1), (6, iv x6), (7, iv x7)]) (st1 := []) (g1 := r12) ?_ (fun J158 => ?_)
        · refine AW.iinc (lv1 := [(7, iv (x7 + 1)), (0, rv z 117), (1, iv x1), (2, iv x2), (5, iv r4.1), (6, iv x6)]) 5 dX12_through_190 rfl (by decide) rfl ?_
          refine AW.goto (tgt := 125) dX12_through_193 (by decide) ?_
          refine AW.sub (lv1 := [(0, rv z 117), (1, iv x1), (2, iv x2), (5, iv r4.1), (6, iv x6), (7, iv (x7 + 1))]) [1, 2, 3, 4, 5, 0] rfl ?_
          exact (ih _ _ _ _ _ _ h).2.2.2 rfl
        replace h := e13
        refine AW.if_eq (tgt := 190) dX12_through_158 (by decide) (fun c6 => ?_) (fun c6 => ?_)
        · replace h := hT h c6
          refine AW.sub (lv1 := [(0, rv z 117), (1, iv x1), (2, iv x2), (5, iv r4.1), (6, iv x6), (7, iv x7)]) [1, 2, 3, 0, 4, 5] rfl ?_
          cases h
          exact J158
        · replace h := hF h c6
          refine AW.iload 0 dX12_through_161 rfl ?_
          refine AW.iconst dX12_through_163 ?_
          refine AW.icmp_eq (tgt := 190) dX12_through_164 (by decide) (fun c7 => ?_) (fun c7 => ?_)
          · replace h := hT h c7
            refine AW.sub (lv1 := [(0, rv z 117), (1, iv x1), (2, iv x2), (5, iv r4.1), (6, iv x6), (7, iv x7)]) [1, 2, 3, 0, 4, 5] rfl ?_
            cases h
            exact J158
          · replace h := hF h c7
            refine AW.aloadr_n 1 dX12_through_167 rfl ?_
            refine AW.duprr dX12_through_168 ?_
            refine AW.getI af_X12_425_117 sr_117_48 dX12_through_169 ?_
            refine AW.aloadr_n 1 dX12_through_172 rfl ?_
            refine AW.iload_n 2 dX12_through_173 rfl ?_
            refine AW.iload 0 dX12_through_174 rfl ?_
            refine AW.iload 4 dX12_through_176 rfl ?_
            refine AW.isub dX12_through_178 ?_
            refine AW.sipush dX12_through_179 (by decide) (by decide) ?_
            refine AW.idiv dX12_through_182 (by decide) ?_
            obtain ⟨r8, e9, h⟩ := hC h
            refine AW.callVi (As := [iv x1, iv ((nw (r4.1 - x6)).tdiv 1440)]) (st := [iv (r4.2 117 48), rv z 117]) (M_harmOf_ok e9) cq_X12_428 cr_117_X12_harmOf (Nat.le_trans (by decide) hdd) rfl dX12_through_183 rfl (Nat.le_of_ble_eq_true rfl) ?_
            refine AW.iadd dX12_through_186 ?_
            obtain ⟨g10, e11, h⟩ := hBe h
            refine AW.putI ap_X12_425_117 sr_117_48 dX12_through_187 e11 ?_
            refine AW.sub (lv1 := [(0, rv z 117), (1, iv x1), (2, iv x2), (5, iv r4.1), (6, iv x6), (7, iv x7)]) [1, 2, 3, 0, 4, 5] rfl ?_
            cases h
            exact J158
theorem M_through_ok {z : AZ} {x1 : Int} {x2 : Int} {x3 : Int} {x4 : Int} {g : AG} {r : Int × AG} (h : M_through x1 x2 x3 x4 g = some r) : AMf z yX12_through cX12_through 8 (some .int) 6 [rv z 117, iv x1, iv x2, iv x3, iv x4] g r := by
  intro d hdd
  refine AM.of (by decide +kernel) (Nat.le_of_ble_eq_true rfl) ?_
  show AW z (RX12, cX12_through, 8, (some .int)) d (QD (some .int) r) 0 [(0, rv z 117), (1, iv x1), (2, iv x2), (3, iv x3), (4, iv x4)] [] g
  unfold M_through at h
  refine AW.iload 4 dX12_through_0 rfl ?_
  refine AW.istore (lv1 := [(5, iv x4), (0, rv z 117), (1, iv x1), (2, iv x2), (3, iv x3), (4, iv x4)]) dX12_through_2 (by decide) rfl ?_
  refine AW.aloadr_n 1 dX12_through_4 rfl ?_
  refine AW.getR af_X12_96_117 sr_117_29 dX12_through_5 ?_
  refine AW.iconst dX12_through_8 ?_
  refine AW.iload_n 3 dX12_through_9 rfl ?_
  refine AW.imul dX12_through_10 ?_
  obtain ⟨k1, h⟩ := hK h
  refine AW.zald kc_144 sk_144 k1 dX12_through_11 ?_
  refine AW.if_ne (tgt := 28) dX12_through_12 (by decide) (fun c2 => ?_) (fun c2 => ?_)
  · replace h := hF h c2
    refine AW.sub (lv1 := [(0, rv z 117), (1, iv x1), (2, iv x2), (3, iv x3), (5, iv x4)]) [1, 2, 3, 4, 0] rfl ?_
    exact (M_through_b_ok hdd _ _ _ _ _ _ h).1 rfl
  · replace h := hT h c2
    refine AW.aloadr_n 1 dX12_through_15 rfl ?_
    refine AW.getR af_X12_96_117 sr_117_29 dX12_through_16 ?_
    refine AW.iconst dX12_through_19 ?_
    refine AW.iload_n 3 dX12_through_20 rfl ?_
    refine AW.imul dX12_through_21 ?_
    refine AW.iconst dX12_through_22 ?_
    refine AW.iadd dX12_through_23 ?_
    obtain ⟨k3, h⟩ := hK h
    refine AW.zald kc_144 sk_144 k3 dX12_through_24 ?_
    refine AW.if_eq (tgt := 67) dX12_through_25 (by decide) (fun c4 => ?_) (fun c4 => ?_)
    · replace h := hT h c4
      refine AW.iconst dX12_through_67 ?_
      refine AW.istore (lv1 := [(6, iv 0), (5, iv x4), (0, rv z 117), (1, iv x1), (2, iv x2), (3, iv x3), (4, iv x4)]) dX12_through_68 (by decide) rfl ?_
      refine AW.sub (lv1 := [(0, rv z 117), (1, iv x1), (2, iv x2), (5, iv x4), (6, iv 0)]) [2, 3, 4, 1, 0] rfl ?_
      exact (M_through_b_ok hdd _ _ _ _ _ _ h).2.1 rfl
    · replace h := hF h c4
      refine AW.sub (lv1 := [(0, rv z 117), (1, iv x1), (2, iv x2), (3, iv x3), (5, iv x4)]) [1, 2, 3, 4, 0] rfl ?_
      exact (M_through_b_ok hdd _ _ _ _ _ _ h).1 rfl
set_option synthInstance.maxHeartbeats 2000000 in
theorem M_led_b_ok {z : AZ} {d : Nat} (hdd : 7 ≤ d) {x1 : Int} {x2 : Int} {x3 : Int} : ∀ (tag : Nat) (x5 : Int) (x6 : Int) (g : AG) (r : Int × AG), M_led_b x1 x2 x3 tag x5 x6 g = some r → (tag = 1 → AW z (RX12, cX12_led, 7, (some .int)) d (QD (some .int) r) 7 [(0, rv z 117), (1, iv x1), (2, iv x2), (3, iv x3), (5, iv x5), (6, iv x6)] [] g) ∧ (tag = 2 → AW z (RX12, cX12_led, 7, (some .int)) d (QD (some .int) r) 37 [(0, rv z 117), (1, iv x1), (2, iv x2), (3, iv x3), (5, iv x5)] [] g) ∧ (tag = 3 → AW z (RX12, cX12_led, 7, (some .int)) d (QD (some .int) r) 40 [(0, rv z 117), (1, iv x1), (3, iv x3), (5, iv x5), (6, iv x6)] [] g) := by
  refine M_led_b.partial_correctness x1 x2 x3 (fun tag x5 x6 g r => (tag = 1 → AW z (RX12, cX12_led, 7, (some .int)) d (QD (some .int) r) 7 [(0, rv z 117), (1, iv x1), (2, iv x2), (3, iv x3), (5, iv x5), (6, iv x6)] [] g) ∧ (tag = 2 → AW z (RX12, cX12_led, 7, (some .int)) d (QD (some .int) r) 37 [(0, rv z 117), (1, iv x1), (2, iv x2), (3, iv x3), (5, iv x5)] [] g) ∧ (tag = 3 → AW z (RX12, cX12_led, 7, (some .int)) d (QD (some .int) r) 40 [(0, rv z 117), (1, iv x1), (3, iv x3), (5, iv x5), (6, iv x6)] [] g)) ?_
  intro fb9 ih tag x5 x6 g r h
  refine ⟨fun h9 => ?_, fun h9 => ?_, fun h9 => ?_⟩
  · subst h9
    replace h := hT h rfl
    refine AW.iload 5 dX12_led_7 rfl ?_
    refine AW.iload_n 3 dX12_led_9 rfl ?_
    refine AW.icmp_ge (tgt := 37) dX12_led_10 (by decide) (fun c1 => ?_) (fun c1 => ?_)
    · replace h := hT h c1
      refine AW.sub (lv1 := [(0, rv z 117), (1, iv x1), (2, iv x2), (3, iv x3), (5, iv x5)]) [0, 1, 2, 3, 4] rfl ?_
      exact (ih _ _ _ _ _ h).2.1 rfl
    · replace h := hF h c1
      refine AW.iload 4 dX12_led_13 rfl ?_
      refine AW.iconst dX12_led_15 ?_
      refine AW.icmp_eq (tgt := 37) dX12_led_16 (by decide) (fun c2 => ?_) (fun c2 => ?_)
      · replace h := hT h c2
        refine AW.sub (lv1 := [(0, rv z 117), (1, iv x1), (2, iv x2), (3, iv x3), (5, iv x5)]) [0, 1, 2, 3, 4] rfl ?_
        exact (ih _ _ _ _ _ h).2.1 rfl
      · replace h := hF h c2
        refine AW.aloadr_n 0 dX12_led_19 rfl ?_
        refine AW.iload_n 1 dX12_led_20 rfl ?_
        refine AW.iload 5 dX12_led_21 rfl ?_
        refine AW.iconst dX12_led_23 ?_
        refine AW.iload 4 dX12_led_24 rfl ?_
        obtain ⟨r3, e4, h⟩ := hC h
        refine AW.callVi (As := [iv x1, iv x6, iv 1, iv x5]) (st := []) (M_through_ok e4) cq_X12_431 cr_117_X12_through (Nat.le_trans (by decide) hdd) rfl dX12_led_26 rfl (Nat.le_of_ble_eq_true rfl) ?_
        refine AW.istore (lv1 := [(5, iv r3.1), (0, rv z 117), (1, iv x1), (2, iv x2), (3, iv x3), (6, iv x6)]) dX12_led_29 (by decide) rfl ?_
        refine AW.iinc (lv1 := [(6, iv (x6 + 1)), (5, iv r3.1), (0, rv z 117), (1, iv x1), (2, iv x2), (3, iv x3)]) 5 dX12_led_31 rfl (by decide) rfl ?_
        refine AW.goto (tgt := 7) dX12_led_34 (by decide) ?_
        refine AW.sub (lv1 := [(0, rv z 117), (1, iv x1), (2, iv x2), (3, iv x3), (5, iv r3.1), (6, iv (x6 + 1))]) [2, 3, 4, 5, 1, 0] rfl ?_
        exact (ih _ _ _ _ _ h).1 rfl
  · subst h9
    replace h := hF h (by decide)
    replace h := hT h rfl
    refine AW.iload_n 2 dX12_led_37 rfl ?_
    refine AW.istore (lv1 := [(6, iv x2), (0, rv z 117), (1, iv x1), (2, iv x2), (3, iv x3), (5, iv x5)]) dX12_led_38 (by decide) rfl ?_
    refine AW.sub (lv1 := [(0, rv z 117), (1, iv x1), (3, iv x3), (5, iv x5), (6, iv x2)]) [1, 2, 4, 5, 0] rfl ?_
    exact (ih _ _ _ _ _ h).2.2 rfl
  · subst h9
    replace h := hF h (by decide)
    replace h := hF h (by decide)
    replace h := hT h rfl
    refine AW.iload 4 dX12_led_40 rfl ?_
    refine AW.iload_n 2 dX12_led_42 rfl ?_
    refine AW.icmp_le (tgt := 72) dX12_led_43 (by decide) (fun c1 => ?_) (fun c1 => ?_)
    · replace h := hT h c1
      refine AW.iload 3 dX12_led_72 rfl ?_
      exact AW.iret1 rfl dX12_led_74 h rfl
    · replace h := hF h c1
      refine AW.iload 3 dX12_led_46 rfl ?_
      refine AW.iconst dX12_led_48 ?_
      refine AW.icmp_eq (tgt := 72) dX12_led_49 (by decide) (fun c2 => ?_) (fun c2 => ?_)
      · replace h := hT h c2
        refine AW.iload 3 dX12_led_72 rfl ?_
        exact AW.iret1 rfl dX12_led_74 h rfl
      · replace h := hF h c2
        refine AW.aloadr_n 0 dX12_led_52 rfl ?_
        refine AW.iload_n 1 dX12_led_53 rfl ?_
        refine AW.iload 4 dX12_led_54 rfl ?_
        refine AW.iconst dX12_led_56 ?_
        refine AW.isub dX12_led_57 ?_
        refine AW.iconst dX12_led_58 ?_
        refine AW.iload 3 dX12_led_59 rfl ?_
        obtain ⟨r3, e4, h⟩ := hC h
        refine AW.callVi (As := [iv x1, iv (x6 - 1), iv 0, iv x5]) (st := []) (M_through_ok e4) cq_X12_431 cr_117_X12_through (Nat.le_trans (by decide) hdd) rfl dX12_led_61 rfl (Nat.le_of_ble_eq_true rfl) ?_
        refine AW.istore (lv1 := [(5, iv r3.1), (0, rv z 117), (1, iv x1), (3, iv x3), (6, iv x6)]) dX12_led_64 (by decide) rfl ?_
        refine AW.iinc (lv1 := [(6, iv (x6 + (-1))), (5, iv r3.1), (0, rv z 117), (1, iv x1), (3, iv x3)]) 4 dX12_led_66 rfl (by decide) rfl ?_
        refine AW.goto (tgt := 40) dX12_led_69 (by decide) ?_
        refine AW.sub (lv1 := [(0, rv z 117), (1, iv x1), (3, iv x3), (5, iv r3.1), (6, iv (x6 + (-1)))]) [2, 3, 4, 1, 0] rfl ?_
        exact (ih _ _ _ _ _ h).2.2 rfl
theorem M_led_ok {z : AZ} {x1 : Int} {x2 : Int} {x3 : Int} {x4 : Int} {g : AG} {r : Int × AG} (h : M_led x1 x2 x3 x4 g = some r) : AMf z yX12_led cX12_led 7 (some .int) 7 [rv z 117, iv x1, iv x2, iv x3, iv x4] g r := by
  intro d hdd
  refine AM.of (by decide +kernel) (Nat.le_of_ble_eq_true rfl) ?_
  show AW z (RX12, cX12_led, 7, (some .int)) d (QD (some .int) r) 0 [(0, rv z 117), (1, iv x1), (2, iv x2), (3, iv x3), (4, iv x4)] [] g
  unfold M_led at h
  refine AW.iload 4 dX12_led_0 rfl ?_
  refine AW.istore (lv1 := [(5, iv x4), (0, rv z 117), (1, iv x1), (2, iv x2), (3, iv x3), (4, iv x4)]) dX12_led_2 (by decide) rfl ?_
  refine AW.iload_n 3 dX12_led_4 rfl ?_
  refine AW.istore (lv1 := [(6, iv x2), (5, iv x4), (0, rv z 117), (1, iv x1), (2, iv x2), (3, iv x3), (4, iv x4)]) dX12_led_5 (by decide) rfl ?_
  refine AW.sub (lv1 := [(0, rv z 117), (1, iv x1), (2, iv x2), (3, iv x3), (5, iv x4), (6, iv x2)]) [2, 3, 4, 5, 1, 0] rfl ?_
  exact (M_led_b_ok hdd _ _ _ _ _ h).1 rfl
theorem M_comes_ok {z : AZ} {x1 : Int} {x2 : Int} {x3 : Int} {x4 : Int} {g : AG} {r : Int × AG} (h : M_comes x1 x2 x3 x4 g = some r) : AMf z yX12_comes cX12_comes 5 (some .int) 8 [rv z 117, iv x1, iv x2, iv x3, iv x4] g r := by
  intro d hdd
  refine AM.of (by decide +kernel) (Nat.le_of_ble_eq_true rfl) ?_
  show AW z (RX12, cX12_comes, 5, (some .int)) d (QD (some .int) r) 0 [(0, rv z 117), (1, iv x1), (2, iv x2), (3, iv x3), (4, iv x4)] [] g
  unfold M_comes at h
  refine AW.aloadr_n 0 dX12_comes_0 rfl ?_
  refine AW.iload_n 1 dX12_comes_1 rfl ?_
  refine AW.callVi (As := [iv x1]) (st := []) M_isBoat_ok cq_X12_435 cr_117_X12_isBoat (Nat.le_trans (by decide) hdd) rfl dX12_comes_2 rfl (Nat.le_of_ble_eq_true rfl) ?_
  obtain ⟨r7, e8, h⟩ := hC h
  refine AW.join (tgt := 43) (lv1 := []) (st1 := [iv r7.1]) (g1 := r7.2) ?_ (fun J5 => ?_)
  · exact AW.iret1 rfl dX12_comes_43 h rfl
  replace h := e8
  refine AW.if_eq (tgt := 42) dX12_comes_5 (by decide) (fun c1 => ?_) (fun c1 => ?_)
  · replace h := hT h c1
    refine AW.iconst dX12_comes_42 ?_
    refine AW.sub (lv1 := []) [] rfl ?_
    cases h
    exact J5
  · replace h := hF h c1
    refine AW.iload_n 2 dX12_comes_8 rfl ?_
    refine AW.callSi (As := [iv x2]) (st := []) M_isPoint_ok cq_X12_238 st_X12_isPoint (Nat.le_trans (by decide) hdd) rfl dX12_comes_9 rfl (Nat.le_of_ble_eq_true rfl) ?_
    refine AW.if_eq (tgt := 42) dX12_comes_12 (by decide) (fun c2 => ?_) (fun c2 => ?_)
    · replace h := hT h c2
      refine AW.iconst dX12_comes_42 ?_
      refine AW.sub (lv1 := []) [] rfl ?_
      cases h
      exact J5
    · replace h := hF h c2
      refine AW.iload_n 3 dX12_comes_15 rfl ?_
      refine AW.callSi (As := [iv x3]) (st := []) M_isPoint_ok cq_X12_238 st_X12_isPoint (Nat.le_trans (by decide) hdd) rfl dX12_comes_16 rfl (Nat.le_of_ble_eq_true rfl) ?_
      refine AW.if_eq (tgt := 42) dX12_comes_19 (by decide) (fun c3 => ?_) (fun c3 => ?_)
      · replace h := hT h c3
        refine AW.iconst dX12_comes_42 ?_
        refine AW.sub (lv1 := []) [] rfl ?_
        cases h
        exact J5
      · replace h := hF h c3
        refine AW.iload 4 dX12_comes_22 rfl ?_
        refine AW.callSi (As := [iv x4]) (st := []) M_isTime_ok cq_X12_438 st_X12_isTime (Nat.le_trans (by decide) hdd) rfl dX12_comes_24 rfl (Nat.le_of_ble_eq_true rfl) ?_
        refine AW.if_eq (tgt := 42) dX12_comes_27 (by decide) (fun c4 => ?_) (fun c4 => ?_)
        · replace h := hT h c4
          refine AW.iconst dX12_comes_42 ?_
          refine AW.sub (lv1 := []) [] rfl ?_
          cases h
          exact J5
        · replace h := hF h c4
          refine AW.aloadr_n 0 dX12_comes_30 rfl ?_
          refine AW.iload_n 1 dX12_comes_31 rfl ?_
          refine AW.iload_n 2 dX12_comes_32 rfl ?_
          refine AW.iload_n 3 dX12_comes_33 rfl ?_
          refine AW.iload 4 dX12_comes_34 rfl ?_
          obtain ⟨r5, e6, h⟩ := hC h
          refine AW.callVi (As := [iv x1, iv x2, iv x3, iv x4]) (st := []) (M_led_ok e6) cq_X12_441 cr_117_X12_led (Nat.le_trans (by decide) hdd) rfl dX12_comes_36 rfl (Nat.le_of_ble_eq_true rfl) ?_
          refine AW.goto (tgt := 43) dX12_comes_39 (by decide) ?_
          refine AW.sub (lv1 := []) [] rfl ?_
          cases h
          exact J5
theorem M_harm_ok {z : AZ} {x1 : Int} {x2 : Int} {x3 : Int} {x4 : Int} {g : AG} {r : Int × AG} (h : M_harm x1 x2 x3 x4 g = some r) : AMf z yX12_harm cX12_harm 6 (some .int) 8 [rv z 117, iv x1, iv x2, iv x3, iv x4] g r := by
  intro d hdd
  refine AM.of (by decide +kernel) (Nat.le_of_ble_eq_true rfl) ?_
  show AW z (RX12, cX12_harm, 6, (some .int)) d (QD (some .int) r) 0 [(0, rv z 117), (1, iv x1), (2, iv x2), (3, iv x3), (4, iv x4)] [] g
  unfold M_harm at h
  refine AW.aloadr_n 0 dX12_harm_0 rfl ?_
  refine AW.iload_n 1 dX12_harm_1 rfl ?_
  refine AW.callVi (As := [iv x1]) (st := []) M_isBoat_ok cq_X12_435 cr_117_X12_isBoat (Nat.le_trans (by decide) hdd) rfl dX12_harm_2 rfl (Nat.le_of_ble_eq_true rfl) ?_
  refine AW.if_eq (tgt := 30) dX12_harm_5 (by decide) (fun c1 => ?_) (fun c1 => ?_)
  · replace h := hT h c1
    refine AW.iconst dX12_harm_30 ?_
    exact AW.iret1 rfl dX12_harm_31 h rfl
  · replace h := hF h c1
    refine AW.iload_n 2 dX12_harm_8 rfl ?_
    refine AW.callSi (As := [iv x2]) (st := []) M_isPoint_ok cq_X12_238 st_X12_isPoint (Nat.le_trans (by decide) hdd) rfl dX12_harm_9 rfl (Nat.le_of_ble_eq_true rfl) ?_
    refine AW.if_eq (tgt := 30) dX12_harm_12 (by decide) (fun c2 => ?_) (fun c2 => ?_)
    · replace h := hT h c2
      refine AW.iconst dX12_harm_30 ?_
      exact AW.iret1 rfl dX12_harm_31 h rfl
    · replace h := hF h c2
      refine AW.iload_n 3 dX12_harm_15 rfl ?_
      refine AW.callSi (As := [iv x3]) (st := []) M_isPoint_ok cq_X12_238 st_X12_isPoint (Nat.le_trans (by decide) hdd) rfl dX12_harm_16 rfl (Nat.le_of_ble_eq_true rfl) ?_
      refine AW.if_eq (tgt := 30) dX12_harm_19 (by decide) (fun c3 => ?_) (fun c3 => ?_)
      · replace h := hT h c3
        refine AW.iconst dX12_harm_30 ?_
        exact AW.iret1 rfl dX12_harm_31 h rfl
      · replace h := hF h c3
        refine AW.iload 4 dX12_harm_22 rfl ?_
        refine AW.callSi (As := [iv x4]) (st := []) M_isTime_ok cq_X12_438 st_X12_isTime (Nat.le_trans (by decide) hdd) rfl dX12_harm_24 rfl (Nat.le_of_ble_eq_true rfl) ?_
        refine AW.if_ne (tgt := 32) dX12_harm_27 (by decide) (fun c4 => ?_) (fun c4 => ?_)
        · replace h := hF h c4
          refine AW.aloadr_n 0 dX12_harm_32 rfl ?_
          refine AW.iconst dX12_harm_33 ?_
          obtain ⟨g5, e6, h⟩ := hBe h
          refine AW.putZ ap_X12_421_117 sr_117_47 (Or.inr rfl) dX12_harm_34 e6 ?_
          refine AW.aloadr_n 0 dX12_harm_37 rfl ?_
          refine AW.iconst dX12_harm_38 ?_
          obtain ⟨g7, e8, h⟩ := hBe h
          refine AW.putI ap_X12_425_117 sr_117_48 dX12_harm_39 e8 ?_
          refine AW.aloadr_n 0 dX12_harm_42 rfl ?_
          refine AW.iload_n 1 dX12_harm_43 rfl ?_
          refine AW.iload_n 2 dX12_harm_44 rfl ?_
          refine AW.iload_n 3 dX12_harm_45 rfl ?_
          refine AW.iload 4 dX12_harm_46 rfl ?_
          obtain ⟨r9, e10, h⟩ := hC h
          refine AW.callVi (As := [iv x1, iv x2, iv x3, iv x4]) (st := []) (M_led_ok e10) cq_X12_441 cr_117_X12_led (Nat.le_trans (by decide) hdd) rfl dX12_harm_48 rfl (Nat.le_of_ble_eq_true rfl) ?_
          refine AW.istore (lv1 := [(5, iv r9.1), (0, rv z 117), (1, iv x1), (2, iv x2), (3, iv x3), (4, iv x4)]) dX12_harm_51 (by decide) rfl ?_
          refine AW.aloadr_n 1 dX12_harm_53 rfl ?_
          refine AW.iconst dX12_harm_54 ?_
          obtain ⟨g11, e12, h⟩ := hBe h
          refine AW.putZ ap_X12_421_117 sr_117_47 (Or.inl rfl) dX12_harm_55 e12 ?_
          refine AW.iload 0 dX12_harm_58 rfl ?_
          refine AW.iconst dX12_harm_60 ?_
          obtain ⟨t13, e14, h⟩ := hBe h
          refine AW.join (tgt := 72) (lv1 := [(5, iv r9.1), (0, rv z 117), (1, iv x1), (2, iv x2), (3, iv x3), (4, iv x4)]) (st1 := [iv t13]) (g1 := g11) ?_ (fun J61 => ?_)
          · exact AW.iret1 rfl dX12_harm_72 h rfl
          refine AW.icmp_ne (tgt := 68) dX12_harm_61 (by decide) (fun c15 => ?_) (fun c15 => ?_)
          · refine AW.aloadr_n 1 dX12_harm_68 rfl ?_
            refine AW.getI af_X12_425_117 sr_117_48 dX12_harm_69 ?_
            exact AW.val (e14.trans (if_neg c15)) J61
          · refine AW.iconst dX12_harm_64 ?_
            refine AW.goto (tgt := 72) dX12_harm_65 (by decide) ?_
            exact AW.val (e14.trans (if_pos c15)) J61
        · replace h := hT h c4
          refine AW.iconst dX12_harm_30 ?_
          exact AW.iret1 rfl dX12_harm_31 h rfl
set_option synthInstance.maxHeartbeats 2000000 in
theorem M_enough_b_ok {z : AZ} {d : Nat} (hdd : 8 ≤ d) {x1 : Int} {x2 : Int} {x3 : Int} {x4 : Int} {x5 : Int} {x6 : Int} : ∀ (tag : Nat) (x7 : Int) (x8 : Int) (g : AG) (r : Int × AG), M_enough_b x1 x2 x3 x4 x5 x6 tag x7 x8 g = some r → (tag = 1 → AW z (RX12, cX12_enough, 10, (some .int)) d (QD (some .int) r) 54 [(0, rv z 117), (1, iv x1), (2, iv x2), (3, iv x3), (4, iv x4), (5, iv x5), (6, iv x6), (7, iv x7), (8, iv x8)] [] g) ∧ (tag = 2 → AW z (RX12, cX12_enough, 10, (some .int)) d (QD (some .int) r) 127 [(0, rv z 117), (1, iv x1), (6, iv x6), (7, iv x7)] [] g) := by
  refine M_enough_b.partial_correctness x1 x2 x3 x4 x5 x6 (fun tag x7 x8 g r => (tag = 1 → AW z (RX12, cX12_enough, 10, (some .int)) d (QD (some .int) r) 54 [(0, rv z 117), (1, iv x1), (2, iv x2), (3, iv x3), (4, iv x4), (5, iv x5), (6, iv x6), (7, iv x7), (8, iv x8)] [] g) ∧ (tag = 2 → AW z (RX12, cX12_enough, 10, (some .int)) d (QD (some .int) r) 127 [(0, rv z 117), (1, iv x1), (6, iv x6), (7, iv x7)] [] g)) ?_
  intro fb9 ih tag x7 x8 g r h
  refine ⟨fun h9 => ?_, fun h9 => ?_⟩
  · subst h9
    replace h := hT h rfl
    refine AW.iload 8 dX12_enough_54 rfl ?_
    refine AW.bipush dX12_enough_56 (by decide) (by decide) ?_
    refine AW.icmp_gt (tgt := 127) dX12_enough_58 (by decide) (fun c1 => ?_) (fun c1 => ?_)
    · replace h := hT h c1
      refine AW.sub (lv1 := [(0, rv z 117), (1, iv x1), (6, iv x6), (7, iv x7)]) [0, 1, 6, 7] rfl ?_
      exact (ih _ _ _ _ _ h).2 rfl
    · replace h := hF h c1
      refine AW.iload 4 dX12_enough_61 rfl ?_
      refine AW.iload 8 dX12_enough_63 rfl ?_
      refine AW.iadd dX12_enough_65 ?_
      refine AW.sipush dX12_enough_66 (by decide) (by decide) ?_
      refine AW.icmp_gt (tgt := 127) dX12_enough_69 (by decide) (fun c2 => ?_) (fun c2 => ?_)
      · replace h := hT h c2
        refine AW.sub (lv1 := [(0, rv z 117), (1, iv x1), (6, iv x6), (7, iv x7)]) [0, 1, 6, 7] rfl ?_
        exact (ih _ _ _ _ _ h).2 rfl
      · replace h := hF h c2
        refine AW.iload 7 dX12_enough_72 rfl ?_
        refine AW.iconst dX12_enough_74 ?_
        refine AW.icmp_ne (tgt := 127) dX12_enough_75 (by decide) (fun c3 => ?_) (fun c3 => ?_)
        · replace h := hF h c3
          refine AW.sub (lv1 := [(0, rv z 117), (1, iv x1), (6, iv x6), (7, iv x7)]) [0, 1, 6, 7] rfl ?_
          exact (ih _ _ _ _ _ h).2 rfl
        · replace h := hT h c3
          refine AW.aloadr_n 0 dX12_enough_78 rfl ?_
          refine AW.getR af_X12_41_117 sr_117_9 dX12_enough_79 ?_
          refine AW.iload_n 1 dX12_enough_82 rfl ?_
          refine AW.iload 8 dX12_enough_83 rfl ?_
          obtain ⟨k4, h⟩ := hK h
          obtain ⟨g5, e6, h⟩ := hBe h
          refine AW.iast kc_127 sk_127 k4 dX12_enough_85 e6 ?_
          refine AW.aloadr_n 0 dX12_enough_86 rfl ?_
          refine AW.iload_n 1 dX12_enough_87 rfl ?_
          refine AW.iload_n 2 dX12_enough_88 rfl ?_
          refine AW.iload_n 3 dX12_enough_89 rfl ?_
          refine AW.iload 4 dX12_enough_90 rfl ?_
          refine AW.iload 8 dX12_enough_92 rfl ?_
          refine AW.iadd dX12_enough_94 ?_
          obtain ⟨r7, e8, h⟩ := hC h
          refine AW.callVi (As := [iv x1, iv x2, iv x3, iv (x4 + x8)]) (st := []) (M_led_ok e8) cq_X12_441 cr_117_X12_led (Nat.le_trans (by decide) hdd) rfl dX12_enough_95 rfl (Nat.le_of_ble_eq_true rfl) ?_
          refine AW.istore (lv1 := [(9, iv r7.1), (0, rv z 117), (1, iv x1), (2, iv x2), (3, iv x3), (4, iv x4), (5, iv x5), (6, iv x6), (7, iv x7), (8, iv x8)]) dX12_enough_98 (by decide) rfl ?_
          refine AW.iload 0 dX12_enough_100 rfl ?_
          refine AW.iconst dX12_enough_102 ?_
          obtain ⟨t9, e10, h⟩ := hBe h
          refine AW.join (tgt := 119) (lv1 := [(9, iv r7.1), (0, rv z 117), (1, iv x1), (2, iv x2), (3, iv x3), (4, iv x4), (5, iv x5), (6, iv x6), (7, iv x7), (8, iv x8)]) (st1 := [iv t9]) (g1 := r7.2) ?_ (fun J103 => ?_)
          · refine AW.istore (lv1 := [(7, iv t9), (9, iv r7.1), (0, rv z 117), (1, iv x1), (2, iv x2), (3, iv x3), (4, iv x4), (5, iv x5), (6, iv x6), (8, iv x8)]) dX12_enough_119 (by decide) rfl ?_
            refine AW.iinc (lv1 := [(8, iv (x8 + 1)), (7, iv t9), (9, iv r7.1), (0, rv z 117), (1, iv x1), (2, iv x2), (3, iv x3), (4, iv x4), (5, iv x5), (6, iv x6)]) 9 dX12_enough_121 rfl (by decide) rfl ?_
            refine AW.goto (tgt := 54) dX12_enough_124 (by decide) ?_
            refine AW.sub (lv1 := [(0, rv z 117), (1, iv x1), (2, iv x2), (3, iv x3), (4, iv x4), (5, iv x5), (6, iv x6), (7, iv t9), (8, iv (x8 + 1))]) [3, 4, 5, 6, 7, 8, 9, 1, 0] rfl ?_
            exact (ih _ _ _ _ _ h).1 rfl
          refine AW.icmp_eq (tgt := 118) dX12_enough_103 (by decide) (fun c11 => ?_) (fun c11 => ?_)
          · refine AW.iconst dX12_enough_118 ?_
            exact AW.val (e10.trans (if_pos c11)) J103
          · refine AW.iload 0 dX12_enough_106 rfl ?_
            refine AW.iload 6 dX12_enough_108 rfl ?_
            refine AW.icmp_gt (tgt := 118) dX12_enough_110 (by decide) (fun c12 => ?_) (fun c12 => ?_)
            · refine AW.iconst dX12_enough_118 ?_
              exact AW.val (e10.trans ((if_neg c11).trans (if_pos c12))) J103
            · refine AW.iload 9 dX12_enough_113 rfl ?_
              refine AW.goto (tgt := 119) dX12_enough_115 (by decide) ?_
              exact AW.val (e10.trans ((if_neg c11).trans (if_neg c12))) J103
  · subst h9
    replace h := hF h (by decide)
    replace h := hT h rfl
    refine AW.aloadr_n 0 dX12_enough_127 rfl ?_
    refine AW.getR af_X12_41_117 sr_117_9 dX12_enough_128 ?_
    refine AW.iload_n 1 dX12_enough_131 rfl ?_
    refine AW.iload 2 dX12_enough_132 rfl ?_
    obtain ⟨k1, h⟩ := hK h
    obtain ⟨g2, e3, h⟩ := hBe h
    refine AW.iast kc_127 sk_127 k1 dX12_enough_134 e3 ?_
    refine AW.iload 3 dX12_enough_135 rfl ?_
    exact AW.iret1 rfl dX12_enough_137 h rfl
theorem M_enough_ok {z : AZ} {x1 : Int} {x2 : Int} {x3 : Int} {x4 : Int} {x5 : Int} {g : AG} {r : Int × AG} (h : M_enough x1 x2 x3 x4 x5 g = some r) : AMf z yX12_enough cX12_enough 10 (some .int) 8 [rv z 117, iv x1, iv x2, iv x3, iv x4, iv x5] g r := by
  intro d hdd
  refine AM.of (by decide +kernel) (Nat.le_of_ble_eq_true rfl) ?_
  show AW z (RX12, cX12_enough, 10, (some .int)) d (QD (some .int) r) 0 [(0, rv z 117), (1, iv x1), (2, iv x2), (3, iv x3), (4, iv x4), (5, iv x5)] [] g
  unfold M_enough at h
  refine AW.aloadr_n 0 dX12_enough_0 rfl ?_
  refine AW.iload_n 1 dX12_enough_1 rfl ?_
  refine AW.callVi (As := [iv x1]) (st := []) M_isBoat_ok cq_X12_435 cr_117_X12_isBoat (Nat.le_trans (by decide) hdd) rfl dX12_enough_2 rfl (Nat.le_of_ble_eq_true rfl) ?_
  refine AW.if_eq (tgt := 38) dX12_enough_5 (by decide) (fun c1 => ?_) (fun c1 => ?_)
  · replace h := hT h c1
    refine AW.iconst dX12_enough_38 ?_
    exact AW.iret1 rfl dX12_enough_39 h rfl
  · replace h := hF h c1
    refine AW.iload_n 2 dX12_enough_8 rfl ?_
    refine AW.callSi (As := [iv x2]) (st := []) M_isPoint_ok cq_X12_238 st_X12_isPoint (Nat.le_trans (by decide) hdd) rfl dX12_enough_9 rfl (Nat.le_of_ble_eq_true rfl) ?_
    refine AW.if_eq (tgt := 38) dX12_enough_12 (by decide) (fun c2 => ?_) (fun c2 => ?_)
    · replace h := hT h c2
      refine AW.iconst dX12_enough_38 ?_
      exact AW.iret1 rfl dX12_enough_39 h rfl
    · replace h := hF h c2
      refine AW.iload_n 3 dX12_enough_15 rfl ?_
      refine AW.callSi (As := [iv x3]) (st := []) M_isPoint_ok cq_X12_238 st_X12_isPoint (Nat.le_trans (by decide) hdd) rfl dX12_enough_16 rfl (Nat.le_of_ble_eq_true rfl) ?_
      refine AW.if_eq (tgt := 38) dX12_enough_19 (by decide) (fun c3 => ?_) (fun c3 => ?_)
      · replace h := hT h c3
        refine AW.iconst dX12_enough_38 ?_
        exact AW.iret1 rfl dX12_enough_39 h rfl
      · replace h := hF h c3
        refine AW.iload 4 dX12_enough_22 rfl ?_
        refine AW.callSi (As := [iv x4]) (st := []) M_isTime_ok cq_X12_438 st_X12_isTime (Nat.le_trans (by decide) hdd) rfl dX12_enough_24 rfl (Nat.le_of_ble_eq_true rfl) ?_
        refine AW.if_eq (tgt := 38) dX12_enough_27 (by decide) (fun c4 => ?_) (fun c4 => ?_)
        · replace h := hT h c4
          refine AW.iconst dX12_enough_38 ?_
          exact AW.iret1 rfl dX12_enough_39 h rfl
        · replace h := hF h c4
          refine AW.iload 5 dX12_enough_30 rfl ?_
          refine AW.callSi (As := [iv x5]) (st := []) M_isTime_ok cq_X12_438 st_X12_isTime (Nat.le_trans (by decide) hdd) rfl dX12_enough_32 rfl (Nat.le_of_ble_eq_true rfl) ?_
          refine AW.if_ne (tgt := 40) dX12_enough_35 (by decide) (fun c5 => ?_) (fun c5 => ?_)
          · replace h := hF h c5
            refine AW.aloadr_n 0 dX12_enough_40 rfl ?_
            refine AW.getR af_X12_41_117 sr_117_9 dX12_enough_41 ?_
            refine AW.iload_n 1 dX12_enough_44 rfl ?_
            obtain ⟨k6, h⟩ := hK h
            refine AW.iald kc_127 sk_127 k6 dX12_enough_45 ?_
            refine AW.istore (lv1 := [(6, iv (g 127 (ix x1))), (0, rv z 117), (1, iv x1), (2, iv x2), (3, iv x3), (4, iv x4), (5, iv x5)]) dX12_enough_46 (by decide) rfl ?_
            refine AW.iconst dX12_enough_48 ?_
            refine AW.istore (lv1 := [(7, iv (-1)), (6, iv (g 127 (ix x1))), (0, rv z 117), (1, iv x1), (2, iv x2), (3, iv x3), (4, iv x4), (5, iv x5)]) dX12_enough_49 (by decide) rfl ?_
            refine AW.iconst dX12_enough_51 ?_
            refine AW.istore (lv1 := [(8, iv 0), (7, iv (-1)), (6, iv (g 127 (ix x1))), (0, rv z 117), (1, iv x1), (2, iv x2), (3, iv x3), (4, iv x4), (5, iv x5)]) dX12_enough_52 (by decide) rfl ?_
            refine AW.sub (lv1 := [(0, rv z 117), (1, iv x1), (2, iv x2), (3, iv x3), (4, iv x4), (5, iv x5), (6, iv (g 127 (ix x1))), (7, iv (-1)), (8, iv 0)]) [3, 4, 5, 6, 7, 8, 2, 1, 0] rfl ?_
            exact (M_enough_b_ok hdd _ _ _ _ _ h).1 rfl
          · replace h := hT h c5
            refine AW.iconst dX12_enough_38 ?_
            exact AW.iret1 rfl dX12_enough_39 h rfl
set_option synthInstance.maxHeartbeats 2000000 in
theorem M_maybe_b_ok {z : AZ} {d : Nat} (hdd : 8 ≤ d) {x1 : Int} {x2 : Int} {x3 : Int} {x4 : Int} : ∀ (x5 : Int) (x6 : Int) (g : AG) (r : Int × AG), M_maybe_b x1 x2 x3 x4 x5 x6 g = some r → AW z (RX12, cX12_maybe, 8, (some .int)) d (QD (some .int) r) 42 [(0, rv z 117), (1, iv x1), (2, iv x2), (3, iv x3), (4, iv x4), (5, iv x5), (6, iv x6)] [] g := by
  refine M_maybe_b.partial_correctness x1 x2 x3 x4 (fun x5 x6 g r => AW z (RX12, cX12_maybe, 8, (some .int)) d (QD (some .int) r) 42 [(0, rv z 117), (1, iv x1), (2, iv x2), (3, iv x3), (4, iv x4), (5, iv x5), (6, iv x6)] [] g) ?_
  intro fb9 ih x5 x6 g r h
  refine AW.iload 6 dX12_maybe_42 rfl ?_
  refine AW.bipush dX12_maybe_44 (by decide) (by decide) ?_
  refine AW.icmp_ge (tgt := 92) dX12_maybe_46 (by decide) (fun c1 => ?_) (fun c1 => ?_)
  · replace h := hT h c1
    refine AW.iload 5 dX12_maybe_92 rfl ?_
    exact AW.iret1 rfl dX12_maybe_94 h rfl
  · replace h := hF h c1
    refine AW.aloadr_n 0 dX12_maybe_49 rfl ?_
    refine AW.iload_n 1 dX12_maybe_50 rfl ?_
    refine AW.iload_n 2 dX12_maybe_51 rfl ?_
    refine AW.iload 6 dX12_maybe_52 rfl ?_
    refine AW.iload_n 3 dX12_maybe_54 rfl ?_
    obtain ⟨r2, e3, h⟩ := hC h
    refine AW.callVi (As := [iv x1, iv x2, iv x6, iv x3]) (st := []) (M_led_ok e3) cq_X12_441 cr_117_X12_led (Nat.le_trans (by decide) hdd) rfl dX12_maybe_55 rfl (Nat.le_of_ble_eq_true rfl) ?_
    refine AW.istore (lv1 := [(7, iv r2.1), (0, rv z 117), (1, iv x1), (2, iv x2), (3, iv x3), (4, iv x4), (5, iv x5), (6, iv x6)]) dX12_maybe_58 (by decide) rfl ?_
    refine AW.iload 6 dX12_maybe_60 rfl ?_
    refine AW.iload 0 dX12_maybe_62 rfl ?_
    refine AW.iconst dX12_maybe_64 ?_
    obtain ⟨t4, e5, h⟩ := hBe h
    refine AW.join (tgt := 83) (lv1 := [(7, iv r2.1), (0, rv z 117), (1, iv x1), (2, iv x2), (3, iv x3), (4, iv x4), (5, iv x5), (6, iv x6)]) (st1 := [iv t4, iv x5]) (g1 := r2.2) ?_ (fun J65 => ?_)
    · refine AW.ior dX12_maybe_83 ?_
      refine AW.istore (lv1 := [(5, iv (orI x5 t4)), (7, iv r2.1), (0, rv z 117), (1, iv x1), (2, iv x2), (3, iv x3), (4, iv x4), (6, iv x6)]) dX12_maybe_84 (by decide) rfl ?_
      refine AW.iinc (lv1 := [(6, iv (x6 + 1)), (5, iv (orI x5 t4)), (7, iv r2.1), (0, rv z 117), (1, iv x1), (2, iv x2), (3, iv x3), (4, iv x4)]) 7 dX12_maybe_86 rfl (by decide) rfl ?_
      refine AW.goto (tgt := 42) dX12_maybe_89 (by decide) ?_
      refine AW.sub (lv1 := [(0, rv z 117), (1, iv x1), (2, iv x2), (3, iv x3), (4, iv x4), (5, iv (orI x5 t4)), (6, iv (x6 + 1))]) [3, 4, 5, 6, 7, 1, 0] rfl ?_
      exact ih _ _ _ _ h
    refine AW.icmp_eq (tgt := 82) dX12_maybe_65 (by decide) (fun c6 => ?_) (fun c6 => ?_)
    · refine AW.iconst dX12_maybe_82 ?_
      exact AW.val (e5.trans (if_pos c6)) J65
    · refine AW.iload 0 dX12_maybe_68 rfl ?_
      refine AW.iload 5 dX12_maybe_70 rfl ?_
      refine AW.icmp_gt (tgt := 82) dX12_maybe_72 (by decide) (fun c7 => ?_) (fun c7 => ?_)
      · refine AW.iconst dX12_maybe_82 ?_
        exact AW.val (e5.trans ((if_neg c6).trans (if_pos c7))) J65
      · refine AW.iconst dX12_maybe_75 ?_
        refine AW.iload 7 dX12_maybe_76 rfl ?_
        refine AW.ishl dX12_maybe_78 ?_
        refine AW.goto (tgt := 83) dX12_maybe_79 (by decide) ?_
        exact AW.val (e5.trans ((if_neg c6).trans (if_neg c7))) J65
theorem M_maybe_ok {z : AZ} {x1 : Int} {x2 : Int} {x3 : Int} {x4 : Int} {g : AG} {r : Int × AG} (h : M_maybe x1 x2 x3 x4 g = some r) : AMf z yX12_maybe cX12_maybe 8 (some .int) 8 [rv z 117, iv x1, iv x2, iv x3, iv x4] g r := by
  intro d hdd
  refine AM.of (by decide +kernel) (Nat.le_of_ble_eq_true rfl) ?_
  show AW z (RX12, cX12_maybe, 8, (some .int)) d (QD (some .int) r) 0 [(0, rv z 117), (1, iv x1), (2, iv x2), (3, iv x3), (4, iv x4)] [] g
  unfold M_maybe at h
  refine AW.aloadr_n 0 dX12_maybe_0 rfl ?_
  refine AW.iload_n 1 dX12_maybe_1 rfl ?_
  refine AW.callVi (As := [iv x1]) (st := []) M_isBoat_ok cq_X12_435 cr_117_X12_isBoat (Nat.le_trans (by decide) hdd) rfl dX12_maybe_2 rfl (Nat.le_of_ble_eq_true rfl) ?_
  refine AW.if_eq (tgt := 34) dX12_maybe_5 (by decide) (fun c1 => ?_) (fun c1 => ?_)
  · replace h := hT h c1
    refine AW.iconst dX12_maybe_34 ?_
    exact AW.iret1 rfl dX12_maybe_35 h rfl
  · replace h := hF h c1
    refine AW.iload_n 2 dX12_maybe_8 rfl ?_
    refine AW.callSi (As := [iv x2]) (st := []) M_isPoint_ok cq_X12_238 st_X12_isPoint (Nat.le_trans (by decide) hdd) rfl dX12_maybe_9 rfl (Nat.le_of_ble_eq_true rfl) ?_
    refine AW.if_eq (tgt := 34) dX12_maybe_12 (by decide) (fun c2 => ?_) (fun c2 => ?_)
    · replace h := hT h c2
      refine AW.iconst dX12_maybe_34 ?_
      exact AW.iret1 rfl dX12_maybe_35 h rfl
    · replace h := hF h c2
      refine AW.iload_n 3 dX12_maybe_15 rfl ?_
      refine AW.callSi (As := [iv x3]) (st := []) M_isTime_ok cq_X12_438 st_X12_isTime (Nat.le_trans (by decide) hdd) rfl dX12_maybe_16 rfl (Nat.le_of_ble_eq_true rfl) ?_
      refine AW.if_eq (tgt := 34) dX12_maybe_19 (by decide) (fun c3 => ?_) (fun c3 => ?_)
      · replace h := hT h c3
        refine AW.iconst dX12_maybe_34 ?_
        exact AW.iret1 rfl dX12_maybe_35 h rfl
      · replace h := hF h c3
        refine AW.iload 4 dX12_maybe_22 rfl ?_
        refine AW.iload_n 3 dX12_maybe_24 rfl ?_
        refine AW.sipush dX12_maybe_25 (by decide) (by decide) ?_
        refine AW.callSi (As := [iv x4, iv x3, iv 20159]) (st := []) M_isIn_ok cq_X12_3 st_X12_isIn (Nat.le_trans (by decide) hdd) rfl dX12_maybe_28 rfl (Nat.le_of_ble_eq_true rfl) ?_
        refine AW.if_ne (tgt := 36) dX12_maybe_31 (by decide) (fun c4 => ?_) (fun c4 => ?_)
        · replace h := hF h c4
          refine AW.iconst dX12_maybe_36 ?_
          refine AW.istore (lv1 := [(5, iv 0), (0, rv z 117), (1, iv x1), (2, iv x2), (3, iv x3), (4, iv x4)]) dX12_maybe_37 (by decide) rfl ?_
          refine AW.iconst dX12_maybe_39 ?_
          refine AW.istore (lv1 := [(6, iv 0), (5, iv 0), (0, rv z 117), (1, iv x1), (2, iv x2), (3, iv x3), (4, iv x4)]) dX12_maybe_40 (by decide) rfl ?_
          refine AW.sub (lv1 := [(0, rv z 117), (1, iv x1), (2, iv x2), (3, iv x3), (4, iv x4), (5, iv 0), (6, iv 0)]) [2, 3, 4, 5, 6, 1, 0] rfl ?_
          exact M_maybe_b_ok hdd _ _ _ _ h
        · replace h := hT h c4
          refine AW.iconst dX12_maybe_34 ?_
          exact AW.iret1 rfl dX12_maybe_35 h rfl
theorem M_trip_ok {z : AZ} {x1 : Int} {x2 : Int} {x3 : Int} {x4 : Int} {x5 : Int} {g : AG} {r : Int × AG} (h : M_trip x1 x2 x3 x4 x5 g = some r) : AMf z yX12_trip cX12_trip 6 (some .int) 2 [rv z 117, iv x1, iv x2, iv x3, iv x4, iv x5] g r := by
  intro d hdd
  refine AM.of (by decide +kernel) (Nat.le_of_ble_eq_true rfl) ?_
  show AW z (RX12, cX12_trip, 6, (some .int)) d (QD (some .int) r) 0 [(0, rv z 117), (1, iv x1), (2, iv x2), (3, iv x3), (4, iv x4), (5, iv x5)] [] g
  unfold M_trip at h
  refine AW.aloadr_n 0 dX12_trip_0 rfl ?_
  refine AW.iload_n 1 dX12_trip_1 rfl ?_
  refine AW.callVi (As := [iv x1]) (st := []) M_isBoat_ok cq_X12_435 cr_117_X12_isBoat (Nat.le_trans (by decide) hdd) rfl dX12_trip_2 rfl (Nat.le_of_ble_eq_true rfl) ?_
  refine AW.if_eq (tgt := 47) dX12_trip_5 (by decide) (fun c1 => ?_) (fun c1 => ?_)
  · replace h := hT h c1
    refine AW.iconst dX12_trip_47 ?_
    exact AW.iret1 rfl dX12_trip_48 h rfl
  · replace h := hF h c1
    refine AW.iload_n 2 dX12_trip_8 rfl ?_
    refine AW.callSi (As := [iv x2]) (st := []) M_isPoint_ok cq_X12_238 st_X12_isPoint (Nat.le_trans (by decide) hdd) rfl dX12_trip_9 rfl (Nat.le_of_ble_eq_true rfl) ?_
    refine AW.if_eq (tgt := 47) dX12_trip_12 (by decide) (fun c2 => ?_) (fun c2 => ?_)
    · replace h := hT h c2
      refine AW.iconst dX12_trip_47 ?_
      exact AW.iret1 rfl dX12_trip_48 h rfl
    · replace h := hF h c2
      refine AW.iload_n 3 dX12_trip_15 rfl ?_
      refine AW.callSi (As := [iv x3]) (st := []) M_isPoint_ok cq_X12_238 st_X12_isPoint (Nat.le_trans (by decide) hdd) rfl dX12_trip_16 rfl (Nat.le_of_ble_eq_true rfl) ?_
      refine AW.if_eq (tgt := 47) dX12_trip_19 (by decide) (fun c3 => ?_) (fun c3 => ?_)
      · replace h := hT h c3
        refine AW.iconst dX12_trip_47 ?_
        exact AW.iret1 rfl dX12_trip_48 h rfl
      · replace h := hF h c3
        refine AW.iload 4 dX12_trip_22 rfl ?_
        refine AW.callSi (As := [iv x4]) (st := []) M_isTime_ok cq_X12_438 st_X12_isTime (Nat.le_trans (by decide) hdd) rfl dX12_trip_24 rfl (Nat.le_of_ble_eq_true rfl) ?_
        refine AW.if_eq (tgt := 47) dX12_trip_27 (by decide) (fun c4 => ?_) (fun c4 => ?_)
        · replace h := hT h c4
          refine AW.iconst dX12_trip_47 ?_
          exact AW.iret1 rfl dX12_trip_48 h rfl
        · replace h := hF h c4
          refine AW.iload 5 dX12_trip_30 rfl ?_
          refine AW.callSi (As := [iv x5]) (st := []) M_isTime_ok cq_X12_438 st_X12_isTime (Nat.le_trans (by decide) hdd) rfl dX12_trip_32 rfl (Nat.le_of_ble_eq_true rfl) ?_
          refine AW.if_eq (tgt := 47) dX12_trip_35 (by decide) (fun c5 => ?_) (fun c5 => ?_)
          · replace h := hT h c5
            refine AW.iconst dX12_trip_47 ?_
            exact AW.iret1 rfl dX12_trip_48 h rfl
          · replace h := hF h c5
            refine AW.aloadr_n 0 dX12_trip_38 rfl ?_
            refine AW.getI af_X12_444_117 sr_117_49 dX12_trip_39 ?_
            refine AW.bipush dX12_trip_42 (by decide) (by decide) ?_
            refine AW.icmp_ne (tgt := 49) dX12_trip_44 (by decide) (fun c6 => ?_) (fun c6 => ?_)
            · replace h := hF h c6
              refine AW.aloadr_n 0 dX12_trip_49 rfl ?_
              refine AW.getR af_X12_115_117 sr_117_50 dX12_trip_50 ?_
              refine AW.aloadr_n 0 dX12_trip_53 rfl ?_
              refine AW.getI af_X12_444_117 sr_117_49 dX12_trip_54 ?_
              refine AW.iload_n 1 dX12_trip_57 rfl ?_
              obtain ⟨k7, h⟩ := hK h
              obtain ⟨g8, e9, h⟩ := hBe h
              refine AW.iast kc_149 sk_149 k7 dX12_trip_58 e9 ?_
              refine AW.aloadr_n 0 dX12_trip_59 rfl ?_
              refine AW.getR af_X12_118_117 sr_117_51 dX12_trip_60 ?_
              refine AW.aloadr_n 0 dX12_trip_63 rfl ?_
              refine AW.getI af_X12_444_117 sr_117_49 dX12_trip_64 ?_
              refine AW.iload_n 2 dX12_trip_67 rfl ?_
              obtain ⟨k10, h⟩ := hK h
              obtain ⟨g11, e12, h⟩ := hBe h
              refine AW.iast kc_150 sk_150 k10 dX12_trip_68 e12 ?_
              refine AW.aloadr_n 0 dX12_trip_69 rfl ?_
              refine AW.getR af_X12_121_117 sr_117_52 dX12_trip_70 ?_
              refine AW.aloadr_n 0 dX12_trip_73 rfl ?_
              refine AW.getI af_X12_444_117 sr_117_49 dX12_trip_74 ?_
              refine AW.iload_n 3 dX12_trip_77 rfl ?_
              obtain ⟨k13, h⟩ := hK h
              obtain ⟨g14, e15, h⟩ := hBe h
              refine AW.iast kc_151 sk_151 k13 dX12_trip_78 e15 ?_
              refine AW.aloadr_n 0 dX12_trip_79 rfl ?_
              refine AW.getR af_X12_124_117 sr_117_53 dX12_trip_80 ?_
              refine AW.aloadr_n 0 dX12_trip_83 rfl ?_
              refine AW.getI af_X12_444_117 sr_117_49 dX12_trip_84 ?_
              refine AW.iload 4 dX12_trip_87 rfl ?_
              obtain ⟨k16, h⟩ := hK h
              obtain ⟨g17, e18, h⟩ := hBe h
              refine AW.iast kc_152 sk_152 k16 dX12_trip_89 e18 ?_
              refine AW.aloadr_n 0 dX12_trip_90 rfl ?_
              refine AW.getR af_X12_127_117 sr_117_54 dX12_trip_91 ?_
              refine AW.aloadr_n 0 dX12_trip_94 rfl ?_
              refine AW.getI af_X12_444_117 sr_117_49 dX12_trip_95 ?_
              refine AW.iload 5 dX12_trip_98 rfl ?_
              obtain ⟨k19, h⟩ := hK h
              obtain ⟨g20, e21, h⟩ := hBe h
              refine AW.iast kc_153 sk_153 k19 dX12_trip_100 e21 ?_
              refine AW.aloadr_n 0 dX12_trip_101 rfl ?_
              refine AW.duprr dX12_trip_102 ?_
              refine AW.getI af_X12_444_117 sr_117_49 dX12_trip_103 ?_
              refine AW.iconst dX12_trip_106 ?_
              refine AW.iadd dX12_trip_107 ?_
              obtain ⟨g22, e23, h⟩ := hBe h
              refine AW.putI ap_X12_444_117 sr_117_49 dX12_trip_108 e23 ?_
              refine AW.aloadr_n 0 dX12_trip_111 rfl ?_
              refine AW.getI af_X12_444_117 sr_117_49 dX12_trip_112 ?_
              refine AW.iconst dX12_trip_115 ?_
              refine AW.isub dX12_trip_116 ?_
              exact AW.iret1 rfl dX12_trip_117 h rfl
            · replace h := hT h c6
              refine AW.iconst dX12_trip_47 ?_
              exact AW.iret1 rfl dX12_trip_48 h rfl
theorem M_lateOf_ok {z : AZ} {x1 : Int} {g : AG} {r : Int × AG} (h : M_lateOf x1 g = some r) : AMf z yX12_lateOf cX12_lateOf 3 (some .int) 8 [rv z 117, iv x1] g r := by
  intro d hdd
  refine AM.of (by decide +kernel) (Nat.le_of_ble_eq_true rfl) ?_
  show AW z (RX12, cX12_lateOf, 3, (some .int)) d (QD (some .int) r) 0 [(0, rv z 117), (1, iv x1)] [] g
  unfold M_lateOf at h
  refine AW.aloadr_n 0 dX12_lateOf_0 rfl ?_
  refine AW.aloadr_n 0 dX12_lateOf_1 rfl ?_
  refine AW.getR af_X12_115_117 sr_117_50 dX12_lateOf_2 ?_
  refine AW.iload_n 1 dX12_lateOf_5 rfl ?_
  obtain ⟨k1, h⟩ := hK h
  refine AW.iald kc_149 sk_149 k1 dX12_lateOf_6 ?_
  refine AW.aloadr_n 0 dX12_lateOf_7 rfl ?_
  refine AW.getR af_X12_118_117 sr_117_51 dX12_lateOf_8 ?_
  refine AW.iload_n 1 dX12_lateOf_11 rfl ?_
  refine AW.iald kc_150 sk_150 k1 dX12_lateOf_12 ?_
  refine AW.aloadr_n 0 dX12_lateOf_13 rfl ?_
  refine AW.getR af_X12_121_117 sr_117_52 dX12_lateOf_14 ?_
  refine AW.iload_n 1 dX12_lateOf_17 rfl ?_
  refine AW.iald kc_151 sk_151 k1 dX12_lateOf_18 ?_
  refine AW.aloadr_n 0 dX12_lateOf_19 rfl ?_
  refine AW.getR af_X12_124_117 sr_117_53 dX12_lateOf_20 ?_
  refine AW.iload_n 1 dX12_lateOf_23 rfl ?_
  refine AW.iald kc_152 sk_152 k1 dX12_lateOf_24 ?_
  obtain ⟨r2, e3, h⟩ := hC h
  refine AW.callVi (As := [iv (g 149 (ix x1)), iv (g 150 (ix x1)), iv (g 151 (ix x1)), iv (g 152 (ix x1))]) (st := []) (M_led_ok e3) cq_X12_441 cr_117_X12_led (Nat.le_trans (by decide) hdd) rfl dX12_lateOf_25 rfl (Nat.le_of_ble_eq_true rfl) ?_
  refine AW.istore_n (lv1 := [(2, iv r2.1), (0, rv z 117), (1, iv x1)]) dX12_lateOf_28 (by decide) rfl ?_
  refine AW.iload_n 0 dX12_lateOf_29 rfl ?_
  refine AW.iconst dX12_lateOf_30 ?_
  obtain ⟨r6, e7, h⟩ := hC h
  refine AW.join (tgt := 62) (lv1 := []) (st1 := [iv r6.1]) (g1 := r6.2) ?_ (fun J31 => ?_)
  · exact AW.iret1 rfl dX12_lateOf_62 h rfl
  replace h := e7
  refine AW.icmp_ne (tgt := 40) dX12_lateOf_31 (by decide) (fun c4 => ?_) (fun c4 => ?_)
  · replace h := hF h c4
    refine AW.iload_n 0 dX12_lateOf_40 rfl ?_
    refine AW.aloadr_n 1 dX12_lateOf_41 rfl ?_
    refine AW.getR af_X12_127_117 sr_117_54 dX12_lateOf_42 ?_
    refine AW.iload_n 2 dX12_lateOf_45 rfl ?_
    refine AW.iald kc_153 sk_153 k1 dX12_lateOf_46 ?_
    refine AW.icmp_le (tgt := 61) dX12_lateOf_47 (by decide) (fun c5 => ?_) (fun c5 => ?_)
    · replace h := hT h c5
      refine AW.iconst dX12_lateOf_61 ?_
      refine AW.sub (lv1 := []) [] rfl ?_
      cases h
      exact J31
    · replace h := hF h c5
      refine AW.iload_n 0 dX12_lateOf_50 rfl ?_
      refine AW.aloadr_n 1 dX12_lateOf_51 rfl ?_
      refine AW.getR af_X12_127_117 sr_117_54 dX12_lateOf_52 ?_
      refine AW.iload_n 2 dX12_lateOf_55 rfl ?_
      refine AW.iald kc_153 sk_153 k1 dX12_lateOf_56 ?_
      refine AW.isub dX12_lateOf_57 ?_
      refine AW.goto (tgt := 62) dX12_lateOf_58 (by decide) ?_
      refine AW.sub (lv1 := []) [] rfl ?_
      cases h
      exact J31
  · replace h := hT h c4
    refine AW.sipush dX12_lateOf_34 (by decide) (by decide) ?_
    refine AW.goto (tgt := 62) dX12_lateOf_37 (by decide) ?_
    refine AW.sub (lv1 := []) [] rfl ?_
    cases h
    exact J31
set_option synthInstance.maxHeartbeats 2000000 in
theorem M_late_b_ok {z : AZ} {d : Nat} (hdd : 9 ≤ d) : ∀ (x2 : Int) (x3 : Int) (g : AG) (r : Int × AG), M_late_b x2 x3 g = some r → AW z (RX12, cX12_late, 4, (some .int)) d (QD (some .int) r) 33 [(0, rv z 117), (2, iv x2), (3, iv x3)] [] g := by
  refine M_late_b.partial_correctness (fun x2 x3 g r => AW z (RX12, cX12_late, 4, (some .int)) d (QD (some .int) r) 33 [(0, rv z 117), (2, iv x2), (3, iv x3)] [] g) ?_
  intro fb9 ih x2 x3 g r h
  refine AW.iload_n 2 dX12_late_33 rfl ?_
  refine AW.aloadr_n 0 dX12_late_34 rfl ?_
  refine AW.getI af_X12_444_117 sr_117_49 dX12_late_35 ?_
  refine AW.icmp_ge (tgt := 63) dX12_late_38 (by decide) (fun c1 => ?_) (fun c1 => ?_)
  · replace h := hT h c1
    refine AW.iload_n 1 dX12_late_63 rfl ?_
    exact AW.iret1 rfl dX12_late_64 h rfl
  · replace h := hF h c1
    refine AW.iload_n 1 dX12_late_41 rfl ?_
    refine AW.aloadr_n 0 dX12_late_42 rfl ?_
    refine AW.iload_n 2 dX12_late_43 rfl ?_
    obtain ⟨r2, e3, h⟩ := hC h
    refine AW.callVi (As := [iv x3]) (st := [iv x2]) (M_lateOf_ok e3) cq_X12_447 cr_117_X12_lateOf (Nat.le_trans (by decide) hdd) rfl dX12_late_44 rfl (Nat.le_of_ble_eq_true rfl) ?_
    obtain ⟨t4, e5, h⟩ := hBe h
    refine AW.join (tgt := 55) (lv1 := [(0, rv z 117), (2, iv x2), (3, iv x3)]) (st1 := [iv t4, iv x2]) (g1 := r2.2) ?_ (fun J47 => ?_)
    · refine AW.iadd dX12_late_55 ?_
      refine AW.istore_n (lv1 := [(2, iv (x2 + t4)), (0, rv z 117), (3, iv x3)]) dX12_late_56 (by decide) rfl ?_
      refine AW.iinc (lv1 := [(3, iv (x3 + 1)), (2, iv (x2 + t4)), (0, rv z 117)]) 2 dX12_late_57 rfl (by decide) rfl ?_
      refine AW.goto (tgt := 33) dX12_late_60 (by decide) ?_
      refine AW.sub (lv1 := [(0, rv z 117), (2, iv (x2 + t4)), (3, iv (x3 + 1))]) [2, 1, 0] rfl ?_
      exact ih _ _ _ _ h
    refine AW.if_le (tgt := 54) dX12_late_47 (by decide) (fun c6 => ?_) (fun c6 => ?_)
    · refine AW.iconst dX12_late_54 ?_
      exact AW.val (e5.trans (if_pos c6)) J47
    · refine AW.iconst dX12_late_50 ?_
      refine AW.goto (tgt := 55) dX12_late_51 (by decide) ?_
      exact AW.val (e5.trans (if_neg c6)) J47
theorem M_late_ok {z : AZ} {x1 : Int} {g : AG} {r : Int × AG} (h : M_late x1 g = some r) : AMf z yX12_late cX12_late 4 (some .int) 9 [rv z 117, iv x1] g r := by
  intro d hdd
  refine AM.of (by decide +kernel) (Nat.le_of_ble_eq_true rfl) ?_
  show AW z (RX12, cX12_late, 4, (some .int)) d (QD (some .int) r) 0 [(0, rv z 117), (1, iv x1)] [] g
  unfold M_late at h
  refine AW.iload_n 1 dX12_late_0 rfl ?_
  refine AW.iconst dX12_late_1 ?_
  refine AW.icmp_eq (tgt := 29) dX12_late_2 (by decide) (fun c1 => ?_) (fun c1 => ?_)
  · replace h := hT h c1
    refine AW.iconst dX12_late_29 ?_
    refine AW.istore_n (lv1 := [(2, iv 0), (0, rv z 117), (1, iv x1)]) dX12_late_30 (by decide) rfl ?_
    refine AW.iconst dX12_late_31 ?_
    refine AW.istore_n (lv1 := [(3, iv 0), (2, iv 0), (0, rv z 117), (1, iv x1)]) dX12_late_32 (by decide) rfl ?_
    refine AW.sub (lv1 := [(0, rv z 117), (2, iv 0), (3, iv 0)]) [2, 1, 0] rfl ?_
    exact M_late_b_ok hdd _ _ _ _ h
  · replace h := hF h c1
    refine AW.iload_n 1 dX12_late_5 rfl ?_
    refine AW.iconst dX12_late_6 ?_
    refine AW.aloadr_n 0 dX12_late_7 rfl ?_
    refine AW.getI af_X12_444_117 sr_117_49 dX12_late_8 ?_
    refine AW.iconst dX12_late_11 ?_
    refine AW.isub dX12_late_12 ?_
    refine AW.callSi (As := [iv x1, iv 0, iv ((g 117 49) - 1)]) (st := []) M_isIn_ok cq_X12_3 st_X12_isIn (Nat.le_trans (by decide) hdd) rfl dX12_late_13 rfl (Nat.le_of_ble_eq_true rfl) ?_
    obtain ⟨r5, e6, h⟩ := hC h
    refine AW.join (tgt := 28) (lv1 := []) (st1 := [iv r5.1]) (g1 := r5.2) ?_ (fun J16 => ?_)
    · exact AW.iret1 rfl dX12_late_28 h rfl
    replace h := e6
    refine AW.if_eq (tgt := 27) dX12_late_16 (by decide) (fun c2 => ?_) (fun c2 => ?_)
    · replace h := hT h c2
      refine AW.iconst dX12_late_27 ?_
      refine AW.sub (lv1 := []) [] rfl ?_
      cases h
      exact J16
    · replace h := hF h c2
      refine AW.aloadr_n 0 dX12_late_19 rfl ?_
      refine AW.iload_n 1 dX12_late_20 rfl ?_
      obtain ⟨r3, e4, h⟩ := hC h
      refine AW.callVi (As := [iv x1]) (st := []) (M_lateOf_ok e4) cq_X12_447 cr_117_X12_lateOf (Nat.le_trans (by decide) hdd) rfl dX12_late_21 rfl (Nat.le_of_ble_eq_true rfl) ?_
      refine AW.goto (tgt := 28) dX12_late_24 (by decide) ?_
      refine AW.sub (lv1 := []) [] rfl ?_
      cases h
      exact J16
theorem M_price_ok {z : AZ} {x1 : Int} {x2 : Int} {x3 : Int} {g : AG} {r : Int × AG} (h : M_price x1 x2 x3 g = some r) : AMf z yX12_price cX12_price 5 (some .int) 3 [rv z 117, iv x1, iv x2, iv x3] g r := by
  intro d hdd
  refine AM.of (by decide +kernel) (Nat.le_of_ble_eq_true rfl) ?_
  show AW z (RX12, cX12_price, 5, (some .int)) d (QD (some .int) r) 0 [(0, rv z 117), (1, iv x1), (2, iv x2), (3, iv x3)] [] g
  unfold M_price at h
  refine AW.aloadr_n 0 dX12_price_0 rfl ?_
  refine AW.iload_n 1 dX12_price_1 rfl ?_
  refine AW.callVi (As := [iv x1]) (st := []) M_isBoat_ok cq_X12_435 cr_117_X12_isBoat (Nat.le_trans (by decide) hdd) rfl dX12_price_2 rfl (Nat.le_of_ble_eq_true rfl) ?_
  refine AW.if_eq (tgt := 18) dX12_price_5 (by decide) (fun c1 => ?_) (fun c1 => ?_)
  · replace h := hT h c1
    refine AW.ldcw dX12_price_18 cw_X12_450 ?_
    exact AW.iret1 rfl dX12_price_21 h rfl
  · replace h := hF h c1
    refine AW.iload_n 2 dX12_price_8 rfl ?_
    refine AW.iconst dX12_price_9 ?_
    refine AW.bipush dX12_price_10 (by decide) (by decide) ?_
    refine AW.callSi (As := [iv x2, iv 0, iv 9]) (st := []) M_isIn_ok cq_X12_3 st_X12_isIn (Nat.le_trans (by decide) hdd) rfl dX12_price_12 rfl (Nat.le_of_ble_eq_true rfl) ?_
    refine AW.if_ne (tgt := 22) dX12_price_15 (by decide) (fun c2 => ?_) (fun c2 => ?_)
    · replace h := hF h c2
      refine AW.aloadr_n 0 dX12_price_22 rfl ?_
      obtain ⟨r3, e4, h⟩ := hC h
      refine AW.callVv (As := []) (st := []) (M_forgets_ok e4) cq_X12_401 cr_117_X12_forgets (Nat.le_trans (by decide) hdd) rfl dX12_price_23 rfl (Nat.le_of_ble_eq_true rfl) ?_
      refine AW.aloadr_n 0 dX12_price_26 rfl ?_
      refine AW.getR af_X12_109_117 sr_117_33 dX12_price_27 ?_
      refine AW.iconst dX12_price_30 ?_
      refine AW.iload_n 2 dX12_price_31 rfl ?_
      obtain ⟨g5, e6, h⟩ := hBe h
      refine AW.iast kc_148 sk_148 (by decide) dX12_price_32 e6 ?_
      refine AW.aloadr_n 0 dX12_price_33 rfl ?_
      refine AW.getR af_X12_109_117 sr_117_33 dX12_price_34 ?_
      refine AW.iconst dX12_price_37 ?_
      refine AW.aloadr_n 0 dX12_price_38 rfl ?_
      refine AW.getR af_X12_32_117 sr_117_6 dX12_price_39 ?_
      refine AW.iload_n 1 dX12_price_42 rfl ?_
      obtain ⟨k7, h⟩ := hK h
      refine AW.iald kc_124 sk_124 k7 dX12_price_43 ?_
      obtain ⟨g8, e9, h⟩ := hBe h
      refine AW.iast kc_148 sk_148 (by decide) dX12_price_44 e9 ?_
      refine AW.aloadr_n 0 dX12_price_45 rfl ?_
      refine AW.getR af_X12_109_117 sr_117_33 dX12_price_46 ?_
      refine AW.iconst dX12_price_49 ?_
      refine AW.iload_n 3 dX12_price_50 rfl ?_
      obtain ⟨t10, e11, h⟩ := hBe h
      refine AW.join (tgt := 59) (lv1 := [(0, rv z 117), (1, iv x1), (2, iv x2), (3, iv x3)]) (st1 := [iv t10, iv 5, rv z 148]) (g1 := g8) ?_ (fun J51 => ?_)
      · obtain ⟨g12, e13, h⟩ := hBe h
        refine AW.iast kc_148 sk_148 (by decide) dX12_price_59 e13 ?_
        refine AW.aloadr_n 0 dX12_price_60 rfl ?_
        refine AW.getR af_X12_109_117 sr_117_33 dX12_price_61 ?_
        refine AW.bipush dX12_price_64 (by decide) (by decide) ?_
        refine AW.aloadr_n 0 dX12_price_66 rfl ?_
        refine AW.getR af_X12_35_117 sr_117_7 dX12_price_67 ?_
        refine AW.iload_n 1 dX12_price_70 rfl ?_
        refine AW.iald kc_125 sk_125 k7 dX12_price_71 ?_
        obtain ⟨g14, e15, h⟩ := hBe h
        refine AW.iast kc_148 sk_148 (by decide) dX12_price_72 e15 ?_
        refine AW.aloadr_n 0 dX12_price_73 rfl ?_
        refine AW.iconst dX12_price_74 ?_
        obtain ⟨r16, e17, h⟩ := hC h
        refine AW.callVi (As := [iv 2]) (st := []) (M_serves_ok e17) cq_X12_404 cr_117_X12_serves (Nat.le_trans (by decide) hdd) rfl dX12_price_75 rfl (Nat.le_of_ble_eq_true rfl) ?_
        refine AW.istore (lv1 := [(4, iv r16.1), (0, rv z 117), (1, iv x1), (2, iv x2), (3, iv x3)]) dX12_price_78 (by decide) rfl ?_
        refine AW.aloadr_n 1 dX12_price_80 rfl ?_
        refine AW.iload 0 dX12_price_81 rfl ?_
        refine AW.iconst dX12_price_83 ?_
        obtain ⟨t18, e19, h⟩ := hBe h
        refine AW.join (tgt := 92) (lv1 := [(4, iv r16.1), (0, rv z 117), (1, iv x1), (2, iv x2), (3, iv x3)]) (st1 := [iv t18, rv z 117]) (g1 := r16.2) ?_ (fun J84 => ?_)
        · obtain ⟨g20, e21, h⟩ := hBe h
          refine AW.putZ ap_X12_454_117 sr_117_100 (by rw [e19]; (repeat' split) <;> first | exact Or.inl rfl | exact Or.inr rfl) dX12_price_92 e21 ?_
          refine AW.iload 0 dX12_price_95 rfl ?_
          refine AW.iconst dX12_price_97 ?_
          obtain ⟨r26, e27, h⟩ := hC h
          refine AW.join (tgt := 125) (lv1 := []) (st1 := [iv r26.1]) (g1 := r26.2) ?_ (fun J98 => ?_)
          · exact AW.iret1 rfl dX12_price_125 h rfl
          replace h := e27
          refine AW.icmp_ne (tgt := 107) dX12_price_98 (by decide) (fun c22 => ?_) (fun c22 => ?_)
          · replace h := hF h c22
            refine AW.aloadr_n 1 dX12_price_107 rfl ?_
            refine AW.aloadr_n 1 dX12_price_108 rfl ?_
            refine AW.getR af_X12_57_117 sr_117_16 dX12_price_109 ?_
            refine AW.iload 0 dX12_price_112 rfl ?_
            obtain ⟨k23, h⟩ := hK h
            refine AW.iald kc_131 sk_131 k23 dX12_price_114 ?_
            refine AW.aloadr_n 1 dX12_price_115 rfl ?_
            refine AW.getR af_X12_60_117 sr_117_17 dX12_price_116 ?_
            refine AW.iload 0 dX12_price_119 rfl ?_
            refine AW.iald kc_132 sk_132 k23 dX12_price_121 ?_
            obtain ⟨r24, e25, h⟩ := hC h
            refine AW.callVi (As := [iv (g20 131 (ix r16.1)), iv (g20 132 (ix r16.1))]) (st := []) (M_comesTo_ok e25) cq_X12_397 cr_117_X12_comesTo (Nat.le_trans (by decide) hdd) rfl dX12_price_122 rfl (Nat.le_of_ble_eq_true rfl) ?_
            refine AW.sub (lv1 := []) [] rfl ?_
            cases h
            exact J98
          · replace h := hT h c22
            refine AW.ldcw dX12_price_101 cw_X12_450 ?_
            refine AW.goto (tgt := 125) dX12_price_104 (by decide) ?_
            refine AW.sub (lv1 := []) [] rfl ?_
            cases h
            exact J98
        refine AW.icmp_eq (tgt := 91) dX12_price_84 (by decide) (fun c28 => ?_) (fun c28 => ?_)
        · refine AW.iconst dX12_price_91 ?_
          exact AW.val (e19.trans (if_pos c28)) J84
        · refine AW.iconst dX12_price_87 ?_
          refine AW.goto (tgt := 92) dX12_price_88 (by decide) ?_
          exact AW.val (e19.trans (if_neg c28)) J84
      refine AW.if_eq (tgt := 58) dX12_price_51 (by decide) (fun c29 => ?_) (fun c29 => ?_)
      · refine AW.iconst dX12_price_58 ?_
        exact AW.val (e11.trans (if_pos c29)) J51
      · refine AW.iconst dX12_price_54 ?_
        refine AW.goto (tgt := 59) dX12_price_55 (by decide) ?_
        exact AW.val (e11.trans (if_neg c29)) J51
    · replace h := hT h c2
      refine AW.ldcw dX12_price_18 cw_X12_450 ?_
      exact AW.iret1 rfl dX12_price_21 h rfl
