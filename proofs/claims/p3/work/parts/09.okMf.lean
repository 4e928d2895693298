set_option synthInstance.maxHeartbeats 2000000 in
theorem M_given_b_ok {z : AZ} {d : Nat} (hdd : 12 ≤ d) {x1 : Int} {x2 : Int} {g : AG} : ∀ (r : Int × AG), M_given_b x1 x2 g = some r → AW z (RX12, cX12_given, 3, (some .int)) d (QD (some .int) r) 44 [(0, rv z 117), (1, iv x1), (2, iv x2)] [] g := by
  intro r h
  unfold M_given_b at h
  refine AW.aloadr_n 0 dX12_given_44 rfl ?_
  refine AW.iload_n 1 dX12_given_45 rfl ?_
  obtain ⟨r1, e2, h⟩ := hC h
  refine AW.callVv (As := [iv x1]) (st := []) (M_asks_ok e2) cq_X12_505 cr_117_X12_asks (Nat.le_trans (by decide) hdd) rfl dX12_given_46 rfl (Nat.le_of_ble_eq_true rfl) ?_
  refine AW.aloadr_n 0 dX12_given_49 rfl ?_
  refine AW.iload_n 1 dX12_given_50 rfl ?_
  obtain ⟨r3, e4, h⟩ := hC h
  refine AW.callVv (As := [iv x1]) (st := []) (M_givesBest_ok e4) cq_X12_509 cr_117_X12_givesBest (Nat.le_trans (by decide) hdd) rfl dX12_given_51 rfl (Nat.le_of_ble_eq_true rfl) ?_
  refine AW.iload_n 2 dX12_given_54 rfl ?_
  obtain ⟨r8, e9, h⟩ := hC h
  refine AW.join (tgt := 86) (lv1 := []) (st1 := [iv r8.1]) (g1 := r8.2) ?_ (fun J55 => ?_)
  · exact AW.iret1 rfl dX12_given_86 h rfl
  replace h := e9
  refine AW.if_ne (tgt := 65) dX12_given_55 (by decide) (fun c5 => ?_) (fun c5 => ?_)
  · replace h := hF h c5
    refine AW.iload_n 2 dX12_given_65 rfl ?_
    refine AW.iconst dX12_given_66 ?_
    refine AW.icmp_ne (tgt := 77) dX12_given_67 (by decide) (fun c6 => ?_) (fun c6 => ?_)
    · replace h := hF h c6
      refine AW.aloadr_n 0 dX12_given_77 rfl ?_
      refine AW.getR af_X12_172_117 sr_117_74 dX12_given_78 ?_
      refine AW.iload_n 2 dX12_given_81 rfl ?_
      refine AW.bipush dX12_given_82 (by decide) (by decide) ?_
      refine AW.isub dX12_given_84 ?_
      obtain ⟨k7, h⟩ := hK h
      refine AW.iald kc_168 sk_168 k7 dX12_given_85 ?_
      refine AW.sub (lv1 := []) [] rfl ?_
      cases h
      exact J55
    · replace h := hT h c6
      refine AW.aloadr_n 0 dX12_given_70 rfl ?_
      refine AW.getI af_X12_499_117 sr_117_67 dX12_given_71 ?_
      refine AW.goto (tgt := 86) dX12_given_74 (by decide) ?_
      refine AW.sub (lv1 := []) [] rfl ?_
      cases h
      exact J55
  · replace h := hT h c5
    refine AW.aloadr_n 0 dX12_given_58 rfl ?_
    refine AW.getI af_X12_496_117 sr_117_66 dX12_given_59 ?_
    refine AW.goto (tgt := 86) dX12_given_62 (by decide) ?_
    refine AW.sub (lv1 := []) [] rfl ?_
    cases h
    exact J55
theorem M_given_ok {z : AZ} {x1 : Int} {x2 : Int} {g : AG} {r : Int × AG} (h : M_given x1 x2 g = some r) : AMf z yX12_given cX12_given 3 (some .int) 12 [rv z 117, iv x1, iv x2] g r := by
  intro d hdd
  refine AM.of (by decide +kernel) (Nat.le_of_ble_eq_true rfl) ?_
  show AW z (RX12, cX12_given, 3, (some .int)) d (QD (some .int) r) 0 [(0, rv z 117), (1, iv x1), (2, iv x2)] [] g
  unfold M_given at h
  refine AW.iload_n 1 dX12_given_0 rfl ?_
  refine AW.iconst dX12_given_1 ?_
  refine AW.iconst dX12_given_2 ?_
  refine AW.callSi (As := [iv x1, iv 1, iv 4]) (st := []) M_isIn_ok cq_X12_3 st_X12_isIn (Nat.le_trans (by decide) hdd) rfl dX12_given_3 rfl (Nat.le_of_ble_eq_true rfl) ?_
  refine AW.if_eq (tgt := 42) dX12_given_6 (by decide) (fun c1 => ?_) (fun c1 => ?_)
  · replace h := hT h c1
    refine AW.iconst dX12_given_42 ?_
    exact AW.iret1 rfl dX12_given_43 h rfl
  · replace h := hF h c1
    refine AW.iload_n 1 dX12_given_9 rfl ?_
    refine AW.aloadr_n 0 dX12_given_10 rfl ?_
    refine AW.getI af_X12_235_117 sr_117_12 dX12_given_11 ?_
    refine AW.icmp_gt (tgt := 42) dX12_given_14 (by decide) (fun c2 => ?_) (fun c2 => ?_)
    · replace h := hT h c2
      refine AW.iconst dX12_given_42 ?_
      exact AW.iret1 rfl dX12_given_43 h rfl
    · replace h := hF h c2
      refine AW.iload_n 2 dX12_given_17 rfl ?_
      refine AW.iconst dX12_given_18 ?_
      refine AW.iconst dX12_given_19 ?_
      refine AW.callSi (As := [iv x2, iv 0, iv 1]) (st := []) M_isIn_ok cq_X12_3 st_X12_isIn (Nat.le_trans (by decide) hdd) rfl dX12_given_20 rfl (Nat.le_of_ble_eq_true rfl) ?_
      refine AW.if_ne (tgt := 44) dX12_given_23 (by decide) (fun c3 => ?_) (fun c3 => ?_)
      · replace h := hF h c3
        exact M_given_b_ok hdd _ h
      · replace h := hT h c3
        refine AW.iload_n 2 dX12_given_26 rfl ?_
        refine AW.bipush dX12_given_27 (by decide) (by decide) ?_
        refine AW.bipush dX12_given_29 (by decide) (by decide) ?_
        refine AW.aloadr_n 0 dX12_given_31 rfl ?_
        refine AW.getI af_X12_493_117 sr_117_65 dX12_given_32 ?_
        refine AW.iadd dX12_given_35 ?_
        refine AW.callSi (As := [iv x2, iv 10, iv (9 + (g 117 65))]) (st := []) M_isIn_ok cq_X12_3 st_X12_isIn (Nat.le_trans (by decide) hdd) rfl dX12_given_36 rfl (Nat.le_of_ble_eq_true rfl) ?_
        refine AW.if_ne (tgt := 44) dX12_given_39 (by decide) (fun c4 => ?_) (fun c4 => ?_)
        · replace h := hF h c4
          exact M_given_b_ok hdd _ h
        · replace h := hT h c4
          refine AW.iconst dX12_given_42 ?_
          exact AW.iret1 rfl dX12_given_43 h rfl
theorem M_more_ok {z : AZ} {x1 : Int} {x2 : Int} {x3 : Int} {g : AG} {r : Int × AG} (h : M_more x1 x2 x3 g = some r) : AMf z yX12_more cX12_more 5 (some .int) 12 [rv z 117, iv x1, iv x2, iv x3] g r := by
  intro d hdd
  refine AM.of (by decide +kernel) (Nat.le_of_ble_eq_true rfl) ?_
  show AW z (RX12, cX12_more, 5, (some .int)) d (QD (some .int) r) 0 [(0, rv z 117), (1, iv x1), (2, iv x2), (3, iv x3)] [] g
  unfold M_more at h
  refine AW.iload_n 1 dX12_more_0 rfl ?_
  refine AW.iconst dX12_more_1 ?_
  refine AW.iconst dX12_more_2 ?_
  refine AW.callSi (As := [iv x1, iv 1, iv 3]) (st := []) M_isIn_ok cq_X12_3 st_X12_isIn (Nat.le_trans (by decide) hdd) rfl dX12_more_3 rfl (Nat.le_of_ble_eq_true rfl) ?_
  refine AW.if_eq (tgt := 34) dX12_more_6 (by decide) (fun c1 => ?_) (fun c1 => ?_)
  · replace h := hT h c1
    refine AW.iconst dX12_more_34 ?_
    exact AW.iret1 rfl dX12_more_35 h rfl
  · replace h := hF h c1
    refine AW.iload_n 1 dX12_more_9 rfl ?_
    refine AW.aloadr_n 0 dX12_more_10 rfl ?_
    refine AW.getI af_X12_235_117 sr_117_12 dX12_more_11 ?_
    refine AW.icmp_gt (tgt := 34) dX12_more_14 (by decide) (fun c2 => ?_) (fun c2 => ?_)
    · replace h := hT h c2
      refine AW.iconst dX12_more_34 ?_
      exact AW.iret1 rfl dX12_more_35 h rfl
    · replace h := hF h c2
      refine AW.iload_n 2 dX12_more_17 rfl ?_
      refine AW.iconst dX12_more_18 ?_
      refine AW.bipush dX12_more_19 (by decide) (by decide) ?_
      refine AW.callSi (As := [iv x2, iv 2, iv 12]) (st := []) M_isIn_ok cq_X12_3 st_X12_isIn (Nat.le_trans (by decide) hdd) rfl dX12_more_21 rfl (Nat.le_of_ble_eq_true rfl) ?_
      refine AW.if_eq (tgt := 34) dX12_more_24 (by decide) (fun c3 => ?_) (fun c3 => ?_)
      · replace h := hT h c3
        refine AW.iconst dX12_more_34 ?_
        exact AW.iret1 rfl dX12_more_35 h rfl
      · replace h := hF h c3
        refine AW.iload_n 3 dX12_more_27 rfl ?_
        refine AW.callSi (As := [iv x3]) (st := []) M_isPoint_ok cq_X12_238 st_X12_isPoint (Nat.le_trans (by decide) hdd) rfl dX12_more_28 rfl (Nat.le_of_ble_eq_true rfl) ?_
        refine AW.if_ne (tgt := 36) dX12_more_31 (by decide) (fun c4 => ?_) (fun c4 => ?_)
        · replace h := hF h c4
          refine AW.aloadr_n 0 dX12_more_36 rfl ?_
          refine AW.iload_n 1 dX12_more_37 rfl ?_
          obtain ⟨r5, e6, h⟩ := hC h
          refine AW.callVv (As := [iv x1]) (st := []) (M_asks_ok e6) cq_X12_505 cr_117_X12_asks (Nat.le_trans (by decide) hdd) rfl dX12_more_38 rfl (Nat.le_of_ble_eq_true rfl) ?_
          refine AW.aloadr_n 0 dX12_more_41 rfl ?_
          refine AW.iload_n 1 dX12_more_42 rfl ?_
          obtain ⟨r7, e8, h⟩ := hC h
          refine AW.callVv (As := [iv x1]) (st := []) (M_givesBest_ok e8) cq_X12_509 cr_117_X12_givesBest (Nat.le_trans (by decide) hdd) rfl dX12_more_43 rfl (Nat.le_of_ble_eq_true rfl) ?_
          refine AW.aloadr_n 0 dX12_more_46 rfl ?_
          refine AW.getI af_X12_496_117 sr_117_66 dX12_more_47 ?_
          refine AW.istore (lv1 := [(4, iv (r7.2 117 66)), (0, rv z 117), (1, iv x1), (2, iv x2), (3, iv x3)]) dX12_more_50 (by decide) rfl ?_
          refine AW.aloadr_n 1 dX12_more_52 rfl ?_
          refine AW.getR af_X12_181_117 sr_117_77 dX12_more_53 ?_
          refine AW.iload_n 2 dX12_more_56 rfl ?_
          refine AW.iload_n 3 dX12_more_57 rfl ?_
          obtain ⟨k9, h⟩ := hK h
          obtain ⟨g10, e11, h⟩ := hBe h
          refine AW.iast kc_171 sk_171 k9 dX12_more_58 e11 ?_
          refine AW.aloadr_n 1 dX12_more_59 rfl ?_
          refine AW.getR af_X12_184_117 sr_117_78 dX12_more_60 ?_
          refine AW.iload_n 2 dX12_more_63 rfl ?_
          refine AW.iload_n 4 dX12_more_64 rfl ?_
          obtain ⟨g12, e13, h⟩ := hBe h
          refine AW.iast kc_172 sk_172 k9 dX12_more_65 e13 ?_
          refine AW.aloadr_n 1 dX12_more_66 rfl ?_
          refine AW.iload_n 2 dX12_more_67 rfl ?_
          refine AW.iconst dX12_more_68 ?_
          refine AW.iadd dX12_more_69 ?_
          obtain ⟨r14, e15, h⟩ := hC h
          refine AW.callVv (As := [iv (x1 + 1)]) (st := []) (M_givesBest_ok e15) cq_X12_509 cr_117_X12_givesBest (Nat.le_trans (by decide) hdd) rfl dX12_more_70 rfl (Nat.le_of_ble_eq_true rfl) ?_
          refine AW.aloadr_n 1 dX12_more_73 rfl ?_
          refine AW.getI af_X12_496_117 sr_117_66 dX12_more_74 ?_
          refine AW.iload 0 dX12_more_77 rfl ?_
          refine AW.isub dX12_more_79 ?_
          exact AW.iret1 rfl dX12_more_80 h rfl
        · replace h := hT h c4
          refine AW.iconst dX12_more_34 ?_
          exact AW.iret1 rfl dX12_more_35 h rfl
set_option synthInstance.maxHeartbeats 2000000 in
theorem M_gas_b_ok {z : AZ} {d : Nat} (hdd : 2 ≤ d) {x1 : Int} {x2 : Int} {x3 : Int} : ∀ (tag : Nat) (x4 : Int) (x5 : Int) (g : AG) (r : Int × AG), M_gas_b x1 x2 x3 tag x4 x5 g = some r → (tag = 1 → AW z (RX12, cX12_gas, 6, (some .boolean)) d (QD (some .boolean) r) 37 [(0, rv z 117), (1, iv x1), (2, iv x2), (3, iv x3), (4, iv x4), (5, iv x5)] [] g) ∧ (tag = 2 → AW z (RX12, cX12_gas, 6, (some .boolean)) d (QD (some .boolean) r) 91 [(0, rv z 117), (1, iv x1), (2, iv x2), (3, iv x3)] [] g) := by
  refine M_gas_b.partial_correctness x1 x2 x3 (fun tag x4 x5 g r => (tag = 1 → AW z (RX12, cX12_gas, 6, (some .boolean)) d (QD (some .boolean) r) 37 [(0, rv z 117), (1, iv x1), (2, iv x2), (3, iv x3), (4, iv x4), (5, iv x5)] [] g) ∧ (tag = 2 → AW z (RX12, cX12_gas, 6, (some .boolean)) d (QD (some .boolean) r) 91 [(0, rv z 117), (1, iv x1), (2, iv x2), (3, iv x3)] [] g)) ?_
  intro fb9 ih tag x4 x5 g r h
  refine ⟨fun h9 => ?_, fun h9 => ?_⟩
  · subst h9
    replace h := hT h rfl
    refine AW.iload 5 dX12_gas_37 rfl ?_
    refine AW.aloadr_n 0 dX12_gas_39 rfl ?_
    refine AW.getI af_X12_235_117 sr_117_12 dX12_gas_40 ?_
    refine AW.icmp_ge (tgt := 78) dX12_gas_43 (by decide) (fun c1 => ?_) (fun c1 => ?_)
    · replace h := hT h c1
      refine AW.iload_n 3 dX12_gas_78 rfl ?_
      refine AW.if_eq (tgt := 91) dX12_gas_79 (by decide) (fun c2 => ?_) (fun c2 => ?_)
      · replace h := hT h c2
        refine AW.sub (lv1 := [(0, rv z 117), (1, iv x1), (2, iv x2), (3, iv x3)]) [0, 1, 2, 3] rfl ?_
        exact (ih _ _ _ _ _ h).2 rfl
      · replace h := hF h c2
        refine AW.iload 4 dX12_gas_82 rfl ?_
        refine AW.bipush dX12_gas_84 (by decide) (by decide) ?_
        refine AW.icmp_ne (tgt := 91) dX12_gas_86 (by decide) (fun c3 => ?_) (fun c3 => ?_)
        · replace h := hF h c3
          refine AW.sub (lv1 := [(0, rv z 117), (1, iv x1), (2, iv x2), (3, iv x3)]) [0, 1, 2, 3] rfl ?_
          exact (ih _ _ _ _ _ h).2 rfl
        · replace h := hT h c3
          refine AW.iconst dX12_gas_89 ?_
          exact AW.zret1 rfl (Or.inl rfl) dX12_gas_90 h rfl
    · replace h := hF h c1
      refine AW.iload 4 dX12_gas_46 rfl ?_
      refine AW.iload 5 dX12_gas_48 rfl ?_
      refine AW.iload_n 1 dX12_gas_50 rfl ?_
      obtain ⟨r9, e10, h⟩ := hC h
      refine AW.join (tgt := 69) (lv1 := [(0, rv z 117), (1, iv x1), (2, iv x2), (3, iv x3), (5, iv x5)]) (st1 := [iv r9.1, iv x4]) (g1 := r9.2) ?_ (fun J51 => ?_)
      · refine AW.iadd dX12_gas_69 ?_
        refine AW.istore (lv1 := [(4, iv (x4 + r9.1)), (0, rv z 117), (1, iv x1), (2, iv x2), (3, iv x3), (5, iv x5)]) dX12_gas_70 (by decide) rfl ?_
        refine AW.iinc (lv1 := [(5, iv (x5 + 1)), (4, iv (x4 + r9.1)), (0, rv z 117), (1, iv x1), (2, iv x2), (3, iv x3)]) 5 dX12_gas_72 rfl (by decide) rfl ?_
        refine AW.goto (tgt := 37) dX12_gas_75 (by decide) ?_
        refine AW.sub (lv1 := [(0, rv z 117), (1, iv x1), (2, iv x2), (3, iv x3), (4, iv (x4 + r9.1)), (5, iv (x5 + 1))]) [2, 3, 4, 5, 1, 0] rfl ?_
        exact (ih _ _ _ _ _ h).1 rfl
      replace h := e10
      refine AW.icmp_eq (tgt := 68) dX12_gas_51 (by decide) (fun c4 => ?_) (fun c4 => ?_)
      · replace h := hT h c4
        refine AW.iconst dX12_gas_68 ?_
        refine AW.sub (lv1 := [(0, rv z 117), (1, iv x1), (2, iv x2), (3, iv x3), (5, iv x5)]) [0, 1, 2, 3, 5] rfl ?_
        cases h
        exact J51
      · replace h := hF h c4
        refine AW.aloadr_n 0 dX12_gas_54 rfl ?_
        refine AW.getR af_X12_190_117 sr_117_80 dX12_gas_55 ?_
        refine AW.iload 5 dX12_gas_58 rfl ?_
        obtain ⟨k5, h⟩ := hK h
        refine AW.iald kc_174 sk_174 k5 dX12_gas_60 ?_
        obtain ⟨t6, e7, h⟩ := hBe h
        refine AW.join (tgt := 69) (lv1 := [(0, rv z 117), (1, iv x1), (2, iv x2), (3, iv x3), (4, iv x4), (5, iv x5)]) (st1 := [iv t6, iv x4]) (g1 := g) ?_ (fun J61 => ?_)
        · refine AW.sub (lv1 := [(0, rv z 117), (1, iv x1), (2, iv x2), (3, iv x3), (5, iv x5)]) [0, 1, 2, 3, 5] rfl ?_
          cases h
          exact J51
        refine AW.if_le (tgt := 68) dX12_gas_61 (by decide) (fun c8 => ?_) (fun c8 => ?_)
        · refine AW.iconst dX12_gas_68 ?_
          exact AW.val (e7.trans (if_pos c8)) J61
        · refine AW.iconst dX12_gas_64 ?_
          refine AW.goto (tgt := 69) dX12_gas_65 (by decide) ?_
          exact AW.val (e7.trans (if_neg c8)) J61
  · subst h9
    replace h := hF h (by decide)
    replace h := hT h rfl
    refine AW.aloadr_n 0 dX12_gas_91 rfl ?_
    refine AW.getR af_X12_187_117 sr_117_79 dX12_gas_92 ?_
    refine AW.iload_n 1 dX12_gas_95 rfl ?_
    refine AW.iload_n 2 dX12_gas_96 rfl ?_
    obtain ⟨k1, h⟩ := hK h
    obtain ⟨g2, e3, h⟩ := hBe h
    refine AW.iast kc_173 sk_173 k1 dX12_gas_97 e3 ?_
    refine AW.aloadr_n 0 dX12_gas_98 rfl ?_
    refine AW.getR af_X12_190_117 sr_117_80 dX12_gas_99 ?_
    refine AW.iload_n 1 dX12_gas_102 rfl ?_
    refine AW.iload_n 3 dX12_gas_103 rfl ?_
    obtain ⟨g4, e5, h⟩ := hBe h
    refine AW.iast kc_174 sk_174 k1 dX12_gas_104 e5 ?_
    refine AW.iconst dX12_gas_105 ?_
    exact AW.zret1 rfl (Or.inr rfl) dX12_gas_106 h rfl
theorem M_gas_ok {z : AZ} {x1 : Int} {x2 : Int} {x3 : Int} {g : AG} {r : Int × AG} (h : M_gas x1 x2 x3 g = some r) : AMf z yX12_gas cX12_gas 6 (some .boolean) 2 [rv z 117, iv x1, iv x2, iv x3] g r := by
  intro d hdd
  refine AM.of (by decide +kernel) (Nat.le_of_ble_eq_true rfl) ?_
  show AW z (RX12, cX12_gas, 6, (some .boolean)) d (QD (some .boolean) r) 0 [(0, rv z 117), (1, iv x1), (2, iv x2), (3, iv x3)] [] g
  unfold M_gas at h
  refine AW.aloadr_n 0 dX12_gas_0 rfl ?_
  refine AW.iload_n 1 dX12_gas_1 rfl ?_
  refine AW.callVi (As := [iv x1]) (st := []) M_isBoat_ok cq_X12_435 cr_117_X12_isBoat (Nat.le_trans (by decide) hdd) rfl dX12_gas_2 rfl (Nat.le_of_ble_eq_true rfl) ?_
  refine AW.if_eq (tgt := 29) dX12_gas_5 (by decide) (fun c1 => ?_) (fun c1 => ?_)
  · replace h := hT h c1
    refine AW.iconst dX12_gas_29 ?_
    exact AW.zret1 rfl (Or.inl rfl) dX12_gas_30 h rfl
  · replace h := hF h c1
    refine AW.iload_n 2 dX12_gas_8 rfl ?_
    refine AW.iconst dX12_gas_9 ?_
    refine AW.sipush dX12_gas_10 (by decide) (by decide) ?_
    refine AW.callSi (As := [iv x2, iv 0, iv 999]) (st := []) M_isIn_ok cq_X12_3 st_X12_isIn (Nat.le_trans (by decide) hdd) rfl dX12_gas_13 rfl (Nat.le_of_ble_eq_true rfl) ?_
    refine AW.if_eq (tgt := 29) dX12_gas_16 (by decide) (fun c2 => ?_) (fun c2 => ?_)
    · replace h := hT h c2
      refine AW.iconst dX12_gas_29 ?_
      exact AW.zret1 rfl (Or.inl rfl) dX12_gas_30 h rfl
    · replace h := hF h c2
      refine AW.iload_n 3 dX12_gas_19 rfl ?_
      refine AW.iconst dX12_gas_20 ?_
      refine AW.bipush dX12_gas_21 (by decide) (by decide) ?_
      refine AW.callSi (As := [iv x3, iv 0, iv 60]) (st := []) M_isIn_ok cq_X12_3 st_X12_isIn (Nat.le_trans (by decide) hdd) rfl dX12_gas_23 rfl (Nat.le_of_ble_eq_true rfl) ?_
      refine AW.if_ne (tgt := 31) dX12_gas_26 (by decide) (fun c3 => ?_) (fun c3 => ?_)
      · replace h := hF h c3
        refine AW.iconst dX12_gas_31 ?_
        refine AW.istore (lv1 := [(4, iv 0), (0, rv z 117), (1, iv x1), (2, iv x2), (3, iv x3)]) dX12_gas_32 (by decide) rfl ?_
        refine AW.iconst dX12_gas_34 ?_
        refine AW.istore (lv1 := [(5, iv 0), (4, iv 0), (0, rv z 117), (1, iv x1), (2, iv x2), (3, iv x3)]) dX12_gas_35 (by decide) rfl ?_
        refine AW.sub (lv1 := [(0, rv z 117), (1, iv x1), (2, iv x2), (3, iv x3), (4, iv 0), (5, iv 0)]) [2, 3, 4, 5, 1, 0] rfl ?_
        exact (M_gas_b_ok hdd _ _ _ _ _ h).1 rfl
      · replace h := hT h c3
        refine AW.iconst dX12_gas_29 ?_
        exact AW.zret1 rfl (Or.inl rfl) dX12_gas_30 h rfl
set_option synthInstance.maxHeartbeats 2000000 in
theorem M_docksOn_b_ok {z : AZ} {rec : Int → Int → Int → Int → Int → AG → Option (Int × AG)} {Dr : Nat} (hC9 : 0 ≤ Dr) (hrec : ∀ (x1 : Int) (x2 : Int) (x3 : Int) (x4 : Int) (x5 : Int) (g : AG) (r : Int × AG), rec x1 x2 x3 x4 x5 g = some r → AMf z yX12_docksOn cX12_docksOn 9 none Dr [rv z 117, iv x1, iv x2, iv x3, iv x4, iv x5] g r) {d : Nat} (hdd : Dr + 1 ≤ d) {x1 : Int} {x2 : Int} {x3 : Int} {x4 : Int} {x5 : Int} : ∀ (tag : Nat) (x6 : Int) (g : AG) (r : Int × AG), M_docksOn_b rec x1 x2 x3 x4 x5 tag x6 g = some r → (tag = 1 → AW z (RX12, cX12_docksOn, 9, none) d (QD none r) 44 [(0, rv z 117), (4, iv x4), (5, iv x5)] [] g) ∧ (tag = 2 → AW z (RX12, cX12_docksOn, 9, none) d (QD none r) 59 [(0, rv z 117), (6, iv x6)] [] g) ∧ (tag = 3 → AW z (RX12, cX12_docksOn, 9, none) d (QD none r) 92 [(0, rv z 117), (1, iv x1), (2, iv x2), (3, iv x3), (4, iv x4), (5, iv x5), (6, iv x6)] [] g) := by
  refine M_docksOn_b.partial_correctness rec x1 x2 x3 x4 x5 (fun tag x6 g r => (tag = 1 → AW z (RX12, cX12_docksOn, 9, none) d (QD none r) 44 [(0, rv z 117), (4, iv x4), (5, iv x5)] [] g) ∧ (tag = 2 → AW z (RX12, cX12_docksOn, 9, none) d (QD none r) 59 [(0, rv z 117), (6, iv x6)] [] g) ∧ (tag = 3 → AW z (RX12, cX12_docksOn, 9, none) d (QD none r) 92 [(0, rv z 117), (1, iv x1), (2, iv x2), (3, iv x3), (4, iv x4), (5, iv x5), (6, iv x6)] [] g)) ?_
  intro fb9 ih tag x6 g r h
  refine ⟨fun h9 => ?_, fun h9 => ?_, fun h9 => ?_⟩
  · subst h9
    replace h := hT h rfl
    refine AW.aloadr_n 0 dX12_docksOn_44 rfl ?_
    refine AW.iload 1 dX12_docksOn_45 rfl ?_
    obtain ⟨g1, e2, h⟩ := hBe h
    refine AW.putI ap_X12_518_117 sr_117_85 dX12_docksOn_47 e2 ?_
    refine AW.aloadr_n 0 dX12_docksOn_50 rfl ?_
    refine AW.iload 2 dX12_docksOn_51 rfl ?_
    obtain ⟨g3, e4, h⟩ := hBe h
    refine AW.putI ap_X12_521_117 sr_117_86 dX12_docksOn_53 e4 ?_
    refine AW.iconst dX12_docksOn_56 ?_
    refine AW.istore (lv1 := [(6, iv 0), (0, rv z 117), (4, iv x4), (5, iv x5)]) dX12_docksOn_57 (by decide) rfl ?_
    refine AW.sub (lv1 := [(0, rv z 117), (6, iv 0)]) [1, 0] rfl ?_
    exact (ih _ _ _ _ h).2.1 rfl
  · subst h9
    replace h := hF h (by decide)
    replace h := hT h rfl
    refine AW.iload 1 dX12_docksOn_59 rfl ?_
    refine AW.aloadr_n 0 dX12_docksOn_61 rfl ?_
    refine AW.getI af_X12_515_117 sr_117_84 dX12_docksOn_62 ?_
    refine AW.icmp_ge (tgt := 88) dX12_docksOn_65 (by decide) (fun c1 => ?_) (fun c1 => ?_)
    · replace h := hT h c1
      exact AW.vret1 rfl dX12_docksOn_88 h rfl
    · replace h := hF h c1
      refine AW.aloadr_n 0 dX12_docksOn_68 rfl ?_
      refine AW.getR af_X12_199_117 sr_117_83 dX12_docksOn_69 ?_
      refine AW.iload 1 dX12_docksOn_72 rfl ?_
      refine AW.aloadr_n 0 dX12_docksOn_74 rfl ?_
      refine AW.getR af_X12_196_117 sr_117_82 dX12_docksOn_75 ?_
      refine AW.iload 1 dX12_docksOn_78 rfl ?_
      obtain ⟨k2, h⟩ := hK h
      refine AW.iald kc_176 sk_176 k2 dX12_docksOn_80 ?_
      obtain ⟨g3, e4, h⟩ := hBe h
      refine AW.iast kc_177 sk_177 k2 dX12_docksOn_81 e4 ?_
      refine AW.iinc (lv1 := [(6, iv (x6 + 1)), (0, rv z 117)]) 1 dX12_docksOn_82 rfl (by decide) rfl ?_
      refine AW.goto (tgt := 59) dX12_docksOn_85 (by decide) ?_
      refine AW.sub (lv1 := [(0, rv z 117), (6, iv (x6 + 1))]) [1, 0] rfl ?_
      exact (ih _ _ _ _ h).2.1 rfl
  · subst h9
    replace h := hF h (by decide)
    replace h := hF h (by decide)
    replace h := hT h rfl
    refine AW.iload 6 dX12_docksOn_92 rfl ?_
    refine AW.aloadr_n 0 dX12_docksOn_94 rfl ?_
    refine AW.getI af_X12_515_117 sr_117_84 dX12_docksOn_95 ?_
    refine AW.icmp_ge (tgt := 188) dX12_docksOn_98 (by decide) (fun c1 => ?_) (fun c1 => ?_)
    · replace h := hT h c1
      exact AW.vret1 rfl dX12_docksOn_188 h rfl
    · replace h := hF h c1
      refine AW.iload_n 2 dX12_docksOn_101 rfl ?_
      refine AW.iload 6 dX12_docksOn_102 rfl ?_
      refine AW.ishr dX12_docksOn_104 ?_
      refine AW.iconst dX12_docksOn_105 ?_
      refine AW.iand dX12_docksOn_106 ?_
      refine AW.iconst dX12_docksOn_107 ?_
      obtain ⟨r13, e14, h⟩ := hC h
      refine AW.join (tgt := 182) (lv1 := [(0, rv z 117), (1, iv x1), (2, iv x2), (3, iv x3), (4, iv x4), (5, iv x5), (6, iv x6)]) (st1 := []) (g1 := r13) ?_ (fun J108 => ?_)
      · refine AW.iinc (lv1 := [(6, iv (x6 + 1)), (0, rv z 117), (1, iv x1), (2, iv x2), (3, iv x3), (4, iv x4), (5, iv x5)]) 6 dX12_docksOn_182 rfl (by decide) rfl ?_
        refine AW.goto (tgt := 92) dX12_docksOn_185 (by decide) ?_
        refine AW.sub (lv1 := [(0, rv z 117), (1, iv x1), (2, iv x2), (3, iv x3), (4, iv x4), (5, iv x5), (6, iv (x6 + 1))]) [1, 2, 3, 4, 5, 6, 0] rfl ?_
        exact (ih _ _ _ _ h).2.2 rfl
      replace h := e14
      refine AW.icmp_ne (tgt := 114) dX12_docksOn_108 (by decide) (fun c2 => ?_) (fun c2 => ?_)
      · replace h := hF h c2
        refine AW.aloadr_n 0 dX12_docksOn_114 rfl ?_
        refine AW.getR af_X12_193_117 sr_117_81 dX12_docksOn_115 ?_
        refine AW.iload 6 dX12_docksOn_118 rfl ?_
        obtain ⟨k3, h⟩ := hK h
        refine AW.iald kc_175 sk_175 k3 dX12_docksOn_120 ?_
        refine AW.istore (lv1 := [(7, iv (g 175 (ix x6))), (0, rv z 117), (1, iv x1), (2, iv x2), (3, iv x3), (4, iv x4), (5, iv x5), (6, iv x6)]) dX12_docksOn_121 (by decide) rfl ?_
        refine AW.iload_n 4 dX12_docksOn_123 rfl ?_
        refine AW.aloadr_n 1 dX12_docksOn_124 rfl ?_
        refine AW.getR af_X12_190_117 sr_117_80 dX12_docksOn_125 ?_
        refine AW.iload 0 dX12_docksOn_128 rfl ?_
        obtain ⟨k4, h⟩ := hK h
        refine AW.iald kc_174 sk_174 k4 dX12_docksOn_130 ?_
        refine AW.iadd dX12_docksOn_131 ?_
        refine AW.istore (lv1 := [(8, iv (x3 + (g 174 (ix (g 175 (ix x6)))))), (7, iv (g 175 (ix x6))), (0, rv z 117), (1, iv x1), (2, iv x2), (3, iv x3), (4, iv x4), (5, iv x5), (6, iv x6)]) dX12_docksOn_132 (by decide) rfl ?_
        refine AW.aloadr_n 2 dX12_docksOn_134 rfl ?_
        refine AW.getR af_X12_196_117 sr_117_82 dX12_docksOn_135 ?_
        refine AW.iload_n 3 dX12_docksOn_138 rfl ?_
        refine AW.iload 1 dX12_docksOn_139 rfl ?_
        obtain ⟨k5, h⟩ := hK h
        obtain ⟨g6, e7, h⟩ := hBe h
        refine AW.iast kc_176 sk_176 k5 dX12_docksOn_141 e7 ?_
        refine AW.aloadr_n 2 dX12_docksOn_142 rfl ?_
        refine AW.iload_n 3 dX12_docksOn_143 rfl ?_
        refine AW.iconst dX12_docksOn_144 ?_
        refine AW.iadd dX12_docksOn_145 ?_
        refine AW.iload_n 4 dX12_docksOn_146 rfl ?_
        refine AW.iconst dX12_docksOn_147 ?_
        refine AW.iload 8 dX12_docksOn_148 rfl ?_
        refine AW.ishl dX12_docksOn_150 ?_
        refine AW.ior dX12_docksOn_151 ?_
        refine AW.iload 0 dX12_docksOn_152 rfl ?_
        refine AW.iload 6 dX12_docksOn_154 rfl ?_
        refine AW.iload 0 dX12_docksOn_156 rfl ?_
        refine AW.aloadr_n 2 dX12_docksOn_158 rfl ?_
        refine AW.getR af_X12_187_117 sr_117_79 dX12_docksOn_159 ?_
        refine AW.iload 1 dX12_docksOn_162 rfl ?_
        refine AW.iald kc_173 sk_173 k4 dX12_docksOn_164 ?_
        obtain ⟨t8, e9, h⟩ := hBe h
        refine AW.join (tgt := 173) (lv1 := [(8, iv (x3 + (g 174 (ix (g 175 (ix x6)))))), (7, iv (g 175 (ix x6))), (0, rv z 117), (1, iv x1), (2, iv x2), (3, iv x3), (4, iv x4), (5, iv x5), (6, iv x6)]) (st1 := [iv t8, iv x4, iv (x3 + (g 174 (ix (g 175 (ix x6))))), iv (orI x2 (shlI 1 x6)), iv (x1 + 1), rv z 117]) (g1 := g6) ?_ (fun J165 => ?_)
        · refine AW.iadd dX12_docksOn_173 ?_
          refine AW.iload 7 dX12_docksOn_174 rfl ?_
          refine AW.iload 0 dX12_docksOn_176 rfl ?_
          refine AW.iadd dX12_docksOn_178 ?_
          obtain ⟨r10, e11, h⟩ := hC h
          refine AW.callVv (As := [iv (x1 + 1), iv (orI x2 (shlI 1 x6)), iv (x3 + (g 174 (ix (g 175 (ix x6))))), iv (x4 + t8), iv (x5 + (x3 + (g 174 (ix (g 175 (ix x6))))))]) (st := []) (hrec _ _ _ _ _ _ _ e11) cq_X12_524 cr_117_X12_docksOn (by omega) rfl dX12_docksOn_179 rfl (Nat.le_of_ble_eq_true rfl) ?_
          refine AW.sub (lv1 := [(0, rv z 117), (1, iv x1), (2, iv x2), (3, iv x3), (4, iv x4), (5, iv x5), (6, iv x6)]) [2, 3, 4, 5, 6, 7, 8] rfl ?_
          cases h
          exact J108
        refine AW.icmp_le (tgt := 172) dX12_docksOn_165 (by decide) (fun c12 => ?_) (fun c12 => ?_)
        · refine AW.iconst dX12_docksOn_172 ?_
          exact AW.val (e9.trans (if_pos c12)) J165
        · refine AW.iconst dX12_docksOn_168 ?_
          refine AW.goto (tgt := 173) dX12_docksOn_169 (by decide) ?_
          exact AW.val (e9.trans (if_neg c12)) J165
      · replace h := hT h c2
        refine AW.goto (tgt := 182) dX12_docksOn_111 (by decide) ?_
        cases h
        exact J108
theorem M_docksOn_s_ok {z : AZ} {rec : Int → Int → Int → Int → Int → AG → Option (Int × AG)} {Dr : Nat} (hC9 : 0 ≤ Dr) (hrec : ∀ (x1 : Int) (x2 : Int) (x3 : Int) (x4 : Int) (x5 : Int) (g : AG) (r : Int × AG), rec x1 x2 x3 x4 x5 g = some r → AMf z yX12_docksOn cX12_docksOn 9 none Dr [rv z 117, iv x1, iv x2, iv x3, iv x4, iv x5] g r) {x1 : Int} {x2 : Int} {x3 : Int} {x4 : Int} {x5 : Int} {g : AG} {r : Int × AG} (h : M_docksOn_s rec x1 x2 x3 x4 x5 g = some r) : AMf z yX12_docksOn cX12_docksOn 9 none (Dr + 1) [rv z 117, iv x1, iv x2, iv x3, iv x4, iv x5] g r := by
  intro d hdd
  refine AM.of (by decide +kernel) (Nat.le_of_ble_eq_true rfl) ?_
  show AW z (RX12, cX12_docksOn, 9, none) d (QD none r) 0 [(0, rv z 117), (1, iv x1), (2, iv x2), (3, iv x3), (4, iv x4), (5, iv x5)] [] g
  unfold M_docksOn_s at h
  refine AW.iload_n 1 dX12_docksOn_0 rfl ?_
  refine AW.aloadr_n 0 dX12_docksOn_1 rfl ?_
  refine AW.getI af_X12_515_117 sr_117_84 dX12_docksOn_2 ?_
  refine AW.icmp_ne (tgt := 89) dX12_docksOn_5 (by decide) (fun c1 => ?_) (fun c1 => ?_)
  · replace h := hF h c1
    refine AW.iconst dX12_docksOn_89 ?_
    refine AW.istore (lv1 := [(6, iv 0), (0, rv z 117), (1, iv x1), (2, iv x2), (3, iv x3), (4, iv x4), (5, iv x5)]) dX12_docksOn_90 (by decide) rfl ?_
    refine AW.sub (lv1 := [(0, rv z 117), (1, iv x1), (2, iv x2), (3, iv x3), (4, iv x4), (5, iv x5), (6, iv 0)]) [1, 2, 3, 4, 5, 6, 0] rfl ?_
    exact (M_docksOn_b_ok hC9 hrec hdd _ _ _ _ h).2.2 rfl
  · replace h := hT h c1
    refine AW.aloadr_n 0 dX12_docksOn_8 rfl ?_
    refine AW.getI af_X12_518_117 sr_117_85 dX12_docksOn_9 ?_
    refine AW.iconst dX12_docksOn_12 ?_
    refine AW.icmp_eq (tgt := 44) dX12_docksOn_13 (by decide) (fun c2 => ?_) (fun c2 => ?_)
    · replace h := hT h c2
      refine AW.sub (lv1 := [(0, rv z 117), (4, iv x4), (5, iv x5)]) [0, 4, 5] rfl ?_
      exact (M_docksOn_b_ok hC9 hrec hdd _ _ _ _ h).1 rfl
    · replace h := hF h c2
      refine AW.iload 4 dX12_docksOn_16 rfl ?_
      refine AW.aloadr_n 0 dX12_docksOn_18 rfl ?_
      refine AW.getI af_X12_518_117 sr_117_85 dX12_docksOn_19 ?_
      refine AW.icmp_gt (tgt := 43) dX12_docksOn_22 (by decide) (fun c3 => ?_) (fun c3 => ?_)
      · replace h := hT h c3
        exact AW.vret1 rfl dX12_docksOn_43 h rfl
      · replace h := hF h c3
        refine AW.iload 4 dX12_docksOn_25 rfl ?_
        refine AW.aloadr_n 0 dX12_docksOn_27 rfl ?_
        refine AW.getI af_X12_518_117 sr_117_85 dX12_docksOn_28 ?_
        refine AW.icmp_ne (tgt := 44) dX12_docksOn_31 (by decide) (fun c4 => ?_) (fun c4 => ?_)
        · replace h := hF h c4
          refine AW.sub (lv1 := [(0, rv z 117), (4, iv x4), (5, iv x5)]) [0, 4, 5] rfl ?_
          exact (M_docksOn_b_ok hC9 hrec hdd _ _ _ _ h).1 rfl
        · replace h := hT h c4
          refine AW.iload 5 dX12_docksOn_34 rfl ?_
          refine AW.aloadr_n 0 dX12_docksOn_36 rfl ?_
          refine AW.getI af_X12_521_117 sr_117_86 dX12_docksOn_37 ?_
          refine AW.icmp_lt (tgt := 44) dX12_docksOn_40 (by decide) (fun c5 => ?_) (fun c5 => ?_)
          · replace h := hT h c5
            refine AW.sub (lv1 := [(0, rv z 117), (4, iv x4), (5, iv x5)]) [0, 4, 5] rfl ?_
            exact (M_docksOn_b_ok hC9 hrec hdd _ _ _ _ h).1 rfl
          · replace h := hF h c5
            exact AW.vret1 rfl dX12_docksOn_43 h rfl
theorem M_docksOn_ok {z : AZ} {n : Nat} {x1 : Int} {x2 : Int} {x3 : Int} {x4 : Int} {x5 : Int} {g : AG} {r : Int × AG} (h : M_docksOn n x1 x2 x3 x4 x5 g = some r) : AMf z yX12_docksOn cX12_docksOn 9 none (0 + n * 1) [rv z 117, iv x1, iv x2, iv x3, iv x4, iv x5] g r := by
  induction n generalizing x1 x2 x3 x4 x5 g r with
  | zero => cases h
  | succ n ih =>
    have q := M_docksOn_s_ok (z := z) (Dr := 0 + n * 1) (Nat.le_add_right _ _) (fun x1 x2 x3 x4 x5 g r h9 => ih h9) h
    rw [show 0 + (n + 1) * 1 = 0 + n * 1 + 1 by rw [Nat.add_mul]; omega]
    exact q
set_option synthInstance.maxHeartbeats 2000000 in
theorem M_dock_b_ok {z : AZ} {d : Nat} (hdd : 10 ≤ d) {x1 : Int} : ∀ (x2 : Int) (g : AG) (r : Int × AG), M_dock_b x1 x2 g = some r → AW z (RX12, cX12_dock, 3, (some .int)) d (QD (some .int) r) 7 [(0, rv z 117), (1, iv x1), (2, iv x2)] [] g := by
  refine M_dock_b.partial_correctness x1 (fun x2 g r => AW z (RX12, cX12_dock, 3, (some .int)) d (QD (some .int) r) 7 [(0, rv z 117), (1, iv x1), (2, iv x2)] [] g) ?_
  intro fb9 ih x2 g r h
  refine AW.iload_n 2 dX12_dock_7 rfl ?_
  refine AW.aloadr_n 0 dX12_dock_8 rfl ?_
  refine AW.getI af_X12_235_117 sr_117_12 dX12_dock_9 ?_
  refine AW.icmp_ge (tgt := 53) dX12_dock_12 (by decide) (fun c1 => ?_) (fun c1 => ?_)
  · replace h := hT h c1
    refine AW.aloadr_n 0 dX12_dock_53 rfl ?_
    refine AW.iconst dX12_dock_54 ?_
    obtain ⟨g2, e3, h⟩ := hBe h
    refine AW.putI ap_X12_518_117 sr_117_85 dX12_dock_55 e3 ?_
    refine AW.aloadr_n 0 dX12_dock_58 rfl ?_
    refine AW.iconst dX12_dock_59 ?_
    refine AW.iconst dX12_dock_60 ?_
    refine AW.iconst dX12_dock_61 ?_
    refine AW.iconst dX12_dock_62 ?_
    refine AW.iconst dX12_dock_63 ?_
    obtain ⟨r4, e5, h⟩ := hC h
    refine AW.callVv (As := [iv 0, iv 0, iv 0, iv 0, iv 0]) (st := []) ((M_docksOn_ok (n := 9)) e5) cq_X12_524 cr_117_X12_docksOn (Nat.le_trans (by decide) hdd) rfl dX12_dock_64 rfl (Nat.le_of_ble_eq_true rfl) ?_
    refine AW.iload_n 1 dX12_dock_67 rfl ?_
    refine AW.bipush dX12_dock_68 (by decide) (by decide) ?_
    refine AW.bipush dX12_dock_70 (by decide) (by decide) ?_
    refine AW.aloadr_n 0 dX12_dock_72 rfl ?_
    refine AW.getI af_X12_515_117 sr_117_84 dX12_dock_73 ?_
    refine AW.iadd dX12_dock_76 ?_
    refine AW.callSi (As := [iv x1, iv 10, iv (9 + (r4.2 117 84))]) (st := []) M_isIn_ok cq_X12_3 st_X12_isIn (Nat.le_trans (by decide) hdd) rfl dX12_dock_77 rfl (Nat.le_of_ble_eq_true rfl) ?_
    refine AW.if_eq (tgt := 93) dX12_dock_80 (by decide) (fun c6 => ?_) (fun c6 => ?_)
    · replace h := hT h c6
      refine AW.iload_n 1 dX12_dock_93 rfl ?_
      obtain ⟨t7, e8, h⟩ := hBe h
      refine AW.join (tgt := 129) (lv1 := [(0, rv z 117), (1, iv x1), (2, iv x2)]) (st1 := [iv t7]) (g1 := r4.2) ?_ (fun J94 => ?_)
      · exact AW.iret1 rfl dX12_dock_129 h rfl
      refine AW.if_ne (tgt := 104) dX12_dock_94 (by decide) (fun c9 => ?_) (fun c9 => ?_)
      · refine AW.iload_n 1 dX12_dock_104 rfl ?_
        refine AW.iconst dX12_dock_105 ?_
        refine AW.icmp_ne (tgt := 116) dX12_dock_106 (by decide) (fun c10 => ?_) (fun c10 => ?_)
        · refine AW.iload_n 1 dX12_dock_116 rfl ?_
          refine AW.iconst dX12_dock_117 ?_
          refine AW.icmp_ne (tgt := 128) dX12_dock_118 (by decide) (fun c11 => ?_) (fun c11 => ?_)
          · refine AW.iconst dX12_dock_128 ?_
            exact AW.val (e8.trans ((if_neg c9).trans ((if_neg c10).trans (if_neg c11)))) J94
          · refine AW.aloadr_n 0 dX12_dock_121 rfl ?_
            refine AW.getI af_X12_515_117 sr_117_84 dX12_dock_122 ?_
            refine AW.goto (tgt := 129) dX12_dock_125 (by decide) ?_
            exact AW.val (e8.trans ((if_neg c9).trans ((if_neg c10).trans (if_pos c11)))) J94
        · refine AW.aloadr_n 0 dX12_dock_109 rfl ?_
          refine AW.getI af_X12_521_117 sr_117_86 dX12_dock_110 ?_
          refine AW.goto (tgt := 129) dX12_dock_113 (by decide) ?_
          exact AW.val (e8.trans ((if_neg c9).trans (if_pos c10))) J94
      · refine AW.aloadr_n 0 dX12_dock_97 rfl ?_
        refine AW.getI af_X12_518_117 sr_117_85 dX12_dock_98 ?_
        refine AW.goto (tgt := 129) dX12_dock_101 (by decide) ?_
        exact AW.val (e8.trans (if_pos c9)) J94
    · replace h := hF h c6
      refine AW.aloadr_n 0 dX12_dock_83 rfl ?_
      refine AW.getR af_X12_199_117 sr_117_83 dX12_dock_84 ?_
      refine AW.iload_n 1 dX12_dock_87 rfl ?_
      refine AW.bipush dX12_dock_88 (by decide) (by decide) ?_
      refine AW.isub dX12_dock_90 ?_
      obtain ⟨k12, h⟩ := hK h
      refine AW.iald kc_177 sk_177 k12 dX12_dock_91 ?_
      exact AW.iret1 rfl dX12_dock_92 h rfl
  · replace h := hF h c1
    refine AW.aloadr_n 0 dX12_dock_15 rfl ?_
    refine AW.getR af_X12_190_117 sr_117_80 dX12_dock_16 ?_
    refine AW.iload_n 2 dX12_dock_19 rfl ?_
    obtain ⟨k13, h⟩ := hK h
    refine AW.iald kc_174 sk_174 k13 dX12_dock_20 ?_
    obtain ⟨r20, e21, h⟩ := hC h
    refine AW.join (tgt := 47) (lv1 := [(0, rv z 117), (1, iv x1), (2, iv x2)]) (st1 := []) (g1 := r20) ?_ (fun J21 => ?_)
    · refine AW.iinc (lv1 := [(2, iv (x2 + 1)), (0, rv z 117), (1, iv x1)]) 2 dX12_dock_47 rfl (by decide) rfl ?_
      refine AW.goto (tgt := 7) dX12_dock_50 (by decide) ?_
      refine AW.sub (lv1 := [(0, rv z 117), (1, iv x1), (2, iv (x2 + 1))]) [1, 2, 0] rfl ?_
      exact ih _ _ _ h
    replace h := e21
    refine AW.if_ne (tgt := 27) dX12_dock_21 (by decide) (fun c14 => ?_) (fun c14 => ?_)
    · replace h := hF h c14
      refine AW.aloadr_n 0 dX12_dock_27 rfl ?_
      refine AW.getR af_X12_193_117 sr_117_81 dX12_dock_28 ?_
      refine AW.aloadr_n 0 dX12_dock_31 rfl ?_
      refine AW.getI af_X12_515_117 sr_117_84 dX12_dock_32 ?_
      refine AW.iload_n 2 dX12_dock_35 rfl ?_
      obtain ⟨k15, h⟩ := hK h
      obtain ⟨g16, e17, h⟩ := hBe h
      refine AW.iast kc_175 sk_175 k15 dX12_dock_36 e17 ?_
      refine AW.aloadr_n 0 dX12_dock_37 rfl ?_
      refine AW.duprr dX12_dock_38 ?_
      refine AW.getI af_X12_515_117 sr_117_84 dX12_dock_39 ?_
      refine AW.iconst dX12_dock_42 ?_
      refine AW.iadd dX12_dock_43 ?_
      obtain ⟨g18, e19, h⟩ := hBe h
      refine AW.putI ap_X12_515_117 sr_117_84 dX12_dock_44 e19 ?_
      cases h
      exact J21
    · replace h := hT h c14
      refine AW.goto (tgt := 47) dX12_dock_24 (by decide) ?_
      cases h
      exact J21
theorem M_dock_ok {z : AZ} {x1 : Int} {g : AG} {r : Int × AG} (h : M_dock x1 g = some r) : AMf z yX12_dock cX12_dock 3 (some .int) 10 [rv z 117, iv x1] g r := by
  intro d hdd
  refine AM.of (by decide +kernel) (Nat.le_of_ble_eq_true rfl) ?_
  show AW z (RX12, cX12_dock, 3, (some .int)) d (QD (some .int) r) 0 [(0, rv z 117), (1, iv x1)] [] g
  unfold M_dock at h
  refine AW.aloadr_n 0 dX12_dock_0 rfl ?_
  refine AW.iconst dX12_dock_1 ?_
  obtain ⟨g1, e2, h⟩ := hBe h
  refine AW.putI ap_X12_515_117 sr_117_84 dX12_dock_2 e2 ?_
  refine AW.iconst dX12_dock_5 ?_
  refine AW.istore_n (lv1 := [(2, iv 0), (0, rv z 117), (1, iv x1)]) dX12_dock_6 (by decide) rfl ?_
  refine AW.sub (lv1 := [(0, rv z 117), (1, iv x1), (2, iv 0)]) [1, 2, 0] rfl ?_
  exact M_dock_b_ok hdd _ _ _ h
theorem M_job_ok {z : AZ} {x1 : Int} {g : AG} {r : Int × AG} (h : M_job x1 g = some r) : AMf z yX12_job cX12_job 2 (some .int) 1 [rv z 117, iv x1] g r := by
  intro d hdd
  refine AM.of (by decide +kernel) (Nat.le_of_ble_eq_true rfl) ?_
  show AW z (RX12, cX12_job, 2, (some .int)) d (QD (some .int) r) 0 [(0, rv z 117), (1, iv x1)] [] g
  unfold M_job at h
  refine AW.iload_n 1 dX12_job_0 rfl ?_
  refine AW.if_ne (tgt := 11) dX12_job_1 (by decide) (fun c1 => ?_) (fun c1 => ?_)
  · replace h := hF h c1
    refine AW.iload_n 1 dX12_job_11 rfl ?_
    refine AW.iconst dX12_job_12 ?_
    refine AW.sipush dX12_job_13 (by decide) (by decide) ?_
    refine AW.callSi (As := [iv x1, iv 1, iv 300]) (st := []) M_isIn_ok cq_X12_3 st_X12_isIn (Nat.le_trans (by decide) hdd) rfl dX12_job_16 rfl (Nat.le_of_ble_eq_true rfl) ?_
    refine AW.if_eq (tgt := 31) dX12_job_19 (by decide) (fun c2 => ?_) (fun c2 => ?_)
    · replace h := hT h c2
      refine AW.iconst dX12_job_31 ?_
      exact AW.iret1 rfl dX12_job_32 h rfl
    · replace h := hF h c2
      refine AW.aloadr_n 0 dX12_job_22 rfl ?_
      refine AW.getI af_X12_528_117 sr_117_87 dX12_job_23 ?_
      refine AW.bipush dX12_job_26 (by decide) (by decide) ?_
      refine AW.icmp_ne (tgt := 33) dX12_job_28 (by decide) (fun c3 => ?_) (fun c3 => ?_)
      · replace h := hF h c3
        refine AW.aloadr_n 0 dX12_job_33 rfl ?_
        refine AW.getR af_X12_202_117 sr_117_88 dX12_job_34 ?_
        refine AW.aloadr_n 0 dX12_job_37 rfl ?_
        refine AW.getI af_X12_528_117 sr_117_87 dX12_job_38 ?_
        refine AW.iload_n 1 dX12_job_41 rfl ?_
        obtain ⟨k4, h⟩ := hK h
        obtain ⟨g5, e6, h⟩ := hBe h
        refine AW.iast kc_178 sk_178 k4 dX12_job_42 e6 ?_
        refine AW.aloadr_n 0 dX12_job_43 rfl ?_
        refine AW.duprr dX12_job_44 ?_
        refine AW.getI af_X12_528_117 sr_117_87 dX12_job_45 ?_
        refine AW.iconst dX12_job_48 ?_
        refine AW.iadd dX12_job_49 ?_
        obtain ⟨g7, e8, h⟩ := hBe h
        refine AW.putI ap_X12_528_117 sr_117_87 dX12_job_50 e8 ?_
        refine AW.aloadr_n 0 dX12_job_53 rfl ?_
        refine AW.getI af_X12_528_117 sr_117_87 dX12_job_54 ?_
        exact AW.iret1 rfl dX12_job_57 h rfl
      · replace h := hT h c3
        refine AW.iconst dX12_job_31 ?_
        exact AW.iret1 rfl dX12_job_32 h rfl
  · replace h := hT h c1
    refine AW.aloadr_n 0 dX12_job_4 rfl ?_
    refine AW.iconst dX12_job_5 ?_
    obtain ⟨g9, e10, h⟩ := hBe h
    refine AW.putI ap_X12_528_117 sr_117_87 dX12_job_6 e10 ?_
    refine AW.iconst dX12_job_9 ?_
    exact AW.iret1 rfl dX12_job_10 h rfl
set_option synthInstance.maxHeartbeats 2000000 in
theorem M_lastEnd_b_ok {z : AZ} {d : Nat} (hdd : 0 ≤ d) {x1 : Int} {g : AG} : ∀ (x2 : Int) (x3 : Int) (r : Int), M_lastEnd_b x1 g x2 x3 = some r → AW z (RX12, cX12_lastEnd, 4, (some .int)) d (QD (some .int) (r, g)) 6 [(0, rv z 117), (1, iv x1), (2, iv x2), (3, iv x3)] [] g := by
  refine M_lastEnd_b.partial_correctness x1 g (fun x2 x3 r => AW z (RX12, cX12_lastEnd, 4, (some .int)) d (QD (some .int) (r, g)) 6 [(0, rv z 117), (1, iv x1), (2, iv x2), (3, iv x3)] [] g) ?_
  intro fb9 ih x2 x3 r h
  refine AW.iload_n 3 dX12_lastEnd_6 rfl ?_
  refine AW.iload_n 1 dX12_lastEnd_7 rfl ?_
  refine AW.icmp_ge (tgt := 38) dX12_lastEnd_8 (by decide) (fun c1 => ?_) (fun c1 => ?_)
  · replace h := hT h c1
    refine AW.iload_n 2 dX12_lastEnd_38 rfl ?_
    exact AW.iret2 rfl dX12_lastEnd_39 h rfl
  · replace h := hF h c1
    refine AW.aloadr_n 0 dX12_lastEnd_11 rfl ?_
    refine AW.getR af_X12_205_117 sr_117_89 dX12_lastEnd_12 ?_
    refine AW.iload_n 3 dX12_lastEnd_15 rfl ?_
    obtain ⟨k2, h⟩ := hK h
    refine AW.iald kc_179 sk_179 k2 dX12_lastEnd_16 ?_
    refine AW.iload_n 2 dX12_lastEnd_17 rfl ?_
    obtain ⟨r4, e5, h⟩ := hC h
    refine AW.join (tgt := 31) (lv1 := [(0, rv z 117), (1, iv x1), (3, iv x3)]) (st1 := [iv r4]) (g1 := g) ?_ (fun J18 => ?_)
    · refine AW.istore_n (lv1 := [(2, iv r4), (0, rv z 117), (1, iv x1), (3, iv x3)]) dX12_lastEnd_31 (by decide) rfl ?_
      refine AW.iinc (lv1 := [(3, iv (x3 + 1)), (2, iv r4), (0, rv z 117), (1, iv x1)]) 3 dX12_lastEnd_32 rfl (by decide) rfl ?_
      refine AW.goto (tgt := 6) dX12_lastEnd_35 (by decide) ?_
      refine AW.sub (lv1 := [(0, rv z 117), (1, iv x1), (2, iv r4), (3, iv (x3 + 1))]) [2, 3, 1, 0] rfl ?_
      exact ih _ _ _ h
    replace h := e5
    refine AW.icmp_le (tgt := 30) dX12_lastEnd_18 (by decide) (fun c3 => ?_) (fun c3 => ?_)
    · replace h := hT h c3
      refine AW.iload_n 2 dX12_lastEnd_30 rfl ?_
      refine AW.sub (lv1 := [(0, rv z 117), (1, iv x1), (3, iv x3)]) [0, 1, 3] rfl ?_
      cases h
      exact J18
    · replace h := hF h c3
      refine AW.aloadr_n 0 dX12_lastEnd_21 rfl ?_
      refine AW.getR af_X12_205_117 sr_117_89 dX12_lastEnd_22 ?_
      refine AW.iload_n 3 dX12_lastEnd_25 rfl ?_
      refine AW.iald kc_179 sk_179 k2 dX12_lastEnd_26 ?_
      refine AW.goto (tgt := 31) dX12_lastEnd_27 (by decide) ?_
      refine AW.sub (lv1 := [(0, rv z 117), (1, iv x1), (3, iv x3)]) [0, 1, 3] rfl ?_
      cases h
      exact J18
theorem M_lastEnd_ok {z : AZ} {x1 : Int} {g : AG} {r : Int} (h : M_lastEnd x1 g = some r) : AMf z yX12_lastEnd cX12_lastEnd 4 (some .int) 0 [rv z 117, iv x1] g (r, g) := by
  intro d hdd
  refine AM.of (by decide +kernel) (Nat.le_of_ble_eq_true rfl) ?_
  show AW z (RX12, cX12_lastEnd, 4, (some .int)) d (QD (some .int) (r, g)) 0 [(0, rv z 117), (1, iv x1)] [] g
  unfold M_lastEnd at h
  refine AW.sipush dX12_lastEnd_0 (by decide) (by decide) ?_
  refine AW.istore_n (lv1 := [(2, iv 600), (0, rv z 117), (1, iv x1)]) dX12_lastEnd_3 (by decide) rfl ?_
  refine AW.iconst dX12_lastEnd_4 ?_
  refine AW.istore_n (lv1 := [(3, iv 0), (2, iv 600), (0, rv z 117), (1, iv x1)]) dX12_lastEnd_5 (by decide) rfl ?_
  refine AW.sub (lv1 := [(0, rv z 117), (1, iv x1), (2, iv 600), (3, iv 0)]) [2, 3, 1, 0] rfl ?_
  exact M_lastEnd_b_ok hdd _ _ _ h
set_option synthInstance.maxHeartbeats 2000000 in
theorem M_worked_b_ok {z : AZ} {d : Nat} (hdd : 1 ≤ d) {x1 : Int} : ∀ (tag : Nat) (x2 : Int) (x3 : Int) (x4 : Int) (g : AG) (r : Int × AG), M_worked_b x1 tag x2 x3 x4 g = some r → (tag = 1 → AW z (RX12, cX12_worked, 5, (some .int)) d (QD (some .int) r) 7 [(0, rv z 117), (1, iv x1), (2, iv x2)] [] g) ∧ (tag = 2 → AW z (RX12, cX12_worked, 5, (some .int)) d (QD (some .int) r) 29 [(0, rv z 117), (1, iv x1), (2, iv x2)] [] g) ∧ (tag = 3 → AW z (RX12, cX12_worked, 5, (some .int)) d (QD (some .int) r) 42 [(0, rv z 117), (1, iv x1), (2, iv x2), (3, iv x3), (4, iv x4)] [] g) := by
  refine M_worked_b.partial_correctness x1 (fun tag x2 x3 x4 g r => (tag = 1 → AW z (RX12, cX12_worked, 5, (some .int)) d (QD (some .int) r) 7 [(0, rv z 117), (1, iv x1), (2, iv x2)] [] g) ∧ (tag = 2 → AW z (RX12, cX12_worked, 5, (some .int)) d (QD (some .int) r) 29 [(0, rv z 117), (1, iv x1), (2, iv x2)] [] g) ∧ (tag = 3 → AW z (RX12, cX12_worked, 5, (some .int)) d (QD (some .int) r) 42 [(0, rv z 117), (1, iv x1), (2, iv x2), (3, iv x3), (4, iv x4)] [] g)) ?_
  intro fb9 ih tag x2 x3 x4 g r h
  refine ⟨fun h9 => ?_, fun h9 => ?_, fun h9 => ?_⟩
  · subst h9
    replace h := hT h rfl
    refine AW.iload_n 2 dX12_worked_7 rfl ?_
    refine AW.iload_n 1 dX12_worked_8 rfl ?_
    refine AW.icmp_ge (tgt := 27) dX12_worked_9 (by decide) (fun c1 => ?_) (fun c1 => ?_)
    · replace h := hT h c1
      refine AW.iconst dX12_worked_27 ?_
      refine AW.istore_n (lv1 := [(2, iv 0), (0, rv z 117), (1, iv x1)]) dX12_worked_28 (by decide) rfl ?_
      refine AW.sub (lv1 := [(0, rv z 117), (1, iv x1), (2, iv 0)]) [1, 2, 0] rfl ?_
      exact (ih _ _ _ _ _ _ h).2.1 rfl
    · replace h := hF h c1
      refine AW.aloadr_n 0 dX12_worked_12 rfl ?_
      refine AW.getR af_X12_205_117 sr_117_89 dX12_worked_13 ?_
      refine AW.iload_n 2 dX12_worked_16 rfl ?_
      refine AW.sipush dX12_worked_17 (by decide) (by decide) ?_
      obtain ⟨k2, h⟩ := hK h
      obtain ⟨g3, e4, h⟩ := hBe h
      refine AW.iast kc_179 sk_179 k2 dX12_worked_20 e4 ?_
      refine AW.iinc (lv1 := [(2, iv (x2 + 1)), (0, rv z 117), (1, iv x1)]) 2 dX12_worked_21 rfl (by decide) rfl ?_
      refine AW.goto (tgt := 7) dX12_worked_24 (by decide) ?_
      refine AW.sub (lv1 := [(0, rv z 117), (1, iv x1), (2, iv (x2 + 1))]) [1, 2, 0] rfl ?_
      exact (ih _ _ _ _ _ _ h).1 rfl
  · subst h9
    replace h := hF h (by decide)
    replace h := hT h rfl
    refine AW.iload_n 2 dX12_worked_29 rfl ?_
    refine AW.aloadr_n 0 dX12_worked_30 rfl ?_
    refine AW.getI af_X12_528_117 sr_117_87 dX12_worked_31 ?_
    refine AW.icmp_ge (tgt := 124) dX12_worked_34 (by decide) (fun c1 => ?_) (fun c1 => ?_)
    · replace h := hT h c1
      refine AW.aloadr_n 0 dX12_worked_124 rfl ?_
      refine AW.iload_n 1 dX12_worked_125 rfl ?_
      obtain ⟨r2, e3, h⟩ := hC h
      refine AW.callVi (As := [iv x1]) (st := []) (M_lastEnd_ok e3) cq_X12_534 cr_117_X12_lastEnd (Nat.le_trans (by decide) hdd) rfl dX12_worked_126 rfl (Nat.le_of_ble_eq_true rfl) ?_
      exact AW.iret1 rfl dX12_worked_129 h rfl
    · replace h := hF h c1
      refine AW.iconst dX12_worked_37 ?_
      refine AW.istore_n (lv1 := [(3, iv 0), (0, rv z 117), (1, iv x1), (2, iv x2)]) dX12_worked_38 (by decide) rfl ?_
      refine AW.iconst dX12_worked_39 ?_
      refine AW.istore (lv1 := [(4, iv 1), (3, iv 0), (0, rv z 117), (1, iv x1), (2, iv x2)]) dX12_worked_40 (by decide) rfl ?_
      refine AW.sub (lv1 := [(0, rv z 117), (1, iv x1), (2, iv x2), (3, iv 0), (4, iv 1)]) [2, 3, 4, 1, 0] rfl ?_
      exact (ih _ _ _ _ _ _ h).2.2 rfl
  · subst h9
    replace h := hF h (by decide)
    replace h := hF h (by decide)
    replace h := hT h rfl
    refine AW.iload 4 dX12_worked_42 rfl ?_
    refine AW.iload_n 1 dX12_worked_44 rfl ?_
    refine AW.icmp_ge (tgt := 77) dX12_worked_45 (by decide) (fun c1 => ?_) (fun c1 => ?_)
    · replace h := hT h c1
      refine AW.aloadr_n 0 dX12_worked_77 rfl ?_
      refine AW.getR af_X12_205_117 sr_117_89 dX12_worked_78 ?_
      refine AW.iload_n 3 dX12_worked_81 rfl ?_
      refine AW.dup2r dX12_worked_82 ?_
      obtain ⟨k2, h⟩ := hK h
      refine AW.iald kc_179 sk_179 k2 dX12_worked_83 ?_
      refine AW.aloadr_n 0 dX12_worked_84 rfl ?_
      refine AW.getR af_X12_202_117 sr_117_88 dX12_worked_85 ?_
      refine AW.iload_n 2 dX12_worked_88 rfl ?_
      obtain ⟨k3, h⟩ := hK h
      refine AW.iald kc_178 sk_178 k3 dX12_worked_89 ?_
      refine AW.iadd dX12_worked_90 ?_
      obtain ⟨g4, e5, h⟩ := hBe h
      refine AW.iast kc_179 sk_179 k2 dX12_worked_91 e5 ?_
      refine AW.aloadr_n 0 dX12_worked_92 rfl ?_
      refine AW.duprr dX12_worked_93 ?_
      refine AW.getI af_X12_531_117 sr_117_90 dX12_worked_94 ?_
      refine AW.aloadr_n 0 dX12_worked_97 rfl ?_
      refine AW.getR af_X12_205_117 sr_117_89 dX12_worked_98 ?_
      refine AW.iload_n 3 dX12_worked_101 rfl ?_
      refine AW.iald kc_179 sk_179 k2 dX12_worked_102 ?_
      refine AW.sipush dX12_worked_103 (by decide) (by decide) ?_
      obtain ⟨t6, e7, h⟩ := hBe h
      refine AW.join (tgt := 114) (lv1 := [(0, rv z 117), (1, iv x1), (2, iv x2), (3, iv x3), (4, iv x4)]) (st1 := [iv t6, iv (g4 117 90), rv z 117]) (g1 := g4) ?_ (fun J106 => ?_)
      · refine AW.iadd dX12_worked_114 ?_
        obtain ⟨g8, e9, h⟩ := hBe h
        refine AW.putI ap_X12_531_117 sr_117_90 dX12_worked_115 e9 ?_
        refine AW.iinc (lv1 := [(2, iv (x2 + 1)), (0, rv z 117), (1, iv x1), (3, iv x3), (4, iv x4)]) 2 dX12_worked_118 rfl (by decide) rfl ?_
        refine AW.goto (tgt := 29) dX12_worked_121 (by decide) ?_
        refine AW.sub (lv1 := [(0, rv z 117), (1, iv x1), (2, iv (x2 + 1))]) [1, 2, 0] rfl ?_
        exact (ih _ _ _ _ _ _ h).2.1 rfl
      refine AW.icmp_le (tgt := 113) dX12_worked_106 (by decide) (fun c10 => ?_) (fun c10 => ?_)
      · refine AW.iconst dX12_worked_113 ?_
        exact AW.val (e7.trans (if_pos c10)) J106
      · refine AW.iconst dX12_worked_109 ?_
        refine AW.goto (tgt := 114) dX12_worked_110 (by decide) ?_
        exact AW.val (e7.trans (if_neg c10)) J106
    · replace h := hF h c1
      refine AW.aloadr_n 0 dX12_worked_48 rfl ?_
      refine AW.getR af_X12_205_117 sr_117_89 dX12_worked_49 ?_
      refine AW.iload 4 dX12_worked_52 rfl ?_
      obtain ⟨k11, h⟩ := hK h
      refine AW.iald kc_179 sk_179 k11 dX12_worked_54 ?_
      refine AW.aloadr_n 0 dX12_worked_55 rfl ?_
      refine AW.getR af_X12_205_117 sr_117_89 dX12_worked_56 ?_
      refine AW.iload_n 3 dX12_worked_59 rfl ?_
      obtain ⟨k12, h⟩ := hK h
      refine AW.iald kc_179 sk_179 k12 dX12_worked_60 ?_
      obtain ⟨t13, e14, h⟩ := hBe h
      refine AW.join (tgt := 70) (lv1 := [(0, rv z 117), (1, iv x1), (2, iv x2), (3, iv x3), (4, iv x4)]) (st1 := [iv t13]) (g1 := g) ?_ (fun J61 => ?_)
      · refine AW.istore_n (lv1 := [(3, iv t13), (0, rv z 117), (1, iv x1), (2, iv x2), (4, iv x4)]) dX12_worked_70 (by decide) rfl ?_
        refine AW.iinc (lv1 := [(4, iv (x4 + 1)), (3, iv t13), (0, rv z 117), (1, iv x1), (2, iv x2)]) 4 dX12_worked_71 rfl (by decide) rfl ?_
        refine AW.goto (tgt := 42) dX12_worked_74 (by decide) ?_
        refine AW.sub (lv1 := [(0, rv z 117), (1, iv x1), (2, iv x2), (3, iv t13), (4, iv (x4 + 1))]) [2, 3, 4, 1, 0] rfl ?_
        exact (ih _ _ _ _ _ _ h).2.2 rfl
      refine AW.icmp_ge (tgt := 69) dX12_worked_61 (by decide) (fun c15 => ?_) (fun c15 => ?_)
      · refine AW.iload_n 3 dX12_worked_69 rfl ?_
        exact AW.val (e14.trans (if_pos c15)) J61
      · refine AW.iload 4 dX12_worked_64 rfl ?_
        refine AW.goto (tgt := 70) dX12_worked_66 (by decide) ?_
        exact AW.val (e14.trans (if_neg c15)) J61
theorem M_worked_ok {z : AZ} {x1 : Int} {g : AG} {r : Int × AG} (h : M_worked x1 g = some r) : AMf z yX12_worked cX12_worked 5 (some .int) 1 [rv z 117, iv x1] g r := by
  intro d hdd
  refine AM.of (by decide +kernel) (Nat.le_of_ble_eq_true rfl) ?_
  show AW z (RX12, cX12_worked, 5, (some .int)) d (QD (some .int) r) 0 [(0, rv z 117), (1, iv x1)] [] g
  unfold M_worked at h
  refine AW.aloadr_n 0 dX12_worked_0 rfl ?_
  refine AW.iconst dX12_worked_1 ?_
  obtain ⟨g1, e2, h⟩ := hBe h
  refine AW.putI ap_X12_531_117 sr_117_90 dX12_worked_2 e2 ?_
  refine AW.iconst dX12_worked_5 ?_
  refine AW.istore_n (lv1 := [(2, iv 0), (0, rv z 117), (1, iv x1)]) dX12_worked_6 (by decide) rfl ?_
  refine AW.sub (lv1 := [(0, rv z 117), (1, iv x1), (2, iv 0)]) [1, 2, 0] rfl ?_
  exact (M_worked_b_ok hdd _ _ _ _ _ _ h).1 rfl
set_option synthInstance.maxHeartbeats 2000000 in
theorem M_handOf_b_ok {z : AZ} {d : Nat} (hdd : 0 ≤ d) {x2 : Int} {x3 : Int} {g : AG} : ∀ (x4 : Int) (x5 : Int) (r : Int), M_handOf_b x2 x3 g x4 x5 = some r → AW z (RX12, cX12_handOf, 6, (some .int)) d (QD (some .int) (r, g)) 11 [(2, iv x2), (3, iv x3), (4, iv x4), (5, iv x5)] [] g := by
  refine M_handOf_b.partial_correctness x2 x3 g (fun x4 x5 r => AW z (RX12, cX12_handOf, 6, (some .int)) d (QD (some .int) (r, g)) 11 [(2, iv x2), (3, iv x3), (4, iv x4), (5, iv x5)] [] g) ?_
  intro fb9 ih x4 x5 r h
  refine AW.iload 3 dX12_handOf_11 rfl ?_
  refine AW.iload_n 0 dX12_handOf_13 rfl ?_
  refine AW.icmp_le (tgt := 29) dX12_handOf_14 (by decide) (fun c1 => ?_) (fun c1 => ?_)
  · replace h := hT h c1
    refine AW.iload 2 dX12_handOf_29 rfl ?_
    refine AW.iload_n 1 dX12_handOf_31 rfl ?_
    obtain ⟨k2, h⟩ := hK h
    refine AW.irem dX12_handOf_32 k2 ?_
    exact AW.iret2 rfl dX12_handOf_33 h rfl
  · replace h := hF h c1
    refine AW.iload 2 dX12_handOf_17 rfl ?_
    refine AW.iload_n 1 dX12_handOf_19 rfl ?_
    obtain ⟨k3, h⟩ := hK h
    refine AW.idiv dX12_handOf_20 k3 ?_
    refine AW.istore (lv1 := [(4, iv ((nw x4).tdiv (nw x3))), (2, iv x2), (3, iv x3), (5, iv x5)]) dX12_handOf_21 (by decide) rfl ?_
    refine AW.iinc (lv1 := [(5, iv (x5 + (-1))), (4, iv ((nw x4).tdiv (nw x3))), (2, iv x2), (3, iv x3)]) 3 dX12_handOf_23 rfl (by decide) rfl ?_
    refine AW.goto (tgt := 11) dX12_handOf_26 (by decide) ?_
    refine AW.sub (lv1 := [(2, iv x2), (3, iv x3), (4, iv ((nw x4).tdiv (nw x3))), (5, iv (x5 + (-1)))]) [2, 3, 1, 0] rfl ?_
    exact ih _ _ _ h
theorem M_handOf_ok {z : AZ} {x1 : Int} {x2 : Int} {x3 : Int} {g : AG} {r : Int} (h : M_handOf x1 x2 x3 g = some r) : AMf z yX12_handOf cX12_handOf 6 (some .int) 0 [rv z 117, iv x1, iv x2, iv x3] g (r, g) := by
  intro d hdd
  refine AM.of (by decide +kernel) (Nat.le_of_ble_eq_true rfl) ?_
  show AW z (RX12, cX12_handOf, 6, (some .int)) d (QD (some .int) (r, g)) 0 [(0, rv z 117), (1, iv x1), (2, iv x2), (3, iv x3)] [] g
  unfold M_handOf at h
  refine AW.iload_n 1 dX12_handOf_0 rfl ?_
  refine AW.istore (lv1 := [(4, iv x1), (0, rv z 117), (1, iv x1), (2, iv x2), (3, iv x3)]) dX12_handOf_1 (by decide) rfl ?_
  refine AW.aloadr_n 1 dX12_handOf_3 rfl ?_
  refine AW.getI af_X12_528_117 sr_117_87 dX12_handOf_4 ?_
  refine AW.iconst dX12_handOf_7 ?_
  refine AW.isub dX12_handOf_8 ?_
  refine AW.istore (lv1 := [(5, iv ((g 117 87) - 1)), (4, iv x1), (0, rv z 117), (1, iv x1), (2, iv x2), (3, iv x3)]) dX12_handOf_9 (by decide) rfl ?_
  refine AW.sub (lv1 := [(2, iv x2), (3, iv x3), (4, iv x1), (5, iv ((g 117 87) - 1))]) [4, 5, 1, 0] rfl ?_
  exact M_handOf_b_ok hdd _ _ _ h
set_option synthInstance.maxHeartbeats 2000000 in
theorem M_turned_b_ok {z : AZ} {d : Nat} (hdd : 2 ≤ d) {x1 : Int} {x2 : Int} : ∀ (tag : Nat) (p : Int × Int × Int × Int × Int × Int) (g : AG) (r : Int × AG), M_turned_b x1 x2 tag p g = some r → (tag = 1 → AW z (RX12, cX12_turned, 9, (some .int)) d (QD (some .int) r) 36 [(0, rv z 117), (1, iv x1), (2, iv x2)] [] g) ∧ (tag = 2 → AW z (RX12, cX12_turned, 9, (some .int)) d (QD (some .int) r) 51 [(0, rv z 117), (2, iv x2), (3, iv p.1)] [] g) ∧ (tag = 3 → AW z (RX12, cX12_turned, 9, (some .int)) d (QD (some .int) r) 70 [(0, rv z 117), (1, iv x1), (2, iv x2), (4, iv p.2.1), (5, iv p.2.2.1)] [] g) ∧ (tag = 4 → AW z (RX12, cX12_turned, 9, (some .int)) d (QD (some .int) r) 100 [(0, rv z 117), (1, iv x1), (2, iv x2), (4, iv p.2.1), (5, iv p.2.2.1), (6, iv p.2.2.2.1), (7, iv p.2.2.2.2.1)] [] g) ∧ (tag = 5 → AW z (RX12, cX12_turned, 9, (some .int)) d (QD (some .int) r) 110 [(0, rv z 117), (1, iv x1), (2, iv x2), (4, iv p.2.1), (5, iv p.2.2.1), (6, iv p.2.2.2.1), (7, iv p.2.2.2.2.1), (8, iv p.2.2.2.2.2)] [] g) ∧ (tag = 6 → AW z (RX12, cX12_turned, 9, (some .int)) d (QD (some .int) r) 135 [(0, rv z 117), (1, iv x1), (2, iv x2), (4, iv p.2.1), (5, iv p.2.2.1), (6, iv p.2.2.2.1), (7, iv p.2.2.2.2.1), (8, iv p.2.2.2.2.2)] [] g) := by
  refine M_turned_b.partial_correctness x1 x2 (fun tag p g r => (tag = 1 → AW z (RX12, cX12_turned, 9, (some .int)) d (QD (some .int) r) 36 [(0, rv z 117), (1, iv x1), (2, iv x2)] [] g) ∧ (tag = 2 → AW z (RX12, cX12_turned, 9, (some .int)) d (QD (some .int) r) 51 [(0, rv z 117), (2, iv x2), (3, iv p.1)] [] g) ∧ (tag = 3 → AW z (RX12, cX12_turned, 9, (some .int)) d (QD (some .int) r) 70 [(0, rv z 117), (1, iv x1), (2, iv x2), (4, iv p.2.1), (5, iv p.2.2.1)] [] g) ∧ (tag = 4 → AW z (RX12, cX12_turned, 9, (some .int)) d (QD (some .int) r) 100 [(0, rv z 117), (1, iv x1), (2, iv x2), (4, iv p.2.1), (5, iv p.2.2.1), (6, iv p.2.2.2.1), (7, iv p.2.2.2.2.1)] [] g) ∧ (tag = 5 → AW z (RX12, cX12_turned, 9, (some .int)) d (QD (some .int) r) 110 [(0, rv z 117), (1, iv x1), (2, iv x2), (4, iv p.2.1), (5, iv p.2.2.1), (6, iv p.2.2.2.1), (7, iv p.2.2.2.2.1), (8, iv p.2.2.2.2.2)] [] g) ∧ (tag = 6 → AW z (RX12, cX12_turned, 9, (some .int)) d (QD (some .int) r) 135 [(0, rv z 117), (1, iv x1), (2, iv x2), (4, iv p.2.1), (5, iv p.2.2.1), (6, iv p.2.2.2.1), (7, iv p.2.2.2.2.1), (8, iv p.2.2.2.2.2)] [] g)) ?_
  intro fb9 ih tag p g r h
  refine ⟨fun h9 => ?_, fun h9 => ?_, fun h9 => ?_, fun h9 => ?_, fun h9 => ?_, fun h9 => ?_⟩
  · subst h9
    replace h := hT h rfl
    refine AW.aloadr_n 0 dX12_turned_36 rfl ?_
    refine AW.iload_n 1 dX12_turned_37 rfl ?_
    obtain ⟨r1, e2, h⟩ := hC h
    refine AW.callVi (As := [iv x1]) (st := []) (M_worked_ok e2) cq_X12_537 cr_117_X12_worked (Nat.le_trans (by decide) hdd) rfl dX12_turned_38 rfl (Nat.le_of_ble_eq_true rfl) ?_
    refine AW.istore_n (lv1 := [(3, iv r1.1), (0, rv z 117), (1, iv x1), (2, iv x2)]) dX12_turned_41 (by decide) rfl ?_
    refine AW.iload_n 3 dX12_turned_42 rfl ?_
    refine AW.if_eq (tgt := 51) dX12_turned_43 (by decide) (fun c3 => ?_) (fun c3 => ?_)
    · replace h := hT h c3
      refine AW.sub (lv1 := [(0, rv z 117), (2, iv x2), (3, iv r1.1)]) [1, 3, 0] rfl ?_
      exact (ih _ _ _ _ h).2.1 rfl
    · replace h := hF h c3
      refine AW.iload_n 3 dX12_turned_46 rfl ?_
      refine AW.iconst dX12_turned_47 ?_
      refine AW.icmp_ne (tgt := 64) dX12_turned_48 (by decide) (fun c4 => ?_) (fun c4 => ?_)
      · replace h := hF h c4
        refine AW.iconst dX12_turned_64 ?_
        refine AW.istore (lv1 := [(4, iv 1), (3, iv r1.1), (0, rv z 117), (1, iv x1), (2, iv x2)]) dX12_turned_65 (by decide) rfl ?_
        refine AW.iconst dX12_turned_67 ?_
        refine AW.istore (lv1 := [(5, iv 0), (4, iv 1), (3, iv r1.1), (0, rv z 117), (1, iv x1), (2, iv x2)]) dX12_turned_68 (by decide) rfl ?_
        refine AW.sub (lv1 := [(0, rv z 117), (1, iv x1), (2, iv x2), (4, iv 1), (5, iv 0)]) [3, 4, 5, 1, 0] rfl ?_
        exact (ih _ _ _ _ h).2.2.1 rfl
      · replace h := hT h c4
        refine AW.sub (lv1 := [(0, rv z 117), (2, iv x2), (3, iv r1.1)]) [1, 3, 0] rfl ?_
        exact (ih _ _ _ _ h).2.1 rfl
  · subst h9
    replace h := hF h (by decide)
    replace h := hT h rfl
    refine AW.iload_n 1 dX12_turned_51 rfl ?_
    obtain ⟨t1, e2, h⟩ := hBe h
    refine AW.join (tgt := 63) (lv1 := [(0, rv z 117), (2, iv x2), (3, iv p.1)]) (st1 := [iv t1]) (g1 := g) ?_ (fun J52 => ?_)
    · exact AW.iret1 rfl dX12_turned_63 h rfl
    refine AW.if_ne (tgt := 59) dX12_turned_52 (by decide) (fun c3 => ?_) (fun c3 => ?_)
    · refine AW.aloadr_n 0 dX12_turned_59 rfl ?_
      refine AW.getI af_X12_531_117 sr_117_90 dX12_turned_60 ?_
      exact AW.val (e2.trans (if_neg c3)) J52
    · refine AW.iload_n 2 dX12_turned_55 rfl ?_
      refine AW.goto (tgt := 63) dX12_turned_56 (by decide) ?_
      exact AW.val (e2.trans (if_pos c3)) J52
  · subst h9
    replace h := hF h (by decide)
    replace h := hF h (by decide)
    replace h := hT h rfl
    refine AW.iload 4 dX12_turned_70 rfl ?_
    refine AW.aloadr_n 0 dX12_turned_72 rfl ?_
    refine AW.getI af_X12_528_117 sr_117_87 dX12_turned_73 ?_
    refine AW.icmp_ge (tgt := 91) dX12_turned_76 (by decide) (fun c1 => ?_) (fun c1 => ?_)
    · replace h := hT h c1
      refine AW.iconst dX12_turned_91 ?_
      refine AW.istore (lv1 := [(5, iv (-1)), (0, rv z 117), (1, iv x1), (2, iv x2), (4, iv p.2.1)]) dX12_turned_92 (by decide) rfl ?_
      refine AW.iconst dX12_turned_94 ?_
      refine AW.istore (lv1 := [(6, iv 0), (5, iv (-1)), (0, rv z 117), (1, iv x1), (2, iv x2), (4, iv p.2.1)]) dX12_turned_95 (by decide) rfl ?_
      refine AW.iconst dX12_turned_97 ?_
      refine AW.istore (lv1 := [(7, iv 0), (6, iv 0), (5, iv (-1)), (0, rv z 117), (1, iv x1), (2, iv x2), (4, iv p.2.1)]) dX12_turned_98 (by decide) rfl ?_
      refine AW.sub (lv1 := [(0, rv z 117), (1, iv x1), (2, iv x2), (4, iv p.2.1), (5, iv (-1)), (6, iv 0), (7, iv 0)]) [3, 4, 5, 6, 2, 1, 0] rfl ?_
      exact (ih _ _ _ _ h).2.2.2.1 rfl
    · replace h := hF h c1
      refine AW.iload 3 dX12_turned_79 rfl ?_
      refine AW.iload_n 1 dX12_turned_81 rfl ?_
      refine AW.imul dX12_turned_82 ?_
      refine AW.istore (lv1 := [(4, iv (p.2.1 * x1)), (0, rv z 117), (1, iv x1), (2, iv x2), (5, iv p.2.2.1)]) dX12_turned_83 (by decide) rfl ?_
      refine AW.iinc (lv1 := [(5, iv (p.2.2.1 + 1)), (4, iv (p.2.1 * x1)), (0, rv z 117), (1, iv x1), (2, iv x2)]) 4 dX12_turned_85 rfl (by decide) rfl ?_
      refine AW.goto (tgt := 70) dX12_turned_88 (by decide) ?_
      refine AW.sub (lv1 := [(0, rv z 117), (1, iv x1), (2, iv x2), (4, iv (p.2.1 * x1)), (5, iv (p.2.2.1 + 1))]) [2, 3, 4, 1, 0] rfl ?_
      exact (ih _ _ _ _ h).2.2.1 rfl
  · subst h9
    replace h := hF h (by decide)
    replace h := hF h (by decide)
    replace h := hF h (by decide)
    replace h := hT h rfl
    refine AW.iload 6 dX12_turned_100 rfl ?_
    refine AW.iload 3 dX12_turned_102 rfl ?_
    refine AW.icmp_ge (tgt := 211) dX12_turned_104 (by decide) (fun c1 => ?_) (fun c1 => ?_)
    · replace h := hT h c1
      refine AW.iload_n 2 dX12_turned_211 rfl ?_
      refine AW.iconst dX12_turned_212 ?_
      obtain ⟨r5, e6, h⟩ := hC h
      refine AW.join (tgt := 232) (lv1 := []) (st1 := [iv r5.1]) (g1 := r5.2) ?_ (fun J213 => ?_)
      · exact AW.iret1 rfl dX12_turned_232 h rfl
      replace h := e6
      refine AW.icmp_ne (tgt := 221) dX12_turned_213 (by decide) (fun c2 => ?_) (fun c2 => ?_)
      · replace h := hF h c2
        refine AW.aloadr_n 0 dX12_turned_221 rfl ?_
        refine AW.iload 5 dX12_turned_222 rfl ?_
        refine AW.iload_n 2 dX12_turned_224 rfl ?_
        refine AW.bipush dX12_turned_225 (by decide) (by decide) ?_
        refine AW.isub dX12_turned_227 ?_
        refine AW.iload_n 1 dX12_turned_228 rfl ?_
        obtain ⟨r3, e4, h⟩ := hC h
        refine AW.callVi (As := [iv p.2.2.2.1, iv (x2 - 10), iv x1]) (st := []) (M_handOf_ok e4) cq_X12_540 cr_117_X12_handOf (Nat.le_trans (by decide) hdd) rfl dX12_turned_229 rfl (Nat.le_of_ble_eq_true rfl) ?_
        refine AW.sub (lv1 := []) [] rfl ?_
        cases h
        exact J213
      · replace h := hT h c2
        refine AW.iload 4 dX12_turned_216 rfl ?_
        refine AW.goto (tgt := 232) dX12_turned_218 (by decide) ?_
        refine AW.sub (lv1 := []) [] rfl ?_
        cases h
        exact J213
    · replace h := hF h c1
      refine AW.iconst dX12_turned_107 ?_
      refine AW.istore (lv1 := [(8, iv 0), (0, rv z 117), (1, iv x1), (2, iv x2), (4, iv p.2.1), (5, iv p.2.2.1), (6, iv p.2.2.2.1), (7, iv p.2.2.2.2.1)]) dX12_turned_108 (by decide) rfl ?_
      refine AW.sub (lv1 := [(0, rv z 117), (1, iv x1), (2, iv x2), (4, iv p.2.1), (5, iv p.2.2.1), (6, iv p.2.2.2.1), (7, iv p.2.2.2.2.1), (8, iv 0)]) [1, 2, 3, 4, 5, 6, 7, 0] rfl ?_
      exact (ih _ _ _ _ h).2.2.2.2.1 rfl
  · subst h9
    replace h := hF h (by decide)
    replace h := hF h (by decide)
    replace h := hF h (by decide)
    replace h := hF h (by decide)
    replace h := hT h rfl
    refine AW.iload 7 dX12_turned_110 rfl ?_
    refine AW.iload_n 1 dX12_turned_112 rfl ?_
    refine AW.icmp_ge (tgt := 132) dX12_turned_113 (by decide) (fun c1 => ?_) (fun c1 => ?_)
    · replace h := hT h c1
      refine AW.iconst dX12_turned_132 ?_
      refine AW.istore (lv1 := [(8, iv 0), (0, rv z 117), (1, iv x1), (2, iv x2), (4, iv p.2.1), (5, iv p.2.2.1), (6, iv p.2.2.2.1), (7, iv p.2.2.2.2.1)]) dX12_turned_133 (by decide) rfl ?_
      refine AW.sub (lv1 := [(0, rv z 117), (1, iv x1), (2, iv x2), (4, iv p.2.1), (5, iv p.2.2.1), (6, iv p.2.2.2.1), (7, iv p.2.2.2.2.1), (8, iv 0)]) [1, 2, 3, 4, 5, 6, 7, 0] rfl ?_
      exact (ih _ _ _ _ h).2.2.2.2.2 rfl
    · replace h := hF h c1
      refine AW.aloadr_n 0 dX12_turned_116 rfl ?_
      refine AW.getR af_X12_205_117 sr_117_89 dX12_turned_117 ?_
      refine AW.iload 7 dX12_turned_120 rfl ?_
      refine AW.sipush dX12_turned_122 (by decide) (by decide) ?_
      obtain ⟨k2, h⟩ := hK h
      obtain ⟨g3, e4, h⟩ := hBe h
      refine AW.iast kc_179 sk_179 k2 dX12_turned_125 e4 ?_
      refine AW.iinc (lv1 := [(8, iv (p.2.2.2.2.2 + 1)), (0, rv z 117), (1, iv x1), (2, iv x2), (4, iv p.2.1), (5, iv p.2.2.1), (6, iv p.2.2.2.1), (7, iv p.2.2.2.2.1)]) 7 dX12_turned_126 rfl (by decide) rfl ?_
      refine AW.goto (tgt := 110) dX12_turned_129 (by decide) ?_
      refine AW.sub (lv1 := [(0, rv z 117), (1, iv x1), (2, iv x2), (4, iv p.2.1), (5, iv p.2.2.1), (6, iv p.2.2.2.1), (7, iv p.2.2.2.2.1), (8, iv (p.2.2.2.2.2 + 1))]) [1, 2, 3, 4, 5, 6, 7, 0] rfl ?_
      exact (ih _ _ _ _ h).2.2.2.2.1 rfl
  · subst h9
    replace h := hF h (by decide)
    replace h := hF h (by decide)
    replace h := hF h (by decide)
    replace h := hF h (by decide)
    replace h := hF h (by decide)
    replace h := hT h rfl
    refine AW.iload 7 dX12_turned_135 rfl ?_
    refine AW.aloadr_n 0 dX12_turned_137 rfl ?_
    refine AW.getI af_X12_528_117 sr_117_87 dX12_turned_138 ?_
    refine AW.icmp_ge (tgt := 174) dX12_turned_141 (by decide) (fun c1 => ?_) (fun c1 => ?_)
    · replace h := hT h c1
      refine AW.aloadr_n 0 dX12_turned_174 rfl ?_
      refine AW.iload_n 1 dX12_turned_175 rfl ?_
      obtain ⟨r2, e3, h⟩ := hC h
      refine AW.callVi (As := [iv x1]) (st := []) (M_lastEnd_ok e3) cq_X12_534 cr_117_X12_lastEnd (Nat.le_trans (by decide) hdd) rfl dX12_turned_176 rfl (Nat.le_of_ble_eq_true rfl) ?_
      refine AW.istore (lv1 := [(8, iv r2), (0, rv z 117), (1, iv x1), (2, iv x2), (4, iv p.2.1), (5, iv p.2.2.1), (6, iv p.2.2.2.1), (7, iv p.2.2.2.2.1)]) dX12_turned_179 (by decide) rfl ?_
      refine AW.iload 5 dX12_turned_181 rfl ?_
      refine AW.iconst dX12_turned_183 ?_
      obtain ⟨r6, e7, h⟩ := hC h
      refine AW.join (tgt := 205) (lv1 := [(0, rv z 117), (1, iv x1), (2, iv x2), (4, iv p.2.1), (5, iv r6.1), (6, iv r6.2.1), (7, iv p.2.2.2.2.1)]) (st1 := []) (g1 := r6.2.2) ?_ (fun J184 => ?_)
      · refine AW.iinc (lv1 := [(7, iv (p.2.2.2.2.1 + 1)), (0, rv z 117), (1, iv x1), (2, iv x2), (4, iv p.2.1), (5, iv r6.1), (6, iv r6.2.1)]) 6 dX12_turned_205 rfl (by decide) rfl ?_
        refine AW.goto (tgt := 100) dX12_turned_208 (by decide) ?_
        refine AW.sub (lv1 := [(0, rv z 117), (1, iv x1), (2, iv x2), (4, iv p.2.1), (5, iv r6.1), (6, iv r6.2.1), (7, iv (p.2.2.2.2.1 + 1))]) [1, 2, 3, 4, 5, 6, 0] rfl ?_
        exact (ih _ _ _ _ h).2.2.2.1 rfl
      replace h := e7
      refine AW.icmp_eq (tgt := 197) dX12_turned_184 (by decide) (fun c4 => ?_) (fun c4 => ?_)
      · replace h := hT h c4
        refine AW.iload 0 dX12_turned_197 rfl ?_
        refine AW.istore (lv1 := [(5, iv r2), (8, iv r2), (0, rv z 117), (1, iv x1), (2, iv x2), (4, iv p.2.1), (6, iv p.2.2.2.1), (7, iv p.2.2.2.2.1)]) dX12_turned_199 (by decide) rfl ?_
        refine AW.iload 7 dX12_turned_201 rfl ?_
        refine AW.istore (lv1 := [(6, iv p.2.2.2.2.1), (5, iv r2), (8, iv r2), (0, rv z 117), (1, iv x1), (2, iv x2), (4, iv p.2.1), (7, iv p.2.2.2.2.1)]) dX12_turned_203 (by decide) rfl ?_
        refine AW.sub (lv1 := [(0, rv z 117), (1, iv x1), (2, iv x2), (4, iv p.2.1), (5, iv r2), (6, iv p.2.2.2.2.1), (7, iv p.2.2.2.2.1)]) [3, 4, 5, 6, 1, 0, 7] rfl ?_
        cases h
        exact J184
      · replace h := hF h c4
        refine AW.iload 0 dX12_turned_187 rfl ?_
        refine AW.iload 5 dX12_turned_189 rfl ?_
        refine AW.icmp_lt (tgt := 197) dX12_turned_191 (by decide) (fun c5 => ?_) (fun c5 => ?_)
        · replace h := hT h c5
          refine AW.iload 0 dX12_turned_197 rfl ?_
          refine AW.istore (lv1 := [(5, iv r2), (8, iv r2), (0, rv z 117), (1, iv x1), (2, iv x2), (4, iv p.2.1), (6, iv p.2.2.2.1), (7, iv p.2.2.2.2.1)]) dX12_turned_199 (by decide) rfl ?_
          refine AW.iload 7 dX12_turned_201 rfl ?_
          refine AW.istore (lv1 := [(6, iv p.2.2.2.2.1), (5, iv r2), (8, iv r2), (0, rv z 117), (1, iv x1), (2, iv x2), (4, iv p.2.1), (7, iv p.2.2.2.2.1)]) dX12_turned_203 (by decide) rfl ?_
          refine AW.sub (lv1 := [(0, rv z 117), (1, iv x1), (2, iv x2), (4, iv p.2.1), (5, iv r2), (6, iv p.2.2.2.2.1), (7, iv p.2.2.2.2.1)]) [3, 4, 5, 6, 1, 0, 7] rfl ?_
          cases h
          exact J184
        · replace h := hF h c5
          refine AW.goto (tgt := 205) dX12_turned_194 (by decide) ?_
          refine AW.sub (lv1 := [(0, rv z 117), (1, iv x1), (2, iv x2), (4, iv p.2.1), (5, iv p.2.2.1), (6, iv p.2.2.2.1), (7, iv p.2.2.2.2.1)]) [1, 2, 3, 4, 5, 6, 7] rfl ?_
          cases h
          exact J184
    · replace h := hF h c1
      refine AW.aloadr_n 0 dX12_turned_144 rfl ?_
      refine AW.getR af_X12_205_117 sr_117_89 dX12_turned_145 ?_
      refine AW.aloadr_n 0 dX12_turned_148 rfl ?_
      refine AW.iload 6 dX12_turned_149 rfl ?_
      refine AW.iload 7 dX12_turned_151 rfl ?_
      refine AW.iload_n 1 dX12_turned_153 rfl ?_
      obtain ⟨r8, e9, h⟩ := hC h
      refine AW.callVi (As := [iv p.2.2.2.2.1, iv p.2.2.2.2.2, iv x1]) (st := [rv z 179]) (M_handOf_ok e9) cq_X12_540 cr_117_X12_handOf (Nat.le_trans (by decide) hdd) rfl dX12_turned_154 rfl (Nat.le_of_ble_eq_true rfl) ?_
      refine AW.dup2r dX12_turned_157 ?_
      obtain ⟨k10, h⟩ := hK h
      refine AW.iald kc_179 sk_179 k10 dX12_turned_158 ?_
      refine AW.aloadr_n 0 dX12_turned_159 rfl ?_
      refine AW.getR af_X12_202_117 sr_117_88 dX12_turned_160 ?_
      refine AW.iload 7 dX12_turned_163 rfl ?_
      obtain ⟨k11, h⟩ := hK h
      refine AW.iald kc_178 sk_178 k11 dX12_turned_165 ?_
      refine AW.iadd dX12_turned_166 ?_
      obtain ⟨g12, e13, h⟩ := hBe h
      refine AW.iast kc_179 sk_179 k10 dX12_turned_167 e13 ?_
      refine AW.iinc (lv1 := [(8, iv (p.2.2.2.2.2 + 1)), (0, rv z 117), (1, iv x1), (2, iv x2), (4, iv p.2.1), (5, iv p.2.2.1), (6, iv p.2.2.2.1), (7, iv p.2.2.2.2.1)]) 7 dX12_turned_168 rfl (by decide) rfl ?_
      refine AW.goto (tgt := 135) dX12_turned_171 (by decide) ?_
      refine AW.sub (lv1 := [(0, rv z 117), (1, iv x1), (2, iv x2), (4, iv p.2.1), (5, iv p.2.2.1), (6, iv p.2.2.2.1), (7, iv p.2.2.2.2.1), (8, iv (p.2.2.2.2.2 + 1))]) [1, 2, 3, 4, 5, 6, 7, 0] rfl ?_
      exact (ih _ _ _ _ h).2.2.2.2.2 rfl
theorem M_turned_ok {z : AZ} {x1 : Int} {x2 : Int} {g : AG} {r : Int × AG} (h : M_turned x1 x2 g = some r) : AMf z yX12_turned cX12_turned 9 (some .int) 2 [rv z 117, iv x1, iv x2] g r := by
  intro d hdd
  refine AM.of (by decide +kernel) (Nat.le_of_ble_eq_true rfl) ?_
  show AW z (RX12, cX12_turned, 9, (some .int)) d (QD (some .int) r) 0 [(0, rv z 117), (1, iv x1), (2, iv x2)] [] g
  unfold M_turned at h
  refine AW.iload_n 1 dX12_turned_0 rfl ?_
  refine AW.iconst dX12_turned_1 ?_
  refine AW.iconst dX12_turned_2 ?_
  refine AW.callSi (As := [iv x1, iv 1, iv 3]) (st := []) M_isIn_ok cq_X12_3 st_X12_isIn (Nat.le_trans (by decide) hdd) rfl dX12_turned_3 rfl (Nat.le_of_ble_eq_true rfl) ?_
  refine AW.if_eq (tgt := 34) dX12_turned_6 (by decide) (fun c1 => ?_) (fun c1 => ?_)
  · replace h := hT h c1
    refine AW.iconst dX12_turned_34 ?_
    exact AW.iret1 rfl dX12_turned_35 h rfl
  · replace h := hF h c1
    refine AW.iload_n 2 dX12_turned_9 rfl ?_
    refine AW.iconst dX12_turned_10 ?_
    refine AW.iconst dX12_turned_11 ?_
    refine AW.callSi (As := [iv x2, iv 0, iv 2]) (st := []) M_isIn_ok cq_X12_3 st_X12_isIn (Nat.le_trans (by decide) hdd) rfl dX12_turned_12 rfl (Nat.le_of_ble_eq_true rfl) ?_
    refine AW.if_ne (tgt := 36) dX12_turned_15 (by decide) (fun c2 => ?_) (fun c2 => ?_)
    · replace h := hF h c2
      exact (M_turned_b_ok hdd _ _ _ _ h).1 rfl
    · replace h := hT h c2
      refine AW.iload_n 2 dX12_turned_18 rfl ?_
      refine AW.bipush dX12_turned_19 (by decide) (by decide) ?_
      refine AW.bipush dX12_turned_21 (by decide) (by decide) ?_
      refine AW.aloadr_n 0 dX12_turned_23 rfl ?_
      refine AW.getI af_X12_528_117 sr_117_87 dX12_turned_24 ?_
      refine AW.iadd dX12_turned_27 ?_
      refine AW.callSi (As := [iv x2, iv 10, iv (9 + (g 117 87))]) (st := []) M_isIn_ok cq_X12_3 st_X12_isIn (Nat.le_trans (by decide) hdd) rfl dX12_turned_28 rfl (Nat.le_of_ble_eq_true rfl) ?_
      refine AW.if_ne (tgt := 36) dX12_turned_31 (by decide) (fun c3 => ?_) (fun c3 => ?_)
      · replace h := hF h c3
        exact (M_turned_b_ok hdd _ _ _ _ h).1 rfl
      · replace h := hT h c3
        refine AW.iconst dX12_turned_34 ?_
        exact AW.iret1 rfl dX12_turned_35 h rfl
theorem M_weight_ok {z : AZ} {x1 : Int} {x2 : Int} {g : AG} {r : Int × AG} (h : M_weight x1 x2 g = some r) : AMf z yX12_weight cX12_weight 3 (some .boolean) 2 [rv z 117, iv x1, iv x2] g r := by
  intro d hdd
  refine AM.of (by decide +kernel) (Nat.le_of_ble_eq_true rfl) ?_
  show AW z (RX12, cX12_weight, 3, (some .boolean)) d (QD (some .boolean) r) 0 [(0, rv z 117), (1, iv x1), (2, iv x2)] [] g
  unfold M_weight at h
  refine AW.iload_n 1 dX12_weight_0 rfl ?_
  refine AW.callSi (As := [iv x1]) (st := []) M_isPoint_ok cq_X12_238 st_X12_isPoint (Nat.le_trans (by decide) hdd) rfl dX12_weight_1 rfl (Nat.le_of_ble_eq_true rfl) ?_
  refine AW.if_eq (tgt := 17) dX12_weight_4 (by decide) (fun c1 => ?_) (fun c1 => ?_)
  · replace h := hT h c1
    refine AW.iconst dX12_weight_17 ?_
    exact AW.zret1 rfl (Or.inl rfl) dX12_weight_18 h rfl
  · replace h := hF h c1
    refine AW.iload_n 2 dX12_weight_7 rfl ?_
    refine AW.iconst dX12_weight_8 ?_
    refine AW.bipush dX12_weight_9 (by decide) (by decide) ?_
    refine AW.callSi (As := [iv x2, iv 0, iv 99]) (st := []) M_isIn_ok cq_X12_3 st_X12_isIn (Nat.le_trans (by decide) hdd) rfl dX12_weight_11 rfl (Nat.le_of_ble_eq_true rfl) ?_
    refine AW.if_ne (tgt := 19) dX12_weight_14 (by decide) (fun c2 => ?_) (fun c2 => ?_)
    · replace h := hF h c2
      refine AW.aloadr_n 0 dX12_weight_19 rfl ?_
      refine AW.getR af_X12_208_117 sr_117_91 dX12_weight_20 ?_
      refine AW.iload_n 1 dX12_weight_23 rfl ?_
      refine AW.iload_n 2 dX12_weight_24 rfl ?_
      obtain ⟨k3, h⟩ := hK h
      obtain ⟨g4, e5, h⟩ := hBe h
      refine AW.iast kc_180 sk_180 k3 dX12_weight_25 e5 ?_
      refine AW.iconst dX12_weight_26 ?_
      exact AW.zret1 rfl (Or.inr rfl) dX12_weight_27 h rfl
    · replace h := hT h c2
      refine AW.iconst dX12_weight_17 ?_
      exact AW.zret1 rfl (Or.inl rfl) dX12_weight_18 h rfl
set_option synthInstance.maxHeartbeats 2000000 in
theorem M_drive_b_ok {z : AZ} {d : Nat} (hdd : 0 ≤ d) {x1 : Int} {x2 : Int} {g : AG} : ∀ (x3 : Int) (x4 : Int) (r : Int), M_drive_b x1 x2 g x3 x4 = some r → AW z (RX12, cX12_drive, 5, (some .int)) d (QD (some .int) (r, g)) 14 [(0, rv z 117), (1, iv x1), (2, iv x2), (3, iv x3), (4, iv x4)] [] g := by
  refine M_drive_b.partial_correctness x1 x2 g (fun x3 x4 r => AW z (RX12, cX12_drive, 5, (some .int)) d (QD (some .int) (r, g)) 14 [(0, rv z 117), (1, iv x1), (2, iv x2), (3, iv x3), (4, iv x4)] [] g) ?_
  intro fb9 ih x3 x4 r h
  refine AW.iload 4 dX12_drive_14 rfl ?_
  refine AW.iload_n 1 dX12_drive_16 rfl ?_
  refine AW.iload_n 2 dX12_drive_17 rfl ?_
  obtain ⟨t1, e2, h⟩ := hBe h
  refine AW.join (tgt := 26) (lv1 := [(0, rv z 117), (1, iv x1), (2, iv x2), (3, iv x3), (4, iv x4)]) (st1 := [iv t1, iv x4]) (g1 := g) ?_ (fun J18 => ?_)
  · refine AW.icmp_ge (tgt := 45) dX12_drive_26 (by decide) (fun c3 => ?_) (fun c3 => ?_)
    · replace h := hT h c3
      refine AW.iload_n 3 dX12_drive_45 rfl ?_
      exact AW.iret2 rfl dX12_drive_46 h rfl
    · replace h := hF h c3
      refine AW.iload_n 3 dX12_drive_29 rfl ?_
      refine AW.aloadr_n 0 dX12_drive_30 rfl ?_
      refine AW.getR af_X12_20_117 sr_117_2 dX12_drive_31 ?_
      refine AW.iload 4 dX12_drive_34 rfl ?_
      obtain ⟨k4, h⟩ := hK h
      refine AW.iald kc_120 sk_120 k4 dX12_drive_36 ?_
      refine AW.iadd dX12_drive_37 ?_
      refine AW.istore_n (lv1 := [(3, iv (x3 + (g 120 (ix x4)))), (0, rv z 117), (1, iv x1), (2, iv x2), (4, iv x4)]) dX12_drive_38 (by decide) rfl ?_
      refine AW.iinc (lv1 := [(4, iv (x4 + 1)), (3, iv (x3 + (g 120 (ix x4)))), (0, rv z 117), (1, iv x1), (2, iv x2)]) 4 dX12_drive_39 rfl (by decide) rfl ?_
      refine AW.goto (tgt := 14) dX12_drive_42 (by decide) ?_
      refine AW.sub (lv1 := [(0, rv z 117), (1, iv x1), (2, iv x2), (3, iv (x3 + (g 120 (ix x4)))), (4, iv (x4 + 1))]) [2, 3, 4, 1, 0] rfl ?_
      exact ih _ _ _ h
  refine AW.icmp_ge (tgt := 25) dX12_drive_18 (by decide) (fun c5 => ?_) (fun c5 => ?_)
  · refine AW.iload_n 1 dX12_drive_25 rfl ?_
    exact AW.val (e2.trans (if_pos c5)) J18
  · refine AW.iload_n 2 dX12_drive_21 rfl ?_
    refine AW.goto (tgt := 26) dX12_drive_22 (by decide) ?_
    exact AW.val (e2.trans (if_neg c5)) J18
theorem M_drive_ok {z : AZ} {x1 : Int} {x2 : Int} {g : AG} {r : Int} (h : M_drive x1 x2 g = some r) : AMf z yX12_drive cX12_drive 5 (some .int) 0 [rv z 117, iv x1, iv x2] g (r, g) := by
  intro d hdd
  refine AM.of (by decide +kernel) (Nat.le_of_ble_eq_true rfl) ?_
  show AW z (RX12, cX12_drive, 5, (some .int)) d (QD (some .int) (r, g)) 0 [(0, rv z 117), (1, iv x1), (2, iv x2)] [] g
  unfold M_drive at h
  refine AW.iconst dX12_drive_0 ?_
  refine AW.istore_n (lv1 := [(3, iv 0), (0, rv z 117), (1, iv x1), (2, iv x2)]) dX12_drive_1 (by decide) rfl ?_
  refine AW.iload_n 2 dX12_drive_2 rfl ?_
  refine AW.iload_n 3 dX12_drive_3 rfl ?_
  obtain ⟨t1, e2, h⟩ := hBe h
  refine AW.join (tgt := 12) (lv1 := [(3, iv 0), (0, rv z 117), (1, iv x1), (2, iv x2)]) (st1 := [iv t1]) (g1 := g) ?_ (fun J4 => ?_)
  · refine AW.istore (lv1 := [(4, iv t1), (3, iv 0), (0, rv z 117), (1, iv x1), (2, iv x2)]) dX12_drive_12 (by decide) rfl ?_
    refine AW.sub (lv1 := [(0, rv z 117), (1, iv x1), (2, iv x2), (3, iv 0), (4, iv t1)]) [2, 3, 4, 1, 0] rfl ?_
    exact M_drive_b_ok hdd _ _ _ h
  refine AW.icmp_ge (tgt := 11) dX12_drive_4 (by decide) (fun c3 => ?_) (fun c3 => ?_)
  · refine AW.iload_n 3 dX12_drive_11 rfl ?_
    exact AW.val (e2.trans (if_pos c3)) J4
  · refine AW.iload_n 2 dX12_drive_7 rfl ?_
    refine AW.goto (tgt := 12) dX12_drive_8 (by decide) ?_
    exact AW.val (e2.trans (if_neg c3)) J4
set_option synthInstance.maxHeartbeats 2000000 in
theorem M_worstOf_b_ok {z : AZ} {d : Nat} (hdd : 1 ≤ d) {x1 : Int} {g : AG} : ∀ (x2 : Int) (x3 : Int) (r : Int), M_worstOf_b x1 g x2 x3 = some r → AW z (RX12, cX12_worstOf, 4, (some .int)) d (QD (some .int) (r, g)) 4 [(0, rv z 117), (1, iv x1), (2, iv x2), (3, iv x3)] [] g := by
  refine M_worstOf_b.partial_correctness x1 g (fun x2 x3 r => AW z (RX12, cX12_worstOf, 4, (some .int)) d (QD (some .int) (r, g)) 4 [(0, rv z 117), (1, iv x1), (2, iv x2), (3, iv x3)] [] g) ?_
  intro fb9 ih x2 x3 r h
  refine AW.iload_n 3 dX12_worstOf_4 rfl ?_
  refine AW.bipush dX12_worstOf_5 (by decide) (by decide) ?_
  refine AW.icmp_ge (tgt := 46) dX12_worstOf_7 (by decide) (fun c1 => ?_) (fun c1 => ?_)
  · replace h := hT h c1
    refine AW.iload_n 2 dX12_worstOf_46 rfl ?_
    exact AW.iret2 rfl dX12_worstOf_47 h rfl
  · replace h := hF h c1
    refine AW.aloadr_n 0 dX12_worstOf_10 rfl ?_
    refine AW.getR af_X12_208_117 sr_117_91 dX12_worstOf_11 ?_
    refine AW.iload_n 3 dX12_worstOf_14 rfl ?_
    obtain ⟨k2, h⟩ := hK h
    refine AW.iald kc_180 sk_180 k2 dX12_worstOf_15 ?_
    obtain ⟨r9, e10, h⟩ := hC h
    refine AW.join (tgt := 39) (lv1 := [(0, rv z 117), (1, iv x1), (3, iv x3)]) (st1 := [iv r9]) (g1 := g) ?_ (fun J16 => ?_)
    · refine AW.istore_n (lv1 := [(2, iv r9), (0, rv z 117), (1, iv x1), (3, iv x3)]) dX12_worstOf_39 (by decide) rfl ?_
      refine AW.iinc (lv1 := [(3, iv (x3 + 1)), (2, iv r9), (0, rv z 117), (1, iv x1)]) 3 dX12_worstOf_40 rfl (by decide) rfl ?_
      refine AW.goto (tgt := 4) dX12_worstOf_43 (by decide) ?_
      refine AW.sub (lv1 := [(0, rv z 117), (1, iv x1), (2, iv r9), (3, iv (x3 + 1))]) [2, 3, 1, 0] rfl ?_
      exact ih _ _ _ h
    replace h := e10
    refine AW.if_le (tgt := 38) dX12_worstOf_16 (by decide) (fun c3 => ?_) (fun c3 => ?_)
    · replace h := hT h c3
      refine AW.iload_n 2 dX12_worstOf_38 rfl ?_
      refine AW.sub (lv1 := [(0, rv z 117), (1, iv x1), (3, iv x3)]) [0, 1, 3] rfl ?_
      cases h
      exact J16
    · replace h := hF h c3
      refine AW.aloadr_n 0 dX12_worstOf_19 rfl ?_
      refine AW.iload_n 1 dX12_worstOf_20 rfl ?_
      refine AW.iload_n 3 dX12_worstOf_21 rfl ?_
      obtain ⟨r4, e5, h⟩ := hC h
      refine AW.callVi (As := [iv x1, iv x3]) (st := []) (M_drive_ok e5) cq_X12_543 cr_117_X12_drive (Nat.le_trans (by decide) hdd) rfl dX12_worstOf_22 rfl (Nat.le_of_ble_eq_true rfl) ?_
      refine AW.iload_n 2 dX12_worstOf_25 rfl ?_
      refine AW.icmp_le (tgt := 38) dX12_worstOf_26 (by decide) (fun c6 => ?_) (fun c6 => ?_)
      · replace h := hT h c6
        refine AW.iload_n 2 dX12_worstOf_38 rfl ?_
        refine AW.sub (lv1 := [(0, rv z 117), (1, iv x1), (3, iv x3)]) [0, 1, 3] rfl ?_
        cases h
        exact J16
      · replace h := hF h c6
        refine AW.aloadr_n 0 dX12_worstOf_29 rfl ?_
        refine AW.iload_n 1 dX12_worstOf_30 rfl ?_
        refine AW.iload_n 3 dX12_worstOf_31 rfl ?_
        obtain ⟨r7, e8, h⟩ := hC h
        refine AW.callVi (As := [iv x1, iv x3]) (st := []) (M_drive_ok e8) cq_X12_543 cr_117_X12_drive (Nat.le_trans (by decide) hdd) rfl dX12_worstOf_32 rfl (Nat.le_of_ble_eq_true rfl) ?_
        refine AW.goto (tgt := 39) dX12_worstOf_35 (by decide) ?_
        refine AW.sub (lv1 := [(0, rv z 117), (1, iv x1), (3, iv x3)]) [0, 1, 3] rfl ?_
        cases h
        exact J16
theorem M_worstOf_ok {z : AZ} {x1 : Int} {g : AG} {r : Int} (h : M_worstOf x1 g = some r) : AMf z yX12_worstOf cX12_worstOf 4 (some .int) 1 [rv z 117, iv x1] g (r, g) := by
  intro d hdd
  refine AM.of (by decide +kernel) (Nat.le_of_ble_eq_true rfl) ?_
  show AW z (RX12, cX12_worstOf, 4, (some .int)) d (QD (some .int) (r, g)) 0 [(0, rv z 117), (1, iv x1)] [] g
  unfold M_worstOf at h
  refine AW.iconst dX12_worstOf_0 ?_
  refine AW.istore_n (lv1 := [(2, iv 0), (0, rv z 117), (1, iv x1)]) dX12_worstOf_1 (by decide) rfl ?_
  refine AW.iconst dX12_worstOf_2 ?_
  refine AW.istore_n (lv1 := [(3, iv 0), (2, iv 0), (0, rv z 117), (1, iv x1)]) dX12_worstOf_3 (by decide) rfl ?_
  refine AW.sub (lv1 := [(0, rv z 117), (1, iv x1), (2, iv 0), (3, iv 0)]) [2, 3, 1, 0] rfl ?_
  exact M_worstOf_b_ok hdd _ _ _ h
set_option synthInstance.maxHeartbeats 2000000 in
theorem M_sumOf_b_ok {z : AZ} {d : Nat} (hdd : 1 ≤ d) {x1 : Int} {g : AG} : ∀ (x2 : Int) (x3 : Int) (r : Int), M_sumOf_b x1 g x2 x3 = some r → AW z (RX12, cX12_sumOf, 4, (some .int)) d (QD (some .int) (r, g)) 4 [(0, rv z 117), (1, iv x1), (2, iv x2), (3, iv x3)] [] g := by
  refine M_sumOf_b.partial_correctness x1 g (fun x2 x3 r => AW z (RX12, cX12_sumOf, 4, (some .int)) d (QD (some .int) (r, g)) 4 [(0, rv z 117), (1, iv x1), (2, iv x2), (3, iv x3)] [] g) ?_
  intro fb9 ih x2 x3 r h
  refine AW.iload_n 3 dX12_sumOf_4 rfl ?_
  refine AW.bipush dX12_sumOf_5 (by decide) (by decide) ?_
  refine AW.icmp_ge (tgt := 32) dX12_sumOf_7 (by decide) (fun c1 => ?_) (fun c1 => ?_)
  · replace h := hT h c1
    refine AW.iload_n 2 dX12_sumOf_32 rfl ?_
    exact AW.iret2 rfl dX12_sumOf_33 h rfl
  · replace h := hF h c1
    refine AW.iload_n 2 dX12_sumOf_10 rfl ?_
    refine AW.aloadr_n 0 dX12_sumOf_11 rfl ?_
    refine AW.getR af_X12_208_117 sr_117_91 dX12_sumOf_12 ?_
    refine AW.iload_n 3 dX12_sumOf_15 rfl ?_
    obtain ⟨k2, h⟩ := hK h
    refine AW.iald kc_180 sk_180 k2 dX12_sumOf_16 ?_
    refine AW.aloadr_n 0 dX12_sumOf_17 rfl ?_
    refine AW.iload_n 1 dX12_sumOf_18 rfl ?_
    refine AW.iload_n 3 dX12_sumOf_19 rfl ?_
    obtain ⟨r3, e4, h⟩ := hC h
    refine AW.callVi (As := [iv x1, iv x3]) (st := [iv (g 180 (ix x3)), iv x2]) (M_drive_ok e4) cq_X12_543 cr_117_X12_drive (Nat.le_trans (by decide) hdd) rfl dX12_sumOf_20 rfl (Nat.le_of_ble_eq_true rfl) ?_
    refine AW.imul dX12_sumOf_23 ?_
    refine AW.iadd dX12_sumOf_24 ?_
    refine AW.istore_n (lv1 := [(2, iv (x2 + ((g 180 (ix x3)) * r3))), (0, rv z 117), (1, iv x1), (3, iv x3)]) dX12_sumOf_25 (by decide) rfl ?_
    refine AW.iinc (lv1 := [(3, iv (x3 + 1)), (2, iv (x2 + ((g 180 (ix x3)) * r3))), (0, rv z 117), (1, iv x1)]) 3 dX12_sumOf_26 rfl (by decide) rfl ?_
    refine AW.goto (tgt := 4) dX12_sumOf_29 (by decide) ?_
    refine AW.sub (lv1 := [(0, rv z 117), (1, iv x1), (2, iv (x2 + ((g 180 (ix x3)) * r3))), (3, iv (x3 + 1))]) [2, 3, 1, 0] rfl ?_
    exact ih _ _ _ h
theorem M_sumOf_ok {z : AZ} {x1 : Int} {g : AG} {r : Int} (h : M_sumOf x1 g = some r) : AMf z yX12_sumOf cX12_sumOf 4 (some .int) 1 [rv z 117, iv x1] g (r, g) := by
  intro d hdd
  refine AM.of (by decide +kernel) (Nat.le_of_ble_eq_true rfl) ?_
  show AW z (RX12, cX12_sumOf, 4, (some .int)) d (QD (some .int) (r, g)) 0 [(0, rv z 117), (1, iv x1)] [] g
  unfold M_sumOf at h
  refine AW.iconst dX12_sumOf_0 ?_
  refine AW.istore_n (lv1 := [(2, iv 0), (0, rv z 117), (1, iv x1)]) dX12_sumOf_1 (by decide) rfl ?_
  refine AW.iconst dX12_sumOf_2 ?_
  refine AW.istore_n (lv1 := [(3, iv 0), (2, iv 0), (0, rv z 117), (1, iv x1)]) dX12_sumOf_3 (by decide) rfl ?_
  refine AW.sub (lv1 := [(0, rv z 117), (1, iv x1), (2, iv 0), (3, iv 0)]) [2, 3, 1, 0] rfl ?_
  exact M_sumOf_b_ok hdd _ _ _ h
