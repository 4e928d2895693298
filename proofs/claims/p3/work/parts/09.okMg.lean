set_option synthInstance.maxHeartbeats 2000000 in
theorem M_van_b_ok {z : AZ} {d : Nat} (hdd : 2 ≤ d) {x1 : Int} {g : AG} : ∀ (x2 : Int) (x3 : Int) (r : Int), M_van_b x1 g x2 x3 = some r → AW z (RX12, cX12_van, 4, (some .int)) d (QD (some .int) (r, g)) 58 [(0, rv z 117), (1, iv x1), (2, iv x2), (3, iv x3)] [] g := by
  refine M_van_b.partial_correctness x1 g (fun x2 x3 r => AW z (RX12, cX12_van, 4, (some .int)) d (QD (some .int) (r, g)) 58 [(0, rv z 117), (1, iv x1), (2, iv x2), (3, iv x3)] [] g) ?_
  intro fb9 ih x2 x3 r h
  refine AW.iload_n 3 dX12_van_58 rfl ?_
  refine AW.bipush dX12_van_59 (by decide) (by decide) ?_
  refine AW.icmp_ge (tgt := 89) dX12_van_61 (by decide) (fun c1 => ?_) (fun c1 => ?_)
  · replace h := hT h c1
    refine AW.iload_n 1 dX12_van_89 rfl ?_
    obtain ⟨r8, e9, h⟩ := hC h
    refine AW.join (tgt := 115) (lv1 := []) (st1 := [iv r8]) (g1 := g) ?_ (fun J90 => ?_)
    · exact AW.iret2 rfl dX12_van_115 h rfl
    replace h := e9
    refine AW.if_ne (tgt := 97) dX12_van_90 (by decide) (fun c2 => ?_) (fun c2 => ?_)
    · replace h := hF h c2
      refine AW.iload_n 1 dX12_van_97 rfl ?_
      refine AW.iconst dX12_van_98 ?_
      refine AW.icmp_ne (tgt := 110) dX12_van_99 (by decide) (fun c3 => ?_) (fun c3 => ?_)
      · replace h := hF h c3
        refine AW.aloadr_n 0 dX12_van_110 rfl ?_
        refine AW.iload_n 2 dX12_van_111 rfl ?_
        obtain ⟨r4, e5, h⟩ := hC h
        refine AW.callVi (As := [iv x2]) (st := []) (M_worstOf_ok e5) cq_X12_549 cr_117_X12_worstOf (Nat.le_trans (by decide) hdd) rfl dX12_van_112 rfl (Nat.le_of_ble_eq_true rfl) ?_
        refine AW.sub (lv1 := []) [] rfl ?_
        cases h
        exact J90
      · replace h := hT h c3
        refine AW.aloadr_n 0 dX12_van_102 rfl ?_
        refine AW.iload_n 2 dX12_van_103 rfl ?_
        obtain ⟨r6, e7, h⟩ := hC h
        refine AW.callVi (As := [iv x2]) (st := []) (M_sumOf_ok e7) cq_X12_546 cr_117_X12_sumOf (Nat.le_trans (by decide) hdd) rfl dX12_van_104 rfl (Nat.le_of_ble_eq_true rfl) ?_
        refine AW.goto (tgt := 115) dX12_van_107 (by decide) ?_
        refine AW.sub (lv1 := []) [] rfl ?_
        cases h
        exact J90
    · replace h := hT h c2
      refine AW.iload_n 2 dX12_van_93 rfl ?_
      refine AW.goto (tgt := 115) dX12_van_94 (by decide) ?_
      refine AW.sub (lv1 := []) [] rfl ?_
      cases h
      exact J90
  · replace h := hF h c1
    refine AW.aloadr_n 0 dX12_van_64 rfl ?_
    refine AW.iload_n 3 dX12_van_65 rfl ?_
    obtain ⟨r10, e11, h⟩ := hC h
    refine AW.callVi (As := [iv x3]) (st := []) (M_sumOf_ok e11) cq_X12_546 cr_117_X12_sumOf (Nat.le_trans (by decide) hdd) rfl dX12_van_66 rfl (Nat.le_of_ble_eq_true rfl) ?_
    refine AW.aloadr_n 0 dX12_van_69 rfl ?_
    refine AW.iload_n 2 dX12_van_70 rfl ?_
    obtain ⟨r12, e13, h⟩ := hC h
    refine AW.callVi (As := [iv x2]) (st := [iv r10]) (M_sumOf_ok e13) cq_X12_546 cr_117_X12_sumOf (Nat.le_trans (by decide) hdd) rfl dX12_van_71 rfl (Nat.le_of_ble_eq_true rfl) ?_
    obtain ⟨t14, e15, h⟩ := hBe h
    refine AW.join (tgt := 82) (lv1 := [(0, rv z 117), (1, iv x1), (2, iv x2), (3, iv x3)]) (st1 := [iv t14]) (g1 := g) ?_ (fun J74 => ?_)
    · refine AW.istore_n (lv1 := [(2, iv t14), (0, rv z 117), (1, iv x1), (3, iv x3)]) dX12_van_82 (by decide) rfl ?_
      refine AW.iinc (lv1 := [(3, iv (x3 + 1)), (2, iv t14), (0, rv z 117), (1, iv x1)]) 3 dX12_van_83 rfl (by decide) rfl ?_
      refine AW.goto (tgt := 58) dX12_van_86 (by decide) ?_
      refine AW.sub (lv1 := [(0, rv z 117), (1, iv x1), (2, iv t14), (3, iv (x3 + 1))]) [2, 3, 1, 0] rfl ?_
      exact ih _ _ _ h
    refine AW.icmp_ge (tgt := 81) dX12_van_74 (by decide) (fun c16 => ?_) (fun c16 => ?_)
    · refine AW.iload_n 2 dX12_van_81 rfl ?_
      exact AW.val (e15.trans (if_pos c16)) J74
    · refine AW.iload_n 3 dX12_van_77 rfl ?_
      refine AW.goto (tgt := 82) dX12_van_78 (by decide) ?_
      exact AW.val (e15.trans (if_neg c16)) J74
theorem M_van_ok {z : AZ} {x1 : Int} {g : AG} {r : Int} (h : M_van x1 g = some r) : AMf z yX12_van cX12_van 4 (some .int) 2 [rv z 117, iv x1] g (r, g) := by
  intro d hdd
  refine AM.of (by decide +kernel) (Nat.le_of_ble_eq_true rfl) ?_
  show AW z (RX12, cX12_van, 4, (some .int)) d (QD (some .int) (r, g)) 0 [(0, rv z 117), (1, iv x1)] [] g
  unfold M_van at h
  refine AW.iload_n 1 dX12_van_0 rfl ?_
  refine AW.bipush dX12_van_1 (by decide) (by decide) ?_
  refine AW.bipush dX12_van_3 (by decide) (by decide) ?_
  refine AW.callSi (As := [iv x1, iv 100, iv 115]) (st := []) M_isIn_ok cq_X12_3 st_X12_isIn (Nat.le_trans (by decide) hdd) rfl dX12_van_5 rfl (Nat.le_of_ble_eq_true rfl) ?_
  refine AW.if_eq (tgt := 20) dX12_van_8 (by decide) (fun c1 => ?_) (fun c1 => ?_)
  · replace h := hT h c1
    refine AW.iload_n 1 dX12_van_20 rfl ?_
    refine AW.sipush dX12_van_21 (by decide) (by decide) ?_
    refine AW.sipush dX12_van_24 (by decide) (by decide) ?_
    refine AW.callSi (As := [iv x1, iv 200, iv 215]) (st := []) M_isIn_ok cq_X12_3 st_X12_isIn (Nat.le_trans (by decide) hdd) rfl dX12_van_27 rfl (Nat.le_of_ble_eq_true rfl) ?_
    refine AW.if_eq (tgt := 43) dX12_van_30 (by decide) (fun c2 => ?_) (fun c2 => ?_)
    · replace h := hT h c2
      refine AW.iload_n 1 dX12_van_43 rfl ?_
      refine AW.iconst dX12_van_44 ?_
      refine AW.iconst dX12_van_45 ?_
      refine AW.callSi (As := [iv x1, iv 0, iv 2]) (st := []) M_isIn_ok cq_X12_3 st_X12_isIn (Nat.le_trans (by decide) hdd) rfl dX12_van_46 rfl (Nat.le_of_ble_eq_true rfl) ?_
      refine AW.if_ne (tgt := 54) dX12_van_49 (by decide) (fun c3 => ?_) (fun c3 => ?_)
      · replace h := hF h c3
        refine AW.iconst dX12_van_54 ?_
        refine AW.istore_n (lv1 := [(2, iv 0), (0, rv z 117), (1, iv x1)]) dX12_van_55 (by decide) rfl ?_
        refine AW.iconst dX12_van_56 ?_
        refine AW.istore_n (lv1 := [(3, iv 1), (2, iv 0), (0, rv z 117), (1, iv x1)]) dX12_van_57 (by decide) rfl ?_
        refine AW.sub (lv1 := [(0, rv z 117), (1, iv x1), (2, iv 0), (3, iv 1)]) [2, 3, 1, 0] rfl ?_
        exact M_van_b_ok hdd _ _ _ h
      · replace h := hT h c3
        refine AW.iconst dX12_van_52 ?_
        exact AW.iret2 rfl dX12_van_53 h rfl
    · replace h := hF h c2
      refine AW.aloadr_n 0 dX12_van_33 rfl ?_
      refine AW.iload_n 1 dX12_van_34 rfl ?_
      refine AW.sipush dX12_van_35 (by decide) (by decide) ?_
      refine AW.isub dX12_van_38 ?_
      obtain ⟨r4, e5, h⟩ := hC h
      refine AW.callVi (As := [iv (x1 - 200)]) (st := []) (M_worstOf_ok e5) cq_X12_549 cr_117_X12_worstOf (Nat.le_trans (by decide) hdd) rfl dX12_van_39 rfl (Nat.le_of_ble_eq_true rfl) ?_
      exact AW.iret2 rfl dX12_van_42 h rfl
  · replace h := hF h c1
    refine AW.aloadr_n 0 dX12_van_11 rfl ?_
    refine AW.iload_n 1 dX12_van_12 rfl ?_
    refine AW.bipush dX12_van_13 (by decide) (by decide) ?_
    refine AW.isub dX12_van_15 ?_
    obtain ⟨r6, e7, h⟩ := hC h
    refine AW.callVi (As := [iv (x1 - 100)]) (st := []) (M_sumOf_ok e7) cq_X12_546 cr_117_X12_sumOf (Nat.le_trans (by decide) hdd) rfl dX12_van_16 rfl (Nat.le_of_ble_eq_true rfl) ?_
    exact AW.iret2 rfl dX12_van_19 h rfl
theorem M_nearer_ok {z : AZ} {x1 : Int} {x2 : Int} {x3 : Int} {g : AG} {r : Int} (h : M_nearer x1 x2 x3 g = some r) : AMf z yX12_nearer cX12_nearer 4 (some .int) 1 [rv z 117, iv x1, iv x2, iv x3] g (r, g) := by
  intro d hdd
  refine AM.of (by decide +kernel) (Nat.le_of_ble_eq_true rfl) ?_
  show AW z (RX12, cX12_nearer, 4, (some .int)) d (QD (some .int) (r, g)) 0 [(0, rv z 117), (1, iv x1), (2, iv x2), (3, iv x3)] [] g
  unfold M_nearer at h
  refine AW.aloadr_n 0 dX12_nearer_0 rfl ?_
  refine AW.iload_n 1 dX12_nearer_1 rfl ?_
  refine AW.iload_n 3 dX12_nearer_2 rfl ?_
  obtain ⟨r1, e2, h⟩ := hC h
  refine AW.callVi (As := [iv x1, iv x3]) (st := []) (M_drive_ok e2) cq_X12_543 cr_117_X12_drive (Nat.le_trans (by decide) hdd) rfl dX12_nearer_3 rfl (Nat.le_of_ble_eq_true rfl) ?_
  refine AW.aloadr_n 0 dX12_nearer_6 rfl ?_
  refine AW.iload_n 2 dX12_nearer_7 rfl ?_
  refine AW.iload_n 3 dX12_nearer_8 rfl ?_
  obtain ⟨r3, e4, h⟩ := hC h
  refine AW.callVi (As := [iv x2, iv x3]) (st := [iv r1]) (M_drive_ok e4) cq_X12_543 cr_117_X12_drive (Nat.le_trans (by decide) hdd) rfl dX12_nearer_9 rfl (Nat.le_of_ble_eq_true rfl) ?_
  obtain ⟨r10, e11, h⟩ := hC h
  refine AW.join (tgt := 30) (lv1 := []) (st1 := [iv r10]) (g1 := g) ?_ (fun J12 => ?_)
  · exact AW.iret2 rfl dX12_nearer_30 h rfl
  replace h := e11
  refine AW.icmp_ge (tgt := 24) dX12_nearer_12 (by decide) (fun c5 => ?_) (fun c5 => ?_)
  · replace h := hT h c5
    refine AW.aloadr_n 0 dX12_nearer_24 rfl ?_
    refine AW.iload_n 2 dX12_nearer_25 rfl ?_
    refine AW.iload_n 3 dX12_nearer_26 rfl ?_
    obtain ⟨r6, e7, h⟩ := hC h
    refine AW.callVi (As := [iv x2, iv x3]) (st := []) (M_drive_ok e7) cq_X12_543 cr_117_X12_drive (Nat.le_trans (by decide) hdd) rfl dX12_nearer_27 rfl (Nat.le_of_ble_eq_true rfl) ?_
    refine AW.sub (lv1 := []) [] rfl ?_
    cases h
    exact J12
  · replace h := hF h c5
    refine AW.aloadr_n 0 dX12_nearer_15 rfl ?_
    refine AW.iload_n 1 dX12_nearer_16 rfl ?_
    refine AW.iload_n 3 dX12_nearer_17 rfl ?_
    obtain ⟨r8, e9, h⟩ := hC h
    refine AW.callVi (As := [iv x1, iv x3]) (st := []) (M_drive_ok e9) cq_X12_543 cr_117_X12_drive (Nat.le_trans (by decide) hdd) rfl dX12_nearer_18 rfl (Nat.le_of_ble_eq_true rfl) ?_
    refine AW.goto (tgt := 30) dX12_nearer_21 (by decide) ?_
    refine AW.sub (lv1 := []) [] rfl ?_
    cases h
    exact J12
set_option synthInstance.maxHeartbeats 2000000 in
theorem M_vans_b_ok {z : AZ} {d : Nat} (hdd : 2 ≤ d) {x1 : Int} {g : AG} : ∀ (tag : Nat) (x2 : Int) (x3 : Int) (x4 : Int) (x5 : Int) (x6 : Int) (x7 : Int) (r : Int), M_vans_b x1 g tag x2 x3 x4 x5 x6 x7 = some r → (tag = 1 → AW z (RX12, cX12_vans, 8, (some .int)) d (QD (some .int) (r, g)) 18 [(0, rv z 117), (1, iv x1), (2, iv x2), (3, iv x3), (4, iv x4)] [] g) ∧ (tag = 2 → AW z (RX12, cX12_vans, 8, (some .int)) d (QD (some .int) (r, g)) 29 [(0, rv z 117), (1, iv x1), (2, iv x2), (3, iv x3), (4, iv x4), (5, iv x5)] [] g) ∧ (tag = 3 → AW z (RX12, cX12_vans, 8, (some .int)) d (QD (some .int) (r, g)) 42 [(0, rv z 117), (1, iv x1), (2, iv x2), (3, iv x3), (4, iv x4), (5, iv x5), (6, iv x6), (7, iv x7)] [] g) := by
  refine M_vans_b.partial_correctness x1 g (fun tag x2 x3 x4 x5 x6 x7 r => (tag = 1 → AW z (RX12, cX12_vans, 8, (some .int)) d (QD (some .int) (r, g)) 18 [(0, rv z 117), (1, iv x1), (2, iv x2), (3, iv x3), (4, iv x4)] [] g) ∧ (tag = 2 → AW z (RX12, cX12_vans, 8, (some .int)) d (QD (some .int) (r, g)) 29 [(0, rv z 117), (1, iv x1), (2, iv x2), (3, iv x3), (4, iv x4), (5, iv x5)] [] g) ∧ (tag = 3 → AW z (RX12, cX12_vans, 8, (some .int)) d (QD (some .int) (r, g)) 42 [(0, rv z 117), (1, iv x1), (2, iv x2), (3, iv x3), (4, iv x4), (5, iv x5), (6, iv x6), (7, iv x7)] [] g)) ?_
  intro fb9 ih tag x2 x3 x4 x5 x6 x7 r h
  refine ⟨fun h9 => ?_, fun h9 => ?_, fun h9 => ?_⟩
  · subst h9
    replace h := hT h rfl
    refine AW.iload 4 dX12_vans_18 rfl ?_
    refine AW.bipush dX12_vans_20 (by decide) (by decide) ?_
    refine AW.icmp_ge (tgt := 116) dX12_vans_22 (by decide) (fun c1 => ?_) (fun c1 => ?_)
    · replace h := hT h c1
      refine AW.iload_n 1 dX12_vans_116 rfl ?_
      obtain ⟨t2, e3, h⟩ := hBe h
      refine AW.join (tgt := 125) (lv1 := [(0, rv z 117), (1, iv x1), (2, iv x2), (3, iv x3), (4, iv x4)]) (st1 := [iv t2]) (g1 := g) ?_ (fun J117 => ?_)
      · exact AW.iret2 rfl dX12_vans_125 h rfl
      refine AW.if_ne (tgt := 124) dX12_vans_117 (by decide) (fun c4 => ?_) (fun c4 => ?_)
      · refine AW.iload_n 3 dX12_vans_124 rfl ?_
        exact AW.val (e3.trans (if_neg c4)) J117
      · refine AW.iload_n 2 dX12_vans_120 rfl ?_
        refine AW.goto (tgt := 125) dX12_vans_121 (by decide) ?_
        exact AW.val (e3.trans (if_pos c4)) J117
    · replace h := hF h c1
      refine AW.iload 4 dX12_vans_25 rfl ?_
      refine AW.istore (lv1 := [(5, iv x4), (0, rv z 117), (1, iv x1), (2, iv x2), (3, iv x3), (4, iv x4)]) dX12_vans_27 (by decide) rfl ?_
      refine AW.sub (lv1 := [(0, rv z 117), (1, iv x1), (2, iv x2), (3, iv x3), (4, iv x4), (5, iv x4)]) [1, 2, 3, 4, 5, 0] rfl ?_
      exact (ih _ _ _ _ _ _ _ _ h).2.1 rfl
  · subst h9
    replace h := hF h (by decide)
    replace h := hT h rfl
    refine AW.iload 5 dX12_vans_29 rfl ?_
    refine AW.bipush dX12_vans_31 (by decide) (by decide) ?_
    refine AW.icmp_ge (tgt := 110) dX12_vans_33 (by decide) (fun c1 => ?_) (fun c1 => ?_)
    · replace h := hT h c1
      refine AW.iinc (lv1 := [(4, iv (x4 + 1)), (0, rv z 117), (1, iv x1), (2, iv x2), (3, iv x3), (5, iv x5)]) 4 dX12_vans_110 rfl (by decide) rfl ?_
      refine AW.goto (tgt := 18) dX12_vans_113 (by decide) ?_
      refine AW.sub (lv1 := [(0, rv z 117), (1, iv x1), (2, iv x2), (3, iv x3), (4, iv (x4 + 1))]) [1, 2, 3, 4, 0] rfl ?_
      exact (ih _ _ _ _ _ _ _ _ h).1 rfl
    · replace h := hF h c1
      refine AW.iconst dX12_vans_36 ?_
      refine AW.istore (lv1 := [(6, iv 0), (0, rv z 117), (1, iv x1), (2, iv x2), (3, iv x3), (4, iv x4), (5, iv x5)]) dX12_vans_37 (by decide) rfl ?_
      refine AW.iconst dX12_vans_39 ?_
      refine AW.istore (lv1 := [(7, iv 0), (6, iv 0), (0, rv z 117), (1, iv x1), (2, iv x2), (3, iv x3), (4, iv x4), (5, iv x5)]) dX12_vans_40 (by decide) rfl ?_
      refine AW.sub (lv1 := [(0, rv z 117), (1, iv x1), (2, iv x2), (3, iv x3), (4, iv x4), (5, iv x5), (6, iv 0), (7, iv 0)]) [2, 3, 4, 5, 6, 7, 1, 0] rfl ?_
      exact (ih _ _ _ _ _ _ _ _ h).2.2 rfl
  · subst h9
    replace h := hF h (by decide)
    replace h := hF h (by decide)
    replace h := hT h rfl
    refine AW.iload 7 dX12_vans_42 rfl ?_
    refine AW.bipush dX12_vans_44 (by decide) (by decide) ?_
    refine AW.icmp_ge (tgt := 78) dX12_vans_46 (by decide) (fun c1 => ?_) (fun c1 => ?_)
    · replace h := hT h c1
      refine AW.iload_n 2 dX12_vans_78 rfl ?_
      refine AW.iconst dX12_vans_79 ?_
      obtain ⟨r4, e5, h⟩ := hC h
      refine AW.join (tgt := 104) (lv1 := [(0, rv z 117), (1, iv x1), (2, iv r4.1), (3, iv r4.2), (4, iv x4), (5, iv x5)]) (st1 := []) (g1 := g) ?_ (fun J80 => ?_)
      · refine AW.iinc (lv1 := [(5, iv (x5 + 1)), (0, rv z 117), (1, iv x1), (2, iv r4.1), (3, iv r4.2), (4, iv x4)]) 5 dX12_vans_104 rfl (by decide) rfl ?_
        refine AW.goto (tgt := 29) dX12_vans_107 (by decide) ?_
        refine AW.sub (lv1 := [(0, rv z 117), (1, iv x1), (2, iv r4.1), (3, iv r4.2), (4, iv x4), (5, iv (x5 + 1))]) [1, 2, 3, 4, 5, 0] rfl ?_
        exact (ih _ _ _ _ _ _ _ _ h).2.1 rfl
      replace h := e5
      refine AW.icmp_eq (tgt := 92) dX12_vans_80 (by decide) (fun c2 => ?_) (fun c2 => ?_)
      · replace h := hT h c2
        refine AW.bipush dX12_vans_92 (by decide) (by decide) ?_
        refine AW.iload 4 dX12_vans_94 rfl ?_
        refine AW.imul dX12_vans_96 ?_
        refine AW.iload 5 dX12_vans_97 rfl ?_
        refine AW.iadd dX12_vans_99 ?_
        refine AW.istore_n (lv1 := [(2, iv ((16 * x4) + x5)), (0, rv z 117), (1, iv x1), (3, iv x3), (4, iv x4), (5, iv x5), (6, iv x6), (7, iv x7)]) dX12_vans_100 (by decide) rfl ?_
        refine AW.iload 6 dX12_vans_101 rfl ?_
        refine AW.istore_n (lv1 := [(3, iv x6), (2, iv ((16 * x4) + x5)), (0, rv z 117), (1, iv x1), (4, iv x4), (5, iv x5), (6, iv x6), (7, iv x7)]) dX12_vans_103 (by decide) rfl ?_
        refine AW.sub (lv1 := [(0, rv z 117), (1, iv x1), (2, iv ((16 * x4) + x5)), (3, iv x6), (4, iv x4), (5, iv x5)]) [2, 3, 1, 0, 4, 5] rfl ?_
        cases h
        exact J80
      · replace h := hF h c2
        refine AW.iload 6 dX12_vans_83 rfl ?_
        refine AW.iload_n 3 dX12_vans_85 rfl ?_
        refine AW.icmp_lt (tgt := 92) dX12_vans_86 (by decide) (fun c3 => ?_) (fun c3 => ?_)
        · replace h := hT h c3
          refine AW.bipush dX12_vans_92 (by decide) (by decide) ?_
          refine AW.iload 4 dX12_vans_94 rfl ?_
          refine AW.imul dX12_vans_96 ?_
          refine AW.iload 5 dX12_vans_97 rfl ?_
          refine AW.iadd dX12_vans_99 ?_
          refine AW.istore_n (lv1 := [(2, iv ((16 * x4) + x5)), (0, rv z 117), (1, iv x1), (3, iv x3), (4, iv x4), (5, iv x5), (6, iv x6), (7, iv x7)]) dX12_vans_100 (by decide) rfl ?_
          refine AW.iload 6 dX12_vans_101 rfl ?_
          refine AW.istore_n (lv1 := [(3, iv x6), (2, iv ((16 * x4) + x5)), (0, rv z 117), (1, iv x1), (4, iv x4), (5, iv x5), (6, iv x6), (7, iv x7)]) dX12_vans_103 (by decide) rfl ?_
          refine AW.sub (lv1 := [(0, rv z 117), (1, iv x1), (2, iv ((16 * x4) + x5)), (3, iv x6), (4, iv x4), (5, iv x5)]) [2, 3, 1, 0, 4, 5] rfl ?_
          cases h
          exact J80
        · replace h := hF h c3
          refine AW.goto (tgt := 104) dX12_vans_89 (by decide) ?_
          refine AW.sub (lv1 := [(0, rv z 117), (1, iv x1), (2, iv x2), (3, iv x3), (4, iv x4), (5, iv x5)]) [0, 1, 2, 3, 4, 5] rfl ?_
          cases h
          exact J80
    · replace h := hF h c1
      refine AW.iload 6 dX12_vans_49 rfl ?_
      refine AW.aloadr_n 0 dX12_vans_51 rfl ?_
      refine AW.getR af_X12_208_117 sr_117_91 dX12_vans_52 ?_
      refine AW.iload 7 dX12_vans_55 rfl ?_
      obtain ⟨k6, h⟩ := hK h
      refine AW.iald kc_180 sk_180 k6 dX12_vans_57 ?_
      refine AW.aloadr_n 0 dX12_vans_58 rfl ?_
      refine AW.iload 4 dX12_vans_59 rfl ?_
      refine AW.iload 5 dX12_vans_61 rfl ?_
      refine AW.iload 7 dX12_vans_63 rfl ?_
      obtain ⟨r7, e8, h⟩ := hC h
      refine AW.callVi (As := [iv x4, iv x5, iv x7]) (st := [iv (g 180 (ix x7)), iv x6]) (M_nearer_ok e8) cq_X12_552 cr_117_X12_nearer (Nat.le_trans (by decide) hdd) rfl dX12_vans_65 rfl (Nat.le_of_ble_eq_true rfl) ?_
      refine AW.imul dX12_vans_68 ?_
      refine AW.iadd dX12_vans_69 ?_
      refine AW.istore (lv1 := [(6, iv (x6 + ((g 180 (ix x7)) * r7))), (0, rv z 117), (1, iv x1), (2, iv x2), (3, iv x3), (4, iv x4), (5, iv x5), (7, iv x7)]) dX12_vans_70 (by decide) rfl ?_
      refine AW.iinc (lv1 := [(7, iv (x7 + 1)), (6, iv (x6 + ((g 180 (ix x7)) * r7))), (0, rv z 117), (1, iv x1), (2, iv x2), (3, iv x3), (4, iv x4), (5, iv x5)]) 7 dX12_vans_72 rfl (by decide) rfl ?_
      refine AW.goto (tgt := 42) dX12_vans_75 (by decide) ?_
      refine AW.sub (lv1 := [(0, rv z 117), (1, iv x1), (2, iv x2), (3, iv x3), (4, iv x4), (5, iv x5), (6, iv (x6 + ((g 180 (ix x7)) * r7))), (7, iv (x7 + 1))]) [2, 3, 4, 5, 6, 7, 1, 0] rfl ?_
      exact (ih _ _ _ _ _ _ _ _ h).2.2 rfl
theorem M_vans_ok {z : AZ} {x1 : Int} {g : AG} {r : Int} (h : M_vans x1 g = some r) : AMf z yX12_vans cX12_vans 8 (some .int) 2 [rv z 117, iv x1] g (r, g) := by
  intro d hdd
  refine AM.of (by decide +kernel) (Nat.le_of_ble_eq_true rfl) ?_
  show AW z (RX12, cX12_vans, 8, (some .int)) d (QD (some .int) (r, g)) 0 [(0, rv z 117), (1, iv x1)] [] g
  unfold M_vans at h
  refine AW.iload_n 1 dX12_vans_0 rfl ?_
  refine AW.iconst dX12_vans_1 ?_
  refine AW.iconst dX12_vans_2 ?_
  refine AW.callSi (As := [iv x1, iv 0, iv 1]) (st := []) M_isIn_ok cq_X12_3 st_X12_isIn (Nat.le_trans (by decide) hdd) rfl dX12_vans_3 rfl (Nat.le_of_ble_eq_true rfl) ?_
  refine AW.if_ne (tgt := 11) dX12_vans_6 (by decide) (fun c1 => ?_) (fun c1 => ?_)
  · replace h := hF h c1
    refine AW.iconst dX12_vans_11 ?_
    refine AW.istore_n (lv1 := [(2, iv (-1)), (0, rv z 117), (1, iv x1)]) dX12_vans_12 (by decide) rfl ?_
    refine AW.iconst dX12_vans_13 ?_
    refine AW.istore_n (lv1 := [(3, iv 0), (2, iv (-1)), (0, rv z 117), (1, iv x1)]) dX12_vans_14 (by decide) rfl ?_
    refine AW.iconst dX12_vans_15 ?_
    refine AW.istore (lv1 := [(4, iv 0), (3, iv 0), (2, iv (-1)), (0, rv z 117), (1, iv x1)]) dX12_vans_16 (by decide) rfl ?_
    refine AW.sub (lv1 := [(0, rv z 117), (1, iv x1), (2, iv (-1)), (3, iv 0), (4, iv 0)]) [3, 4, 2, 1, 0] rfl ?_
    exact (M_vans_b_ok hdd _ _ _ _ _ _ _ _ h).1 rfl
  · replace h := hT h c1
    refine AW.iconst dX12_vans_9 ?_
    exact AW.iret2 rfl dX12_vans_10 h rfl
set_option synthInstance.maxHeartbeats 2000000 in
theorem M_call_b_ok {z : AZ} {d : Nat} (hdd : 2 ≤ d) {x1 : Int} {x2 : Int} {x3 : Int} {g : AG} : ∀ (r : Int × AG), M_call_b x1 x2 x3 g = some r → AW z (RX12, cX12_call, 4, (some .int)) d (QD (some .int) r) 73 [(0, rv z 117), (1, iv x1), (2, iv x2), (3, iv x3)] [] g := by
  intro r h
  unfold M_call_b at h
  refine AW.aloadr_n 0 dX12_call_73 rfl ?_
  refine AW.getR af_X12_211_117 sr_117_93 dX12_call_74 ?_
  refine AW.aloadr_n 0 dX12_call_77 rfl ?_
  refine AW.getI af_X12_555_117 sr_117_92 dX12_call_78 ?_
  refine AW.iload_n 1 dX12_call_81 rfl ?_
  obtain ⟨k1, h⟩ := hK h
  obtain ⟨g2, e3, h⟩ := hBe h
  refine AW.iast kc_181 sk_181 k1 dX12_call_82 e3 ?_
  refine AW.aloadr_n 0 dX12_call_83 rfl ?_
  refine AW.getR af_X12_214_117 sr_117_94 dX12_call_84 ?_
  refine AW.aloadr_n 0 dX12_call_87 rfl ?_
  refine AW.getI af_X12_555_117 sr_117_92 dX12_call_88 ?_
  refine AW.iload_n 2 dX12_call_91 rfl ?_
  obtain ⟨k4, h⟩ := hK h
  obtain ⟨g5, e6, h⟩ := hBe h
  refine AW.iast kc_182 sk_182 k4 dX12_call_92 e6 ?_
  refine AW.aloadr_n 0 dX12_call_93 rfl ?_
  refine AW.getR af_X12_217_117 sr_117_95 dX12_call_94 ?_
  refine AW.aloadr_n 0 dX12_call_97 rfl ?_
  refine AW.getI af_X12_555_117 sr_117_92 dX12_call_98 ?_
  refine AW.iload_n 3 dX12_call_101 rfl ?_
  obtain ⟨k7, h⟩ := hK h
  obtain ⟨g8, e9, h⟩ := hBe h
  refine AW.iast kc_183 sk_183 k7 dX12_call_102 e9 ?_
  refine AW.aloadr_n 0 dX12_call_103 rfl ?_
  refine AW.duprr dX12_call_104 ?_
  refine AW.getI af_X12_555_117 sr_117_92 dX12_call_105 ?_
  refine AW.iconst dX12_call_108 ?_
  refine AW.iadd dX12_call_109 ?_
  obtain ⟨g10, e11, h⟩ := hBe h
  refine AW.putI ap_X12_555_117 sr_117_92 dX12_call_110 e11 ?_
  refine AW.aloadr_n 0 dX12_call_113 rfl ?_
  refine AW.getI af_X12_555_117 sr_117_92 dX12_call_114 ?_
  exact AW.iret1 rfl dX12_call_117 h rfl
theorem M_call_ok {z : AZ} {x1 : Int} {x2 : Int} {x3 : Int} {g : AG} {r : Int × AG} (h : M_call x1 x2 x3 g = some r) : AMf z yX12_call cX12_call 4 (some .int) 2 [rv z 117, iv x1, iv x2, iv x3] g r := by
  intro d hdd
  refine AM.of (by decide +kernel) (Nat.le_of_ble_eq_true rfl) ?_
  show AW z (RX12, cX12_call, 4, (some .int)) d (QD (some .int) r) 0 [(0, rv z 117), (1, iv x1), (2, iv x2), (3, iv x3)] [] g
  unfold M_call at h
  refine AW.iload_n 3 dX12_call_0 rfl ?_
  refine AW.if_ne (tgt := 11) dX12_call_1 (by decide) (fun c1 => ?_) (fun c1 => ?_)
  · replace h := hF h c1
    refine AW.iload_n 1 dX12_call_11 rfl ?_
    refine AW.iconst dX12_call_12 ?_
    refine AW.sipush dX12_call_13 (by decide) (by decide) ?_
    refine AW.callSi (As := [iv x1, iv 0, iv 9999]) (st := []) M_isIn_ok cq_X12_3 st_X12_isIn (Nat.le_trans (by decide) hdd) rfl dX12_call_16 rfl (Nat.le_of_ble_eq_true rfl) ?_
    refine AW.if_eq (tgt := 71) dX12_call_19 (by decide) (fun c2 => ?_) (fun c2 => ?_)
    · replace h := hT h c2
      refine AW.iconst dX12_call_71 ?_
      exact AW.iret1 rfl dX12_call_72 h rfl
    · replace h := hF h c2
      refine AW.iload_n 2 dX12_call_22 rfl ?_
      refine AW.callSi (As := [iv x2]) (st := []) M_isPoint_ok cq_X12_238 st_X12_isPoint (Nat.le_trans (by decide) hdd) rfl dX12_call_23 rfl (Nat.le_of_ble_eq_true rfl) ?_
      refine AW.if_eq (tgt := 71) dX12_call_26 (by decide) (fun c3 => ?_) (fun c3 => ?_)
      · replace h := hT h c3
        refine AW.iconst dX12_call_71 ?_
        exact AW.iret1 rfl dX12_call_72 h rfl
      · replace h := hF h c3
        refine AW.iload_n 3 dX12_call_29 rfl ?_
        refine AW.iconst dX12_call_30 ?_
        refine AW.sipush dX12_call_31 (by decide) (by decide) ?_
        refine AW.callSi (As := [iv x3, iv 1, iv 300]) (st := []) M_isIn_ok cq_X12_3 st_X12_isIn (Nat.le_trans (by decide) hdd) rfl dX12_call_34 rfl (Nat.le_of_ble_eq_true rfl) ?_
        refine AW.if_eq (tgt := 71) dX12_call_37 (by decide) (fun c4 => ?_) (fun c4 => ?_)
        · replace h := hT h c4
          refine AW.iconst dX12_call_71 ?_
          exact AW.iret1 rfl dX12_call_72 h rfl
        · replace h := hF h c4
          refine AW.aloadr_n 0 dX12_call_40 rfl ?_
          refine AW.getI af_X12_555_117 sr_117_92 dX12_call_41 ?_
          refine AW.bipush dX12_call_44 (by decide) (by decide) ?_
          refine AW.icmp_eq (tgt := 71) dX12_call_46 (by decide) (fun c5 => ?_) (fun c5 => ?_)
          · replace h := hT h c5
            refine AW.iconst dX12_call_71 ?_
            exact AW.iret1 rfl dX12_call_72 h rfl
          · replace h := hF h c5
            refine AW.aloadr_n 0 dX12_call_49 rfl ?_
            refine AW.getI af_X12_555_117 sr_117_92 dX12_call_50 ?_
            refine AW.if_le (tgt := 73) dX12_call_53 (by decide) (fun c6 => ?_) (fun c6 => ?_)
            · replace h := hT h c6
              exact M_call_b_ok hdd _ h
            · replace h := hF h c6
              refine AW.iload_n 1 dX12_call_56 rfl ?_
              refine AW.aloadr_n 0 dX12_call_57 rfl ?_
              refine AW.getR af_X12_211_117 sr_117_93 dX12_call_58 ?_
              refine AW.aloadr_n 0 dX12_call_61 rfl ?_
              refine AW.getI af_X12_555_117 sr_117_92 dX12_call_62 ?_
              refine AW.iconst dX12_call_65 ?_
              refine AW.isub dX12_call_66 ?_
              obtain ⟨k7, h⟩ := hK h
              refine AW.iald kc_181 sk_181 k7 dX12_call_67 ?_
              refine AW.icmp_ge (tgt := 73) dX12_call_68 (by decide) (fun c8 => ?_) (fun c8 => ?_)
              · replace h := hT h c8
                exact M_call_b_ok hdd _ h
              · replace h := hF h c8
                refine AW.iconst dX12_call_71 ?_
                exact AW.iret1 rfl dX12_call_72 h rfl
  · replace h := hT h c1
    refine AW.aloadr_n 0 dX12_call_4 rfl ?_
    refine AW.iconst dX12_call_5 ?_
    obtain ⟨g9, e10, h⟩ := hBe h
    refine AW.putI ap_X12_555_117 sr_117_92 dX12_call_6 e10 ?_
    refine AW.iconst dX12_call_9 ?_
    exact AW.iret1 rfl dX12_call_10 h rfl
theorem M_arrives_ok {z : AZ} {x1 : Int} {x2 : Int} {g : AG} {r : Int} (h : M_arrives x1 x2 g = some r) : AMf z yX12_arrives cX12_arrives 4 (some .int) 1 [rv z 117, iv x1, iv x2] g (r, g) := by
  intro d hdd
  refine AM.of (by decide +kernel) (Nat.le_of_ble_eq_true rfl) ?_
  show AW z (RX12, cX12_arrives, 4, (some .int)) d (QD (some .int) (r, g)) 0 [(0, rv z 117), (1, iv x1), (2, iv x2)] [] g
  unfold M_arrives at h
  refine AW.aloadr_n 0 dX12_arrives_0 rfl ?_
  refine AW.getR af_X12_223_117 sr_117_97 dX12_arrives_1 ?_
  refine AW.iload_n 1 dX12_arrives_4 rfl ?_
  obtain ⟨k1, h⟩ := hK h
  refine AW.iald kc_185 sk_185 k1 dX12_arrives_5 ?_
  refine AW.aloadr_n 0 dX12_arrives_6 rfl ?_
  refine AW.getR af_X12_211_117 sr_117_93 dX12_arrives_7 ?_
  refine AW.iload_n 2 dX12_arrives_10 rfl ?_
  obtain ⟨k2, h⟩ := hK h
  refine AW.iald kc_181 sk_181 k2 dX12_arrives_11 ?_
  obtain ⟨r4, e5, h⟩ := hC h
  refine AW.join (tgt := 30) (lv1 := [(0, rv z 117), (1, iv x1), (2, iv x2)]) (st1 := [iv r4]) (g1 := g) ?_ (fun J12 => ?_)
  · refine AW.istore_n (lv1 := [(3, iv r4), (0, rv z 117), (1, iv x1), (2, iv x2)]) dX12_arrives_30 (by decide) rfl ?_
    refine AW.iload_n 0 dX12_arrives_31 rfl ?_
    refine AW.aloadr_n 1 dX12_arrives_32 rfl ?_
    refine AW.aloadr_n 1 dX12_arrives_33 rfl ?_
    refine AW.getR af_X12_220_117 sr_117_96 dX12_arrives_34 ?_
    refine AW.iload_n 2 dX12_arrives_37 rfl ?_
    refine AW.iald kc_184 sk_184 k1 dX12_arrives_38 ?_
    refine AW.aloadr_n 1 dX12_arrives_39 rfl ?_
    refine AW.getR af_X12_214_117 sr_117_94 dX12_arrives_40 ?_
    refine AW.iload_n 3 dX12_arrives_43 rfl ?_
    refine AW.iald kc_182 sk_182 k2 dX12_arrives_44 ?_
    obtain ⟨r6, e7, h⟩ := hC h
    refine AW.callVi (As := [iv (g 184 (ix x1)), iv (g 182 (ix x2))]) (st := [iv r4]) (M_drive_ok e7) cq_X12_543 cr_117_X12_drive (Nat.le_trans (by decide) hdd) rfl dX12_arrives_45 rfl (Nat.le_of_ble_eq_true rfl) ?_
    refine AW.iadd dX12_arrives_48 ?_
    exact AW.iret2 rfl dX12_arrives_49 h rfl
  replace h := e5
  refine AW.icmp_le (tgt := 24) dX12_arrives_12 (by decide) (fun c3 => ?_) (fun c3 => ?_)
  · replace h := hT h c3
    refine AW.aloadr_n 0 dX12_arrives_24 rfl ?_
    refine AW.getR af_X12_211_117 sr_117_93 dX12_arrives_25 ?_
    refine AW.iload_n 2 dX12_arrives_28 rfl ?_
    refine AW.iald kc_181 sk_181 k2 dX12_arrives_29 ?_
    cases h
    exact J12
  · replace h := hF h c3
    refine AW.aloadr_n 0 dX12_arrives_15 rfl ?_
    refine AW.getR af_X12_223_117 sr_117_97 dX12_arrives_16 ?_
    refine AW.iload_n 1 dX12_arrives_19 rfl ?_
    refine AW.iald kc_185 sk_185 k1 dX12_arrives_20 ?_
    refine AW.goto (tgt := 30) dX12_arrives_21 (by decide) ?_
    cases h
    exact J12
set_option synthInstance.maxHeartbeats 2000000 in
theorem M_taken_b_ok {z : AZ} {d : Nat} (hdd : 2 ≤ d) {x1 : Int} {x2 : Int} {x3 : Int} : ∀ (tag : Nat) (x4 : Int) (x5 : Int) (x6 : Int) (x7 : Int) (g : AG) (r : Int × AG), M_taken_b x1 x2 x3 tag x4 x5 x6 x7 g = some r → (tag = 1 → AW z (RX12, cX12_taken, 10, (some .int)) d (QD (some .int) r) 41 [(0, rv z 117), (1, iv x1), (2, iv x2), (3, iv x3)] [] g) ∧ (tag = 2 → AW z (RX12, cX12_taken, 10, (some .int)) d (QD (some .int) r) 81 [(0, rv z 117), (3, iv x3), (4, iv x4), (5, iv x5), (6, iv x6), (7, iv x7)] [] g) := by
  refine M_taken_b.partial_correctness x1 x2 x3 (fun tag x4 x5 x6 x7 g r => (tag = 1 → AW z (RX12, cX12_taken, 10, (some .int)) d (QD (some .int) r) 41 [(0, rv z 117), (1, iv x1), (2, iv x2), (3, iv x3)] [] g) ∧ (tag = 2 → AW z (RX12, cX12_taken, 10, (some .int)) d (QD (some .int) r) 81 [(0, rv z 117), (3, iv x3), (4, iv x4), (5, iv x5), (6, iv x6), (7, iv x7)] [] g)) ?_
  intro fb9 ih tag x4 x5 x6 x7 g r h
  refine ⟨fun h9 => ?_, fun h9 => ?_⟩
  · subst h9
    replace h := hT h rfl
    refine AW.aloadr_n 0 dX12_taken_41 rfl ?_
    refine AW.getR af_X12_220_117 sr_117_96 dX12_taken_42 ?_
    refine AW.iconst dX12_taken_45 ?_
    refine AW.iload_n 1 dX12_taken_46 rfl ?_
    obtain ⟨g1, e2, h⟩ := hBe h
    refine AW.iast kc_184 sk_184 (by decide) dX12_taken_47 e2 ?_
    refine AW.aloadr_n 0 dX12_taken_48 rfl ?_
    refine AW.getR af_X12_220_117 sr_117_96 dX12_taken_49 ?_
    refine AW.iconst dX12_taken_52 ?_
    refine AW.iload_n 2 dX12_taken_53 rfl ?_
    obtain ⟨g3, e4, h⟩ := hBe h
    refine AW.iast kc_184 sk_184 (by decide) dX12_taken_54 e4 ?_
    refine AW.aloadr_n 0 dX12_taken_55 rfl ?_
    refine AW.getR af_X12_223_117 sr_117_97 dX12_taken_56 ?_
    refine AW.iconst dX12_taken_59 ?_
    refine AW.iconst dX12_taken_60 ?_
    obtain ⟨g5, e6, h⟩ := hBe h
    refine AW.iast kc_185 sk_185 (by decide) dX12_taken_61 e6 ?_
    refine AW.aloadr_n 0 dX12_taken_62 rfl ?_
    refine AW.getR af_X12_223_117 sr_117_97 dX12_taken_63 ?_
    refine AW.iconst dX12_taken_66 ?_
    refine AW.iconst dX12_taken_67 ?_
    obtain ⟨g7, e8, h⟩ := hBe h
    refine AW.iast kc_185 sk_185 (by decide) dX12_taken_68 e8 ?_
    refine AW.iconst dX12_taken_69 ?_
    refine AW.istore (lv1 := [(4, iv 0), (0, rv z 117), (1, iv x1), (2, iv x2), (3, iv x3)]) dX12_taken_70 (by decide) rfl ?_
    refine AW.iconst dX12_taken_72 ?_
    refine AW.istore (lv1 := [(5, iv 0), (4, iv 0), (0, rv z 117), (1, iv x1), (2, iv x2), (3, iv x3)]) dX12_taken_73 (by decide) rfl ?_
    refine AW.iconst dX12_taken_75 ?_
    refine AW.istore (lv1 := [(6, iv 0), (5, iv 0), (4, iv 0), (0, rv z 117), (1, iv x1), (2, iv x2), (3, iv x3)]) dX12_taken_76 (by decide) rfl ?_
    refine AW.iconst dX12_taken_78 ?_
    refine AW.istore (lv1 := [(7, iv 0), (6, iv 0), (5, iv 0), (4, iv 0), (0, rv z 117), (1, iv x1), (2, iv x2), (3, iv x3)]) dX12_taken_79 (by decide) rfl ?_
    refine AW.sub (lv1 := [(0, rv z 117), (3, iv x3), (4, iv 0), (5, iv 0), (6, iv 0), (7, iv 0)]) [4, 7, 3, 2, 1, 0] rfl ?_
    exact (ih _ _ _ _ _ _ _ h).2 rfl
  · subst h9
    replace h := hF h (by decide)
    replace h := hT h rfl
    refine AW.iload 5 dX12_taken_81 rfl ?_
    refine AW.aloadr_n 0 dX12_taken_83 rfl ?_
    refine AW.getI af_X12_555_117 sr_117_92 dX12_taken_84 ?_
    refine AW.icmp_ge (tgt := 246) dX12_taken_87 (by decide) (fun c1 => ?_) (fun c1 => ?_)
    · replace h := hT h c1
      refine AW.iload_n 1 dX12_taken_246 rfl ?_
      obtain ⟨t2, e3, h⟩ := hBe h
      refine AW.join (tgt := 267) (lv1 := [(0, rv z 117), (3, iv x3), (4, iv x4), (5, iv x5), (6, iv x6), (7, iv x7)]) (st1 := [iv t2]) (g1 := g) ?_ (fun J247 => ?_)
      · exact AW.iret1 rfl dX12_taken_267 h rfl
      refine AW.if_ne (tgt := 255) dX12_taken_247 (by decide) (fun c4 => ?_) (fun c4 => ?_)
      · refine AW.iload_n 1 dX12_taken_255 rfl ?_
        refine AW.iconst dX12_taken_256 ?_
        refine AW.icmp_ne (tgt := 265) dX12_taken_257 (by decide) (fun c5 => ?_) (fun c5 => ?_)
        · refine AW.iload 4 dX12_taken_265 rfl ?_
          exact AW.val (e3.trans ((if_neg c4).trans (if_neg c5))) J247
        · refine AW.iload 3 dX12_taken_260 rfl ?_
          refine AW.goto (tgt := 267) dX12_taken_262 (by decide) ?_
          exact AW.val (e3.trans ((if_neg c4).trans (if_pos c5))) J247
      · refine AW.iload 2 dX12_taken_250 rfl ?_
        refine AW.goto (tgt := 267) dX12_taken_252 (by decide) ?_
        exact AW.val (e3.trans (if_pos c4)) J247
    · replace h := hF h c1
      refine AW.aloadr_n 0 dX12_taken_90 rfl ?_
      refine AW.iconst dX12_taken_91 ?_
      refine AW.iload 5 dX12_taken_92 rfl ?_
      obtain ⟨r6, e7, h⟩ := hC h
      refine AW.callVi (As := [iv 1, iv x7]) (st := []) (M_arrives_ok e7) cq_X12_558 cr_117_X12_arrives (Nat.le_trans (by decide) hdd) rfl dX12_taken_94 rfl (Nat.le_of_ble_eq_true rfl) ?_
      refine AW.aloadr_n 0 dX12_taken_97 rfl ?_
      refine AW.iconst dX12_taken_98 ?_
      refine AW.iload 5 dX12_taken_99 rfl ?_
      obtain ⟨r8, e9, h⟩ := hC h
      refine AW.callVi (As := [iv 0, iv x7]) (st := [iv r6]) (M_arrives_ok e9) cq_X12_558 cr_117_X12_arrives (Nat.le_trans (by decide) hdd) rfl dX12_taken_101 rfl (Nat.le_of_ble_eq_true rfl) ?_
      obtain ⟨t10, e11, h⟩ := hBe h
      refine AW.join (tgt := 112) (lv1 := [(0, rv z 117), (3, iv x3), (4, iv x4), (5, iv x5), (6, iv x6), (7, iv x7)]) (st1 := [iv t10]) (g1 := g) ?_ (fun J104 => ?_)
      · refine AW.istore (lv1 := [(8, iv t10), (0, rv z 117), (3, iv x3), (4, iv x4), (5, iv x5), (6, iv x6), (7, iv x7)]) dX12_taken_112 (by decide) rfl ?_
        refine AW.iload_n 2 dX12_taken_114 rfl ?_
        refine AW.bipush dX12_taken_115 (by decide) (by decide) ?_
        refine AW.iload 6 dX12_taken_117 rfl ?_
        refine AW.iadd dX12_taken_119 ?_
        refine AW.icmp_ne (tgt := 126) dX12_taken_120 (by decide) (fun c12 => ?_) (fun c12 => ?_)
        · replace h := hF h c12
          refine AW.aloadr_n 1 dX12_taken_126 rfl ?_
          refine AW.iload 0 dX12_taken_127 rfl ?_
          refine AW.iload 6 dX12_taken_129 rfl ?_
          obtain ⟨r13, e14, h⟩ := hC h
          refine AW.callVi (As := [iv t10, iv x7]) (st := []) (M_arrives_ok e14) cq_X12_558 cr_117_X12_arrives (Nat.le_trans (by decide) hdd) rfl dX12_taken_131 rfl (Nat.le_of_ble_eq_true rfl) ?_
          refine AW.istore (lv1 := [(9, iv r13), (8, iv t10), (0, rv z 117), (3, iv x3), (4, iv x4), (5, iv x5), (6, iv x6), (7, iv x7)]) dX12_taken_134 (by decide) rfl ?_
          refine AW.iload 4 dX12_taken_136 rfl ?_
          refine AW.iload 0 dX12_taken_138 rfl ?_
          refine AW.aloadr_n 2 dX12_taken_140 rfl ?_
          refine AW.getR af_X12_211_117 sr_117_93 dX12_taken_141 ?_
          refine AW.iload 7 dX12_taken_144 rfl ?_
          obtain ⟨k15, h⟩ := hK h
          refine AW.iald kc_181 sk_181 k15 dX12_taken_146 ?_
          refine AW.isub dX12_taken_147 ?_
          refine AW.iadd dX12_taken_148 ?_
          refine AW.istore (lv1 := [(4, iv (x4 + (r13 - (g 181 (ix x7))))), (9, iv r13), (8, iv t10), (0, rv z 117), (3, iv x3), (5, iv x5), (6, iv x6), (7, iv x7)]) dX12_taken_149 (by decide) rfl ?_
          refine AW.iload 1 dX12_taken_151 rfl ?_
          refine AW.aloadr_n 3 dX12_taken_153 rfl ?_
          refine AW.getR af_X12_211_117 sr_117_93 dX12_taken_154 ?_
          refine AW.iload 7 dX12_taken_157 rfl ?_
          refine AW.iald kc_181 sk_181 k15 dX12_taken_159 ?_
          refine AW.isub dX12_taken_160 ?_
          refine AW.iload 5 dX12_taken_161 rfl ?_
          obtain ⟨r17, e18, h⟩ := hC h
          refine AW.join (tgt := 181) (lv1 := [(0, rv z 117), (3, iv x3), (4, iv (x4 + (r13 - (g 181 (ix x7))))), (6, iv x6), (7, iv x7), (8, iv t10), (9, iv r13)]) (st1 := [iv r17.1]) (g1 := r17.2) ?_ (fun J163 => ?_)
          · refine AW.istore (lv1 := [(5, iv r17.1), (0, rv z 117), (3, iv x3), (4, iv (x4 + (r13 - (g 181 (ix x7))))), (6, iv x6), (7, iv x7), (8, iv t10), (9, iv r13)]) dX12_taken_181 (by decide) rfl ?_
            refine AW.aloadr_n 1 dX12_taken_183 rfl ?_
            refine AW.getR af_X12_223_117 sr_117_97 dX12_taken_184 ?_
            refine AW.iload 6 dX12_taken_187 rfl ?_
            refine AW.iload 7 dX12_taken_189 rfl ?_
            refine AW.aloadr_n 1 dX12_taken_191 rfl ?_
            refine AW.getR af_X12_217_117 sr_117_95 dX12_taken_192 ?_
            refine AW.iload 5 dX12_taken_195 rfl ?_
            refine AW.iald kc_183 sk_183 k15 dX12_taken_197 ?_
            refine AW.iadd dX12_taken_198 ?_
            obtain ⟨k19, h⟩ := hK h
            obtain ⟨g20, e21, h⟩ := hBe h
            refine AW.iast kc_185 sk_185 k19 dX12_taken_199 e21 ?_
            refine AW.aloadr_n 1 dX12_taken_200 rfl ?_
            refine AW.getR af_X12_220_117 sr_117_96 dX12_taken_201 ?_
            refine AW.iload 6 dX12_taken_204 rfl ?_
            refine AW.aloadr_n 1 dX12_taken_206 rfl ?_
            refine AW.getR af_X12_214_117 sr_117_94 dX12_taken_207 ?_
            refine AW.iload 5 dX12_taken_210 rfl ?_
            refine AW.iald kc_182 sk_182 k15 dX12_taken_212 ?_
            obtain ⟨g22, e23, h⟩ := hBe h
            refine AW.iast kc_184 sk_184 k19 dX12_taken_213 e23 ?_
            refine AW.aloadr_n 1 dX12_taken_214 rfl ?_
            refine AW.getR af_X12_223_117 sr_117_97 dX12_taken_215 ?_
            refine AW.iload 6 dX12_taken_218 rfl ?_
            refine AW.iald kc_185 sk_185 k19 dX12_taken_220 ?_
            refine AW.iload 4 dX12_taken_221 rfl ?_
            obtain ⟨r25, e26, h⟩ := hC h
            refine AW.join (tgt := 238) (lv1 := [(0, rv z 117), (3, iv x3), (4, iv (x4 + (r13 - (g 181 (ix x7))))), (5, iv r17.1), (7, iv x7)]) (st1 := [iv r25.1]) (g1 := r25.2) ?_ (fun J223 => ?_)
            · refine AW.istore (lv1 := [(6, iv r25.1), (0, rv z 117), (3, iv x3), (4, iv (x4 + (r13 - (g 181 (ix x7))))), (5, iv r17.1), (7, iv x7)]) dX12_taken_238 (by decide) rfl ?_
              refine AW.iinc (lv1 := [(7, iv (x7 + 1)), (6, iv r25.1), (0, rv z 117), (3, iv x3), (4, iv (x4 + (r13 - (g 181 (ix x7))))), (5, iv r17.1)]) 5 dX12_taken_240 rfl (by decide) rfl ?_
              refine AW.goto (tgt := 81) dX12_taken_243 (by decide) ?_
              refine AW.sub (lv1 := [(0, rv z 117), (3, iv x3), (4, iv (x4 + (r13 - (g 181 (ix x7))))), (5, iv r17.1), (6, iv r25.1), (7, iv (x7 + 1))]) [2, 3, 4, 5, 1, 0] rfl ?_
              exact (ih _ _ _ _ _ _ _ h).2 rfl
            replace h := e26
            refine AW.icmp_le (tgt := 236) dX12_taken_223 (by decide) (fun c24 => ?_) (fun c24 => ?_)
            · replace h := hT h c24
              refine AW.iload 4 dX12_taken_236 rfl ?_
              refine AW.sub (lv1 := [(0, rv z 117), (3, iv x3), (4, iv (x4 + (r13 - (g 181 (ix x7))))), (5, iv r17.1), (7, iv x7)]) [1, 2, 3, 0, 5] rfl ?_
              cases h
              exact J223
            · replace h := hF h c24
              refine AW.aloadr_n 1 dX12_taken_226 rfl ?_
              refine AW.getR af_X12_223_117 sr_117_97 dX12_taken_227 ?_
              refine AW.iload 6 dX12_taken_230 rfl ?_
              refine AW.iald kc_185 sk_185 k19 dX12_taken_232 ?_
              refine AW.goto (tgt := 238) dX12_taken_233 (by decide) ?_
              refine AW.sub (lv1 := [(0, rv z 117), (3, iv x3), (4, iv (x4 + (r13 - (g 181 (ix x7))))), (5, iv r17.1), (7, iv x7)]) [1, 2, 3, 0, 5] rfl ?_
              cases h
              exact J223
          replace h := e18
          refine AW.icmp_le (tgt := 179) dX12_taken_163 (by decide) (fun c16 => ?_) (fun c16 => ?_)
          · replace h := hT h c16
            refine AW.iload 5 dX12_taken_179 rfl ?_
            refine AW.sub (lv1 := [(0, rv z 117), (3, iv x3), (4, iv (x4 + (r13 - (g 181 (ix x7))))), (6, iv x6), (7, iv x7), (8, iv t10), (9, iv r13)]) [3, 4, 0, 6, 7, 2, 1] rfl ?_
            cases h
            exact J163
          · replace h := hF h c16
            refine AW.iload 1 dX12_taken_166 rfl ?_
            refine AW.aloadr_n 3 dX12_taken_168 rfl ?_
            refine AW.getR af_X12_211_117 sr_117_93 dX12_taken_169 ?_
            refine AW.iload 7 dX12_taken_172 rfl ?_
            refine AW.iald kc_181 sk_181 k15 dX12_taken_174 ?_
            refine AW.isub dX12_taken_175 ?_
            refine AW.goto (tgt := 181) dX12_taken_176 (by decide) ?_
            refine AW.sub (lv1 := [(0, rv z 117), (3, iv x3), (4, iv (x4 + (r13 - (g 181 (ix x7))))), (6, iv x6), (7, iv x7), (8, iv t10), (9, iv r13)]) [3, 4, 0, 6, 7, 2, 1] rfl ?_
            cases h
            exact J163
        · replace h := hT h c12
          refine AW.iload 0 dX12_taken_123 rfl ?_
          exact AW.iret1 rfl dX12_taken_125 h rfl
      refine AW.icmp_ge (tgt := 111) dX12_taken_104 (by decide) (fun c27 => ?_) (fun c27 => ?_)
      · refine AW.iconst dX12_taken_111 ?_
        exact AW.val (e11.trans (if_pos c27)) J104
      · refine AW.iconst dX12_taken_107 ?_
        refine AW.goto (tgt := 112) dX12_taken_108 (by decide) ?_
        exact AW.val (e11.trans (if_neg c27)) J104
theorem M_taken_ok {z : AZ} {x1 : Int} {x2 : Int} {x3 : Int} {g : AG} {r : Int × AG} (h : M_taken x1 x2 x3 g = some r) : AMf z yX12_taken cX12_taken 10 (some .int) 2 [rv z 117, iv x1, iv x2, iv x3] g r := by
  intro d hdd
  refine AM.of (by decide +kernel) (Nat.le_of_ble_eq_true rfl) ?_
  show AW z (RX12, cX12_taken, 10, (some .int)) d (QD (some .int) r) 0 [(0, rv z 117), (1, iv x1), (2, iv x2), (3, iv x3)] [] g
  unfold M_taken at h
  refine AW.iload_n 1 dX12_taken_0 rfl ?_
  refine AW.callSi (As := [iv x1]) (st := []) M_isPoint_ok cq_X12_238 st_X12_isPoint (Nat.le_trans (by decide) hdd) rfl dX12_taken_1 rfl (Nat.le_of_ble_eq_true rfl) ?_
  refine AW.if_eq (tgt := 39) dX12_taken_4 (by decide) (fun c1 => ?_) (fun c1 => ?_)
  · replace h := hT h c1
    refine AW.iconst dX12_taken_39 ?_
    exact AW.iret1 rfl dX12_taken_40 h rfl
  · replace h := hF h c1
    refine AW.iload_n 2 dX12_taken_7 rfl ?_
    refine AW.callSi (As := [iv x2]) (st := []) M_isPoint_ok cq_X12_238 st_X12_isPoint (Nat.le_trans (by decide) hdd) rfl dX12_taken_8 rfl (Nat.le_of_ble_eq_true rfl) ?_
    refine AW.if_eq (tgt := 39) dX12_taken_11 (by decide) (fun c2 => ?_) (fun c2 => ?_)
    · replace h := hT h c2
      refine AW.iconst dX12_taken_39 ?_
      exact AW.iret1 rfl dX12_taken_40 h rfl
    · replace h := hF h c2
      refine AW.iload_n 3 dX12_taken_14 rfl ?_
      refine AW.iconst dX12_taken_15 ?_
      refine AW.iconst dX12_taken_16 ?_
      refine AW.callSi (As := [iv x3, iv 0, iv 2]) (st := []) M_isIn_ok cq_X12_3 st_X12_isIn (Nat.le_trans (by decide) hdd) rfl dX12_taken_17 rfl (Nat.le_of_ble_eq_true rfl) ?_
      refine AW.if_ne (tgt := 41) dX12_taken_20 (by decide) (fun c3 => ?_) (fun c3 => ?_)
      · replace h := hF h c3
        exact (M_taken_b_ok hdd _ _ _ _ _ _ _ h).1 rfl
      · replace h := hT h c3
        refine AW.iload_n 3 dX12_taken_23 rfl ?_
        refine AW.bipush dX12_taken_24 (by decide) (by decide) ?_
        refine AW.bipush dX12_taken_26 (by decide) (by decide) ?_
        refine AW.aloadr_n 0 dX12_taken_28 rfl ?_
        refine AW.getI af_X12_555_117 sr_117_92 dX12_taken_29 ?_
        refine AW.iadd dX12_taken_32 ?_
        refine AW.callSi (As := [iv x3, iv 10, iv (9 + (g 117 92))]) (st := []) M_isIn_ok cq_X12_3 st_X12_isIn (Nat.le_trans (by decide) hdd) rfl dX12_taken_33 rfl (Nat.le_of_ble_eq_true rfl) ?_
        refine AW.if_ne (tgt := 41) dX12_taken_36 (by decide) (fun c4 => ?_) (fun c4 => ?_)
        · replace h := hF h c4
          exact (M_taken_b_ok hdd _ _ _ _ _ _ _ h).1 rfl
        · replace h := hT h c4
          refine AW.iconst dX12_taken_39 ?_
          exact AW.iret1 rfl dX12_taken_40 h rfl
theorem M_canAsk_ok {z : AZ} {x0 : Int} {x1 : Int} {x2 : Int} {x3 : Int} {g : AG} : AMf z yX12_canAsk cX12_canAsk 4 (some .boolean) 1 [iv x0, iv x1, iv x2, iv x3] g ((M_canAsk x0 x1 x2 x3), g) := by
  intro d hdd
  refine AM.of (by decide +kernel) (Nat.le_of_ble_eq_true rfl) ?_
  show AW z (RX12, cX12_canAsk, 4, (some .boolean)) d (QD (some .boolean) ((M_canAsk x0 x1 x2 x3), g)) 0 [(0, iv x0), (1, iv x1), (2, iv x2), (3, iv x3)] [] g
  refine AW.iload_n 0 dX12_canAsk_0 rfl ?_
  refine AW.iconst dX12_canAsk_1 ?_
  refine AW.bipush dX12_canAsk_2 (by decide) (by decide) ?_
  refine AW.callSi (As := [iv x0, iv 0, iv 99]) (st := []) M_isIn_ok cq_X12_3 st_X12_isIn (Nat.le_trans (by decide) hdd) rfl dX12_canAsk_4 rfl (Nat.le_of_ble_eq_true rfl) ?_
  refine AW.join (tgt := 46) (lv1 := [(0, iv x0), (1, iv x1), (2, iv x2), (3, iv x3)]) (st1 := [iv (if nw (M_isIn x0 0 99) = 0 then 0 else (if nw (M_isIn x1 0 100) = 0 then 0 else (if nw (M_isIn x2 0 99) = 0 then 0 else (if nw (M_isIn x3 0 999) = 0 then 0 else 1))))]) (g1 := g) ?_ (fun J7 => ?_)
  · exact AW.zret rfl (by (repeat' split) <;> first | exact Or.inl rfl | exact Or.inr rfl) dX12_canAsk_46 ⟨congrArg (fun v => some (iv v)) (show M_canAsk x0 x1 x2 x3  = (if nw (M_isIn x0 0 99) = 0 then 0 else (if nw (M_isIn x1 0 100) = 0 then 0 else (if nw (M_isIn x2 0 99) = 0 then 0 else (if nw (M_isIn x3 0 999) = 0 then 0 else 1)))) from rfl).symm, rfl⟩
  refine AW.if_eq (tgt := 45) dX12_canAsk_7 (by decide) (fun c1 => ?_) (fun c1 => ?_)
  · refine AW.iconst dX12_canAsk_45 ?_
    exact AW.val (if_pos c1) J7
  · refine AW.iload_n 1 dX12_canAsk_10 rfl ?_
    refine AW.iconst dX12_canAsk_11 ?_
    refine AW.bipush dX12_canAsk_12 (by decide) (by decide) ?_
    refine AW.callSi (As := [iv x1, iv 0, iv 100]) (st := []) M_isIn_ok cq_X12_3 st_X12_isIn (Nat.le_trans (by decide) hdd) rfl dX12_canAsk_14 rfl (Nat.le_of_ble_eq_true rfl) ?_
    refine AW.if_eq (tgt := 45) dX12_canAsk_17 (by decide) (fun c2 => ?_) (fun c2 => ?_)
    · refine AW.iconst dX12_canAsk_45 ?_
      exact AW.val ((if_neg c1).trans (if_pos c2)) J7
    · refine AW.iload_n 2 dX12_canAsk_20 rfl ?_
      refine AW.iconst dX12_canAsk_21 ?_
      refine AW.bipush dX12_canAsk_22 (by decide) (by decide) ?_
      refine AW.callSi (As := [iv x2, iv 0, iv 99]) (st := []) M_isIn_ok cq_X12_3 st_X12_isIn (Nat.le_trans (by decide) hdd) rfl dX12_canAsk_24 rfl (Nat.le_of_ble_eq_true rfl) ?_
      refine AW.if_eq (tgt := 45) dX12_canAsk_27 (by decide) (fun c3 => ?_) (fun c3 => ?_)
      · refine AW.iconst dX12_canAsk_45 ?_
        exact AW.val ((if_neg c1).trans ((if_neg c2).trans (if_pos c3))) J7
      · refine AW.iload_n 3 dX12_canAsk_30 rfl ?_
        refine AW.iconst dX12_canAsk_31 ?_
        refine AW.sipush dX12_canAsk_32 (by decide) (by decide) ?_
        refine AW.callSi (As := [iv x3, iv 0, iv 999]) (st := []) M_isIn_ok cq_X12_3 st_X12_isIn (Nat.le_trans (by decide) hdd) rfl dX12_canAsk_35 rfl (Nat.le_of_ble_eq_true rfl) ?_
        refine AW.if_eq (tgt := 45) dX12_canAsk_38 (by decide) (fun c4 => ?_) (fun c4 => ?_)
        · refine AW.iconst dX12_canAsk_45 ?_
          exact AW.val ((if_neg c1).trans ((if_neg c2).trans ((if_neg c3).trans (if_pos c4)))) J7
        · refine AW.iconst dX12_canAsk_41 ?_
          refine AW.goto (tgt := 46) dX12_canAsk_42 (by decide) ?_
          exact AW.val ((if_neg c1).trans ((if_neg c2).trans ((if_neg c3).trans (if_neg c4)))) J7
set_option synthInstance.maxHeartbeats 2000000 in
theorem M_starts_b_ok {z : AZ} {d : Nat} (hdd : 0 ≤ d) : ∀ (x1 : Int) (g : AG) (r : Int × AG), M_starts_b x1 g = some r → AW z (RX12, cX12_starts, 2, none) d (QD none r) 2 [(0, rv z 117), (1, iv x1)] [] g := by
  refine M_starts_b.partial_correctness (fun x1 g r => AW z (RX12, cX12_starts, 2, none) d (QD none r) 2 [(0, rv z 117), (1, iv x1)] [] g) ?_
  intro fb9 ih x1 g r h
  refine AW.iload_n 1 dX12_starts_2 rfl ?_
  refine AW.sipush dX12_starts_3 (by decide) (by decide) ?_
  refine AW.icmp_ge (tgt := 36) dX12_starts_6 (by decide) (fun c1 => ?_) (fun c1 => ?_)
  · replace h := hT h c1
    exact AW.vret1 rfl dX12_starts_36 h rfl
  · replace h := hF h c1
    refine AW.aloadr_n 0 dX12_starts_9 rfl ?_
    refine AW.getR af_X12_226_117 sr_117_98 dX12_starts_10 ?_
    refine AW.iload_n 1 dX12_starts_13 rfl ?_
    refine AW.iload_n 1 dX12_starts_14 rfl ?_
    refine AW.aloadr_n 0 dX12_starts_15 rfl ?_
    refine AW.getI af_X12_44_117 sr_117_10 dX12_starts_16 ?_
    obtain ⟨t2, e3, h⟩ := hBe h
    refine AW.join (tgt := 29) (lv1 := [(0, rv z 117), (1, iv x1)]) (st1 := [iv t2, iv x1, rv z 186]) (g1 := g) ?_ (fun J19 => ?_)
    · obtain ⟨k4, h⟩ := hK h
      obtain ⟨g5, e6, h⟩ := hBe h
      refine AW.iast kc_186 sk_186 k4 dX12_starts_29 e6 ?_
      refine AW.iinc (lv1 := [(1, iv (x1 + 1)), (0, rv z 117)]) 1 dX12_starts_30 rfl (by decide) rfl ?_
      refine AW.goto (tgt := 2) dX12_starts_33 (by decide) ?_
      refine AW.sub (lv1 := [(0, rv z 117), (1, iv (x1 + 1))]) [1, 0] rfl ?_
      exact ih _ _ _ h
    refine AW.icmp_ne (tgt := 28) dX12_starts_19 (by decide) (fun c7 => ?_) (fun c7 => ?_)
    · refine AW.iconst dX12_starts_28 ?_
      exact AW.val (e3.trans (if_neg c7)) J19
    · refine AW.ldcw dX12_starts_22 cw_X12_561 ?_
      refine AW.goto (tgt := 29) dX12_starts_25 (by decide) ?_
      exact AW.val (e3.trans (if_pos c7)) J19
theorem M_starts_ok {z : AZ} {g : AG} {r : Int × AG} (h : M_starts g = some r) : AMf z yX12_starts cX12_starts 2 none 0 [rv z 117] g r := by
  intro d hdd
  refine AM.of (by decide +kernel) (Nat.le_of_ble_eq_true rfl) ?_
  show AW z (RX12, cX12_starts, 2, none) d (QD none r) 0 [(0, rv z 117)] [] g
  unfold M_starts at h
  refine AW.iconst dX12_starts_0 ?_
  refine AW.istore_n (lv1 := [(1, iv 0), (0, rv z 117)]) dX12_starts_1 (by decide) rfl ?_
  refine AW.sub (lv1 := [(0, rv z 117), (1, iv 0)]) [1, 0] rfl ?_
  exact M_starts_b_ok hdd _ _ _ h
theorem M_falls_ok {z : AZ} {x1 : Int} {x2 : Int} {x3 : Int} {g : AG} {r : Int × AG} (h : M_falls x1 x2 x3 g = some r) : AMf z yX12_falls cX12_falls 5 none 0 [rv z 117, iv x1, iv x2, iv x3] g r := by
  intro d hdd
  refine AM.of (by decide +kernel) (Nat.le_of_ble_eq_true rfl) ?_
  show AW z (RX12, cX12_falls, 5, none) d (QD none r) 0 [(0, rv z 117), (1, iv x1), (2, iv x2), (3, iv x3)] [] g
  unfold M_falls at h
  refine AW.iload_n 1 dX12_falls_0 rfl ?_
  refine AW.sipush dX12_falls_1 (by decide) (by decide) ?_
  obtain ⟨t1, e2, h⟩ := hBe h
  refine AW.join (tgt := 14) (lv1 := [(0, rv z 117), (1, iv x1), (2, iv x2), (3, iv x3)]) (st1 := [iv t1]) (g1 := g) ?_ (fun J4 => ?_)
  · refine AW.istore (lv1 := [(4, iv t1), (0, rv z 117), (1, iv x1), (2, iv x2), (3, iv x3)]) dX12_falls_14 (by decide) rfl ?_
    refine AW.iload 0 dX12_falls_16 rfl ?_
    refine AW.iload_n 3 dX12_falls_18 rfl ?_
    obtain ⟨r7, e8, h⟩ := hC h
    refine AW.join (tgt := 33) (lv1 := []) (st1 := []) (g1 := r7) ?_ (fun J19 => ?_)
    · exact AW.vret1 rfl dX12_falls_33 h rfl
    replace h := e8
    refine AW.icmp_lt (tgt := 33) dX12_falls_19 (by decide) (fun c3 => ?_) (fun c3 => ?_)
    · replace h := hT h c3
      refine AW.sub (lv1 := []) [] rfl ?_
      cases h
      exact J19
    · replace h := hF h c3
      refine AW.aloadr_n 1 dX12_falls_22 rfl ?_
      refine AW.getR af_X12_229_117 sr_117_99 dX12_falls_23 ?_
      refine AW.iload 0 dX12_falls_26 rfl ?_
      refine AW.dup2r dX12_falls_28 ?_
      obtain ⟨k4, h⟩ := hK h
      refine AW.iald kc_187 sk_187 k4 dX12_falls_29 ?_
      refine AW.iload_n 4 dX12_falls_30 rfl ?_
      refine AW.iadd dX12_falls_31 ?_
      obtain ⟨g5, e6, h⟩ := hBe h
      refine AW.iast kc_187 sk_187 k4 dX12_falls_32 e6 ?_
      refine AW.sub (lv1 := []) [] rfl ?_
      cases h
      exact J19
  refine AW.icmp_le (tgt := 13) dX12_falls_4 (by decide) (fun c9 => ?_) (fun c9 => ?_)
  · refine AW.iload_n 1 dX12_falls_13 rfl ?_
    exact AW.val (e2.trans (if_pos c9)) J4
  · refine AW.sipush dX12_falls_7 (by decide) (by decide) ?_
    refine AW.goto (tgt := 14) dX12_falls_10 (by decide) ?_
    exact AW.val (e2.trans (if_neg c9)) J4
set_option synthInstance.maxHeartbeats 2000000 in
theorem M_aDay_b_ok {z : AZ} {d : Nat} (hdd : 1 ≤ d) {x1 : Int} {x2 : Int} {x3 : Int} {x4 : Int} : ∀ (tag : Nat) (x5 : Int) (g : AG) (r : Int × AG), M_aDay_b x1 x2 x3 x4 tag x5 g = some r → (tag = 1 → AW z (RX12, cX12_aDay, 8, none) d (QD none r) 3 [(0, rv z 117), (1, iv x1), (2, iv x2), (3, iv x3), (4, iv x4), (5, iv x5)] [] g) ∧ (tag = 2 → AW z (RX12, cX12_aDay, 8, none) d (QD none r) 28 [(0, rv z 117), (1, iv x1), (2, iv x2), (3, iv x3), (4, iv x4), (5, iv x5)] [] g) ∧ (tag = 3 → AW z (RX12, cX12_aDay, 8, none) d (QD none r) 122 [(0, rv z 117), (5, iv x5)] [] g) := by
  refine M_aDay_b.partial_correctness x1 x2 x3 x4 (fun tag x5 g r => (tag = 1 → AW z (RX12, cX12_aDay, 8, none) d (QD none r) 3 [(0, rv z 117), (1, iv x1), (2, iv x2), (3, iv x3), (4, iv x4), (5, iv x5)] [] g) ∧ (tag = 2 → AW z (RX12, cX12_aDay, 8, none) d (QD none r) 28 [(0, rv z 117), (1, iv x1), (2, iv x2), (3, iv x3), (4, iv x4), (5, iv x5)] [] g) ∧ (tag = 3 → AW z (RX12, cX12_aDay, 8, none) d (QD none r) 122 [(0, rv z 117), (5, iv x5)] [] g)) ?_
  intro fb9 ih tag x5 g r h
  refine ⟨fun h9 => ?_, fun h9 => ?_, fun h9 => ?_⟩
  · subst h9
    replace h := hT h rfl
    refine AW.iload 5 dX12_aDay_3 rfl ?_
    refine AW.sipush dX12_aDay_5 (by decide) (by decide) ?_
    refine AW.icmp_ge (tgt := 25) dX12_aDay_8 (by decide) (fun c1 => ?_) (fun c1 => ?_)
    · replace h := hT h c1
      refine AW.iconst dX12_aDay_25 ?_
      refine AW.istore (lv1 := [(5, iv 0), (0, rv z 117), (1, iv x1), (2, iv x2), (3, iv x3), (4, iv x4)]) dX12_aDay_26 (by decide) rfl ?_
      refine AW.sub (lv1 := [(0, rv z 117), (1, iv x1), (2, iv x2), (3, iv x3), (4, iv x4), (5, iv 0)]) [1, 2, 3, 4, 5, 0] rfl ?_
      exact (ih _ _ _ _ h).2.1 rfl
    · replace h := hF h c1
      refine AW.aloadr_n 0 dX12_aDay_11 rfl ?_
      refine AW.getR af_X12_229_117 sr_117_99 dX12_aDay_12 ?_
      refine AW.iload 5 dX12_aDay_15 rfl ?_
      refine AW.iconst dX12_aDay_17 ?_
      obtain ⟨k2, h⟩ := hK h
      obtain ⟨g3, e4, h⟩ := hBe h
      refine AW.iast kc_187 sk_187 k2 dX12_aDay_18 e4 ?_
      refine AW.iinc (lv1 := [(5, iv (x5 + 1)), (0, rv z 117), (1, iv x1), (2, iv x2), (3, iv x3), (4, iv x4)]) 5 dX12_aDay_19 rfl (by decide) rfl ?_
      refine AW.goto (tgt := 3) dX12_aDay_22 (by decide) ?_
      refine AW.sub (lv1 := [(0, rv z 117), (1, iv x1), (2, iv x2), (3, iv x3), (4, iv x4), (5, iv (x5 + 1))]) [1, 2, 3, 4, 5, 0] rfl ?_
      exact (ih _ _ _ _ h).1 rfl
  · subst h9
    replace h := hF h (by decide)
    replace h := hT h rfl
    refine AW.iload 5 dX12_aDay_28 rfl ?_
    refine AW.sipush dX12_aDay_30 (by decide) (by decide) ?_
    refine AW.icmp_ge (tgt := 119) dX12_aDay_33 (by decide) (fun c1 => ?_) (fun c1 => ?_)
    · replace h := hT h c1
      refine AW.iconst dX12_aDay_119 ?_
      refine AW.istore (lv1 := [(5, iv 0), (0, rv z 117), (1, iv x1), (2, iv x2), (3, iv x3), (4, iv x4)]) dX12_aDay_120 (by decide) rfl ?_
      refine AW.sub (lv1 := [(0, rv z 117), (5, iv 0)]) [1, 0] rfl ?_
      exact (ih _ _ _ _ h).2.2 rfl
    · replace h := hF h c1
      refine AW.aloadr_n 0 dX12_aDay_36 rfl ?_
      refine AW.getR af_X12_226_117 sr_117_98 dX12_aDay_37 ?_
      refine AW.iload 5 dX12_aDay_40 rfl ?_
      obtain ⟨k2, h⟩ := hK h
      refine AW.iald kc_186 sk_186 k2 dX12_aDay_42 ?_
      obtain ⟨r11, e12, h⟩ := hC h
      refine AW.join (tgt := 113) (lv1 := [(0, rv z 117), (1, iv x1), (2, iv x2), (3, iv x3), (4, iv x4), (5, iv x5)]) (st1 := []) (g1 := r11) ?_ (fun J43 => ?_)
      · refine AW.iinc (lv1 := [(5, iv (x5 + 1)), (0, rv z 117), (1, iv x1), (2, iv x2), (3, iv x3), (4, iv x4)]) 5 dX12_aDay_113 rfl (by decide) rfl ?_
        refine AW.goto (tgt := 28) dX12_aDay_116 (by decide) ?_
        refine AW.sub (lv1 := [(0, rv z 117), (1, iv x1), (2, iv x2), (3, iv x3), (4, iv x4), (5, iv (x5 + 1))]) [1, 2, 3, 4, 5, 0] rfl ?_
        exact (ih _ _ _ _ h).2.1 rfl
      replace h := e12
      refine AW.if_ne (tgt := 49) dX12_aDay_43 (by decide) (fun c3 => ?_) (fun c3 => ?_)
      · replace h := hF h c3
        refine AW.aloadr_n 0 dX12_aDay_49 rfl ?_
        refine AW.getR af_X12_226_117 sr_117_98 dX12_aDay_50 ?_
        refine AW.iload 5 dX12_aDay_53 rfl ?_
        refine AW.iald kc_186 sk_186 k2 dX12_aDay_55 ?_
        refine AW.i2l dX12_aDay_56 ?_
        refine AW.iload_n 2 dX12_aDay_57 rfl ?_
        refine AW.i2l dX12_aDay_58 ?_
        refine AW.lmul dX12_aDay_59 ?_
        refine AW.ldc2 dX12_aDay_60 cw_X12_562 ?_
        refine AW.ldiv dX12_aDay_63 (by decide) ?_
        refine AW.l2i dX12_aDay_64 ?_
        refine AW.istore (lv1 := [(6, iv ((nl ((nw (g 186 (ix x5))) * (nw x2))).tdiv 100)), (0, rv z 117), (1, iv x1), (2, iv x2), (3, iv x3), (4, iv x4), (5, iv x5)]) dX12_aDay_65 (by decide) rfl ?_
        refine AW.iload 6 dX12_aDay_67 rfl ?_
        refine AW.iload_n 2 dX12_aDay_69 rfl ?_
        obtain ⟨t4, e5, h⟩ := hBe h
        refine AW.join (tgt := 81) (lv1 := [(6, iv ((nl ((nw (g 186 (ix x5))) * (nw x2))).tdiv 100)), (0, rv z 117), (1, iv x1), (2, iv x2), (3, iv x3), (4, iv x4), (5, iv x5)]) (st1 := [iv t4]) (g1 := g) ?_ (fun J70 => ?_)
        · refine AW.istore (lv1 := [(7, iv t4), (6, iv ((nl ((nw (g 186 (ix x5))) * (nw x2))).tdiv 100)), (0, rv z 117), (1, iv x1), (2, iv x2), (3, iv x3), (4, iv x4), (5, iv x5)]) dX12_aDay_81 (by decide) rfl ?_
          refine AW.aloadr_n 2 dX12_aDay_83 rfl ?_
          refine AW.iload 0 dX12_aDay_84 rfl ?_
          refine AW.iload_n 5 dX12_aDay_86 rfl ?_
          refine AW.iadd dX12_aDay_87 ?_
          refine AW.iload 6 dX12_aDay_88 rfl ?_
          refine AW.iload 1 dX12_aDay_90 rfl ?_
          obtain ⟨r6, e7, h⟩ := hC h
          refine AW.callVv (As := [iv (t4 + x3), iv x4, iv ((nl ((nw (g 186 (ix x5))) * (nw x2))).tdiv 100)]) (st := []) (M_falls_ok e7) cq_X12_564 cr_117_X12_falls (Nat.le_trans (by decide) hdd) rfl dX12_aDay_92 rfl (Nat.le_of_ble_eq_true rfl) ?_
          refine AW.aloadr_n 2 dX12_aDay_95 rfl ?_
          refine AW.iload 0 dX12_aDay_96 rfl ?_
          refine AW.iload 6 dX12_aDay_98 rfl ?_
          refine AW.aloadr_n 2 dX12_aDay_100 rfl ?_
          refine AW.getR af_X12_226_117 sr_117_98 dX12_aDay_101 ?_
          refine AW.iload 7 dX12_aDay_104 rfl ?_
          refine AW.iald kc_186 sk_186 k2 dX12_aDay_106 ?_
          refine AW.iload 1 dX12_aDay_107 rfl ?_
          refine AW.isub dX12_aDay_109 ?_
          obtain ⟨r8, e9, h⟩ := hC h
          refine AW.callVv (As := [iv t4, iv x4, iv ((r6.2 186 (ix x5)) - ((nl ((nw (g 186 (ix x5))) * (nw x2))).tdiv 100))]) (st := []) (M_falls_ok e9) cq_X12_564 cr_117_X12_falls (Nat.le_trans (by decide) hdd) rfl dX12_aDay_110 rfl (Nat.le_of_ble_eq_true rfl) ?_
          refine AW.sub (lv1 := [(0, rv z 117), (1, iv x1), (2, iv x2), (3, iv x3), (4, iv x4), (5, iv x5)]) [2, 3, 4, 5, 6, 7] rfl ?_
          cases h
          exact J43
        refine AW.icmp_ge (tgt := 77) dX12_aDay_70 (by decide) (fun c10 => ?_) (fun c10 => ?_)
        · refine AW.iload 6 dX12_aDay_77 rfl ?_
          refine AW.iload_n 2 dX12_aDay_79 rfl ?_
          refine AW.isub dX12_aDay_80 ?_
          exact AW.val (e5.trans (if_pos c10)) J70
        · refine AW.iconst dX12_aDay_73 ?_
          refine AW.goto (tgt := 81) dX12_aDay_74 (by decide) ?_
          exact AW.val (e5.trans (if_neg c10)) J70
      · replace h := hT h c3
        refine AW.goto (tgt := 113) dX12_aDay_46 (by decide) ?_
        cases h
        exact J43
  · subst h9
    replace h := hF h (by decide)
    replace h := hF h (by decide)
    replace h := hT h rfl
    refine AW.iload 1 dX12_aDay_122 rfl ?_
    refine AW.sipush dX12_aDay_124 (by decide) (by decide) ?_
    refine AW.icmp_ge (tgt := 150) dX12_aDay_127 (by decide) (fun c1 => ?_) (fun c1 => ?_)
    · replace h := hT h c1
      exact AW.vret1 rfl dX12_aDay_150 h rfl
    · replace h := hF h c1
      refine AW.aloadr_n 0 dX12_aDay_130 rfl ?_
      refine AW.getR af_X12_226_117 sr_117_98 dX12_aDay_131 ?_
      refine AW.iload 1 dX12_aDay_134 rfl ?_
      refine AW.aloadr_n 0 dX12_aDay_136 rfl ?_
      refine AW.getR af_X12_229_117 sr_117_99 dX12_aDay_137 ?_
      refine AW.iload 1 dX12_aDay_140 rfl ?_
      obtain ⟨k2, h⟩ := hK h
      refine AW.iald kc_187 sk_187 k2 dX12_aDay_142 ?_
      obtain ⟨g3, e4, h⟩ := hBe h
      refine AW.iast kc_186 sk_186 k2 dX12_aDay_143 e4 ?_
      refine AW.iinc (lv1 := [(5, iv (x5 + 1)), (0, rv z 117)]) 1 dX12_aDay_144 rfl (by decide) rfl ?_
      refine AW.goto (tgt := 122) dX12_aDay_147 (by decide) ?_
      refine AW.sub (lv1 := [(0, rv z 117), (5, iv (x5 + 1))]) [1, 0] rfl ?_
      exact (ih _ _ _ _ h).2.2 rfl
theorem M_aDay_ok {z : AZ} {x1 : Int} {x2 : Int} {x3 : Int} {x4 : Int} {g : AG} {r : Int × AG} (h : M_aDay x1 x2 x3 x4 g = some r) : AMf z yX12_aDay cX12_aDay 8 none 1 [rv z 117, iv x1, iv x2, iv x3, iv x4] g r := by
  intro d hdd
  refine AM.of (by decide +kernel) (Nat.le_of_ble_eq_true rfl) ?_
  show AW z (RX12, cX12_aDay, 8, none) d (QD none r) 0 [(0, rv z 117), (1, iv x1), (2, iv x2), (3, iv x3), (4, iv x4)] [] g
  unfold M_aDay at h
  refine AW.iconst dX12_aDay_0 ?_
  refine AW.istore (lv1 := [(5, iv 0), (0, rv z 117), (1, iv x1), (2, iv x2), (3, iv x3), (4, iv x4)]) dX12_aDay_1 (by decide) rfl ?_
  refine AW.sub (lv1 := [(0, rv z 117), (1, iv x1), (2, iv x2), (3, iv x3), (4, iv x4), (5, iv 0)]) [1, 2, 3, 4, 5, 0] rfl ?_
  exact (M_aDay_b_ok hdd _ _ _ _ h).1 rfl
set_option synthInstance.maxHeartbeats 2000000 in
theorem M_kept_b_ok {z : AZ} {d : Nat} (hdd : 0 ≤ d) {g : AG} : ∀ (x1 : Int) (x2 : Int) (r : Int), M_kept_b g x1 x2 = some r → AW z (RX12, cX12_kept, 3, (some .int)) d (QD (some .int) (r, g)) 4 [(0, rv z 117), (1, iv x1), (2, iv x2)] [] g := by
  refine M_kept_b.partial_correctness g (fun x1 x2 r => AW z (RX12, cX12_kept, 3, (some .int)) d (QD (some .int) (r, g)) 4 [(0, rv z 117), (1, iv x1), (2, iv x2)] [] g) ?_
  intro fb9 ih x1 x2 r h
  refine AW.iload_n 2 dX12_kept_4 rfl ?_
  refine AW.sipush dX12_kept_5 (by decide) (by decide) ?_
  refine AW.icmp_ge (tgt := 26) dX12_kept_8 (by decide) (fun c1 => ?_) (fun c1 => ?_)
  · replace h := hT h c1
    refine AW.iload_n 1 dX12_kept_26 rfl ?_
    exact AW.iret2 rfl dX12_kept_27 h rfl
  · replace h := hF h c1
    refine AW.iload_n 1 dX12_kept_11 rfl ?_
    refine AW.aloadr_n 0 dX12_kept_12 rfl ?_
    refine AW.getR af_X12_226_117 sr_117_98 dX12_kept_13 ?_
    refine AW.iload_n 2 dX12_kept_16 rfl ?_
    obtain ⟨k2, h⟩ := hK h
    refine AW.iald kc_186 sk_186 k2 dX12_kept_17 ?_
    refine AW.iadd dX12_kept_18 ?_
    refine AW.istore_n (lv1 := [(1, iv (x1 + (g 186 (ix x2)))), (0, rv z 117), (2, iv x2)]) dX12_kept_19 (by decide) rfl ?_
    refine AW.iinc (lv1 := [(2, iv (x2 + 1)), (1, iv (x1 + (g 186 (ix x2)))), (0, rv z 117)]) 2 dX12_kept_20 rfl (by decide) rfl ?_
    refine AW.goto (tgt := 4) dX12_kept_23 (by decide) ?_
    refine AW.sub (lv1 := [(0, rv z 117), (1, iv (x1 + (g 186 (ix x2)))), (2, iv (x2 + 1))]) [2, 1, 0] rfl ?_
    exact ih _ _ _ h
theorem M_kept_ok {z : AZ} {g : AG} {r : Int} (h : M_kept g = some r) : AMf z yX12_kept cX12_kept 3 (some .int) 0 [rv z 117] g (r, g) := by
  intro d hdd
  refine AM.of (by decide +kernel) (Nat.le_of_ble_eq_true rfl) ?_
  show AW z (RX12, cX12_kept, 3, (some .int)) d (QD (some .int) (r, g)) 0 [(0, rv z 117)] [] g
  unfold M_kept at h
  refine AW.iconst dX12_kept_0 ?_
  refine AW.istore_n (lv1 := [(1, iv 0), (0, rv z 117)]) dX12_kept_1 (by decide) rfl ?_
  refine AW.iconst dX12_kept_2 ?_
  refine AW.istore_n (lv1 := [(2, iv 0), (1, iv 0), (0, rv z 117)]) dX12_kept_3 (by decide) rfl ?_
  refine AW.sub (lv1 := [(0, rv z 117), (1, iv 0), (2, iv 0)]) [2, 1, 0] rfl ?_
  exact M_kept_b_ok hdd _ _ _ h
set_option synthInstance.maxHeartbeats 2000000 in
theorem M_left_b_ok {z : AZ} {d : Nat} (hdd : 2 ≤ d) {x1 : Int} {x2 : Int} {x3 : Int} {x4 : Int} {x5 : Int} : ∀ (x6 : Int) (g : AG) (r : Int × AG), M_left_b x1 x2 x3 x4 x5 x6 g = some r → AW z (RX12, cX12_left, 7, (some .int)) d (QD (some .int) r) 42 [(0, rv z 117), (1, iv x1), (2, iv x2), (3, iv x3), (4, iv x4), (5, iv x5), (6, iv x6)] [] g := by
  refine M_left_b.partial_correctness x1 x2 x3 x4 x5 (fun x6 g r => AW z (RX12, cX12_left, 7, (some .int)) d (QD (some .int) r) 42 [(0, rv z 117), (1, iv x1), (2, iv x2), (3, iv x3), (4, iv x4), (5, iv x5), (6, iv x6)] [] g) ?_
  intro fb9 ih x6 g r h
  refine AW.iload 6 dX12_left_42 rfl ?_
  refine AW.iload 5 dX12_left_44 rfl ?_
  refine AW.icmp_ge (tgt := 64) dX12_left_46 (by decide) (fun c1 => ?_) (fun c1 => ?_)
  · replace h := hT h c1
    refine AW.aloadr_n 0 dX12_left_64 rfl ?_
    obtain ⟨r2, e3, h⟩ := hC h
    refine AW.callVi (As := []) (st := []) (M_kept_ok e3) cq_X12_577 cr_117_X12_kept (Nat.le_trans (by decide) hdd) rfl dX12_left_65 rfl (Nat.le_of_ble_eq_true rfl) ?_
    exact AW.iret1 rfl dX12_left_68 h rfl
  · replace h := hF h c1
    refine AW.aloadr_n 0 dX12_left_49 rfl ?_
    refine AW.iload_n 1 dX12_left_50 rfl ?_
    refine AW.iload_n 2 dX12_left_51 rfl ?_
    refine AW.iload_n 3 dX12_left_52 rfl ?_
    refine AW.iload 4 dX12_left_53 rfl ?_
    obtain ⟨r4, e5, h⟩ := hC h
    refine AW.callVv (As := [iv x1, iv x2, iv x3, iv x4]) (st := []) (M_aDay_ok e5) cq_X12_573 cr_117_X12_aDay (Nat.le_trans (by decide) hdd) rfl dX12_left_55 rfl (Nat.le_of_ble_eq_true rfl) ?_
    refine AW.iinc (lv1 := [(6, iv (x6 + 1)), (0, rv z 117), (1, iv x1), (2, iv x2), (3, iv x3), (4, iv x4), (5, iv x5)]) 6 dX12_left_58 rfl (by decide) rfl ?_
    refine AW.goto (tgt := 42) dX12_left_61 (by decide) ?_
    refine AW.sub (lv1 := [(0, rv z 117), (1, iv x1), (2, iv x2), (3, iv x3), (4, iv x4), (5, iv x5), (6, iv (x6 + 1))]) [1, 2, 3, 4, 5, 6, 0] rfl ?_
    exact ih _ _ _ h
theorem M_left_ok {z : AZ} {x1 : Int} {x2 : Int} {x3 : Int} {x4 : Int} {x5 : Int} {g : AG} {r : Int × AG} (h : M_left x1 x2 x3 x4 x5 g = some r) : AMf z yX12_left cX12_left 7 (some .int) 2 [rv z 117, iv x1, iv x2, iv x3, iv x4, iv x5] g r := by
  intro d hdd
  refine AM.of (by decide +kernel) (Nat.le_of_ble_eq_true rfl) ?_
  show AW z (RX12, cX12_left, 7, (some .int)) d (QD (some .int) r) 0 [(0, rv z 117), (1, iv x1), (2, iv x2), (3, iv x3), (4, iv x4), (5, iv x5)] [] g
  unfold M_left at h
  refine AW.iload_n 1 dX12_left_0 rfl ?_
  refine AW.iload_n 2 dX12_left_1 rfl ?_
  refine AW.iload_n 3 dX12_left_2 rfl ?_
  refine AW.iload 4 dX12_left_3 rfl ?_
  refine AW.callSi (As := [iv x1, iv x2, iv x3, iv x4]) (st := []) M_canAsk_ok cq_X12_567 st_X12_canAsk (Nat.le_trans (by decide) hdd) rfl dX12_left_5 rfl (Nat.le_of_ble_eq_true rfl) ?_
  refine AW.if_eq (tgt := 22) dX12_left_8 (by decide) (fun c1 => ?_) (fun c1 => ?_)
  · replace h := hT h c1
    refine AW.iconst dX12_left_22 ?_
    exact AW.iret1 rfl dX12_left_23 h rfl
  · replace h := hF h c1
    refine AW.iload 5 dX12_left_11 rfl ?_
    refine AW.iconst dX12_left_13 ?_
    refine AW.bipush dX12_left_14 (by decide) (by decide) ?_
    refine AW.callSi (As := [iv x5, iv 0, iv 60]) (st := []) M_isIn_ok cq_X12_3 st_X12_isIn (Nat.le_trans (by decide) hdd) rfl dX12_left_16 rfl (Nat.le_of_ble_eq_true rfl) ?_
    refine AW.if_ne (tgt := 24) dX12_left_19 (by decide) (fun c2 => ?_) (fun c2 => ?_)
    · replace h := hF h c2
      refine AW.aloadr_n 0 dX12_left_24 rfl ?_
      refine AW.getI af_X12_44_117 sr_117_10 dX12_left_25 ?_
      refine AW.iload 4 dX12_left_28 rfl ?_
      refine AW.icmp_ge (tgt := 35) dX12_left_30 (by decide) (fun c3 => ?_) (fun c3 => ?_)
      · replace h := hT h c3
        refine AW.aloadr_n 0 dX12_left_35 rfl ?_
        obtain ⟨r4, e5, h⟩ := hC h
        refine AW.callVv (As := []) (st := []) (M_starts_ok e5) cq_X12_570 cr_117_X12_starts (Nat.le_trans (by decide) hdd) rfl dX12_left_36 rfl (Nat.le_of_ble_eq_true rfl) ?_
        refine AW.iconst dX12_left_39 ?_
        refine AW.istore (lv1 := [(6, iv 0), (0, rv z 117), (1, iv x1), (2, iv x2), (3, iv x3), (4, iv x4), (5, iv x5)]) dX12_left_40 (by decide) rfl ?_
        refine AW.sub (lv1 := [(0, rv z 117), (1, iv x1), (2, iv x2), (3, iv x3), (4, iv x4), (5, iv x5), (6, iv 0)]) [1, 2, 3, 4, 5, 6, 0] rfl ?_
        exact M_left_b_ok hdd _ _ _ h
      · replace h := hF h c3
        refine AW.iconst dX12_left_33 ?_
        exact AW.iret1 rfl dX12_left_34 h rfl
    · replace h := hT h c2
      refine AW.iconst dX12_left_22 ?_
      exact AW.iret1 rfl dX12_left_23 h rfl
set_option synthInstance.maxHeartbeats 2000000 in
theorem M_shuts_b_ok {z : AZ} {d : Nat} (hdd : 2 ≤ d) {x1 : Int} {x2 : Int} {x3 : Int} {x4 : Int} : ∀ (x5 : Int) (g : AG) (r : Int × AG), M_shuts_b x1 x2 x3 x4 x5 g = some r → AW z (RX12, cX12_shuts, 6, (some .int)) d (QD (some .int) r) 31 [(0, rv z 117), (1, iv x1), (2, iv x2), (3, iv x3), (4, iv x4), (5, iv x5)] [] g := by
  refine M_shuts_b.partial_correctness x1 x2 x3 x4 (fun x5 g r => AW z (RX12, cX12_shuts, 6, (some .int)) d (QD (some .int) r) 31 [(0, rv z 117), (1, iv x1), (2, iv x2), (3, iv x3), (4, iv x4), (5, iv x5)] [] g) ?_
  intro fb9 ih x5 g r h
  refine AW.iload 5 dX12_shuts_31 rfl ?_
  refine AW.bipush dX12_shuts_33 (by decide) (by decide) ?_
  refine AW.icmp_gt (tgt := 66) dX12_shuts_35 (by decide) (fun c1 => ?_) (fun c1 => ?_)
  · replace h := hT h c1
    refine AW.iconst dX12_shuts_66 ?_
    exact AW.iret1 rfl dX12_shuts_67 h rfl
  · replace h := hF h c1
    refine AW.aloadr_n 0 dX12_shuts_38 rfl ?_
    refine AW.iload_n 1 dX12_shuts_39 rfl ?_
    refine AW.iload_n 2 dX12_shuts_40 rfl ?_
    refine AW.iload_n 3 dX12_shuts_41 rfl ?_
    refine AW.iload 4 dX12_shuts_42 rfl ?_
    obtain ⟨r2, e3, h⟩ := hC h
    refine AW.callVv (As := [iv x1, iv x2, iv x3, iv x4]) (st := []) (M_aDay_ok e3) cq_X12_573 cr_117_X12_aDay (Nat.le_trans (by decide) hdd) rfl dX12_shuts_44 rfl (Nat.le_of_ble_eq_true rfl) ?_
    refine AW.aloadr_n 0 dX12_shuts_47 rfl ?_
    obtain ⟨r4, e5, h⟩ := hC h
    refine AW.callVi (As := []) (st := []) (M_kept_ok e5) cq_X12_577 cr_117_X12_kept (Nat.le_trans (by decide) hdd) rfl dX12_shuts_48 rfl (Nat.le_of_ble_eq_true rfl) ?_
    refine AW.ldcw dX12_shuts_51 cw_X12_580 ?_
    refine AW.icmp_ge (tgt := 60) dX12_shuts_54 (by decide) (fun c6 => ?_) (fun c6 => ?_)
    · replace h := hT h c6
      refine AW.iinc (lv1 := [(5, iv (x5 + 1)), (0, rv z 117), (1, iv x1), (2, iv x2), (3, iv x3), (4, iv x4)]) 5 dX12_shuts_60 rfl (by decide) rfl ?_
      refine AW.goto (tgt := 31) dX12_shuts_63 (by decide) ?_
      refine AW.sub (lv1 := [(0, rv z 117), (1, iv x1), (2, iv x2), (3, iv x3), (4, iv x4), (5, iv (x5 + 1))]) [1, 2, 3, 4, 5, 0] rfl ?_
      exact ih _ _ _ h
    · replace h := hF h c6
      refine AW.iload 5 dX12_shuts_57 rfl ?_
      exact AW.iret1 rfl dX12_shuts_59 h rfl
theorem M_shuts_ok {z : AZ} {x1 : Int} {x2 : Int} {x3 : Int} {x4 : Int} {g : AG} {r : Int × AG} (h : M_shuts x1 x2 x3 x4 g = some r) : AMf z yX12_shuts cX12_shuts 6 (some .int) 2 [rv z 117, iv x1, iv x2, iv x3, iv x4] g r := by
  intro d hdd
  refine AM.of (by decide +kernel) (Nat.le_of_ble_eq_true rfl) ?_
  show AW z (RX12, cX12_shuts, 6, (some .int)) d (QD (some .int) r) 0 [(0, rv z 117), (1, iv x1), (2, iv x2), (3, iv x3), (4, iv x4)] [] g
  unfold M_shuts at h
  refine AW.iload_n 1 dX12_shuts_0 rfl ?_
  refine AW.iload_n 2 dX12_shuts_1 rfl ?_
  refine AW.iload_n 3 dX12_shuts_2 rfl ?_
  refine AW.iload 4 dX12_shuts_3 rfl ?_
  refine AW.callSi (As := [iv x1, iv x2, iv x3, iv x4]) (st := []) M_canAsk_ok cq_X12_567 st_X12_canAsk (Nat.le_trans (by decide) hdd) rfl dX12_shuts_5 rfl (Nat.le_of_ble_eq_true rfl) ?_
  refine AW.if_ne (tgt := 13) dX12_shuts_8 (by decide) (fun c1 => ?_) (fun c1 => ?_)
  · replace h := hF h c1
    refine AW.aloadr_n 0 dX12_shuts_13 rfl ?_
    refine AW.getI af_X12_44_117 sr_117_10 dX12_shuts_14 ?_
    refine AW.iload 4 dX12_shuts_17 rfl ?_
    refine AW.icmp_ge (tgt := 24) dX12_shuts_19 (by decide) (fun c2 => ?_) (fun c2 => ?_)
    · replace h := hT h c2
      refine AW.aloadr_n 0 dX12_shuts_24 rfl ?_
      obtain ⟨r3, e4, h⟩ := hC h
      refine AW.callVv (As := []) (st := []) (M_starts_ok e4) cq_X12_570 cr_117_X12_starts (Nat.le_trans (by decide) hdd) rfl dX12_shuts_25 rfl (Nat.le_of_ble_eq_true rfl) ?_
      refine AW.iconst dX12_shuts_28 ?_
      refine AW.istore (lv1 := [(5, iv 1), (0, rv z 117), (1, iv x1), (2, iv x2), (3, iv x3), (4, iv x4)]) dX12_shuts_29 (by decide) rfl ?_
      refine AW.sub (lv1 := [(0, rv z 117), (1, iv x1), (2, iv x2), (3, iv x3), (4, iv x4), (5, iv 1)]) [1, 2, 3, 4, 5, 0] rfl ?_
      exact M_shuts_b_ok hdd _ _ _ h
    · replace h := hF h c2
      refine AW.iconst dX12_shuts_22 ?_
      exact AW.iret1 rfl dX12_shuts_23 h rfl
  · replace h := hT h c1
    refine AW.iconst dX12_shuts_11 ?_
    exact AW.iret1 rfl dX12_shuts_12 h rfl
theorem M_held_ok {z : AZ} {x1 : Int} {x2 : Int} {x3 : Int} {x4 : Int} {g : AG} {r : Int × AG} (h : M_held x1 x2 x3 x4 g = some r) : AMf z yX12_held cX12_held 6 (some .int) 3 [rv z 117, iv x1, iv x2, iv x3, iv x4] g r := by
  intro d hdd
  refine AM.of (by decide +kernel) (Nat.le_of_ble_eq_true rfl) ?_
  show AW z (RX12, cX12_held, 6, (some .int)) d (QD (some .int) r) 0 [(0, rv z 117), (1, iv x1), (2, iv x2), (3, iv x3), (4, iv x4)] [] g
  unfold M_held at h
  refine AW.aloadr_n 0 dX12_held_0 rfl ?_
  refine AW.iload_n 1 dX12_held_1 rfl ?_
  refine AW.callVi (As := [iv x1]) (st := []) M_isBoat_ok cq_X12_435 cr_117_X12_isBoat (Nat.le_trans (by decide) hdd) rfl dX12_held_2 rfl (Nat.le_of_ble_eq_true rfl) ?_
  refine AW.if_eq (tgt := 39) dX12_held_5 (by decide) (fun c1 => ?_) (fun c1 => ?_)
  · replace h := hT h c1
    refine AW.ldcw dX12_held_39 cw_X12_450 ?_
    exact AW.iret1 rfl dX12_held_42 h rfl
  · replace h := hF h c1
    refine AW.iload_n 2 dX12_held_8 rfl ?_
    refine AW.iconst dX12_held_9 ?_
    refine AW.bipush dX12_held_10 (by decide) (by decide) ?_
    refine AW.callSi (As := [iv x2, iv 0, iv 99]) (st := []) M_isIn_ok cq_X12_3 st_X12_isIn (Nat.le_trans (by decide) hdd) rfl dX12_held_12 rfl (Nat.le_of_ble_eq_true rfl) ?_
    refine AW.if_eq (tgt := 39) dX12_held_15 (by decide) (fun c2 => ?_) (fun c2 => ?_)
    · replace h := hT h c2
      refine AW.ldcw dX12_held_39 cw_X12_450 ?_
      exact AW.iret1 rfl dX12_held_42 h rfl
    · replace h := hF h c2
      refine AW.iload_n 3 dX12_held_18 rfl ?_
      refine AW.iconst dX12_held_19 ?_
      refine AW.bipush dX12_held_20 (by decide) (by decide) ?_
      refine AW.callSi (As := [iv x3, iv 0, iv 9]) (st := []) M_isIn_ok cq_X12_3 st_X12_isIn (Nat.le_trans (by decide) hdd) rfl dX12_held_22 rfl (Nat.le_of_ble_eq_true rfl) ?_
      refine AW.if_eq (tgt := 39) dX12_held_25 (by decide) (fun c3 => ?_) (fun c3 => ?_)
      · replace h := hT h c3
        refine AW.ldcw dX12_held_39 cw_X12_450 ?_
        exact AW.iret1 rfl dX12_held_42 h rfl
      · replace h := hF h c3
        refine AW.iload 4 dX12_held_28 rfl ?_
        refine AW.iconst dX12_held_30 ?_
        refine AW.bipush dX12_held_31 (by decide) (by decide) ?_
        refine AW.callSi (As := [iv x4, iv 0, iv 9]) (st := []) M_isIn_ok cq_X12_3 st_X12_isIn (Nat.le_trans (by decide) hdd) rfl dX12_held_33 rfl (Nat.le_of_ble_eq_true rfl) ?_
        refine AW.if_ne (tgt := 43) dX12_held_36 (by decide) (fun c4 => ?_) (fun c4 => ?_)
        · replace h := hF h c4
          refine AW.aloadr_n 0 dX12_held_43 rfl ?_
          obtain ⟨r5, e6, h⟩ := hC h
          refine AW.callVv (As := []) (st := []) (M_forgets_ok e6) cq_X12_401 cr_117_X12_forgets (Nat.le_trans (by decide) hdd) rfl dX12_held_44 rfl (Nat.le_of_ble_eq_true rfl) ?_
          refine AW.aloadr_n 0 dX12_held_47 rfl ?_
          refine AW.getR af_X12_109_117 sr_117_33 dX12_held_48 ?_
          refine AW.iconst dX12_held_51 ?_
          refine AW.iload 4 dX12_held_52 rfl ?_
          obtain ⟨g7, e8, h⟩ := hBe h
          refine AW.iast kc_148 sk_148 (by decide) dX12_held_54 e8 ?_
          refine AW.aloadr_n 0 dX12_held_55 rfl ?_
          refine AW.getR af_X12_109_117 sr_117_33 dX12_held_56 ?_
          refine AW.bipush dX12_held_59 (by decide) (by decide) ?_
          refine AW.iload_n 2 dX12_held_61 rfl ?_
          obtain ⟨g9, e10, h⟩ := hBe h
          refine AW.iast kc_148 sk_148 (by decide) dX12_held_62 e10 ?_
          refine AW.aloadr_n 0 dX12_held_63 rfl ?_
          refine AW.getR af_X12_109_117 sr_117_33 dX12_held_64 ?_
          refine AW.bipush dX12_held_67 (by decide) (by decide) ?_
          refine AW.iload_n 3 dX12_held_69 rfl ?_
          obtain ⟨g11, e12, h⟩ := hBe h
          refine AW.iast kc_148 sk_148 (by decide) dX12_held_70 e12 ?_
          refine AW.aloadr_n 0 dX12_held_71 rfl ?_
          refine AW.getR af_X12_109_117 sr_117_33 dX12_held_72 ?_
          refine AW.bipush dX12_held_75 (by decide) (by decide) ?_
          refine AW.aloadr_n 0 dX12_held_77 rfl ?_
          refine AW.getR af_X12_35_117 sr_117_7 dX12_held_78 ?_
          refine AW.iload_n 1 dX12_held_81 rfl ?_
          obtain ⟨k13, h⟩ := hK h
          refine AW.iald kc_125 sk_125 k13 dX12_held_82 ?_
          obtain ⟨g14, e15, h⟩ := hBe h
          refine AW.iast kc_148 sk_148 (by decide) dX12_held_83 e15 ?_
          refine AW.aloadr_n 0 dX12_held_84 rfl ?_
          refine AW.iconst dX12_held_85 ?_
          obtain ⟨r16, e17, h⟩ := hC h
          refine AW.callVi (As := [iv 3]) (st := []) (M_serves_ok e17) cq_X12_404 cr_117_X12_serves (Nat.le_trans (by decide) hdd) rfl dX12_held_86 rfl (Nat.le_of_ble_eq_true rfl) ?_
          refine AW.istore (lv1 := [(5, iv r16.1), (0, rv z 117), (1, iv x1), (2, iv x2), (3, iv x3), (4, iv x4)]) dX12_held_89 (by decide) rfl ?_
          refine AW.iload 0 dX12_held_91 rfl ?_
          refine AW.iconst dX12_held_93 ?_
          obtain ⟨r22, e23, h⟩ := hC h
          refine AW.join (tgt := 119) (lv1 := []) (st1 := [iv r22.1]) (g1 := r22.2) ?_ (fun J94 => ?_)
          · exact AW.iret1 rfl dX12_held_119 h rfl
          replace h := e23
          refine AW.icmp_ne (tgt := 101) dX12_held_94 (by decide) (fun c18 => ?_) (fun c18 => ?_)
          · replace h := hF h c18
            refine AW.aloadr_n 1 dX12_held_101 rfl ?_
            refine AW.aloadr_n 1 dX12_held_102 rfl ?_
            refine AW.getR af_X12_57_117 sr_117_16 dX12_held_103 ?_
            refine AW.iload 0 dX12_held_106 rfl ?_
            obtain ⟨k19, h⟩ := hK h
            refine AW.iald kc_131 sk_131 k19 dX12_held_108 ?_
            refine AW.aloadr_n 1 dX12_held_109 rfl ?_
            refine AW.getR af_X12_60_117 sr_117_17 dX12_held_110 ?_
            refine AW.iload 0 dX12_held_113 rfl ?_
            refine AW.iald kc_132 sk_132 k19 dX12_held_115 ?_
            obtain ⟨r20, e21, h⟩ := hC h
            refine AW.callVi (As := [iv (r16.2 131 (ix r16.1)), iv (r16.2 132 (ix r16.1))]) (st := []) (M_comesTo_ok e21) cq_X12_397 cr_117_X12_comesTo (Nat.le_trans (by decide) hdd) rfl dX12_held_116 rfl (Nat.le_of_ble_eq_true rfl) ?_
            refine AW.sub (lv1 := []) [] rfl ?_
            cases h
            exact J94
          · replace h := hT h c18
            refine AW.iconst dX12_held_97 ?_
            refine AW.goto (tgt := 119) dX12_held_98 (by decide) ?_
            refine AW.sub (lv1 := []) [] rfl ?_
            cases h
            exact J94
        · replace h := hT h c4
          refine AW.ldcw dX12_held_39 cw_X12_450 ?_
          exact AW.iret1 rfl dX12_held_42 h rfl
theorem M_look_ok {z : AZ} {x1 : Int} {g : AG} : AMf z yX12_look cX12_look 2 (some .int) 0 [rv z 117, iv x1] g ((M_look x1 g), g) := by
  intro d hdd
  refine AM.of (by decide +kernel) (Nat.le_of_ble_eq_true rfl) ?_
  show AW z (RX12, cX12_look, 2, (some .int)) d (QD (some .int) ((M_look x1 g), g)) 0 [(0, rv z 117), (1, iv x1)] [] g
  refine AW.iload_n 1 dX12_look_0 rfl ?_
  by_cases c1 : nw x1 = 0
  · refine AW.tsIn (tgt := 48) 0 dX12_look_1 c1 (by decide) (by decide) (by rfl) (by decide) ?_
    refine AW.aloadr_n 0 dX12_look_48 rfl ?_
    refine AW.getI af_X12_235_117 sr_117_12 dX12_look_49 ?_
    exact AW.iret rfl dX12_look_52 ⟨congrArg (fun v => some (iv v)) (show M_look x1 g = (g 117 12) from ((if_pos c1))).symm, rfl⟩
  · by_cases c2 : nw x1 = 1
    · refine AW.tsIn (tgt := 53) 1 dX12_look_1 c2 (by decide) (by decide) (by rfl) (by decide) ?_
      refine AW.aloadr_n 0 dX12_look_53 rfl ?_
      refine AW.getI af_X12_444_117 sr_117_49 dX12_look_54 ?_
      exact AW.iret rfl dX12_look_57 ⟨congrArg (fun v => some (iv v)) (show M_look x1 g = (g 117 49) from (((if_neg c1).trans (if_pos c2)))).symm, rfl⟩
    · by_cases c3 : nw x1 = 2
      · refine AW.tsIn (tgt := 58) 2 dX12_look_1 c3 (by decide) (by decide) (by rfl) (by decide) ?_
        refine AW.aloadr_n 0 dX12_look_58 rfl ?_
        refine AW.getI af_X12_493_117 sr_117_65 dX12_look_59 ?_
        exact AW.iret rfl dX12_look_62 ⟨congrArg (fun v => some (iv v)) (show M_look x1 g = (g 117 65) from (((if_neg c1).trans ((if_neg c2).trans (if_pos c3))))).symm, rfl⟩
      · by_cases c4 : nw x1 = 3
        · refine AW.tsIn (tgt := 63) 3 dX12_look_1 c4 (by decide) (by decide) (by rfl) (by decide) ?_
          refine AW.aloadr_n 0 dX12_look_63 rfl ?_
          refine AW.getI af_X12_528_117 sr_117_87 dX12_look_64 ?_
          exact AW.iret rfl dX12_look_67 ⟨congrArg (fun v => some (iv v)) (show M_look x1 g = (g 117 87) from (((if_neg c1).trans ((if_neg c2).trans ((if_neg c3).trans (if_pos c4)))))).symm, rfl⟩
        · by_cases c5 : nw x1 = 4
          · refine AW.tsIn (tgt := 68) 4 dX12_look_1 c5 (by decide) (by decide) (by rfl) (by decide) ?_
            refine AW.aloadr_n 0 dX12_look_68 rfl ?_
            refine AW.getI af_X12_475_117 sr_117_59 dX12_look_69 ?_
            exact AW.iret rfl dX12_look_72 ⟨congrArg (fun v => some (iv v)) (show M_look x1 g = (g 117 59) from (((if_neg c1).trans ((if_neg c2).trans ((if_neg c3).trans ((if_neg c4).trans (if_pos c5))))))).symm, rfl⟩
          · by_cases c6 : nw x1 = 5
            · refine AW.tsIn (tgt := 73) 5 dX12_look_1 c6 (by decide) (by decide) (by rfl) (by decide) ?_
              refine AW.aloadr_n 0 dX12_look_73 rfl ?_
              refine AW.getI af_X12_232_117 sr_117_11 dX12_look_74 ?_
              exact AW.iret rfl dX12_look_77 ⟨congrArg (fun v => some (iv v)) (show M_look x1 g = (g 117 11) from (((if_neg c1).trans ((if_neg c2).trans ((if_neg c3).trans ((if_neg c4).trans ((if_neg c5).trans (if_pos c6)))))))).symm, rfl⟩
            · by_cases c7 : nw x1 = 6
              · refine AW.tsIn (tgt := 78) 6 dX12_look_1 c7 (by decide) (by decide) (by rfl) (by decide) ?_
                refine AW.aloadr_n 0 dX12_look_78 rfl ?_
                refine AW.getI af_X12_44_117 sr_117_10 dX12_look_79 ?_
                exact AW.iret rfl dX12_look_82 ⟨congrArg (fun v => some (iv v)) (show M_look x1 g = (g 117 10) from (((if_neg c1).trans ((if_neg c2).trans ((if_neg c3).trans ((if_neg c4).trans ((if_neg c5).trans ((if_neg c6).trans (if_pos c7))))))))).symm, rfl⟩
              · by_cases c8 : nw x1 = 7
                · refine AW.tsIn (tgt := 83) 7 dX12_look_1 c8 (by decide) (by decide) (by rfl) (by decide) ?_
                  refine AW.aloadr_n 0 dX12_look_83 rfl ?_
                  refine AW.getI af_X12_555_117 sr_117_92 dX12_look_84 ?_
                  exact AW.iret rfl dX12_look_87 ⟨congrArg (fun v => some (iv v)) (show M_look x1 g = (g 117 92) from (((if_neg c1).trans ((if_neg c2).trans ((if_neg c3).trans ((if_neg c4).trans ((if_neg c5).trans ((if_neg c6).trans ((if_neg c7).trans (if_pos c8)))))))))).symm, rfl⟩
                · refine AW.tsOut (tgt := 88) dX12_look_1 (by omega) (by decide) ?_
                  refine AW.iconst dX12_look_88 ?_
                  exact AW.iret rfl dX12_look_89 ⟨congrArg (fun v => some (iv v)) (show M_look x1 g = (-1) from (((if_neg c1).trans ((if_neg c2).trans ((if_neg c3).trans ((if_neg c4).trans ((if_neg c5).trans ((if_neg c6).trans ((if_neg c7).trans (if_neg c8)))))))))).symm, rfl⟩
