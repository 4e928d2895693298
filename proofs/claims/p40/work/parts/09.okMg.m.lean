section
set_option synthInstance.maxHeartbeats 2000000 in
theorem M_van_b_ok {z : AZ} {d : Nat} (hdd : 2 ≤ d) {x1 : Int} {g : AG} : ∀ (x2 : Int) (x3 : Int) (r : Int), M_van_b x1 g x2 x3 = some r → AW z (RX12, cX12_van, 4, (some .int)) d (QD (some .int) (r, g)) 58 [(0, rv z 117), (1, iv x1), (2, iv x2), (3, iv x3)] [] g := by
  refine M_van_b.partial_correctness x1 g (fun x2 x3 r => AW z (RX12, cX12_van, 4, (some .int)) d (QD (some .int) (r, g)) 58 [(0, rv z 117), (1, iv x1), (2, iv x2), (3, iv x3)] [] g) ?_
  intro fb9 ih x2 x3 r h
  refine AW.iload_n 3 (dcN_17 dcg_792 :) rfl ?_
  refine AW.bipush (dcN_18 dcg_792 :) (by decide) (by decide) ?_
  refine AW.icmp_ge (tgt := 89) (dcN_19 dcg_792 :) (by decide) (fun c1 => ?_) (fun c1 => ?_)
  · replace h := hT h c1
    refine AW.iload_n 1 (dcN_13 dcg_793 :) rfl ?_
    obtain ⟨r8, e9, h⟩ := hC h
    refine AW.join (tgt := 115) (lv1 := []) (st1 := [iv r8]) (g1 := g) ?_ (fun J90 => ?_)
    · exact AW.iret2 rfl (dcN_10 dcg_794 :) h rfl
    replace h := e9
    refine AW.if_ne (tgt := 97) (dcN_14 dcg_793 :) (by decide) (fun c2 => ?_) (fun c2 => ?_)
    · replace h := hF h c2
      refine AW.iload_n 1 (dcN_0 dcg_794 :) rfl ?_
      refine AW.iconst (dcN_1 dcg_794 :) ?_
      refine AW.icmp_ne (tgt := 110) (dcN_2 dcg_794 :) (by decide) (fun c3 => ?_) (fun c3 => ?_)
      · replace h := hF h c3
        refine AW.aloadr_n 0 (dcN_7 dcg_794 :) rfl ?_
        refine AW.iload_n 2 (dcN_8 dcg_794 :) rfl ?_
        obtain ⟨r4, e5, h⟩ := hC h
        refine AW.callVi (As := [iv x2]) (st := []) (M_worstOf_ok e5) cq_X12_549 cr_117_X12_worstOf (Nat.le_trans (by decide) hdd) rfl (dcN_9 dcg_794 :) rfl (Nat.le_of_ble_eq_true rfl) ?_
        refine AW.sub (lv1 := []) [] rfl ?_
        cases h
        exact J90
      · replace h := hT h c3
        refine AW.aloadr_n 0 (dcN_3 dcg_794 :) rfl ?_
        refine AW.iload_n 2 (dcN_4 dcg_794 :) rfl ?_
        obtain ⟨r6, e7, h⟩ := hC h
        refine AW.callVi (As := [iv x2]) (st := []) (M_sumOf_ok e7) cq_X12_546 cr_117_X12_sumOf (Nat.le_trans (by decide) hdd) rfl (dcN_5 dcg_794 :) rfl (Nat.le_of_ble_eq_true rfl) ?_
        refine AW.goto (tgt := 115) (dcN_6 dcg_794 :) (by decide) ?_
        refine AW.sub (lv1 := []) [] rfl ?_
        cases h
        exact J90
    · replace h := hT h c2
      refine AW.iload_n 2 (dcN_15 dcg_793 :) rfl ?_
      refine AW.goto (tgt := 115) (dcN_16 dcg_793 :) (by decide) ?_
      refine AW.sub (lv1 := []) [] rfl ?_
      cases h
      exact J90
  · replace h := hF h c1
    refine AW.aloadr_n 0 (dcN_0 dcg_793 :) rfl ?_
    refine AW.iload_n 3 (dcN_1 dcg_793 :) rfl ?_
    obtain ⟨r10, e11, h⟩ := hC h
    refine AW.callVi (As := [iv x3]) (st := []) (M_sumOf_ok e11) cq_X12_546 cr_117_X12_sumOf (Nat.le_trans (by decide) hdd) rfl (dcN_2 dcg_793 :) rfl (Nat.le_of_ble_eq_true rfl) ?_
    refine AW.aloadr_n 0 (dcN_3 dcg_793 :) rfl ?_
    refine AW.iload_n 2 (dcN_4 dcg_793 :) rfl ?_
    obtain ⟨r12, e13, h⟩ := hC h
    refine AW.callVi (As := [iv x2]) (st := [iv r10]) (M_sumOf_ok e13) cq_X12_546 cr_117_X12_sumOf (Nat.le_trans (by decide) hdd) rfl (dcN_5 dcg_793 :) rfl (Nat.le_of_ble_eq_true rfl) ?_
    obtain ⟨t14, e15, h⟩ := hBe h
    refine AW.join (tgt := 82) (lv1 := [(0, rv z 117), (1, iv x1), (2, iv x2), (3, iv x3)]) (st1 := [iv t14]) (g1 := g) ?_ (fun J74 => ?_)
    · refine AW.istore_n (lv1 := [(2, iv t14), (0, rv z 117), (1, iv x1), (3, iv x3)]) (dcN_10 dcg_793 :) (by decide) rfl ?_
      refine AW.iinc (lv1 := [(3, iv (x3 + 1)), (2, iv t14), (0, rv z 117), (1, iv x1)]) 3 (dcN_11 dcg_793 :) rfl (by decide) rfl ?_
      refine AW.goto (tgt := 58) (dcN_12 dcg_793 :) (by decide) ?_
      refine AW.sub (lv1 := [(0, rv z 117), (1, iv x1), (2, iv t14), (3, iv (x3 + 1))]) [2, 3, 1, 0] rfl ?_
      exact ih _ _ _ h
    refine AW.icmp_ge (tgt := 81) (dcN_6 dcg_793 :) (by decide) (fun c16 => ?_) (fun c16 => ?_)
    · refine AW.iload_n 2 (dcN_9 dcg_793 :) rfl ?_
      exact AW.val (e15.trans (if_pos c16)) J74
    · refine AW.iload_n 3 (dcN_7 dcg_793 :) rfl ?_
      refine AW.goto (tgt := 82) (dcN_8 dcg_793 :) (by decide) ?_
      exact AW.val (e15.trans (if_neg c16)) J74
theorem M_van_ok {z : AZ} {x1 : Int} {g : AG} {r : Int} (h : M_van x1 g = some r) : AMf z yX12_van cX12_van 4 (some .int) 2 [rv z 117, iv x1] g (r, g) := by
  intro d hdd
  refine AM.of (by decide +kernel) (Nat.le_of_ble_eq_true rfl) ?_
  show AW z (RX12, cX12_van, 4, (some .int)) d (QD (some .int) (r, g)) 0 [(0, rv z 117), (1, iv x1)] [] g
  unfold M_van at h
  refine AW.iload_n 1 (dcN_0 dcg_791 :) rfl ?_
  refine AW.bipush (dcN_1 dcg_791 :) (by decide) (by decide) ?_
  refine AW.bipush (dcN_2 dcg_791 :) (by decide) (by decide) ?_
  refine AW.callSi (As := [iv x1, iv 100, iv 115]) (st := []) M_isIn_ok cq_X12_3 st_X12_isIn (Nat.le_trans (by decide) hdd) rfl (dcN_3 dcg_791 :) rfl (Nat.le_of_ble_eq_true rfl) ?_
  refine AW.if_eq (tgt := 20) (dcN_4 dcg_791 :) (by decide) (fun c1 => ?_) (fun c1 => ?_)
  · replace h := hT h c1
    refine AW.iload_n 1 (dcN_11 dcg_791 :) rfl ?_
    refine AW.sipush (dcN_12 dcg_791 :) (by decide) (by decide) ?_
    refine AW.sipush (dcN_13 dcg_791 :) (by decide) (by decide) ?_
    refine AW.callSi (As := [iv x1, iv 200, iv 215]) (st := []) M_isIn_ok cq_X12_3 st_X12_isIn (Nat.le_trans (by decide) hdd) rfl (dcN_14 dcg_791 :) rfl (Nat.le_of_ble_eq_true rfl) ?_
    refine AW.if_eq (tgt := 43) (dcN_15 dcg_791 :) (by decide) (fun c2 => ?_) (fun c2 => ?_)
    · replace h := hT h c2
      refine AW.iload_n 1 (dcN_6 dcg_792 :) rfl ?_
      refine AW.iconst (dcN_7 dcg_792 :) ?_
      refine AW.iconst (dcN_8 dcg_792 :) ?_
      refine AW.callSi (As := [iv x1, iv 0, iv 2]) (st := []) M_isIn_ok cq_X12_3 st_X12_isIn (Nat.le_trans (by decide) hdd) rfl (dcN_9 dcg_792 :) rfl (Nat.le_of_ble_eq_true rfl) ?_
      refine AW.if_ne (tgt := 54) (dcN_10 dcg_792 :) (by decide) (fun c3 => ?_) (fun c3 => ?_)
      · replace h := hF h c3
        refine AW.iconst (dcN_13 dcg_792 :) ?_
        refine AW.istore_n (lv1 := [(2, iv 0), (0, rv z 117), (1, iv x1)]) (dcN_14 dcg_792 :) (by decide) rfl ?_
        refine AW.iconst (dcN_15 dcg_792 :) ?_
        refine AW.istore_n (lv1 := [(3, iv 1), (2, iv 0), (0, rv z 117), (1, iv x1)]) (dcN_16 dcg_792 :) (by decide) rfl ?_
        refine AW.sub (lv1 := [(0, rv z 117), (1, iv x1), (2, iv 0), (3, iv 1)]) [2, 3, 1, 0] rfl ?_
        exact M_van_b_ok hdd _ _ _ h
      · replace h := hT h c3
        refine AW.iconst (dcN_11 dcg_792 :) ?_
        exact AW.iret2 rfl (dcN_12 dcg_792 :) h rfl
    · replace h := hF h c2
      refine AW.aloadr_n 0 (dcN_0 dcg_792 :) rfl ?_
      refine AW.iload_n 1 (dcN_1 dcg_792 :) rfl ?_
      refine AW.sipush (dcN_2 dcg_792 :) (by decide) (by decide) ?_
      refine AW.isub (dcN_3 dcg_792 :) ?_
      obtain ⟨r4, e5, h⟩ := hC h
      refine AW.callVi (As := [iv (x1 - 200)]) (st := []) (M_worstOf_ok e5) cq_X12_549 cr_117_X12_worstOf (Nat.le_trans (by decide) hdd) rfl (dcN_4 dcg_792 :) rfl (Nat.le_of_ble_eq_true rfl) ?_
      exact AW.iret2 rfl (dcN_5 dcg_792 :) h rfl
  · replace h := hF h c1
    refine AW.aloadr_n 0 (dcN_5 dcg_791 :) rfl ?_
    refine AW.iload_n 1 (dcN_6 dcg_791 :) rfl ?_
    refine AW.bipush (dcN_7 dcg_791 :) (by decide) (by decide) ?_
    refine AW.isub (dcN_8 dcg_791 :) ?_
    obtain ⟨r6, e7, h⟩ := hC h
    refine AW.callVi (As := [iv (x1 - 100)]) (st := []) (M_sumOf_ok e7) cq_X12_546 cr_117_X12_sumOf (Nat.le_trans (by decide) hdd) rfl (dcN_9 dcg_791 :) rfl (Nat.le_of_ble_eq_true rfl) ?_
    exact AW.iret2 rfl (dcN_10 dcg_791 :) h rfl
theorem M_nearer_ok {z : AZ} {x1 : Int} {x2 : Int} {x3 : Int} {g : AG} {r : Int} (h : M_nearer x1 x2 x3 g = some r) : AMf z yX12_nearer cX12_nearer 4 (some .int) 1 [rv z 117, iv x1, iv x2, iv x3] g (r, g) := by
  intro d hdd
  refine AM.of (by decide +kernel) (Nat.le_of_ble_eq_true rfl) ?_
  show AW z (RX12, cX12_nearer, 4, (some .int)) d (QD (some .int) (r, g)) 0 [(0, rv z 117), (1, iv x1), (2, iv x2), (3, iv x3)] [] g
  unfold M_nearer at h
  refine AW.aloadr_n 0 (dcN_0 dcg_795 :) rfl ?_
  refine AW.iload_n 1 (dcN_1 dcg_795 :) rfl ?_
  refine AW.iload_n 3 (dcN_2 dcg_795 :) rfl ?_
  obtain ⟨r1, e2, h⟩ := hC h
  refine AW.callVi (As := [iv x1, iv x3]) (st := []) (M_drive_ok e2) cq_X12_543 cr_117_X12_drive (Nat.le_trans (by decide) hdd) rfl (dcN_3 dcg_795 :) rfl (Nat.le_of_ble_eq_true rfl) ?_
  refine AW.aloadr_n 0 (dcN_4 dcg_795 :) rfl ?_
  refine AW.iload_n 2 (dcN_5 dcg_795 :) rfl ?_
  refine AW.iload_n 3 (dcN_6 dcg_795 :) rfl ?_
  obtain ⟨r3, e4, h⟩ := hC h
  refine AW.callVi (As := [iv x2, iv x3]) (st := [iv r1]) (M_drive_ok e4) cq_X12_543 cr_117_X12_drive (Nat.le_trans (by decide) hdd) rfl (dcN_7 dcg_795 :) rfl (Nat.le_of_ble_eq_true rfl) ?_
  obtain ⟨r10, e11, h⟩ := hC h
  refine AW.join (tgt := 30) (lv1 := []) (st1 := [iv r10]) (g1 := g) ?_ (fun J12 => ?_)
  · exact AW.iret2 rfl (dcN_6 dcg_796 :) h rfl
  replace h := e11
  refine AW.icmp_ge (tgt := 24) (dcN_8 dcg_795 :) (by decide) (fun c5 => ?_) (fun c5 => ?_)
  · replace h := hT h c5
    refine AW.aloadr_n 0 (dcN_2 dcg_796 :) rfl ?_
    refine AW.iload_n 2 (dcN_3 dcg_796 :) rfl ?_
    refine AW.iload_n 3 (dcN_4 dcg_796 :) rfl ?_
    obtain ⟨r6, e7, h⟩ := hC h
    refine AW.callVi (As := [iv x2, iv x3]) (st := []) (M_drive_ok e7) cq_X12_543 cr_117_X12_drive (Nat.le_trans (by decide) hdd) rfl (dcN_5 dcg_796 :) rfl (Nat.le_of_ble_eq_true rfl) ?_
    refine AW.sub (lv1 := []) [] rfl ?_
    cases h
    exact J12
  · replace h := hF h c5
    refine AW.aloadr_n 0 (dcN_9 dcg_795 :) rfl ?_
    refine AW.iload_n 1 (dcN_10 dcg_795 :) rfl ?_
    refine AW.iload_n 3 (dcN_11 dcg_795 :) rfl ?_
    obtain ⟨r8, e9, h⟩ := hC h
    refine AW.callVi (As := [iv x1, iv x3]) (st := []) (M_drive_ok e9) cq_X12_543 cr_117_X12_drive (Nat.le_trans (by decide) hdd) rfl (dcN_0 dcg_796 :) rfl (Nat.le_of_ble_eq_true rfl) ?_
    refine AW.goto (tgt := 30) (dcN_1 dcg_796 :) (by decide) ?_
    refine AW.sub (lv1 := []) [] rfl ?_
    cases h
    exact J12
set_option synthInstance.maxHeartbeats 2000000 in
theorem M_vans_b_ok {z : AZ} {d : Nat} (hdd : 2 ≤ d) {x1 : Int} {g : AG} : ∀ (tag : Nat) (x2 : Int) (x3 : Int) (x4 : Int) (x5 : Int) (x6 : Int) (x7 : Int) (r : Int), M_vans_b x1 g tag x2 x3 x4 x5 x6 x7 = some r → (tag = 1 → AW z (RX12, cX12_vans, 8, (some .int)) d (QD (some .int) (r, g)) 18 [(0, rv z 117), (1, iv x1), (2, iv x2), (3, iv x3), (4, iv x4)] [] g) ∧ (tag = 2 → AW z (RX12, cX12_vans, 8, (some .int)) d (QD (some .int) (r, g)) 29 [(0, rv z 117), (1, iv x1), (2, iv x2), (3, iv x3), (4, iv x4), (5, iv x5)] [] g) ∧ (tag = 3 → AW z (RX12, cX12_vans, 8, (some .int)) d (QD (some .int) (r, g)) 42 [(0, rv z 117), (1, iv x1), (2, iv x2), (3, iv x3), (4, iv x4), (5, iv x5), (6, iv x6), (7, iv x7)] [] g) := by
  refine M_vans_b.partial_correctness x1 g (fun tag x2 x3 x4 x5 x6 x7 r => (tag = 1 → AW z (RX12, cX12_vans, 8, (some .int)) d (QD (some .int) (r, g)) 18 [(0, rv z 117), (1, iv x1), (2, iv x2), (3, iv x3), (4, iv x4)] [] g) ∧ (tag = 2 → AW z (RX12, cX12_vans, 8, (some .int)) d (QD (some .int) (r, g)) 29 [(0, rv z 117), (1, iv x1), (2, iv x2), (3, iv x3), (4, iv x4), (5, iv x5)] [] g) ∧ (tag = 3 → AW z (RX12, cX12_vans, 8, (some .int)) d (QD (some .int) (r, g)) 42 [(0, rv z 117), (1, iv x1), (2, iv x2), (3, iv x3), (4, iv x4), (5, iv x5), (6, iv x6), (7, iv x7)] [] g)) ?_
  intro fb9 ih tag x2 x3 x4 x5 x6 x7 r h
  refine ⟨fun h9 => ?_, fun h9 => ?_, fun h9 => ?_⟩
  · subst h9
    replace h := hT h rfl
    refine AW.iload 4 (dcN_13 dcg_797 :) rfl ?_
    refine AW.bipush (dcN_14 dcg_797 :) (by decide) (by decide) ?_
    refine AW.icmp_ge (tgt := 116) (dcN_15 dcg_797 :) (by decide) (fun c1 => ?_) (fun c1 => ?_)
    · replace h := hT h c1
      refine AW.iload_n 1 (dcN_10 dcg_800 :) rfl ?_
      obtain ⟨t2, e3, h⟩ := hBe h
      refine AW.join (tgt := 125) (lv1 := [(0, rv z 117), (1, iv x1), (2, iv x2), (3, iv x3), (4, iv x4)]) (st1 := [iv t2]) (g1 := g) ?_ (fun J117 => ?_)
      · exact AW.iret2 rfl (dcN_15 dcg_800 :) h rfl
      refine AW.if_ne (tgt := 124) (dcN_11 dcg_800 :) (by decide) (fun c4 => ?_) (fun c4 => ?_)
      · refine AW.iload_n 3 (dcN_14 dcg_800 :) rfl ?_
        exact AW.val (e3.trans (if_neg c4)) J117
      · refine AW.iload_n 2 (dcN_12 dcg_800 :) rfl ?_
        refine AW.goto (tgt := 125) (dcN_13 dcg_800 :) (by decide) ?_
        exact AW.val (e3.trans (if_pos c4)) J117
    · replace h := hF h c1
      refine AW.iload 4 (dcN_16 dcg_797 :) rfl ?_
      refine AW.istore (lv1 := [(5, iv x4), (0, rv z 117), (1, iv x1), (2, iv x2), (3, iv x3), (4, iv x4)]) (dcN_17 dcg_797 :) (by decide) rfl ?_
      refine AW.sub (lv1 := [(0, rv z 117), (1, iv x1), (2, iv x2), (3, iv x3), (4, iv x4), (5, iv x4)]) [1, 2, 3, 4, 5, 0] rfl ?_
      exact (ih _ _ _ _ _ _ _ _ h).2.1 rfl
  · subst h9
    replace h := hF h (by decide)
    replace h := hT h rfl
    refine AW.iload 5 (dcN_18 dcg_797 :) rfl ?_
    refine AW.bipush (dcN_19 dcg_797 :) (by decide) (by decide) ?_
    refine AW.icmp_ge (tgt := 110) (dcN_0 dcg_798 :) (by decide) (fun c1 => ?_) (fun c1 => ?_)
    · replace h := hT h c1
      refine AW.iinc (lv1 := [(4, iv (x4 + 1)), (0, rv z 117), (1, iv x1), (2, iv x2), (3, iv x3), (5, iv x5)]) 4 (dcN_8 dcg_800 :) rfl (by decide) rfl ?_
      refine AW.goto (tgt := 18) (dcN_9 dcg_800 :) (by decide) ?_
      refine AW.sub (lv1 := [(0, rv z 117), (1, iv x1), (2, iv x2), (3, iv x3), (4, iv (x4 + 1))]) [1, 2, 3, 4, 0] rfl ?_
      exact (ih _ _ _ _ _ _ _ _ h).1 rfl
    · replace h := hF h c1
      refine AW.iconst (dcN_1 dcg_798 :) ?_
      refine AW.istore (lv1 := [(6, iv 0), (0, rv z 117), (1, iv x1), (2, iv x2), (3, iv x3), (4, iv x4), (5, iv x5)]) (dcN_2 dcg_798 :) (by decide) rfl ?_
      refine AW.iconst (dcN_3 dcg_798 :) ?_
      refine AW.istore (lv1 := [(7, iv 0), (6, iv 0), (0, rv z 117), (1, iv x1), (2, iv x2), (3, iv x3), (4, iv x4), (5, iv x5)]) (dcN_4 dcg_798 :) (by decide) rfl ?_
      refine AW.sub (lv1 := [(0, rv z 117), (1, iv x1), (2, iv x2), (3, iv x3), (4, iv x4), (5, iv x5), (6, iv 0), (7, iv 0)]) [2, 3, 4, 5, 6, 7, 1, 0] rfl ?_
      exact (ih _ _ _ _ _ _ _ _ h).2.2 rfl
  · subst h9
    replace h := hF h (by decide)
    replace h := hF h (by decide)
    replace h := hT h rfl
    refine AW.iload 7 (dcN_5 dcg_798 :) rfl ?_
    refine AW.bipush (dcN_6 dcg_798 :) (by decide) (by decide) ?_
    refine AW.icmp_ge (tgt := 78) (dcN_7 dcg_798 :) (by decide) (fun c1 => ?_) (fun c1 => ?_)
    · replace h := hT h c1
      refine AW.iload_n 2 (dcN_6 dcg_799 :) rfl ?_
      refine AW.iconst (dcN_7 dcg_799 :) ?_
      obtain ⟨r4, e5, h⟩ := hC h
      refine AW.join (tgt := 104) (lv1 := [(0, rv z 117), (1, iv x1), (2, iv r4.1), (3, iv r4.2), (4, iv x4), (5, iv x5)]) (st1 := []) (g1 := g) ?_ (fun J80 => ?_)
      · refine AW.iinc (lv1 := [(5, iv (x5 + 1)), (0, rv z 117), (1, iv x1), (2, iv r4.1), (3, iv r4.2), (4, iv x4)]) 5 (dcN_6 dcg_800 :) rfl (by decide) rfl ?_
        refine AW.goto (tgt := 29) (dcN_7 dcg_800 :) (by decide) ?_
        refine AW.sub (lv1 := [(0, rv z 117), (1, iv x1), (2, iv r4.1), (3, iv r4.2), (4, iv x4), (5, iv (x5 + 1))]) [1, 2, 3, 4, 5, 0] rfl ?_
        exact (ih _ _ _ _ _ _ _ _ h).2.1 rfl
      replace h := e5
      refine AW.icmp_eq (tgt := 92) (dcN_8 dcg_799 :) (by decide) (fun c2 => ?_) (fun c2 => ?_)
      · replace h := hT h c2
        refine AW.bipush (dcN_13 dcg_799 :) (by decide) (by decide) ?_
        refine AW.iload 4 (dcN_14 dcg_799 :) rfl ?_
        refine AW.imul (dcN_0 dcg_800 :) ?_
        refine AW.iload 5 (dcN_1 dcg_800 :) rfl ?_
        refine AW.iadd (dcN_2 dcg_800 :) ?_
        refine AW.istore_n (lv1 := [(2, iv ((16 * x4) + x5)), (0, rv z 117), (1, iv x1), (3, iv x3), (4, iv x4), (5, iv x5), (6, iv x6), (7, iv x7)]) (dcN_3 dcg_800 :) (by decide) rfl ?_
        refine AW.iload 6 (dcN_4 dcg_800 :) rfl ?_
        refine AW.istore_n (lv1 := [(3, iv x6), (2, iv ((16 * x4) + x5)), (0, rv z 117), (1, iv x1), (4, iv x4), (5, iv x5), (6, iv x6), (7, iv x7)]) (dcN_5 dcg_800 :) (by decide) rfl ?_
        refine AW.sub (lv1 := [(0, rv z 117), (1, iv x1), (2, iv ((16 * x4) + x5)), (3, iv x6), (4, iv x4), (5, iv x5)]) [2, 3, 1, 0, 4, 5] rfl ?_
        cases h
        exact J80
      · replace h := hF h c2
        refine AW.iload 6 (dcN_9 dcg_799 :) rfl ?_
        refine AW.iload_n 3 (dcN_10 dcg_799 :) rfl ?_
        refine AW.icmp_lt (tgt := 92) (dcN_11 dcg_799 :) (by decide) (fun c3 => ?_) (fun c3 => ?_)
        · replace h := hT h c3
          refine AW.bipush (dcN_13 dcg_799 :) (by decide) (by decide) ?_
          refine AW.iload 4 (dcN_14 dcg_799 :) rfl ?_
          refine AW.imul (dcN_0 dcg_800 :) ?_
          refine AW.iload 5 (dcN_1 dcg_800 :) rfl ?_
          refine AW.iadd (dcN_2 dcg_800 :) ?_
          refine AW.istore_n (lv1 := [(2, iv ((16 * x4) + x5)), (0, rv z 117), (1, iv x1), (3, iv x3), (4, iv x4), (5, iv x5), (6, iv x6), (7, iv x7)]) (dcN_3 dcg_800 :) (by decide) rfl ?_
          refine AW.iload 6 (dcN_4 dcg_800 :) rfl ?_
          refine AW.istore_n (lv1 := [(3, iv x6), (2, iv ((16 * x4) + x5)), (0, rv z 117), (1, iv x1), (4, iv x4), (5, iv x5), (6, iv x6), (7, iv x7)]) (dcN_5 dcg_800 :) (by decide) rfl ?_
          refine AW.sub (lv1 := [(0, rv z 117), (1, iv x1), (2, iv ((16 * x4) + x5)), (3, iv x6), (4, iv x4), (5, iv x5)]) [2, 3, 1, 0, 4, 5] rfl ?_
          cases h
          exact J80
        · replace h := hF h c3
          refine AW.goto (tgt := 104) (dcN_12 dcg_799 :) (by decide) ?_
          refine AW.sub (lv1 := [(0, rv z 117), (1, iv x1), (2, iv x2), (3, iv x3), (4, iv x4), (5, iv x5)]) [0, 1, 2, 3, 4, 5] rfl ?_
          cases h
          exact J80
    · replace h := hF h c1
      refine AW.iload 6 (dcN_8 dcg_798 :) rfl ?_
      refine AW.aloadr_n 0 (dcN_9 dcg_798 :) rfl ?_
      refine AW.getR af_X12_208_117 sr_117_91 (dcN_10 dcg_798 :) ?_
      refine AW.iload 7 (dcN_11 dcg_798 :) rfl ?_
      obtain ⟨k6, h⟩ := hK h
      refine AW.iald kc_180 sk_180 k6 (dcN_12 dcg_798 :) ?_
      refine AW.aloadr_n 0 (dcN_13 dcg_798 :) rfl ?_
      refine AW.iload 4 (dcN_14 dcg_798 :) rfl ?_
      refine AW.iload 5 (dcN_15 dcg_798 :) rfl ?_
      refine AW.iload 7 (dcN_16 dcg_798 :) rfl ?_
      obtain ⟨r7, e8, h⟩ := hC h
      refine AW.callVi (As := [iv x4, iv x5, iv x7]) (st := [iv (g 180 (ix x7)), iv x6]) (M_nearer_ok e8) cq_X12_552 cr_117_X12_nearer (Nat.le_trans (by decide) hdd) rfl (dcN_0 dcg_799 :) rfl (Nat.le_of_ble_eq_true rfl) ?_
      refine AW.imul (dcN_1 dcg_799 :) ?_
      refine AW.iadd (dcN_2 dcg_799 :) ?_
      refine AW.istore (lv1 := [(6, iv (x6 + ((g 180 (ix x7)) * r7))), (0, rv z 117), (1, iv x1), (2, iv x2), (3, iv x3), (4, iv x4), (5, iv x5), (7, iv x7)]) (dcN_3 dcg_799 :) (by decide) rfl ?_
      refine AW.iinc (lv1 := [(7, iv (x7 + 1)), (6, iv (x6 + ((g 180 (ix x7)) * r7))), (0, rv z 117), (1, iv x1), (2, iv x2), (3, iv x3), (4, iv x4), (5, iv x5)]) 7 (dcN_4 dcg_799 :) rfl (by decide) rfl ?_
      refine AW.goto (tgt := 42) (dcN_5 dcg_799 :) (by decide) ?_
      refine AW.sub (lv1 := [(0, rv z 117), (1, iv x1), (2, iv x2), (3, iv x3), (4, iv x4), (5, iv x5), (6, iv (x6 + ((g 180 (ix x7)) * r7))), (7, iv (x7 + 1))]) [2, 3, 4, 5, 6, 7, 1, 0] rfl ?_
      exact (ih _ _ _ _ _ _ _ _ h).2.2 rfl
theorem M_vans_ok {z : AZ} {x1 : Int} {g : AG} {r : Int} (h : M_vans x1 g = some r) : AMf z yX12_vans cX12_vans 8 (some .int) 2 [rv z 117, iv x1] g (r, g) := by
  intro d hdd
  refine AM.of (by decide +kernel) (Nat.le_of_ble_eq_true rfl) ?_
  show AW z (RX12, cX12_vans, 8, (some .int)) d (QD (some .int) (r, g)) 0 [(0, rv z 117), (1, iv x1)] [] g
  unfold M_vans at h
  refine AW.iload_n 1 (dcN_0 dcg_797 :) rfl ?_
  refine AW.iconst (dcN_1 dcg_797 :) ?_
  refine AW.iconst (dcN_2 dcg_797 :) ?_
  refine AW.callSi (As := [iv x1, iv 0, iv 1]) (st := []) M_isIn_ok cq_X12_3 st_X12_isIn (Nat.le_trans (by decide) hdd) rfl (dcN_3 dcg_797 :) rfl (Nat.le_of_ble_eq_true rfl) ?_
  refine AW.if_ne (tgt := 11) (dcN_4 dcg_797 :) (by decide) (fun c1 => ?_) (fun c1 => ?_)
  · replace h := hF h c1
    refine AW.iconst (dcN_7 dcg_797 :) ?_
    refine AW.istore_n (lv1 := [(2, iv (-1)), (0, rv z 117), (1, iv x1)]) (dcN_8 dcg_797 :) (by decide) rfl ?_
    refine AW.iconst (dcN_9 dcg_797 :) ?_
    refine AW.istore_n (lv1 := [(3, iv 0), (2, iv (-1)), (0, rv z 117), (1, iv x1)]) (dcN_10 dcg_797 :) (by decide) rfl ?_
    refine AW.iconst (dcN_11 dcg_797 :) ?_
    refine AW.istore (lv1 := [(4, iv 0), (3, iv 0), (2, iv (-1)), (0, rv z 117), (1, iv x1)]) (dcN_12 dcg_797 :) (by decide) rfl ?_
    refine AW.sub (lv1 := [(0, rv z 117), (1, iv x1), (2, iv (-1)), (3, iv 0), (4, iv 0)]) [3, 4, 2, 1, 0] rfl ?_
    exact (M_vans_b_ok hdd _ _ _ _ _ _ _ _ h).1 rfl
  · replace h := hT h c1
    refine AW.iconst (dcN_5 dcg_797 :) ?_
    exact AW.iret2 rfl (dcN_6 dcg_797 :) h rfl
set_option synthInstance.maxHeartbeats 2000000 in
theorem M_call_b_ok {z : AZ} {d : Nat} (hdd : 2 ≤ d) {x1 : Int} {x2 : Int} {x3 : Int} {g : AG} : ∀ (r : Int × AG), M_call_b x1 x2 x3 g = some r → AW z (RX12, cX12_call, 4, (some .int)) d (QD (some .int) r) 73 [(0, rv z 117), (1, iv x1), (2, iv x2), (3, iv x3)] [] g := by
  intro r h
  unfold M_call_b at h
  refine AW.aloadr_n 0 (dcN_6 dcg_803 :) rfl ?_
  refine AW.getR af_X12_211_117 sr_117_93 (dcN_7 dcg_803 :) ?_
  refine AW.aloadr_n 0 (dcN_8 dcg_803 :) rfl ?_
  refine AW.getI af_X12_555_117 sr_117_92 (dcN_9 dcg_803 :) ?_
  refine AW.iload_n 1 (dcN_10 dcg_803 :) rfl ?_
  obtain ⟨k1, h⟩ := hK h
  obtain ⟨g2, e3, h⟩ := hBe h
  refine AW.iast kc_181 sk_181 k1 (dcN_11 dcg_803 :) e3 ?_
  refine AW.aloadr_n 0 (dcN_12 dcg_803 :) rfl ?_
  refine AW.getR af_X12_214_117 sr_117_94 (dcN_13 dcg_803 :) ?_
  refine AW.aloadr_n 0 (dcN_14 dcg_803 :) rfl ?_
  refine AW.getI af_X12_555_117 sr_117_92 (dcN_15 dcg_803 :) ?_
  refine AW.iload_n 2 (dcN_16 dcg_803 :) rfl ?_
  obtain ⟨k4, h⟩ := hK h
  obtain ⟨g5, e6, h⟩ := hBe h
  refine AW.iast kc_182 sk_182 k4 (dcN_17 dcg_803 :) e6 ?_
  refine AW.aloadr_n 0 (dcN_18 dcg_803 :) rfl ?_
  refine AW.getR af_X12_217_117 sr_117_95 (dcN_19 dcg_803 :) ?_
  refine AW.aloadr_n 0 (dcN_0 dcg_804 :) rfl ?_
  refine AW.getI af_X12_555_117 sr_117_92 (dcN_1 dcg_804 :) ?_
  refine AW.iload_n 3 (dcN_2 dcg_804 :) rfl ?_
  obtain ⟨k7, h⟩ := hK h
  obtain ⟨g8, e9, h⟩ := hBe h
  refine AW.iast kc_183 sk_183 k7 (dcN_3 dcg_804 :) e9 ?_
  refine AW.aloadr_n 0 (dcN_4 dcg_804 :) rfl ?_
  refine AW.duprr (dcN_5 dcg_804 :) ?_
  refine AW.getI af_X12_555_117 sr_117_92 (dcN_6 dcg_804 :) ?_
  refine AW.iconst (dcN_7 dcg_804 :) ?_
  refine AW.iadd (dcN_8 dcg_804 :) ?_
  obtain ⟨g10, e11, h⟩ := hBe h
  refine AW.putI ap_X12_555_117 sr_117_92 (dcN_9 dcg_804 :) e11 ?_
  refine AW.aloadr_n 0 (dcN_10 dcg_804 :) rfl ?_
  refine AW.getI af_X12_555_117 sr_117_92 (dcN_11 dcg_804 :) ?_
  exact AW.iret1 rfl (dcN_12 dcg_804 :) h rfl
theorem M_call_ok {z : AZ} {x1 : Int} {x2 : Int} {x3 : Int} {g : AG} {r : Int × AG} (h : M_call x1 x2 x3 g = some r) : AMf z yX12_call cX12_call 4 (some .int) 2 [rv z 117, iv x1, iv x2, iv x3] g r := by
  intro d hdd
  refine AM.of (by decide +kernel) (Nat.le_of_ble_eq_true rfl) ?_
  show AW z (RX12, cX12_call, 4, (some .int)) d (QD (some .int) r) 0 [(0, rv z 117), (1, iv x1), (2, iv x2), (3, iv x3)] [] g
  unfold M_call at h
  refine AW.iload_n 3 (dcN_0 dcg_801 :) rfl ?_
  refine AW.if_ne (tgt := 11) (dcN_1 dcg_801 :) (by decide) (fun c1 => ?_) (fun c1 => ?_)
  · replace h := hF h c1
    refine AW.iload_n 1 (dcN_7 dcg_801 :) rfl ?_
    refine AW.iconst (dcN_8 dcg_801 :) ?_
    refine AW.sipush (dcN_9 dcg_801 :) (by decide) (by decide) ?_
    refine AW.callSi (As := [iv x1, iv 0, iv 9999]) (st := []) M_isIn_ok cq_X12_3 st_X12_isIn (Nat.le_trans (by decide) hdd) rfl (dcN_10 dcg_801 :) rfl (Nat.le_of_ble_eq_true rfl) ?_
    refine AW.if_eq (tgt := 71) (dcN_11 dcg_801 :) (by decide) (fun c2 => ?_) (fun c2 => ?_)
    · replace h := hT h c2
      refine AW.iconst (dcN_4 dcg_803 :) ?_
      exact AW.iret1 rfl (dcN_5 dcg_803 :) h rfl
    · replace h := hF h c2
      refine AW.iload_n 2 (dcN_12 dcg_801 :) rfl ?_
      refine AW.callSi (As := [iv x2]) (st := []) M_isPoint_ok cq_X12_238 st_X12_isPoint (Nat.le_trans (by decide) hdd) rfl (dcN_13 dcg_801 :) rfl (Nat.le_of_ble_eq_true rfl) ?_
      refine AW.if_eq (tgt := 71) (dcN_14 dcg_801 :) (by decide) (fun c3 => ?_) (fun c3 => ?_)
      · replace h := hT h c3
        refine AW.iconst (dcN_4 dcg_803 :) ?_
        exact AW.iret1 rfl (dcN_5 dcg_803 :) h rfl
      · replace h := hF h c3
        refine AW.iload_n 3 (dcN_15 dcg_801 :) rfl ?_
        refine AW.iconst (dcN_16 dcg_801 :) ?_
        refine AW.sipush (dcN_17 dcg_801 :) (by decide) (by decide) ?_
        refine AW.callSi (As := [iv x3, iv 1, iv 300]) (st := []) M_isIn_ok cq_X12_3 st_X12_isIn (Nat.le_trans (by decide) hdd) rfl (dcN_0 dcg_802 :) rfl (Nat.le_of_ble_eq_true rfl) ?_
        refine AW.if_eq (tgt := 71) (dcN_1 dcg_802 :) (by decide) (fun c4 => ?_) (fun c4 => ?_)
        · replace h := hT h c4
          refine AW.iconst (dcN_4 dcg_803 :) ?_
          exact AW.iret1 rfl (dcN_5 dcg_803 :) h rfl
        · replace h := hF h c4
          refine AW.aloadr_n 0 (dcN_2 dcg_802 :) rfl ?_
          refine AW.getI af_X12_555_117 sr_117_92 (dcN_3 dcg_802 :) ?_
          refine AW.bipush (dcN_4 dcg_802 :) (by decide) (by decide) ?_
          refine AW.icmp_eq (tgt := 71) (dcN_5 dcg_802 :) (by decide) (fun c5 => ?_) (fun c5 => ?_)
          · replace h := hT h c5
            refine AW.iconst (dcN_4 dcg_803 :) ?_
            exact AW.iret1 rfl (dcN_5 dcg_803 :) h rfl
          · replace h := hF h c5
            refine AW.aloadr_n 0 (dcN_6 dcg_802 :) rfl ?_
            refine AW.getI af_X12_555_117 sr_117_92 (dcN_7 dcg_802 :) ?_
            refine AW.if_le (tgt := 73) (dcN_8 dcg_802 :) (by decide) (fun c6 => ?_) (fun c6 => ?_)
            · replace h := hT h c6
              exact M_call_b_ok hdd _ h
            · replace h := hF h c6
              refine AW.iload_n 1 (dcN_9 dcg_802 :) rfl ?_
              refine AW.aloadr_n 0 (dcN_10 dcg_802 :) rfl ?_
              refine AW.getR af_X12_211_117 sr_117_93 (dcN_11 dcg_802 :) ?_
              refine AW.aloadr_n 0 (dcN_12 dcg_802 :) rfl ?_
              refine AW.getI af_X12_555_117 sr_117_92 (dcN_13 dcg_802 :) ?_
              refine AW.iconst (dcN_0 dcg_803 :) ?_
              refine AW.isub (dcN_1 dcg_803 :) ?_
              obtain ⟨k7, h⟩ := hK h
              refine AW.iald kc_181 sk_181 k7 (dcN_2 dcg_803 :) ?_
              refine AW.icmp_ge (tgt := 73) (dcN_3 dcg_803 :) (by decide) (fun c8 => ?_) (fun c8 => ?_)
              · replace h := hT h c8
                exact M_call_b_ok hdd _ h
              · replace h := hF h c8
                refine AW.iconst (dcN_4 dcg_803 :) ?_
                exact AW.iret1 rfl (dcN_5 dcg_803 :) h rfl
  · replace h := hT h c1
    refine AW.aloadr_n 0 (dcN_2 dcg_801 :) rfl ?_
    refine AW.iconst (dcN_3 dcg_801 :) ?_
    obtain ⟨g9, e10, h⟩ := hBe h
    refine AW.putI ap_X12_555_117 sr_117_92 (dcN_4 dcg_801 :) e10 ?_
    refine AW.iconst (dcN_5 dcg_801 :) ?_
    exact AW.iret1 rfl (dcN_6 dcg_801 :) h rfl
theorem M_arrives_ok {z : AZ} {x1 : Int} {x2 : Int} {g : AG} {r : Int} (h : M_arrives x1 x2 g = some r) : AMf z yX12_arrives cX12_arrives 4 (some .int) 1 [rv z 117, iv x1, iv x2] g (r, g) := by
  intro d hdd
  refine AM.of (by decide +kernel) (Nat.le_of_ble_eq_true rfl) ?_
  show AW z (RX12, cX12_arrives, 4, (some .int)) d (QD (some .int) (r, g)) 0 [(0, rv z 117), (1, iv x1), (2, iv x2)] [] g
  unfold M_arrives at h
  refine AW.aloadr_n 0 (dcN_0 dcg_805 :) rfl ?_
  refine AW.getR af_X12_223_117 sr_117_97 (dcN_1 dcg_805 :) ?_
  refine AW.iload_n 1 (dcN_2 dcg_805 :) rfl ?_
  obtain ⟨k1, h⟩ := hK h
  refine AW.iald kc_185 sk_185 k1 (dcN_3 dcg_805 :) ?_
  refine AW.aloadr_n 0 (dcN_4 dcg_805 :) rfl ?_
  refine AW.getR af_X12_211_117 sr_117_93 (dcN_5 dcg_805 :) ?_
  refine AW.iload_n 2 (dcN_6 dcg_805 :) rfl ?_
  obtain ⟨k2, h⟩ := hK h
  refine AW.iald kc_181 sk_181 k2 (dcN_7 dcg_805 :) ?_
  obtain ⟨r4, e5, h⟩ := hC h
  refine AW.join (tgt := 30) (lv1 := [(0, rv z 117), (1, iv x1), (2, iv x2)]) (st1 := [iv r4]) (g1 := g) ?_ (fun J12 => ?_)
  · refine AW.istore_n (lv1 := [(3, iv r4), (0, rv z 117), (1, iv x1), (2, iv x2)]) (dcN_18 dcg_805 :) (by decide) rfl ?_
    refine AW.iload_n 0 (dcN_19 dcg_805 :) rfl ?_
    refine AW.aloadr_n 1 (dcN_0 dcg_806 :) rfl ?_
    refine AW.aloadr_n 1 (dcN_1 dcg_806 :) rfl ?_
    refine AW.getR af_X12_220_117 sr_117_96 (dcN_2 dcg_806 :) ?_
    refine AW.iload_n 2 (dcN_3 dcg_806 :) rfl ?_
    refine AW.iald kc_184 sk_184 k1 (dcN_4 dcg_806 :) ?_
    refine AW.aloadr_n 1 (dcN_5 dcg_806 :) rfl ?_
    refine AW.getR af_X12_214_117 sr_117_94 (dcN_6 dcg_806 :) ?_
    refine AW.iload_n 3 (dcN_7 dcg_806 :) rfl ?_
    refine AW.iald kc_182 sk_182 k2 (dcN_8 dcg_806 :) ?_
    obtain ⟨r6, e7, h⟩ := hC h
    refine AW.callVi (As := [iv (g 184 (ix x1)), iv (g 182 (ix x2))]) (st := [iv r4]) (M_drive_ok e7) cq_X12_543 cr_117_X12_drive (Nat.le_trans (by decide) hdd) rfl (dcN_9 dcg_806 :) rfl (Nat.le_of_ble_eq_true rfl) ?_
    refine AW.iadd (dcN_10 dcg_806 :) ?_
    exact AW.iret2 rfl (dcN_11 dcg_806 :) h rfl
  replace h := e5
  refine AW.icmp_le (tgt := 24) (dcN_8 dcg_805 :) (by decide) (fun c3 => ?_) (fun c3 => ?_)
  · replace h := hT h c3
    refine AW.aloadr_n 0 (dcN_14 dcg_805 :) rfl ?_
    refine AW.getR af_X12_211_117 sr_117_93 (dcN_15 dcg_805 :) ?_
    refine AW.iload_n 2 (dcN_16 dcg_805 :) rfl ?_
    refine AW.iald kc_181 sk_181 k2 (dcN_17 dcg_805 :) ?_
    cases h
    exact J12
  · replace h := hF h c3
    refine AW.aloadr_n 0 (dcN_9 dcg_805 :) rfl ?_
    refine AW.getR af_X12_223_117 sr_117_97 (dcN_10 dcg_805 :) ?_
    refine AW.iload_n 1 (dcN_11 dcg_805 :) rfl ?_
    refine AW.iald kc_185 sk_185 k1 (dcN_12 dcg_805 :) ?_
    refine AW.goto (tgt := 30) (dcN_13 dcg_805 :) (by decide) ?_
    cases h
    exact J12
set_option synthInstance.maxHeartbeats 2000000 in
theorem M_taken_b_ok {z : AZ} {d : Nat} (hdd : 2 ≤ d) {x1 : Int} {x2 : Int} {x3 : Int} : ∀ (tag : Nat) (x4 : Int) (x5 : Int) (x6 : Int) (x7 : Int) (g : AG) (r : Int × AG), M_taken_b x1 x2 x3 tag x4 x5 x6 x7 g = some r → (tag = 1 → AW z (RX12, cX12_taken, 10, (some .int)) d (QD (some .int) r) 41 [(0, rv z 117), (1, iv x1), (2, iv x2), (3, iv x3)] [] g) ∧ (tag = 2 → AW z (RX12, cX12_taken, 10, (some .int)) d (QD (some .int) r) 81 [(0, rv z 117), (3, iv x3), (4, iv x4), (5, iv x5), (6, iv x6), (7, iv x7)] [] g) := by
  refine M_taken_b.partial_correctness x1 x2 x3 (fun tag x4 x5 x6 x7 g r => (tag = 1 → AW z (RX12, cX12_taken, 10, (some .int)) d (QD (some .int) r) 41 [(0, rv z 117), (1, iv x1), (2, iv x2), (3, iv x3)] [] g) ∧ (tag = 2 → AW z (RX12, cX12_taken, 10, (some .int)) d (QD (some .int) r) 81 [(0, rv z 117), (3, iv x3), (4, iv x4), (5, iv x5), (6, iv x6), (7, iv x7)] [] g)) ?_
  intro fb9 ih tag x4 x5 x6 x7 g r h
  refine ⟨fun h9 => ?_, fun h9 => ?_⟩
  · subst h9
    replace h := hT h rfl
    refine AW.aloadr_n 0 (dcN_5 dcg_808 :) rfl ?_
    refine AW.getR af_X12_220_117 sr_117_96 (dcN_6 dcg_808 :) ?_
    refine AW.iconst (dcN_7 dcg_808 :) ?_
    refine AW.iload_n 1 (dcN_8 dcg_808 :) rfl ?_
    obtain ⟨g1, e2, h⟩ := hBe h
    refine AW.iast kc_184 sk_184 (by decide) (dcN_9 dcg_808 :) e2 ?_
    refine AW.aloadr_n 0 (dcN_10 dcg_808 :) rfl ?_
    refine AW.getR af_X12_220_117 sr_117_96 (dcN_11 dcg_808 :) ?_
    refine AW.iconst (dcN_12 dcg_808 :) ?_
    refine AW.iload_n 2 (dcN_13 dcg_808 :) rfl ?_
    obtain ⟨g3, e4, h⟩ := hBe h
    refine AW.iast kc_184 sk_184 (by decide) (dcN_14 dcg_808 :) e4 ?_
    refine AW.aloadr_n 0 (dcN_15 dcg_808 :) rfl ?_
    refine AW.getR af_X12_223_117 sr_117_97 (dcN_16 dcg_808 :) ?_
    refine AW.iconst (dcN_17 dcg_808 :) ?_
    refine AW.iconst (dcN_18 dcg_808 :) ?_
    obtain ⟨g5, e6, h⟩ := hBe h
    refine AW.iast kc_185 sk_185 (by decide) (dcN_19 dcg_808 :) e6 ?_
    refine AW.aloadr_n 0 (dcN_20 dcg_808 :) rfl ?_
    refine AW.getR af_X12_223_117 sr_117_97 (dcN_21 dcg_808 :) ?_
    refine AW.iconst (dcN_0 dcg_809 :) ?_
    refine AW.iconst (dcN_1 dcg_809 :) ?_
    obtain ⟨g7, e8, h⟩ := hBe h
    refine AW.iast kc_185 sk_185 (by decide) (dcN_2 dcg_809 :) e8 ?_
    refine AW.iconst (dcN_3 dcg_809 :) ?_
    refine AW.istore (lv1 := [(4, iv 0), (0, rv z 117), (1, iv x1), (2, iv x2), (3, iv x3)]) (dcN_4 dcg_809 :) (by decide) rfl ?_
    refine AW.iconst (dcN_5 dcg_809 :) ?_
    refine AW.istore (lv1 := [(5, iv 0), (4, iv 0), (0, rv z 117), (1, iv x1), (2, iv x2), (3, iv x3)]) (dcN_6 dcg_809 :) (by decide) rfl ?_
    refine AW.iconst (dcN_7 dcg_809 :) ?_
    refine AW.istore (lv1 := [(6, iv 0), (5, iv 0), (4, iv 0), (0, rv z 117), (1, iv x1), (2, iv x2), (3, iv x3)]) (dcN_8 dcg_809 :) (by decide) rfl ?_
    refine AW.iconst (dcN_9 dcg_809 :) ?_
    refine AW.istore (lv1 := [(7, iv 0), (6, iv 0), (5, iv 0), (4, iv 0), (0, rv z 117), (1, iv x1), (2, iv x2), (3, iv x3)]) (dcN_10 dcg_809 :) (by decide) rfl ?_
    refine AW.sub (lv1 := [(0, rv z 117), (3, iv x3), (4, iv 0), (5, iv 0), (6, iv 0), (7, iv 0)]) [4, 7, 3, 2, 1, 0] rfl ?_
    exact (ih _ _ _ _ _ _ _ h).2 rfl
  · subst h9
    replace h := hF h (by decide)
    replace h := hT h rfl
    refine AW.iload 5 (dcN_11 dcg_809 :) rfl ?_
    refine AW.aloadr_n 0 (dcN_12 dcg_809 :) rfl ?_
    refine AW.getI af_X12_555_117 sr_117_92 (dcN_13 dcg_809 :) ?_
    refine AW.icmp_ge (tgt := 246) (dcN_14 dcg_809 :) (by decide) (fun c1 => ?_) (fun c1 => ?_)
    · replace h := hT h c1
      refine AW.iload_n 1 (dcN_9 dcg_814 :) rfl ?_
      obtain ⟨t2, e3, h⟩ := hBe h
      refine AW.join (tgt := 267) (lv1 := [(0, rv z 117), (3, iv x3), (4, iv x4), (5, iv x5), (6, iv x6), (7, iv x7)]) (st1 := [iv t2]) (g1 := g) ?_ (fun J247 => ?_)
      · exact AW.iret1 rfl (dcN_5 dcg_815 :) h rfl
      refine AW.if_ne (tgt := 255) (dcN_10 dcg_814 :) (by decide) (fun c4 => ?_) (fun c4 => ?_)
      · refine AW.iload_n 1 (dcN_13 dcg_814 :) rfl ?_
        refine AW.iconst (dcN_0 dcg_815 :) ?_
        refine AW.icmp_ne (tgt := 265) (dcN_1 dcg_815 :) (by decide) (fun c5 => ?_) (fun c5 => ?_)
        · refine AW.iload 4 (dcN_4 dcg_815 :) rfl ?_
          exact AW.val (e3.trans ((if_neg c4).trans (if_neg c5))) J247
        · refine AW.iload 3 (dcN_2 dcg_815 :) rfl ?_
          refine AW.goto (tgt := 267) (dcN_3 dcg_815 :) (by decide) ?_
          exact AW.val (e3.trans ((if_neg c4).trans (if_pos c5))) J247
      · refine AW.iload 2 (dcN_11 dcg_814 :) rfl ?_
        refine AW.goto (tgt := 267) (dcN_12 dcg_814 :) (by decide) ?_
        exact AW.val (e3.trans (if_pos c4)) J247
    · replace h := hF h c1
      refine AW.aloadr_n 0 (dcN_15 dcg_809 :) rfl ?_
      refine AW.iconst (dcN_16 dcg_809 :) ?_
      refine AW.iload 5 (dcN_17 dcg_809 :) rfl ?_
      obtain ⟨r6, e7, h⟩ := hC h
      refine AW.callVi (As := [iv 1, iv x7]) (st := []) (M_arrives_ok e7) cq_X12_558 cr_117_X12_arrives (Nat.le_trans (by decide) hdd) rfl (dcN_18 dcg_809 :) rfl (Nat.le_of_ble_eq_true rfl) ?_
      refine AW.aloadr_n 0 (dcN_0 dcg_810 :) rfl ?_
      refine AW.iconst (dcN_1 dcg_810 :) ?_
      refine AW.iload 5 (dcN_2 dcg_810 :) rfl ?_
      obtain ⟨r8, e9, h⟩ := hC h
      refine AW.callVi (As := [iv 0, iv x7]) (st := [iv r6]) (M_arrives_ok e9) cq_X12_558 cr_117_X12_arrives (Nat.le_trans (by decide) hdd) rfl (dcN_3 dcg_810 :) rfl (Nat.le_of_ble_eq_true rfl) ?_
      obtain ⟨t10, e11, h⟩ := hBe h
      refine AW.join (tgt := 112) (lv1 := [(0, rv z 117), (3, iv x3), (4, iv x4), (5, iv x5), (6, iv x6), (7, iv x7)]) (st1 := [iv t10]) (g1 := g) ?_ (fun J104 => ?_)
      · refine AW.istore (lv1 := [(8, iv t10), (0, rv z 117), (3, iv x3), (4, iv x4), (5, iv x5), (6, iv x6), (7, iv x7)]) (dcN_8 dcg_810 :) (by decide) rfl ?_
        refine AW.iload_n 2 (dcN_9 dcg_810 :) rfl ?_
        refine AW.bipush (dcN_10 dcg_810 :) (by decide) (by decide) ?_
        refine AW.iload 6 (dcN_11 dcg_810 :) rfl ?_
        refine AW.iadd (dcN_12 dcg_810 :) ?_
        refine AW.icmp_ne (tgt := 126) (dcN_13 dcg_810 :) (by decide) (fun c12 => ?_) (fun c12 => ?_)
        · replace h := hF h c12
          refine AW.aloadr_n 1 (dcN_16 dcg_810 :) rfl ?_
          refine AW.iload 0 (dcN_17 dcg_810 :) rfl ?_
          refine AW.iload 6 (dcN_0 dcg_811 :) rfl ?_
          obtain ⟨r13, e14, h⟩ := hC h
          refine AW.callVi (As := [iv t10, iv x7]) (st := []) (M_arrives_ok e14) cq_X12_558 cr_117_X12_arrives (Nat.le_trans (by decide) hdd) rfl (dcN_1 dcg_811 :) rfl (Nat.le_of_ble_eq_true rfl) ?_
          refine AW.istore (lv1 := [(9, iv r13), (8, iv t10), (0, rv z 117), (3, iv x3), (4, iv x4), (5, iv x5), (6, iv x6), (7, iv x7)]) (dcN_2 dcg_811 :) (by decide) rfl ?_
          refine AW.iload 4 (dcN_3 dcg_811 :) rfl ?_
          refine AW.iload 0 (dcN_4 dcg_811 :) rfl ?_
          refine AW.aloadr_n 2 (dcN_5 dcg_811 :) rfl ?_
          refine AW.getR af_X12_211_117 sr_117_93 (dcN_6 dcg_811 :) ?_
          refine AW.iload 7 (dcN_7 dcg_811 :) rfl ?_
          obtain ⟨k15, h⟩ := hK h
          refine AW.iald kc_181 sk_181 k15 (dcN_8 dcg_811 :) ?_
          refine AW.isub (dcN_9 dcg_811 :) ?_
          refine AW.iadd (dcN_10 dcg_811 :) ?_
          refine AW.istore (lv1 := [(4, iv (x4 + (r13 - (g 181 (ix x7))))), (9, iv r13), (8, iv t10), (0, rv z 117), (3, iv x3), (5, iv x5), (6, iv x6), (7, iv x7)]) (dcN_11 dcg_811 :) (by decide) rfl ?_
          refine AW.iload 1 (dcN_12 dcg_811 :) rfl ?_
          refine AW.aloadr_n 3 (dcN_13 dcg_811 :) rfl ?_
          refine AW.getR af_X12_211_117 sr_117_93 (dcN_14 dcg_811 :) ?_
          refine AW.iload 7 (dcN_15 dcg_811 :) rfl ?_
          refine AW.iald kc_181 sk_181 k15 (dcN_16 dcg_811 :) ?_
          refine AW.isub (dcN_0 dcg_812 :) ?_
          refine AW.iload 5 (dcN_1 dcg_812 :) rfl ?_
          obtain ⟨r17, e18, h⟩ := hC h
          refine AW.join (tgt := 181) (lv1 := [(0, rv z 117), (3, iv x3), (4, iv (x4 + (r13 - (g 181 (ix x7))))), (6, iv x6), (7, iv x7), (8, iv t10), (9, iv r13)]) (st1 := [iv r17.1]) (g1 := r17.2) ?_ (fun J163 => ?_)
          · refine AW.istore (lv1 := [(5, iv r17.1), (0, rv z 117), (3, iv x3), (4, iv (x4 + (r13 - (g 181 (ix x7))))), (6, iv x6), (7, iv x7), (8, iv t10), (9, iv r13)]) (dcN_11 dcg_812 :) (by decide) rfl ?_
            refine AW.aloadr_n 1 (dcN_12 dcg_812 :) rfl ?_
            refine AW.getR af_X12_223_117 sr_117_97 (dcN_13 dcg_812 :) ?_
            refine AW.iload 6 (dcN_14 dcg_812 :) rfl ?_
            refine AW.iload 7 (dcN_15 dcg_812 :) rfl ?_
            refine AW.aloadr_n 1 (dcN_16 dcg_812 :) rfl ?_
            refine AW.getR af_X12_217_117 sr_117_95 (dcN_0 dcg_813 :) ?_
            refine AW.iload 5 (dcN_1 dcg_813 :) rfl ?_
            refine AW.iald kc_183 sk_183 k15 (dcN_2 dcg_813 :) ?_
            refine AW.iadd (dcN_3 dcg_813 :) ?_
            obtain ⟨k19, h⟩ := hK h
            obtain ⟨g20, e21, h⟩ := hBe h
            refine AW.iast kc_185 sk_185 k19 (dcN_4 dcg_813 :) e21 ?_
            refine AW.aloadr_n 1 (dcN_5 dcg_813 :) rfl ?_
            refine AW.getR af_X12_220_117 sr_117_96 (dcN_6 dcg_813 :) ?_
            refine AW.iload 6 (dcN_7 dcg_813 :) rfl ?_
            refine AW.aloadr_n 1 (dcN_8 dcg_813 :) rfl ?_
            refine AW.getR af_X12_214_117 sr_117_94 (dcN_9 dcg_813 :) ?_
            refine AW.iload 5 (dcN_10 dcg_813 :) rfl ?_
            refine AW.iald kc_182 sk_182 k15 (dcN_11 dcg_813 :) ?_
            obtain ⟨g22, e23, h⟩ := hBe h
            refine AW.iast kc_184 sk_184 k19 (dcN_12 dcg_813 :) e23 ?_
            refine AW.aloadr_n 1 (dcN_13 dcg_813 :) rfl ?_
            refine AW.getR af_X12_223_117 sr_117_97 (dcN_14 dcg_813 :) ?_
            refine AW.iload 6 (dcN_15 dcg_813 :) rfl ?_
            refine AW.iald kc_185 sk_185 k19 (dcN_16 dcg_813 :) ?_
            refine AW.iload 4 (dcN_17 dcg_813 :) rfl ?_
            obtain ⟨r25, e26, h⟩ := hC h
            refine AW.join (tgt := 238) (lv1 := [(0, rv z 117), (3, iv x3), (4, iv (x4 + (r13 - (g 181 (ix x7))))), (5, iv r17.1), (7, iv x7)]) (st1 := [iv r25.1]) (g1 := r25.2) ?_ (fun J223 => ?_)
            · refine AW.istore (lv1 := [(6, iv r25.1), (0, rv z 117), (3, iv x3), (4, iv (x4 + (r13 - (g 181 (ix x7))))), (5, iv r17.1), (7, iv x7)]) (dcN_6 dcg_814 :) (by decide) rfl ?_
              refine AW.iinc (lv1 := [(7, iv (x7 + 1)), (6, iv r25.1), (0, rv z 117), (3, iv x3), (4, iv (x4 + (r13 - (g 181 (ix x7))))), (5, iv r17.1)]) 5 (dcN_7 dcg_814 :) rfl (by decide) rfl ?_
              refine AW.goto (tgt := 81) (dcN_8 dcg_814 :) (by decide) ?_
              refine AW.sub (lv1 := [(0, rv z 117), (3, iv x3), (4, iv (x4 + (r13 - (g 181 (ix x7))))), (5, iv r17.1), (6, iv r25.1), (7, iv (x7 + 1))]) [2, 3, 4, 5, 1, 0] rfl ?_
              exact (ih _ _ _ _ _ _ _ h).2 rfl
            replace h := e26
            refine AW.icmp_le (tgt := 236) (dcN_18 dcg_813 :) (by decide) (fun c24 => ?_) (fun c24 => ?_)
            · replace h := hT h c24
              refine AW.iload 4 (dcN_5 dcg_814 :) rfl ?_
              refine AW.sub (lv1 := [(0, rv z 117), (3, iv x3), (4, iv (x4 + (r13 - (g 181 (ix x7))))), (5, iv r17.1), (7, iv x7)]) [1, 2, 3, 0, 5] rfl ?_
              cases h
              exact J223
            · replace h := hF h c24
              refine AW.aloadr_n 1 (dcN_0 dcg_814 :) rfl ?_
              refine AW.getR af_X12_223_117 sr_117_97 (dcN_1 dcg_814 :) ?_
              refine AW.iload 6 (dcN_2 dcg_814 :) rfl ?_
              refine AW.iald kc_185 sk_185 k19 (dcN_3 dcg_814 :) ?_
              refine AW.goto (tgt := 238) (dcN_4 dcg_814 :) (by decide) ?_
              refine AW.sub (lv1 := [(0, rv z 117), (3, iv x3), (4, iv (x4 + (r13 - (g 181 (ix x7))))), (5, iv r17.1), (7, iv x7)]) [1, 2, 3, 0, 5] rfl ?_
              cases h
              exact J223
          replace h := e18
          refine AW.icmp_le (tgt := 179) (dcN_2 dcg_812 :) (by decide) (fun c16 => ?_) (fun c16 => ?_)
          · replace h := hT h c16
            refine AW.iload 5 (dcN_10 dcg_812 :) rfl ?_
            refine AW.sub (lv1 := [(0, rv z 117), (3, iv x3), (4, iv (x4 + (r13 - (g 181 (ix x7))))), (6, iv x6), (7, iv x7), (8, iv t10), (9, iv r13)]) [3, 4, 0, 6, 7, 2, 1] rfl ?_
            cases h
            exact J163
          · replace h := hF h c16
            refine AW.iload 1 (dcN_3 dcg_812 :) rfl ?_
            refine AW.aloadr_n 3 (dcN_4 dcg_812 :) rfl ?_
            refine AW.getR af_X12_211_117 sr_117_93 (dcN_5 dcg_812 :) ?_
            refine AW.iload 7 (dcN_6 dcg_812 :) rfl ?_
            refine AW.iald kc_181 sk_181 k15 (dcN_7 dcg_812 :) ?_
            refine AW.isub (dcN_8 dcg_812 :) ?_
            refine AW.goto (tgt := 181) (dcN_9 dcg_812 :) (by decide) ?_
            refine AW.sub (lv1 := [(0, rv z 117), (3, iv x3), (4, iv (x4 + (r13 - (g 181 (ix x7))))), (6, iv x6), (7, iv x7), (8, iv t10), (9, iv r13)]) [3, 4, 0, 6, 7, 2, 1] rfl ?_
            cases h
            exact J163
        · replace h := hT h c12
          refine AW.iload 0 (dcN_14 dcg_810 :) rfl ?_
          exact AW.iret1 rfl (dcN_15 dcg_810 :) h rfl
      refine AW.icmp_ge (tgt := 111) (dcN_4 dcg_810 :) (by decide) (fun c27 => ?_) (fun c27 => ?_)
      · refine AW.iconst (dcN_7 dcg_810 :) ?_
        exact AW.val (e11.trans (if_pos c27)) J104
      · refine AW.iconst (dcN_5 dcg_810 :) ?_
        refine AW.goto (tgt := 112) (dcN_6 dcg_810 :) (by decide) ?_
        exact AW.val (e11.trans (if_neg c27)) J104
theorem M_taken_ok {z : AZ} {x1 : Int} {x2 : Int} {x3 : Int} {g : AG} {r : Int × AG} (h : M_taken x1 x2 x3 g = some r) : AMf z yX12_taken cX12_taken 10 (some .int) 2 [rv z 117, iv x1, iv x2, iv x3] g r := by
  intro d hdd
  refine AM.of (by decide +kernel) (Nat.le_of_ble_eq_true rfl) ?_
  show AW z (RX12, cX12_taken, 10, (some .int)) d (QD (some .int) r) 0 [(0, rv z 117), (1, iv x1), (2, iv x2), (3, iv x3)] [] g
  unfold M_taken at h
  refine AW.iload_n 1 (dcN_0 dcg_807 :) rfl ?_
  refine AW.callSi (As := [iv x1]) (st := []) M_isPoint_ok cq_X12_238 st_X12_isPoint (Nat.le_trans (by decide) hdd) rfl (dcN_1 dcg_807 :) rfl (Nat.le_of_ble_eq_true rfl) ?_
  refine AW.if_eq (tgt := 39) (dcN_2 dcg_807 :) (by decide) (fun c1 => ?_) (fun c1 => ?_)
  · replace h := hT h c1
    refine AW.iconst (dcN_3 dcg_808 :) ?_
    exact AW.iret1 rfl (dcN_4 dcg_808 :) h rfl
  · replace h := hF h c1
    refine AW.iload_n 2 (dcN_3 dcg_807 :) rfl ?_
    refine AW.callSi (As := [iv x2]) (st := []) M_isPoint_ok cq_X12_238 st_X12_isPoint (Nat.le_trans (by decide) hdd) rfl (dcN_4 dcg_807 :) rfl (Nat.le_of_ble_eq_true rfl) ?_
    refine AW.if_eq (tgt := 39) (dcN_5 dcg_807 :) (by decide) (fun c2 => ?_) (fun c2 => ?_)
    · replace h := hT h c2
      refine AW.iconst (dcN_3 dcg_808 :) ?_
      exact AW.iret1 rfl (dcN_4 dcg_808 :) h rfl
    · replace h := hF h c2
      refine AW.iload_n 3 (dcN_6 dcg_807 :) rfl ?_
      refine AW.iconst (dcN_7 dcg_807 :) ?_
      refine AW.iconst (dcN_8 dcg_807 :) ?_
      refine AW.callSi (As := [iv x3, iv 0, iv 2]) (st := []) M_isIn_ok cq_X12_3 st_X12_isIn (Nat.le_trans (by decide) hdd) rfl (dcN_9 dcg_807 :) rfl (Nat.le_of_ble_eq_true rfl) ?_
      refine AW.if_ne (tgt := 41) (dcN_10 dcg_807 :) (by decide) (fun c3 => ?_) (fun c3 => ?_)
      · replace h := hF h c3
        exact (M_taken_b_ok hdd _ _ _ _ _ _ _ h).1 rfl
      · replace h := hT h c3
        refine AW.iload_n 3 (dcN_11 dcg_807 :) rfl ?_
        refine AW.bipush (dcN_12 dcg_807 :) (by decide) (by decide) ?_
        refine AW.bipush (dcN_13 dcg_807 :) (by decide) (by decide) ?_
        refine AW.aloadr_n 0 (dcN_14 dcg_807 :) rfl ?_
        refine AW.getI af_X12_555_117 sr_117_92 (dcN_15 dcg_807 :) ?_
        refine AW.iadd (dcN_0 dcg_808 :) ?_
        refine AW.callSi (As := [iv x3, iv 10, iv (9 + (g 117 92))]) (st := []) M_isIn_ok cq_X12_3 st_X12_isIn (Nat.le_trans (by decide) hdd) rfl (dcN_1 dcg_808 :) rfl (Nat.le_of_ble_eq_true rfl) ?_
        refine AW.if_ne (tgt := 41) (dcN_2 dcg_808 :) (by decide) (fun c4 => ?_) (fun c4 => ?_)
        · replace h := hF h c4
          exact (M_taken_b_ok hdd _ _ _ _ _ _ _ h).1 rfl
        · replace h := hT h c4
          refine AW.iconst (dcN_3 dcg_808 :) ?_
          exact AW.iret1 rfl (dcN_4 dcg_808 :) h rfl
theorem M_canAsk_ok {z : AZ} {x0 : Int} {x1 : Int} {x2 : Int} {x3 : Int} {g : AG} : AMf z yX12_canAsk cX12_canAsk 4 (some .boolean) 1 [iv x0, iv x1, iv x2, iv x3] g ((M_canAsk x0 x1 x2 x3), g) := by
  intro d hdd
  refine AM.of (by decide +kernel) (Nat.le_of_ble_eq_true rfl) ?_
  show AW z (RX12, cX12_canAsk, 4, (some .boolean)) d (QD (some .boolean) ((M_canAsk x0 x1 x2 x3), g)) 0 [(0, iv x0), (1, iv x1), (2, iv x2), (3, iv x3)] [] g
  refine AW.iload_n 0 (dcN_0 dcg_816 :) rfl ?_
  refine AW.iconst (dcN_1 dcg_816 :) ?_
  refine AW.bipush (dcN_2 dcg_816 :) (by decide) (by decide) ?_
  refine AW.callSi (As := [iv x0, iv 0, iv 99]) (st := []) M_isIn_ok cq_X12_3 st_X12_isIn (Nat.le_trans (by decide) hdd) rfl (dcN_3 dcg_816 :) rfl (Nat.le_of_ble_eq_true rfl) ?_
  refine AW.join (tgt := 46) (lv1 := [(0, iv x0), (1, iv x1), (2, iv x2), (3, iv x3)]) (st1 := [iv (if nw (M_isIn x0 0 99) = 0 then 0 else (if nw (M_isIn x1 0 100) = 0 then 0 else (if nw (M_isIn x2 0 99) = 0 then 0 else (if nw (M_isIn x3 0 999) = 0 then 0 else 1))))]) (g1 := g) ?_ (fun J7 => ?_)
  · exact AW.zret rfl (by (repeat' split) <;> first | exact Or.inl rfl | exact Or.inr rfl) (dcN_11 dcg_817 :) ⟨congrArg (fun v => some (iv v)) (show M_canAsk x0 x1 x2 x3  = (if nw (M_isIn x0 0 99) = 0 then 0 else (if nw (M_isIn x1 0 100) = 0 then 0 else (if nw (M_isIn x2 0 99) = 0 then 0 else (if nw (M_isIn x3 0 999) = 0 then 0 else 1)))) from rfl).symm, rfl⟩
  refine AW.if_eq (tgt := 45) (dcN_4 dcg_816 :) (by decide) (fun c1 => ?_) (fun c1 => ?_)
  · refine AW.iconst (dcN_10 dcg_817 :) ?_
    exact AW.val (if_pos c1) J7
  · refine AW.iload_n 1 (dcN_5 dcg_816 :) rfl ?_
    refine AW.iconst (dcN_6 dcg_816 :) ?_
    refine AW.bipush (dcN_7 dcg_816 :) (by decide) (by decide) ?_
    refine AW.callSi (As := [iv x1, iv 0, iv 100]) (st := []) M_isIn_ok cq_X12_3 st_X12_isIn (Nat.le_trans (by decide) hdd) rfl (dcN_8 dcg_816 :) rfl (Nat.le_of_ble_eq_true rfl) ?_
    refine AW.if_eq (tgt := 45) (dcN_9 dcg_816 :) (by decide) (fun c2 => ?_) (fun c2 => ?_)
    · refine AW.iconst (dcN_10 dcg_817 :) ?_
      exact AW.val ((if_neg c1).trans (if_pos c2)) J7
    · refine AW.iload_n 2 (dcN_10 dcg_816 :) rfl ?_
      refine AW.iconst (dcN_11 dcg_816 :) ?_
      refine AW.bipush (dcN_0 dcg_817 :) (by decide) (by decide) ?_
      refine AW.callSi (As := [iv x2, iv 0, iv 99]) (st := []) M_isIn_ok cq_X12_3 st_X12_isIn (Nat.le_trans (by decide) hdd) rfl (dcN_1 dcg_817 :) rfl (Nat.le_of_ble_eq_true rfl) ?_
      refine AW.if_eq (tgt := 45) (dcN_2 dcg_817 :) (by decide) (fun c3 => ?_) (fun c3 => ?_)
      · refine AW.iconst (dcN_10 dcg_817 :) ?_
        exact AW.val ((if_neg c1).trans ((if_neg c2).trans (if_pos c3))) J7
      · refine AW.iload_n 3 (dcN_3 dcg_817 :) rfl ?_
        refine AW.iconst (dcN_4 dcg_817 :) ?_
        refine AW.sipush (dcN_5 dcg_817 :) (by decide) (by decide) ?_
        refine AW.callSi (As := [iv x3, iv 0, iv 999]) (st := []) M_isIn_ok cq_X12_3 st_X12_isIn (Nat.le_trans (by decide) hdd) rfl (dcN_6 dcg_817 :) rfl (Nat.le_of_ble_eq_true rfl) ?_
        refine AW.if_eq (tgt := 45) (dcN_7 dcg_817 :) (by decide) (fun c4 => ?_) (fun c4 => ?_)
        · refine AW.iconst (dcN_10 dcg_817 :) ?_
          exact AW.val ((if_neg c1).trans ((if_neg c2).trans ((if_neg c3).trans (if_pos c4)))) J7
        · refine AW.iconst (dcN_8 dcg_817 :) ?_
          refine AW.goto (tgt := 46) (dcN_9 dcg_817 :) (by decide) ?_
          exact AW.val ((if_neg c1).trans ((if_neg c2).trans ((if_neg c3).trans (if_neg c4)))) J7
set_option synthInstance.maxHeartbeats 2000000 in
theorem M_starts_b_ok {z : AZ} {d : Nat} (hdd : 0 ≤ d) : ∀ (x1 : Int) (g : AG) (r : Int × AG), M_starts_b x1 g = some r → AW z (RX12, cX12_starts, 2, none) d (QD none r) 2 [(0, rv z 117), (1, iv x1)] [] g := by
  refine M_starts_b.partial_correctness (fun x1 g r => AW z (RX12, cX12_starts, 2, none) d (QD none r) 2 [(0, rv z 117), (1, iv x1)] [] g) ?_
  intro fb9 ih x1 g r h
  refine AW.iload_n 1 (dcN_2 dcg_822 :) rfl ?_
  refine AW.sipush (dcN_3 dcg_822 :) (by decide) (by decide) ?_
  refine AW.icmp_ge (tgt := 36) (dcN_4 dcg_822 :) (by decide) (fun c1 => ?_) (fun c1 => ?_)
  · replace h := hT h c1
    exact AW.vret1 rfl (dcN_6 dcg_823 :) h rfl
  · replace h := hF h c1
    refine AW.aloadr_n 0 (dcN_5 dcg_822 :) rfl ?_
    refine AW.getR af_X12_226_117 sr_117_98 (dcN_6 dcg_822 :) ?_
    refine AW.iload_n 1 (dcN_7 dcg_822 :) rfl ?_
    refine AW.iload_n 1 (dcN_8 dcg_822 :) rfl ?_
    refine AW.aloadr_n 0 (dcN_9 dcg_822 :) rfl ?_
    refine AW.getI af_X12_44_117 sr_117_10 (dcN_10 dcg_822 :) ?_
    obtain ⟨t2, e3, h⟩ := hBe h
    refine AW.join (tgt := 29) (lv1 := [(0, rv z 117), (1, iv x1)]) (st1 := [iv t2, iv x1, rv z 186]) (g1 := g) ?_ (fun J19 => ?_)
    · obtain ⟨k4, h⟩ := hK h
      obtain ⟨g5, e6, h⟩ := hBe h
      refine AW.iast kc_186 sk_186 k4 (dcN_3 dcg_823 :) e6 ?_
      refine AW.iinc (lv1 := [(1, iv (x1 + 1)), (0, rv z 117)]) 1 (dcN_4 dcg_823 :) rfl (by decide) rfl ?_
      refine AW.goto (tgt := 2) (dcN_5 dcg_823 :) (by decide) ?_
      refine AW.sub (lv1 := [(0, rv z 117), (1, iv (x1 + 1))]) [1, 0] rfl ?_
      exact ih _ _ _ h
    refine AW.icmp_ne (tgt := 28) (dcN_11 dcg_822 :) (by decide) (fun c7 => ?_) (fun c7 => ?_)
    · refine AW.iconst (dcN_2 dcg_823 :) ?_
      exact AW.val (e3.trans (if_neg c7)) J19
    · refine AW.ldcw (dcN_0 dcg_823 :) cw_X12_561 ?_
      refine AW.goto (tgt := 29) (dcN_1 dcg_823 :) (by decide) ?_
      exact AW.val (e3.trans (if_pos c7)) J19
theorem M_starts_ok {z : AZ} {g : AG} {r : Int × AG} (h : M_starts g = some r) : AMf z yX12_starts cX12_starts 2 none 0 [rv z 117] g r := by
  intro d hdd
  refine AM.of (by decide +kernel) (Nat.le_of_ble_eq_true rfl) ?_
  show AW z (RX12, cX12_starts, 2, none) d (QD none r) 0 [(0, rv z 117)] [] g
  unfold M_starts at h
  refine AW.iconst (dcN_0 dcg_822 :) ?_
  refine AW.istore_n (lv1 := [(1, iv 0), (0, rv z 117)]) (dcN_1 dcg_822 :) (by decide) rfl ?_
  refine AW.sub (lv1 := [(0, rv z 117), (1, iv 0)]) [1, 0] rfl ?_
  exact M_starts_b_ok hdd _ _ _ h
theorem M_falls_ok {z : AZ} {x1 : Int} {x2 : Int} {x3 : Int} {g : AG} {r : Int × AG} (h : M_falls x1 x2 x3 g = some r) : AMf z yX12_falls cX12_falls 5 none 0 [rv z 117, iv x1, iv x2, iv x3] g r := by
  intro d hdd
  refine AM.of (by decide +kernel) (Nat.le_of_ble_eq_true rfl) ?_
  show AW z (RX12, cX12_falls, 5, none) d (QD none r) 0 [(0, rv z 117), (1, iv x1), (2, iv x2), (3, iv x3)] [] g
  unfold M_falls at h
  refine AW.iload_n 1 (dcN_0 dcg_818 :) rfl ?_
  refine AW.sipush (dcN_1 dcg_818 :) (by decide) (by decide) ?_
  obtain ⟨t1, e2, h⟩ := hBe h
  refine AW.join (tgt := 14) (lv1 := [(0, rv z 117), (1, iv x1), (2, iv x2), (3, iv x3)]) (st1 := [iv t1]) (g1 := g) ?_ (fun J4 => ?_)
  · refine AW.istore (lv1 := [(4, iv t1), (0, rv z 117), (1, iv x1), (2, iv x2), (3, iv x3)]) (dcN_6 dcg_818 :) (by decide) rfl ?_
    refine AW.iload 0 (dcN_7 dcg_818 :) rfl ?_
    refine AW.iload_n 3 (dcN_8 dcg_818 :) rfl ?_
    obtain ⟨r7, e8, h⟩ := hC h
    refine AW.join (tgt := 33) (lv1 := []) (st1 := []) (g1 := r7) ?_ (fun J19 => ?_)
    · exact AW.vret1 rfl (dcN_6 dcg_819 :) h rfl
    replace h := e8
    refine AW.icmp_lt (tgt := 33) (dcN_9 dcg_818 :) (by decide) (fun c3 => ?_) (fun c3 => ?_)
    · replace h := hT h c3
      refine AW.sub (lv1 := []) [] rfl ?_
      cases h
      exact J19
    · replace h := hF h c3
      refine AW.aloadr_n 1 (dcN_10 dcg_818 :) rfl ?_
      refine AW.getR af_X12_229_117 sr_117_99 (dcN_11 dcg_818 :) ?_
      refine AW.iload 0 (dcN_0 dcg_819 :) rfl ?_
      refine AW.dup2r (dcN_1 dcg_819 :) ?_
      obtain ⟨k4, h⟩ := hK h
      refine AW.iald kc_187 sk_187 k4 (dcN_2 dcg_819 :) ?_
      refine AW.iload_n 4 (dcN_3 dcg_819 :) rfl ?_
      refine AW.iadd (dcN_4 dcg_819 :) ?_
      obtain ⟨g5, e6, h⟩ := hBe h
      refine AW.iast kc_187 sk_187 k4 (dcN_5 dcg_819 :) e6 ?_
      refine AW.sub (lv1 := []) [] rfl ?_
      cases h
      exact J19
  refine AW.icmp_le (tgt := 13) (dcN_2 dcg_818 :) (by decide) (fun c9 => ?_) (fun c9 => ?_)
  · refine AW.iload_n 1 (dcN_5 dcg_818 :) rfl ?_
    exact AW.val (e2.trans (if_pos c9)) J4
  · refine AW.sipush (dcN_3 dcg_818 :) (by decide) (by decide) ?_
    refine AW.goto (tgt := 14) (dcN_4 dcg_818 :) (by decide) ?_
    exact AW.val (e2.trans (if_neg c9)) J4
set_option synthInstance.maxHeartbeats 2000000 in
theorem M_aDay_b_ok {z : AZ} {d : Nat} (hdd : 1 ≤ d) {x1 : Int} {x2 : Int} {x3 : Int} {x4 : Int} : ∀ (tag : Nat) (x5 : Int) (g : AG) (r : Int × AG), M_aDay_b x1 x2 x3 x4 tag x5 g = some r → (tag = 1 → AW z (RX12, cX12_aDay, 8, none) d (QD none r) 3 [(0, rv z 117), (1, iv x1), (2, iv x2), (3, iv x3), (4, iv x4), (5, iv x5)] [] g) ∧ (tag = 2 → AW z (RX12, cX12_aDay, 8, none) d (QD none r) 28 [(0, rv z 117), (1, iv x1), (2, iv x2), (3, iv x3), (4, iv x4), (5, iv x5)] [] g) ∧ (tag = 3 → AW z (RX12, cX12_aDay, 8, none) d (QD none r) 122 [(0, rv z 117), (5, iv x5)] [] g) := by
  refine M_aDay_b.partial_correctness x1 x2 x3 x4 (fun tag x5 g r => (tag = 1 → AW z (RX12, cX12_aDay, 8, none) d (QD none r) 3 [(0, rv z 117), (1, iv x1), (2, iv x2), (3, iv x3), (4, iv x4), (5, iv x5)] [] g) ∧ (tag = 2 → AW z (RX12, cX12_aDay, 8, none) d (QD none r) 28 [(0, rv z 117), (1, iv x1), (2, iv x2), (3, iv x3), (4, iv x4), (5, iv x5)] [] g) ∧ (tag = 3 → AW z (RX12, cX12_aDay, 8, none) d (QD none r) 122 [(0, rv z 117), (5, iv x5)] [] g)) ?_
  intro fb9 ih tag x5 g r h
  refine ⟨fun h9 => ?_, fun h9 => ?_, fun h9 => ?_⟩
  · subst h9
    replace h := hT h rfl
    refine AW.iload 5 (dcN_2 dcg_824 :) rfl ?_
    refine AW.sipush (dcN_3 dcg_824 :) (by decide) (by decide) ?_
    refine AW.icmp_ge (tgt := 25) (dcN_4 dcg_824 :) (by decide) (fun c1 => ?_) (fun c1 => ?_)
    · replace h := hT h c1
      refine AW.iconst (dcN_12 dcg_824 :) ?_
      refine AW.istore (lv1 := [(5, iv 0), (0, rv z 117), (1, iv x1), (2, iv x2), (3, iv x3), (4, iv x4)]) (dcN_13 dcg_824 :) (by decide) rfl ?_
      refine AW.sub (lv1 := [(0, rv z 117), (1, iv x1), (2, iv x2), (3, iv x3), (4, iv x4), (5, iv 0)]) [1, 2, 3, 4, 5, 0] rfl ?_
      exact (ih _ _ _ _ h).2.1 rfl
    · replace h := hF h c1
      refine AW.aloadr_n 0 (dcN_5 dcg_824 :) rfl ?_
      refine AW.getR af_X12_229_117 sr_117_99 (dcN_6 dcg_824 :) ?_
      refine AW.iload 5 (dcN_7 dcg_824 :) rfl ?_
      refine AW.iconst (dcN_8 dcg_824 :) ?_
      obtain ⟨k2, h⟩ := hK h
      obtain ⟨g3, e4, h⟩ := hBe h
      refine AW.iast kc_187 sk_187 k2 (dcN_9 dcg_824 :) e4 ?_
      refine AW.iinc (lv1 := [(5, iv (x5 + 1)), (0, rv z 117), (1, iv x1), (2, iv x2), (3, iv x3), (4, iv x4)]) 5 (dcN_10 dcg_824 :) rfl (by decide) rfl ?_
      refine AW.goto (tgt := 3) (dcN_11 dcg_824 :) (by decide) ?_
      refine AW.sub (lv1 := [(0, rv z 117), (1, iv x1), (2, iv x2), (3, iv x3), (4, iv x4), (5, iv (x5 + 1))]) [1, 2, 3, 4, 5, 0] rfl ?_
      exact (ih _ _ _ _ h).1 rfl
  · subst h9
    replace h := hF h (by decide)
    replace h := hT h rfl
    refine AW.iload 5 (dcN_14 dcg_824 :) rfl ?_
    refine AW.sipush (dcN_15 dcg_824 :) (by decide) (by decide) ?_
    refine AW.icmp_ge (tgt := 119) (dcN_0 dcg_825 :) (by decide) (fun c1 => ?_) (fun c1 => ?_)
    · replace h := hT h c1
      refine AW.iconst (dcN_11 dcg_827 :) ?_
      refine AW.istore (lv1 := [(5, iv 0), (0, rv z 117), (1, iv x1), (2, iv x2), (3, iv x3), (4, iv x4)]) (dcN_12 dcg_827 :) (by decide) rfl ?_
      refine AW.sub (lv1 := [(0, rv z 117), (5, iv 0)]) [1, 0] rfl ?_
      exact (ih _ _ _ _ h).2.2 rfl
    · replace h := hF h c1
      refine AW.aloadr_n 0 (dcN_1 dcg_825 :) rfl ?_
      refine AW.getR af_X12_226_117 sr_117_98 (dcN_2 dcg_825 :) ?_
      refine AW.iload 5 (dcN_3 dcg_825 :) rfl ?_
      obtain ⟨k2, h⟩ := hK h
      refine AW.iald kc_186 sk_186 k2 (dcN_4 dcg_825 :) ?_
      obtain ⟨r11, e12, h⟩ := hC h
      refine AW.join (tgt := 113) (lv1 := [(0, rv z 117), (1, iv x1), (2, iv x2), (3, iv x3), (4, iv x4), (5, iv x5)]) (st1 := []) (g1 := r11) ?_ (fun J43 => ?_)
      · refine AW.iinc (lv1 := [(5, iv (x5 + 1)), (0, rv z 117), (1, iv x1), (2, iv x2), (3, iv x3), (4, iv x4)]) 5 (dcN_9 dcg_827 :) rfl (by decide) rfl ?_
        refine AW.goto (tgt := 28) (dcN_10 dcg_827 :) (by decide) ?_
        refine AW.sub (lv1 := [(0, rv z 117), (1, iv x1), (2, iv x2), (3, iv x3), (4, iv x4), (5, iv (x5 + 1))]) [1, 2, 3, 4, 5, 0] rfl ?_
        exact (ih _ _ _ _ h).2.1 rfl
      replace h := e12
      refine AW.if_ne (tgt := 49) (dcN_5 dcg_825 :) (by decide) (fun c3 => ?_) (fun c3 => ?_)
      · replace h := hF h c3
        refine AW.aloadr_n 0 (dcN_7 dcg_825 :) rfl ?_
        refine AW.getR af_X12_226_117 sr_117_98 (dcN_8 dcg_825 :) ?_
        refine AW.iload 5 (dcN_9 dcg_825 :) rfl ?_
        refine AW.iald kc_186 sk_186 k2 (dcN_10 dcg_825 :) ?_
        refine AW.i2l (dcN_11 dcg_825 :) ?_
        refine AW.iload_n 2 (dcN_12 dcg_825 :) rfl ?_
        refine AW.i2l (dcN_13 dcg_825 :) ?_
        refine AW.lmul (dcN_14 dcg_825 :) ?_
        refine AW.ldc2 (dcN_15 dcg_825 :) cw_X12_562 ?_
        refine AW.ldiv (dcN_16 dcg_825 :) (by decide) ?_
        refine AW.l2i (dcN_0 dcg_826 :) ?_
        refine AW.istore (lv1 := [(6, iv ((nl ((nw (g 186 (ix x5))) * (nw x2))).tdiv 100)), (0, rv z 117), (1, iv x1), (2, iv x2), (3, iv x3), (4, iv x4), (5, iv x5)]) (dcN_1 dcg_826 :) (by decide) rfl ?_
        refine AW.iload 6 (dcN_2 dcg_826 :) rfl ?_
        refine AW.iload_n 2 (dcN_3 dcg_826 :) rfl ?_
        obtain ⟨t4, e5, h⟩ := hBe h
        refine AW.join (tgt := 81) (lv1 := [(6, iv ((nl ((nw (g 186 (ix x5))) * (nw x2))).tdiv 100)), (0, rv z 117), (1, iv x1), (2, iv x2), (3, iv x3), (4, iv x4), (5, iv x5)]) (st1 := [iv t4]) (g1 := g) ?_ (fun J70 => ?_)
        · refine AW.istore (lv1 := [(7, iv t4), (6, iv ((nl ((nw (g 186 (ix x5))) * (nw x2))).tdiv 100)), (0, rv z 117), (1, iv x1), (2, iv x2), (3, iv x3), (4, iv x4), (5, iv x5)]) (dcN_10 dcg_826 :) (by decide) rfl ?_
          refine AW.aloadr_n 2 (dcN_11 dcg_826 :) rfl ?_
          refine AW.iload 0 (dcN_12 dcg_826 :) rfl ?_
          refine AW.iload_n 5 (dcN_13 dcg_826 :) rfl ?_
          refine AW.iadd (dcN_14 dcg_826 :) ?_
          refine AW.iload 6 (dcN_15 dcg_826 :) rfl ?_
          refine AW.iload 1 (dcN_16 dcg_826 :) rfl ?_
          obtain ⟨r6, e7, h⟩ := hC h
          refine AW.callVv (As := [iv (t4 + x3), iv x4, iv ((nl ((nw (g 186 (ix x5))) * (nw x2))).tdiv 100)]) (st := []) (M_falls_ok e7) cq_X12_564 cr_117_X12_falls (Nat.le_trans (by decide) hdd) rfl (dcN_17 dcg_826 :) rfl (Nat.le_of_ble_eq_true rfl) ?_
          refine AW.aloadr_n 2 (dcN_18 dcg_826 :) rfl ?_
          refine AW.iload 0 (dcN_0 dcg_827 :) rfl ?_
          refine AW.iload 6 (dcN_1 dcg_827 :) rfl ?_
          refine AW.aloadr_n 2 (dcN_2 dcg_827 :) rfl ?_
          refine AW.getR af_X12_226_117 sr_117_98 (dcN_3 dcg_827 :) ?_
          refine AW.iload 7 (dcN_4 dcg_827 :) rfl ?_
          refine AW.iald kc_186 sk_186 k2 (dcN_5 dcg_827 :) ?_
          refine AW.iload 1 (dcN_6 dcg_827 :) rfl ?_
          refine AW.isub (dcN_7 dcg_827 :) ?_
          obtain ⟨r8, e9, h⟩ := hC h
          refine AW.callVv (As := [iv t4, iv x4, iv ((r6.2 186 (ix x5)) - ((nl ((nw (g 186 (ix x5))) * (nw x2))).tdiv 100))]) (st := []) (M_falls_ok e9) cq_X12_564 cr_117_X12_falls (Nat.le_trans (by decide) hdd) rfl (dcN_8 dcg_827 :) rfl (Nat.le_of_ble_eq_true rfl) ?_
          refine AW.sub (lv1 := [(0, rv z 117), (1, iv x1), (2, iv x2), (3, iv x3), (4, iv x4), (5, iv x5)]) [2, 3, 4, 5, 6, 7] rfl ?_
          cases h
          exact J43
        refine AW.icmp_ge (tgt := 77) (dcN_4 dcg_826 :) (by decide) (fun c10 => ?_) (fun c10 => ?_)
        · refine AW.iload 6 (dcN_7 dcg_826 :) rfl ?_
          refine AW.iload_n 2 (dcN_8 dcg_826 :) rfl ?_
          refine AW.isub (dcN_9 dcg_826 :) ?_
          exact AW.val (e5.trans (if_pos c10)) J70
        · refine AW.iconst (dcN_5 dcg_826 :) ?_
          refine AW.goto (tgt := 81) (dcN_6 dcg_826 :) (by decide) ?_
          exact AW.val (e5.trans (if_neg c10)) J70
      · replace h := hT h c3
        refine AW.goto (tgt := 113) (dcN_6 dcg_825 :) (by decide) ?_
        cases h
        exact J43
  · subst h9
    replace h := hF h (by decide)
    replace h := hF h (by decide)
    replace h := hT h rfl
    refine AW.iload 1 (dcN_13 dcg_827 :) rfl ?_
    refine AW.sipush (dcN_14 dcg_827 :) (by decide) (by decide) ?_
    refine AW.icmp_ge (tgt := 150) (dcN_15 dcg_827 :) (by decide) (fun c1 => ?_) (fun c1 => ?_)
    · replace h := hT h c1
      exact AW.vret1 rfl (dcN_10 dcg_828 :) h rfl
    · replace h := hF h c1
      refine AW.aloadr_n 0 (dcN_0 dcg_828 :) rfl ?_
      refine AW.getR af_X12_226_117 sr_117_98 (dcN_1 dcg_828 :) ?_
      refine AW.iload 1 (dcN_2 dcg_828 :) rfl ?_
      refine AW.aloadr_n 0 (dcN_3 dcg_828 :) rfl ?_
      refine AW.getR af_X12_229_117 sr_117_99 (dcN_4 dcg_828 :) ?_
      refine AW.iload 1 (dcN_5 dcg_828 :) rfl ?_
      obtain ⟨k2, h⟩ := hK h
      refine AW.iald kc_187 sk_187 k2 (dcN_6 dcg_828 :) ?_
      obtain ⟨g3, e4, h⟩ := hBe h
      refine AW.iast kc_186 sk_186 k2 (dcN_7 dcg_828 :) e4 ?_
      refine AW.iinc (lv1 := [(5, iv (x5 + 1)), (0, rv z 117)]) 1 (dcN_8 dcg_828 :) rfl (by decide) rfl ?_
      refine AW.goto (tgt := 122) (dcN_9 dcg_828 :) (by decide) ?_
      refine AW.sub (lv1 := [(0, rv z 117), (5, iv (x5 + 1))]) [1, 0] rfl ?_
      exact (ih _ _ _ _ h).2.2 rfl
theorem M_aDay_ok {z : AZ} {x1 : Int} {x2 : Int} {x3 : Int} {x4 : Int} {g : AG} {r : Int × AG} (h : M_aDay x1 x2 x3 x4 g = some r) : AMf z yX12_aDay cX12_aDay 8 none 1 [rv z 117, iv x1, iv x2, iv x3, iv x4] g r := by
  intro d hdd
  refine AM.of (by decide +kernel) (Nat.le_of_ble_eq_true rfl) ?_
  show AW z (RX12, cX12_aDay, 8, none) d (QD none r) 0 [(0, rv z 117), (1, iv x1), (2, iv x2), (3, iv x3), (4, iv x4)] [] g
  unfold M_aDay at h
  refine AW.iconst (dcN_0 dcg_824 :) ?_
  refine AW.istore (lv1 := [(5, iv 0), (0, rv z 117), (1, iv x1), (2, iv x2), (3, iv x3), (4, iv x4)]) (dcN_1 dcg_824 :) (by decide) rfl ?_
  refine AW.sub (lv1 := [(0, rv z 117), (1, iv x1), (2, iv x2), (3, iv x3), (4, iv x4), (5, iv 0)]) [1, 2, 3, 4, 5, 0] rfl ?_
  exact (M_aDay_b_ok hdd _ _ _ _ h).1 rfl
set_option synthInstance.maxHeartbeats 2000000 in
theorem M_kept_b_ok {z : AZ} {d : Nat} (hdd : 0 ≤ d) {g : AG} : ∀ (x1 : Int) (x2 : Int) (r : Int), M_kept_b g x1 x2 = some r → AW z (RX12, cX12_kept, 3, (some .int)) d (QD (some .int) (r, g)) 4 [(0, rv z 117), (1, iv x1), (2, iv x2)] [] g := by
  refine M_kept_b.partial_correctness g (fun x1 x2 r => AW z (RX12, cX12_kept, 3, (some .int)) d (QD (some .int) (r, g)) 4 [(0, rv z 117), (1, iv x1), (2, iv x2)] [] g) ?_
  intro fb9 ih x1 x2 r h
  refine AW.iload_n 2 (dcN_4 dcg_820 :) rfl ?_
  refine AW.sipush (dcN_5 dcg_820 :) (by decide) (by decide) ?_
  refine AW.icmp_ge (tgt := 26) (dcN_6 dcg_820 :) (by decide) (fun c1 => ?_) (fun c1 => ?_)
  · replace h := hT h c1
    refine AW.iload_n 1 (dcN_4 dcg_821 :) rfl ?_
    exact AW.iret2 rfl (dcN_5 dcg_821 :) h rfl
  · replace h := hF h c1
    refine AW.iload_n 1 (dcN_7 dcg_820 :) rfl ?_
    refine AW.aloadr_n 0 (dcN_8 dcg_820 :) rfl ?_
    refine AW.getR af_X12_226_117 sr_117_98 (dcN_9 dcg_820 :) ?_
    refine AW.iload_n 2 (dcN_10 dcg_820 :) rfl ?_
    obtain ⟨k2, h⟩ := hK h
    refine AW.iald kc_186 sk_186 k2 (dcN_11 dcg_820 :) ?_
    refine AW.iadd (dcN_0 dcg_821 :) ?_
    refine AW.istore_n (lv1 := [(1, iv (x1 + (g 186 (ix x2)))), (0, rv z 117), (2, iv x2)]) (dcN_1 dcg_821 :) (by decide) rfl ?_
    refine AW.iinc (lv1 := [(2, iv (x2 + 1)), (1, iv (x1 + (g 186 (ix x2)))), (0, rv z 117)]) 2 (dcN_2 dcg_821 :) rfl (by decide) rfl ?_
    refine AW.goto (tgt := 4) (dcN_3 dcg_821 :) (by decide) ?_
    refine AW.sub (lv1 := [(0, rv z 117), (1, iv (x1 + (g 186 (ix x2)))), (2, iv (x2 + 1))]) [2, 1, 0] rfl ?_
    exact ih _ _ _ h
theorem M_kept_ok {z : AZ} {g : AG} {r : Int} (h : M_kept g = some r) : AMf z yX12_kept cX12_kept 3 (some .int) 0 [rv z 117] g (r, g) := by
  intro d hdd
  refine AM.of (by decide +kernel) (Nat.le_of_ble_eq_true rfl) ?_
  show AW z (RX12, cX12_kept, 3, (some .int)) d (QD (some .int) (r, g)) 0 [(0, rv z 117)] [] g
  unfold M_kept at h
  refine AW.iconst (dcN_0 dcg_820 :) ?_
  refine AW.istore_n (lv1 := [(1, iv 0), (0, rv z 117)]) (dcN_1 dcg_820 :) (by decide) rfl ?_
  refine AW.iconst (dcN_2 dcg_820 :) ?_
  refine AW.istore_n (lv1 := [(2, iv 0), (1, iv 0), (0, rv z 117)]) (dcN_3 dcg_820 :) (by decide) rfl ?_
  refine AW.sub (lv1 := [(0, rv z 117), (1, iv 0), (2, iv 0)]) [2, 1, 0] rfl ?_
  exact M_kept_b_ok hdd _ _ _ h
set_option synthInstance.maxHeartbeats 2000000 in
theorem M_left_b_ok {z : AZ} {d : Nat} (hdd : 2 ≤ d) {x1 : Int} {x2 : Int} {x3 : Int} {x4 : Int} {x5 : Int} : ∀ (x6 : Int) (g : AG) (r : Int × AG), M_left_b x1 x2 x3 x4 x5 x6 g = some r → AW z (RX12, cX12_left, 7, (some .int)) d (QD (some .int) r) 42 [(0, rv z 117), (1, iv x1), (2, iv x2), (3, iv x3), (4, iv x4), (5, iv x5), (6, iv x6)] [] g := by
  refine M_left_b.partial_correctness x1 x2 x3 x4 x5 (fun x6 g r => AW z (RX12, cX12_left, 7, (some .int)) d (QD (some .int) r) 42 [(0, rv z 117), (1, iv x1), (2, iv x2), (3, iv x3), (4, iv x4), (5, iv x5), (6, iv x6)] [] g) ?_
  intro fb9 ih x6 g r h
  refine AW.iload 6 (dcN_6 dcg_830 :) rfl ?_
  refine AW.iload 5 (dcN_7 dcg_830 :) rfl ?_
  refine AW.icmp_ge (tgt := 64) (dcN_8 dcg_830 :) (by decide) (fun c1 => ?_) (fun c1 => ?_)
  · replace h := hT h c1
    refine AW.aloadr_n 0 (dcN_0 dcg_831 :) rfl ?_
    obtain ⟨r2, e3, h⟩ := hC h
    refine AW.callVi (As := []) (st := []) (M_kept_ok e3) cq_X12_577 cr_117_X12_kept (Nat.le_trans (by decide) hdd) rfl (dcN_1 dcg_831 :) rfl (Nat.le_of_ble_eq_true rfl) ?_
    exact AW.iret1 rfl (dcN_2 dcg_831 :) h rfl
  · replace h := hF h c1
    refine AW.aloadr_n 0 (dcN_9 dcg_830 :) rfl ?_
    refine AW.iload_n 1 (dcN_10 dcg_830 :) rfl ?_
    refine AW.iload_n 2 (dcN_11 dcg_830 :) rfl ?_
    refine AW.iload_n 3 (dcN_12 dcg_830 :) rfl ?_
    refine AW.iload 4 (dcN_13 dcg_830 :) rfl ?_
    obtain ⟨r4, e5, h⟩ := hC h
    refine AW.callVv (As := [iv x1, iv x2, iv x3, iv x4]) (st := []) (M_aDay_ok e5) cq_X12_573 cr_117_X12_aDay (Nat.le_trans (by decide) hdd) rfl (dcN_14 dcg_830 :) rfl (Nat.le_of_ble_eq_true rfl) ?_
    refine AW.iinc (lv1 := [(6, iv (x6 + 1)), (0, rv z 117), (1, iv x1), (2, iv x2), (3, iv x3), (4, iv x4), (5, iv x5)]) 6 (dcN_15 dcg_830 :) rfl (by decide) rfl ?_
    refine AW.goto (tgt := 42) (dcN_16 dcg_830 :) (by decide) ?_
    refine AW.sub (lv1 := [(0, rv z 117), (1, iv x1), (2, iv x2), (3, iv x3), (4, iv x4), (5, iv x5), (6, iv (x6 + 1))]) [1, 2, 3, 4, 5, 6, 0] rfl ?_
    exact ih _ _ _ h
theorem M_left_ok {z : AZ} {x1 : Int} {x2 : Int} {x3 : Int} {x4 : Int} {x5 : Int} {g : AG} {r : Int × AG} (h : M_left x1 x2 x3 x4 x5 g = some r) : AMf z yX12_left cX12_left 7 (some .int) 2 [rv z 117, iv x1, iv x2, iv x3, iv x4, iv x5] g r := by
  intro d hdd
  refine AM.of (by decide +kernel) (Nat.le_of_ble_eq_true rfl) ?_
  show AW z (RX12, cX12_left, 7, (some .int)) d (QD (some .int) r) 0 [(0, rv z 117), (1, iv x1), (2, iv x2), (3, iv x3), (4, iv x4), (5, iv x5)] [] g
  unfold M_left at h
  refine AW.iload_n 1 (dcN_0 dcg_829 :) rfl ?_
  refine AW.iload_n 2 (dcN_1 dcg_829 :) rfl ?_
  refine AW.iload_n 3 (dcN_2 dcg_829 :) rfl ?_
  refine AW.iload 4 (dcN_3 dcg_829 :) rfl ?_
  refine AW.callSi (As := [iv x1, iv x2, iv x3, iv x4]) (st := []) M_canAsk_ok cq_X12_567 st_X12_canAsk (Nat.le_trans (by decide) hdd) rfl (dcN_4 dcg_829 :) rfl (Nat.le_of_ble_eq_true rfl) ?_
  refine AW.if_eq (tgt := 22) (dcN_5 dcg_829 :) (by decide) (fun c1 => ?_) (fun c1 => ?_)
  · replace h := hT h c1
    refine AW.iconst (dcN_11 dcg_829 :) ?_
    exact AW.iret1 rfl (dcN_12 dcg_829 :) h rfl
  · replace h := hF h c1
    refine AW.iload 5 (dcN_6 dcg_829 :) rfl ?_
    refine AW.iconst (dcN_7 dcg_829 :) ?_
    refine AW.bipush (dcN_8 dcg_829 :) (by decide) (by decide) ?_
    refine AW.callSi (As := [iv x5, iv 0, iv 60]) (st := []) M_isIn_ok cq_X12_3 st_X12_isIn (Nat.le_trans (by decide) hdd) rfl (dcN_9 dcg_829 :) rfl (Nat.le_of_ble_eq_true rfl) ?_
    refine AW.if_ne (tgt := 24) (dcN_10 dcg_829 :) (by decide) (fun c2 => ?_) (fun c2 => ?_)
    · replace h := hF h c2
      refine AW.aloadr_n 0 (dcN_13 dcg_829 :) rfl ?_
      refine AW.getI af_X12_44_117 sr_117_10 (dcN_14 dcg_829 :) ?_
      refine AW.iload 4 (dcN_15 dcg_829 :) rfl ?_
      refine AW.icmp_ge (tgt := 35) (dcN_16 dcg_829 :) (by decide) (fun c3 => ?_) (fun c3 => ?_)
      · replace h := hT h c3
        refine AW.aloadr_n 0 (dcN_2 dcg_830 :) rfl ?_
        obtain ⟨r4, e5, h⟩ := hC h
        refine AW.callVv (As := []) (st := []) (M_starts_ok e5) cq_X12_570 cr_117_X12_starts (Nat.le_trans (by decide) hdd) rfl (dcN_3 dcg_830 :) rfl (Nat.le_of_ble_eq_true rfl) ?_
        refine AW.iconst (dcN_4 dcg_830 :) ?_
        refine AW.istore (lv1 := [(6, iv 0), (0, rv z 117), (1, iv x1), (2, iv x2), (3, iv x3), (4, iv x4), (5, iv x5)]) (dcN_5 dcg_830 :) (by decide) rfl ?_
        refine AW.sub (lv1 := [(0, rv z 117), (1, iv x1), (2, iv x2), (3, iv x3), (4, iv x4), (5, iv x5), (6, iv 0)]) [1, 2, 3, 4, 5, 6, 0] rfl ?_
        exact M_left_b_ok hdd _ _ _ h
      · replace h := hF h c3
        refine AW.iconst (dcN_0 dcg_830 :) ?_
        exact AW.iret1 rfl (dcN_1 dcg_830 :) h rfl
    · replace h := hT h c2
      refine AW.iconst (dcN_11 dcg_829 :) ?_
      exact AW.iret1 rfl (dcN_12 dcg_829 :) h rfl
set_option synthInstance.maxHeartbeats 2000000 in
theorem M_shuts_b_ok {z : AZ} {d : Nat} (hdd : 2 ≤ d) {x1 : Int} {x2 : Int} {x3 : Int} {x4 : Int} : ∀ (x5 : Int) (g : AG) (r : Int × AG), M_shuts_b x1 x2 x3 x4 x5 g = some r → AW z (RX12, cX12_shuts, 6, (some .int)) d (QD (some .int) r) 31 [(0, rv z 117), (1, iv x1), (2, iv x2), (3, iv x3), (4, iv x4), (5, iv x5)] [] g := by
  refine M_shuts_b.partial_correctness x1 x2 x3 x4 (fun x5 g r => AW z (RX12, cX12_shuts, 6, (some .int)) d (QD (some .int) r) 31 [(0, rv z 117), (1, iv x1), (2, iv x2), (3, iv x3), (4, iv x4), (5, iv x5)] [] g) ?_
  intro fb9 ih x5 g r h
  refine AW.iload 5 (dcN_18 dcg_832 :) rfl ?_
  refine AW.bipush (dcN_0 dcg_833 :) (by decide) (by decide) ?_
  refine AW.icmp_gt (tgt := 66) (dcN_1 dcg_833 :) (by decide) (fun c1 => ?_) (fun c1 => ?_)
  · replace h := hT h c1
    refine AW.iconst (dcN_0 dcg_834 :) ?_
    exact AW.iret1 rfl (dcN_1 dcg_834 :) h rfl
  · replace h := hF h c1
    refine AW.aloadr_n 0 (dcN_2 dcg_833 :) rfl ?_
    refine AW.iload_n 1 (dcN_3 dcg_833 :) rfl ?_
    refine AW.iload_n 2 (dcN_4 dcg_833 :) rfl ?_
    refine AW.iload_n 3 (dcN_5 dcg_833 :) rfl ?_
    refine AW.iload 4 (dcN_6 dcg_833 :) rfl ?_
    obtain ⟨r2, e3, h⟩ := hC h
    refine AW.callVv (As := [iv x1, iv x2, iv x3, iv x4]) (st := []) (M_aDay_ok e3) cq_X12_573 cr_117_X12_aDay (Nat.le_trans (by decide) hdd) rfl (dcN_7 dcg_833 :) rfl (Nat.le_of_ble_eq_true rfl) ?_
    refine AW.aloadr_n 0 (dcN_8 dcg_833 :) rfl ?_
    obtain ⟨r4, e5, h⟩ := hC h
    refine AW.callVi (As := []) (st := []) (M_kept_ok e5) cq_X12_577 cr_117_X12_kept (Nat.le_trans (by decide) hdd) rfl (dcN_9 dcg_833 :) rfl (Nat.le_of_ble_eq_true rfl) ?_
    refine AW.ldcw (dcN_10 dcg_833 :) cw_X12_580 ?_
    refine AW.icmp_ge (tgt := 60) (dcN_11 dcg_833 :) (by decide) (fun c6 => ?_) (fun c6 => ?_)
    · replace h := hT h c6
      refine AW.iinc (lv1 := [(5, iv (x5 + 1)), (0, rv z 117), (1, iv x1), (2, iv x2), (3, iv x3), (4, iv x4)]) 5 (dcN_14 dcg_833 :) rfl (by decide) rfl ?_
      refine AW.goto (tgt := 31) (dcN_15 dcg_833 :) (by decide) ?_
      refine AW.sub (lv1 := [(0, rv z 117), (1, iv x1), (2, iv x2), (3, iv x3), (4, iv x4), (5, iv (x5 + 1))]) [1, 2, 3, 4, 5, 0] rfl ?_
      exact ih _ _ _ h
    · replace h := hF h c6
      refine AW.iload 5 (dcN_12 dcg_833 :) rfl ?_
      exact AW.iret1 rfl (dcN_13 dcg_833 :) h rfl
theorem M_shuts_ok {z : AZ} {x1 : Int} {x2 : Int} {x3 : Int} {x4 : Int} {g : AG} {r : Int × AG} (h : M_shuts x1 x2 x3 x4 g = some r) : AMf z yX12_shuts cX12_shuts 6 (some .int) 2 [rv z 117, iv x1, iv x2, iv x3, iv x4] g r := by
  intro d hdd
  refine AM.of (by decide +kernel) (Nat.le_of_ble_eq_true rfl) ?_
  show AW z (RX12, cX12_shuts, 6, (some .int)) d (QD (some .int) r) 0 [(0, rv z 117), (1, iv x1), (2, iv x2), (3, iv x3), (4, iv x4)] [] g
  unfold M_shuts at h
  refine AW.iload_n 1 (dcN_0 dcg_832 :) rfl ?_
  refine AW.iload_n 2 (dcN_1 dcg_832 :) rfl ?_
  refine AW.iload_n 3 (dcN_2 dcg_832 :) rfl ?_
  refine AW.iload 4 (dcN_3 dcg_832 :) rfl ?_
  refine AW.callSi (As := [iv x1, iv x2, iv x3, iv x4]) (st := []) M_canAsk_ok cq_X12_567 st_X12_canAsk (Nat.le_trans (by decide) hdd) rfl (dcN_4 dcg_832 :) rfl (Nat.le_of_ble_eq_true rfl) ?_
  refine AW.if_ne (tgt := 13) (dcN_5 dcg_832 :) (by decide) (fun c1 => ?_) (fun c1 => ?_)
  · replace h := hF h c1
    refine AW.aloadr_n 0 (dcN_8 dcg_832 :) rfl ?_
    refine AW.getI af_X12_44_117 sr_117_10 (dcN_9 dcg_832 :) ?_
    refine AW.iload 4 (dcN_10 dcg_832 :) rfl ?_
    refine AW.icmp_ge (tgt := 24) (dcN_11 dcg_832 :) (by decide) (fun c2 => ?_) (fun c2 => ?_)
    · replace h := hT h c2
      refine AW.aloadr_n 0 (dcN_14 dcg_832 :) rfl ?_
      obtain ⟨r3, e4, h⟩ := hC h
      refine AW.callVv (As := []) (st := []) (M_starts_ok e4) cq_X12_570 cr_117_X12_starts (Nat.le_trans (by decide) hdd) rfl (dcN_15 dcg_832 :) rfl (Nat.le_of_ble_eq_true rfl) ?_
      refine AW.iconst (dcN_16 dcg_832 :) ?_
      refine AW.istore (lv1 := [(5, iv 1), (0, rv z 117), (1, iv x1), (2, iv x2), (3, iv x3), (4, iv x4)]) (dcN_17 dcg_832 :) (by decide) rfl ?_
      refine AW.sub (lv1 := [(0, rv z 117), (1, iv x1), (2, iv x2), (3, iv x3), (4, iv x4), (5, iv 1)]) [1, 2, 3, 4, 5, 0] rfl ?_
      exact M_shuts_b_ok hdd _ _ _ h
    · replace h := hF h c2
      refine AW.iconst (dcN_12 dcg_832 :) ?_
      exact AW.iret1 rfl (dcN_13 dcg_832 :) h rfl
  · replace h := hT h c1
    refine AW.iconst (dcN_6 dcg_832 :) ?_
    exact AW.iret1 rfl (dcN_7 dcg_832 :) h rfl
theorem M_held_ok {z : AZ} {x1 : Int} {x2 : Int} {x3 : Int} {x4 : Int} {g : AG} {r : Int × AG} (h : M_held x1 x2 x3 x4 g = some r) : AMf z yX12_held cX12_held 6 (some .int) 3 [rv z 117, iv x1, iv x2, iv x3, iv x4] g r := by
  intro d hdd
  refine AM.of (by decide +kernel) (Nat.le_of_ble_eq_true rfl) ?_
  show AW z (RX12, cX12_held, 6, (some .int)) d (QD (some .int) r) 0 [(0, rv z 117), (1, iv x1), (2, iv x2), (3, iv x3), (4, iv x4)] [] g
  unfold M_held at h
  refine AW.aloadr_n 0 (dcN_0 dcg_839 :) rfl ?_
  refine AW.iload_n 1 (dcN_1 dcg_839 :) rfl ?_
  refine AW.callVi (As := [iv x1]) (st := []) M_isBoat_ok cq_X12_435 cr_117_X12_isBoat (Nat.le_trans (by decide) hdd) rfl (dcN_2 dcg_839 :) rfl (Nat.le_of_ble_eq_true rfl) ?_
  refine AW.if_eq (tgt := 39) (dcN_3 dcg_839 :) (by decide) (fun c1 => ?_) (fun c1 => ?_)
  · replace h := hT h c1
    refine AW.ldcw (dcN_2 dcg_840 :) cw_X12_450 ?_
    exact AW.iret1 rfl (dcN_3 dcg_840 :) h rfl
  · replace h := hF h c1
    refine AW.iload_n 2 (dcN_4 dcg_839 :) rfl ?_
    refine AW.iconst (dcN_5 dcg_839 :) ?_
    refine AW.bipush (dcN_6 dcg_839 :) (by decide) (by decide) ?_
    refine AW.callSi (As := [iv x2, iv 0, iv 99]) (st := []) M_isIn_ok cq_X12_3 st_X12_isIn (Nat.le_trans (by decide) hdd) rfl (dcN_7 dcg_839 :) rfl (Nat.le_of_ble_eq_true rfl) ?_
    refine AW.if_eq (tgt := 39) (dcN_8 dcg_839 :) (by decide) (fun c2 => ?_) (fun c2 => ?_)
    · replace h := hT h c2
      refine AW.ldcw (dcN_2 dcg_840 :) cw_X12_450 ?_
      exact AW.iret1 rfl (dcN_3 dcg_840 :) h rfl
    · replace h := hF h c2
      refine AW.iload_n 3 (dcN_9 dcg_839 :) rfl ?_
      refine AW.iconst (dcN_10 dcg_839 :) ?_
      refine AW.bipush (dcN_11 dcg_839 :) (by decide) (by decide) ?_
      refine AW.callSi (As := [iv x3, iv 0, iv 9]) (st := []) M_isIn_ok cq_X12_3 st_X12_isIn (Nat.le_trans (by decide) hdd) rfl (dcN_12 dcg_839 :) rfl (Nat.le_of_ble_eq_true rfl) ?_
      refine AW.if_eq (tgt := 39) (dcN_13 dcg_839 :) (by decide) (fun c3 => ?_) (fun c3 => ?_)
      · replace h := hT h c3
        refine AW.ldcw (dcN_2 dcg_840 :) cw_X12_450 ?_
        exact AW.iret1 rfl (dcN_3 dcg_840 :) h rfl
      · replace h := hF h c3
        refine AW.iload 4 (dcN_14 dcg_839 :) rfl ?_
        refine AW.iconst (dcN_15 dcg_839 :) ?_
        refine AW.bipush (dcN_16 dcg_839 :) (by decide) (by decide) ?_
        refine AW.callSi (As := [iv x4, iv 0, iv 9]) (st := []) M_isIn_ok cq_X12_3 st_X12_isIn (Nat.le_trans (by decide) hdd) rfl (dcN_0 dcg_840 :) rfl (Nat.le_of_ble_eq_true rfl) ?_
        refine AW.if_ne (tgt := 43) (dcN_1 dcg_840 :) (by decide) (fun c4 => ?_) (fun c4 => ?_)
        · replace h := hF h c4
          refine AW.aloadr_n 0 (dcN_4 dcg_840 :) rfl ?_
          obtain ⟨r5, e6, h⟩ := hC h
          refine AW.callVv (As := []) (st := []) (M_forgets_ok e6) cq_X12_401 cr_117_X12_forgets (Nat.le_trans (by decide) hdd) rfl (dcN_5 dcg_840 :) rfl (Nat.le_of_ble_eq_true rfl) ?_
          refine AW.aloadr_n 0 (dcN_6 dcg_840 :) rfl ?_
          refine AW.getR af_X12_109_117 sr_117_33 (dcN_7 dcg_840 :) ?_
          refine AW.iconst (dcN_8 dcg_840 :) ?_
          refine AW.iload 4 (dcN_9 dcg_840 :) rfl ?_
          obtain ⟨g7, e8, h⟩ := hBe h
          refine AW.iast kc_148 sk_148 (by decide) (dcN_10 dcg_840 :) e8 ?_
          refine AW.aloadr_n 0 (dcN_11 dcg_840 :) rfl ?_
          refine AW.getR af_X12_109_117 sr_117_33 (dcN_12 dcg_840 :) ?_
          refine AW.bipush (dcN_13 dcg_840 :) (by decide) (by decide) ?_
          refine AW.iload_n 2 (dcN_14 dcg_840 :) rfl ?_
          obtain ⟨g9, e10, h⟩ := hBe h
          refine AW.iast kc_148 sk_148 (by decide) (dcN_15 dcg_840 :) e10 ?_
          refine AW.aloadr_n 0 (dcN_16 dcg_840 :) rfl ?_
          refine AW.getR af_X12_109_117 sr_117_33 (dcN_0 dcg_841 :) ?_
          refine AW.bipush (dcN_1 dcg_841 :) (by decide) (by decide) ?_
          refine AW.iload_n 3 (dcN_2 dcg_841 :) rfl ?_
          obtain ⟨g11, e12, h⟩ := hBe h
          refine AW.iast kc_148 sk_148 (by decide) (dcN_3 dcg_841 :) e12 ?_
          refine AW.aloadr_n 0 (dcN_4 dcg_841 :) rfl ?_
          refine AW.getR af_X12_109_117 sr_117_33 (dcN_5 dcg_841 :) ?_
          refine AW.bipush (dcN_6 dcg_841 :) (by decide) (by decide) ?_
          refine AW.aloadr_n 0 (dcN_7 dcg_841 :) rfl ?_
          refine AW.getR af_X12_35_117 sr_117_7 (dcN_8 dcg_841 :) ?_
          refine AW.iload_n 1 (dcN_9 dcg_841 :) rfl ?_
          obtain ⟨k13, h⟩ := hK h
          refine AW.iald kc_125 sk_125 k13 (dcN_10 dcg_841 :) ?_
          obtain ⟨g14, e15, h⟩ := hBe h
          refine AW.iast kc_148 sk_148 (by decide) (dcN_11 dcg_841 :) e15 ?_
          refine AW.aloadr_n 0 (dcN_12 dcg_841 :) rfl ?_
          refine AW.iconst (dcN_13 dcg_841 :) ?_
          obtain ⟨r16, e17, h⟩ := hC h
          refine AW.callVi (As := [iv 3]) (st := []) (M_serves_ok e17) cq_X12_404 cr_117_X12_serves (Nat.le_trans (by decide) hdd) rfl (dcN_14 dcg_841 :) rfl (Nat.le_of_ble_eq_true rfl) ?_
          refine AW.istore (lv1 := [(5, iv r16.1), (0, rv z 117), (1, iv x1), (2, iv x2), (3, iv x3), (4, iv x4)]) (dcN_15 dcg_841 :) (by decide) rfl ?_
          refine AW.iload 0 (dcN_16 dcg_841 :) rfl ?_
          refine AW.iconst (dcN_17 dcg_841 :) ?_
          obtain ⟨r22, e23, h⟩ := hC h
          refine AW.join (tgt := 119) (lv1 := []) (st1 := [iv r22.1]) (g1 := r22.2) ?_ (fun J94 => ?_)
          · exact AW.iret1 rfl (dcN_12 dcg_842 :) h rfl
          replace h := e23
          refine AW.icmp_ne (tgt := 101) (dcN_18 dcg_841 :) (by decide) (fun c18 => ?_) (fun c18 => ?_)
          · replace h := hF h c18
            refine AW.aloadr_n 1 (dcN_2 dcg_842 :) rfl ?_
            refine AW.aloadr_n 1 (dcN_3 dcg_842 :) rfl ?_
            refine AW.getR af_X12_57_117 sr_117_16 (dcN_4 dcg_842 :) ?_
            refine AW.iload 0 (dcN_5 dcg_842 :) rfl ?_
            obtain ⟨k19, h⟩ := hK h
            refine AW.iald kc_131 sk_131 k19 (dcN_6 dcg_842 :) ?_
            refine AW.aloadr_n 1 (dcN_7 dcg_842 :) rfl ?_
            refine AW.getR af_X12_60_117 sr_117_17 (dcN_8 dcg_842 :) ?_
            refine AW.iload 0 (dcN_9 dcg_842 :) rfl ?_
            refine AW.iald kc_132 sk_132 k19 (dcN_10 dcg_842 :) ?_
            obtain ⟨r20, e21, h⟩ := hC h
            refine AW.callVi (As := [iv (r16.2 131 (ix r16.1)), iv (r16.2 132 (ix r16.1))]) (st := []) (M_comesTo_ok e21) cq_X12_397 cr_117_X12_comesTo (Nat.le_trans (by decide) hdd) rfl (dcN_11 dcg_842 :) rfl (Nat.le_of_ble_eq_true rfl) ?_
            refine AW.sub (lv1 := []) [] rfl ?_
            cases h
            exact J94
          · replace h := hT h c18
            refine AW.iconst (dcN_0 dcg_842 :) ?_
            refine AW.goto (tgt := 119) (dcN_1 dcg_842 :) (by decide) ?_
            refine AW.sub (lv1 := []) [] rfl ?_
            cases h
            exact J94
        · replace h := hT h c4
          refine AW.ldcw (dcN_2 dcg_840 :) cw_X12_450 ?_
          exact AW.iret1 rfl (dcN_3 dcg_840 :) h rfl
theorem M_look_ok {z : AZ} {x1 : Int} {g : AG} : AMf z yX12_look cX12_look 2 (some .int) 0 [rv z 117, iv x1] g ((M_look x1 g), g) := by
  intro d hdd
  refine AM.of (by decide +kernel) (Nat.le_of_ble_eq_true rfl) ?_
  show AW z (RX12, cX12_look, 2, (some .int)) d (QD (some .int) ((M_look x1 g), g)) 0 [(0, rv z 117), (1, iv x1)] [] g
  refine AW.iload_n 1 (dcN_0 dcg_843 :) rfl ?_
  by_cases c1 : nw x1 = 0
  · refine AW.tsIn (tgt := 48) 0 dX12_look_1 c1 (by decide) (by decide) (by rfl) (by decide) ?_
    refine AW.aloadr_n 0 (dcN_0 dcg_844 :) rfl ?_
    refine AW.getI af_X12_235_117 sr_117_12 (dcN_1 dcg_844 :) ?_
    exact AW.iret rfl (dcN_2 dcg_844 :) ⟨congrArg (fun v => some (iv v)) (show M_look x1 g = (g 117 12) from ((if_pos c1))).symm, rfl⟩
  · by_cases c2 : nw x1 = 1
    · refine AW.tsIn (tgt := 53) 1 dX12_look_1 c2 (by decide) (by decide) (by rfl) (by decide) ?_
      refine AW.aloadr_n 0 (dcN_3 dcg_844 :) rfl ?_
      refine AW.getI af_X12_444_117 sr_117_49 (dcN_4 dcg_844 :) ?_
      exact AW.iret rfl (dcN_5 dcg_844 :) ⟨congrArg (fun v => some (iv v)) (show M_look x1 g = (g 117 49) from (((if_neg c1).trans (if_pos c2)))).symm, rfl⟩
    · by_cases c3 : nw x1 = 2
      · refine AW.tsIn (tgt := 58) 2 dX12_look_1 c3 (by decide) (by decide) (by rfl) (by decide) ?_
        refine AW.aloadr_n 0 (dcN_6 dcg_844 :) rfl ?_
        refine AW.getI af_X12_493_117 sr_117_65 (dcN_7 dcg_844 :) ?_
        exact AW.iret rfl (dcN_8 dcg_844 :) ⟨congrArg (fun v => some (iv v)) (show M_look x1 g = (g 117 65) from (((if_neg c1).trans ((if_neg c2).trans (if_pos c3))))).symm, rfl⟩
      · by_cases c4 : nw x1 = 3
        · refine AW.tsIn (tgt := 63) 3 dX12_look_1 c4 (by decide) (by decide) (by rfl) (by decide) ?_
          refine AW.aloadr_n 0 (dcN_9 dcg_844 :) rfl ?_
          refine AW.getI af_X12_528_117 sr_117_87 (dcN_0 dcg_845 :) ?_
          exact AW.iret rfl (dcN_1 dcg_845 :) ⟨congrArg (fun v => some (iv v)) (show M_look x1 g = (g 117 87) from (((if_neg c1).trans ((if_neg c2).trans ((if_neg c3).trans (if_pos c4)))))).symm, rfl⟩
        · by_cases c5 : nw x1 = 4
          · refine AW.tsIn (tgt := 68) 4 dX12_look_1 c5 (by decide) (by decide) (by rfl) (by decide) ?_
            refine AW.aloadr_n 0 (dcN_2 dcg_845 :) rfl ?_
            refine AW.getI af_X12_475_117 sr_117_59 (dcN_3 dcg_845 :) ?_
            exact AW.iret rfl (dcN_4 dcg_845 :) ⟨congrArg (fun v => some (iv v)) (show M_look x1 g = (g 117 59) from (((if_neg c1).trans ((if_neg c2).trans ((if_neg c3).trans ((if_neg c4).trans (if_pos c5))))))).symm, rfl⟩
          · by_cases c6 : nw x1 = 5
            · refine AW.tsIn (tgt := 73) 5 dX12_look_1 c6 (by decide) (by decide) (by rfl) (by decide) ?_
              refine AW.aloadr_n 0 (dcN_5 dcg_845 :) rfl ?_
              refine AW.getI af_X12_232_117 sr_117_11 (dcN_6 dcg_845 :) ?_
              exact AW.iret rfl (dcN_7 dcg_845 :) ⟨congrArg (fun v => some (iv v)) (show M_look x1 g = (g 117 11) from (((if_neg c1).trans ((if_neg c2).trans ((if_neg c3).trans ((if_neg c4).trans ((if_neg c5).trans (if_pos c6)))))))).symm, rfl⟩
            · by_cases c7 : nw x1 = 6
              · refine AW.tsIn (tgt := 78) 6 dX12_look_1 c7 (by decide) (by decide) (by rfl) (by decide) ?_
                refine AW.aloadr_n 0 (dcN_8 dcg_845 :) rfl ?_
                refine AW.getI af_X12_44_117 sr_117_10 (dcN_9 dcg_845 :) ?_
                exact AW.iret rfl (dcN_10 dcg_845 :) ⟨congrArg (fun v => some (iv v)) (show M_look x1 g = (g 117 10) from (((if_neg c1).trans ((if_neg c2).trans ((if_neg c3).trans ((if_neg c4).trans ((if_neg c5).trans ((if_neg c6).trans (if_pos c7))))))))).symm, rfl⟩
              · by_cases c8 : nw x1 = 7
                · refine AW.tsIn (tgt := 83) 7 dX12_look_1 c8 (by decide) (by decide) (by rfl) (by decide) ?_
                  refine AW.aloadr_n 0 (dcN_11 dcg_845 :) rfl ?_
                  refine AW.getI af_X12_555_117 sr_117_92 (dcN_12 dcg_845 :) ?_
                  exact AW.iret rfl (dcN_13 dcg_845 :) ⟨congrArg (fun v => some (iv v)) (show M_look x1 g = (g 117 92) from (((if_neg c1).trans ((if_neg c2).trans ((if_neg c3).trans ((if_neg c4).trans ((if_neg c5).trans ((if_neg c6).trans ((if_neg c7).trans (if_pos c8)))))))))).symm, rfl⟩
                · refine AW.tsOut (tgt := 88) dX12_look_1 (by omega) (by decide) ?_
                  refine AW.iconst (dcN_14 dcg_845 :) ?_
                  exact AW.iret rfl (dcN_15 dcg_845 :) ⟨congrArg (fun v => some (iv v)) (show M_look x1 g = (-1) from (((if_neg c1).trans ((if_neg c2).trans ((if_neg c3).trans ((if_neg c4).trans ((if_neg c5).trans ((if_neg c6).trans ((if_neg c7).trans (if_neg c8)))))))))).symm, rfl⟩
end
section
theorem X_within_ok {z : AZ} {x0 : Int} {x1 : Int} {x2 : Int} {g : AG} : AMf z yX11_within cX11_within 3 (some .boolean) 0 [iv x0, iv x1, iv x2] g ((X_within x0 x1 x2), g) := by
  intro d hdd
  refine AM.of (by decide +kernel) (Nat.le_of_ble_eq_true rfl) ?_
  show AW z (RX11, cX11_within, 3, (some .boolean)) d (QD (some .boolean) ((X_within x0 x1 x2), g)) 0 [(0, iv x0), (1, iv x1), (2, iv x2)] [] g
  refine AW.iload_n 0 (dcN_0 dcg_345 :) rfl ?_
  refine AW.iload_n 1 (dcN_1 dcg_345 :) rfl ?_
  refine AW.join (tgt := 15) (lv1 := [(0, iv x0), (1, iv x1), (2, iv x2)]) (st1 := [iv (if nw x0 < nw x1 then 0 else (if nw x2 < nw x0 then 0 else 1))]) (g1 := g) ?_ (fun J2 => ?_)
  · exact AW.zret rfl (by (repeat' split) <;> first | exact Or.inl rfl | exact Or.inr rfl) (dcN_9 dcg_345 :) ⟨congrArg (fun v => some (iv v)) (show X_within x0 x1 x2  = (if nw x0 < nw x1 then 0 else (if nw x2 < nw x0 then 0 else 1)) from rfl).symm, rfl⟩
  refine AW.icmp_lt (tgt := 14) (dcN_2 dcg_345 :) (by decide) (fun c1 => ?_) (fun c1 => ?_)
  · refine AW.iconst (dcN_8 dcg_345 :) ?_
    exact AW.val (if_pos c1) J2
  · refine AW.iload_n 0 (dcN_3 dcg_345 :) rfl ?_
    refine AW.iload_n 2 (dcN_4 dcg_345 :) rfl ?_
    refine AW.icmp_gt (tgt := 14) (dcN_5 dcg_345 :) (by decide) (fun c2 => ?_) (fun c2 => ?_)
    · refine AW.iconst (dcN_8 dcg_345 :) ?_
      exact AW.val ((if_neg c1).trans (if_pos c2)) J2
    · refine AW.iconst (dcN_6 dcg_345 :) ?_
      refine AW.goto (tgt := 15) (dcN_7 dcg_345 :) (by decide) ?_
      exact AW.val ((if_neg c1).trans (if_neg c2)) J2
theorem X_stretch_ok {z : AZ} {x1 : Int} {x2 : Int} {x3 : Int} {x4 : Int} {g : AG} {r : Int × AG} (h : X_stretch x1 x2 x3 x4 g = some r) : AMf z yX11_stretch cX11_stretch 5 (some .boolean) 1 [rv z 0, iv x1, iv x2, iv x3, iv x4] g r := by
  intro d hdd
  refine AM.of (by decide +kernel) (Nat.le_of_ble_eq_true rfl) ?_
  show AW z (RX11, cX11_stretch, 5, (some .boolean)) d (QD (some .boolean) r) 0 [(0, rv z 0), (1, iv x1), (2, iv x2), (3, iv x3), (4, iv x4)] [] g
  unfold X_stretch at h
  refine AW.iload_n 1 (dcN_0 dcg_353 :) rfl ?_
  refine AW.iconst (dcN_1 dcg_353 :) ?_
  refine AW.bipush (dcN_2 dcg_353 :) (by decide) (by decide) ?_
  refine AW.callSi (As := [iv x1, iv 0, iv 14]) (st := []) X_within_ok cq_X11_99 st_X11_within (Nat.le_trans (by decide) hdd) rfl (dcN_3 dcg_353 :) rfl (Nat.le_of_ble_eq_true rfl) ?_
  refine AW.if_eq (tgt := 21) (dcN_4 dcg_353 :) (by decide) (fun c1 => ?_) (fun c1 => ?_)
  · replace h := hT h c1
    refine AW.iconst (dcN_10 dcg_353 :) ?_
    exact AW.zret1 rfl (Or.inl rfl) (dcN_11 dcg_353 :) h rfl
  · replace h := hF h c1
    refine AW.iload 4 (dcN_5 dcg_353 :) rfl ?_
    refine AW.iconst (dcN_6 dcg_353 :) ?_
    refine AW.bipush (dcN_7 dcg_353 :) (by decide) (by decide) ?_
    refine AW.callSi (As := [iv x4, iv 1, iv 99]) (st := []) X_within_ok cq_X11_99 st_X11_within (Nat.le_trans (by decide) hdd) rfl (dcN_8 dcg_353 :) rfl (Nat.le_of_ble_eq_true rfl) ?_
    refine AW.if_ne (tgt := 23) (dcN_9 dcg_353 :) (by decide) (fun c2 => ?_) (fun c2 => ?_)
    · replace h := hF h c2
      refine AW.iload_n 2 (dcN_12 dcg_353 :) rfl ?_
      refine AW.iconst (dcN_13 dcg_353 :) ?_
      refine AW.bipush (dcN_14 dcg_353 :) (by decide) (by decide) ?_
      refine AW.callSi (As := [iv x2, iv 0, iv 9]) (st := []) X_within_ok cq_X11_99 st_X11_within (Nat.le_trans (by decide) hdd) rfl (dcN_15 dcg_353 :) rfl (Nat.le_of_ble_eq_true rfl) ?_
      refine AW.if_eq (tgt := 43) (dcN_16 dcg_353 :) (by decide) (fun c3 => ?_) (fun c3 => ?_)
      · replace h := hT h c3
        refine AW.iconst (dcN_5 dcg_354 :) ?_
        exact AW.zret1 rfl (Or.inl rfl) (dcN_6 dcg_354 :) h rfl
      · replace h := hF h c3
        refine AW.iload_n 3 (dcN_0 dcg_354 :) rfl ?_
        refine AW.iconst (dcN_1 dcg_354 :) ?_
        refine AW.bipush (dcN_2 dcg_354 :) (by decide) (by decide) ?_
        refine AW.callSi (As := [iv x3, iv 0, iv 9]) (st := []) X_within_ok cq_X11_99 st_X11_within (Nat.le_trans (by decide) hdd) rfl (dcN_3 dcg_354 :) rfl (Nat.le_of_ble_eq_true rfl) ?_
        refine AW.if_ne (tgt := 45) (dcN_4 dcg_354 :) (by decide) (fun c4 => ?_) (fun c4 => ?_)
        · replace h := hF h c4
          refine AW.aloadr_n 0 (dcN_7 dcg_354 :) rfl ?_
          refine AW.getR af_X11_12_0 sr_0_0 (dcN_8 dcg_354 :) ?_
          refine AW.getR af_X11_117_1 sr_1_0 (dcN_9 dcg_354 :) ?_
          refine AW.iload_n 1 (dcN_10 dcg_354 :) rfl ?_
          refine AW.iload_n 2 (dcN_11 dcg_354 :) rfl ?_
          obtain ⟨k5, h⟩ := hK h
          obtain ⟨g6, e7, h⟩ := hBe h
          refine AW.iast kc_13 sk_13 k5 (dcN_12 dcg_354 :) e7 ?_
          refine AW.aloadr_n 0 (dcN_13 dcg_354 :) rfl ?_
          refine AW.getR af_X11_12_0 sr_0_0 (dcN_14 dcg_354 :) ?_
          refine AW.getR af_X11_121_1 sr_1_1 (dcN_15 dcg_354 :) ?_
          refine AW.iload_n 1 (dcN_16 dcg_354 :) rfl ?_
          refine AW.iload_n 3 (dcN_17 dcg_354 :) rfl ?_
          obtain ⟨g8, e9, h⟩ := hBe h
          refine AW.iast kc_14 sk_14 k5 (dcN_0 dcg_355 :) e9 ?_
          refine AW.aloadr_n 0 (dcN_1 dcg_355 :) rfl ?_
          refine AW.getR af_X11_12_0 sr_0_0 (dcN_2 dcg_355 :) ?_
          refine AW.getR af_X11_124_1 sr_1_2 (dcN_3 dcg_355 :) ?_
          refine AW.iload_n 1 (dcN_4 dcg_355 :) rfl ?_
          refine AW.iload 4 (dcN_5 dcg_355 :) rfl ?_
          obtain ⟨g10, e11, h⟩ := hBe h
          refine AW.iast kc_15 sk_15 k5 (dcN_6 dcg_355 :) e11 ?_
          refine AW.iconst (dcN_7 dcg_355 :) ?_
          exact AW.zret1 rfl (Or.inr rfl) (dcN_8 dcg_355 :) h rfl
        · replace h := hT h c4
          refine AW.iconst (dcN_5 dcg_354 :) ?_
          exact AW.zret1 rfl (Or.inl rfl) (dcN_6 dcg_354 :) h rfl
    · replace h := hT h c2
      refine AW.iconst (dcN_10 dcg_353 :) ?_
      exact AW.zret1 rfl (Or.inl rfl) (dcN_11 dcg_353 :) h rfl
theorem Rules_askDay_ok {z : AZ} {x1 : Int} {x2 : Int} {g : AG} {r : Int × AG} (h : Rules_askDay x1 x2 g = some r) : AMf z yX6_askDay cX6_askDay 3 none 1 [rv z 2, iv x1, iv x2] g r := by
  intro d hdd
  refine AM.of (by decide +kernel) (Nat.le_of_ble_eq_true rfl) ?_
  show AW z (RX6, cX6_askDay, 3, none) d (QD none r) 0 [(0, rv z 2), (1, iv x1), (2, iv x2)] [] g
  unfold Rules_askDay at h
  refine AW.aloadr_n 0 (dcN_0 dcg_201 :) rfl ?_
  refine AW.getR af_X6_42_2 sr_2_13 (dcN_1 dcg_201 :) ?_
  refine AW.iconst (dcN_2 dcg_201 :) ?_
  obtain ⟨g1, e2, h⟩ := hBe h
  refine AW.callSv (st := []) (fill_ok kc_27 sk_27 (by decide)) cf_X6_58 st_fill (Nat.le_trans (by decide) hdd) rfl (dcN_3 dcg_201 :) rfl (Nat.le_of_ble_eq_true rfl) ?_
  rw [← e2]
  refine AW.aloadr_n 0 (dcN_4 dcg_201 :) rfl ?_
  refine AW.getR af_X6_42_2 sr_2_13 (dcN_5 dcg_201 :) ?_
  refine AW.iconst (dcN_6 dcg_201 :) ?_
  refine AW.iload_n 1 (dcN_7 dcg_201 :) rfl ?_
  refine AW.bipush (dcN_8 dcg_201 :) (by decide) (by decide) ?_
  refine AW.irem (dcN_9 dcg_201 :) (by decide) ?_
  obtain ⟨g3, e4, h⟩ := hBe h
  refine AW.iast kc_27 sk_27 (by decide) (dcN_10 dcg_201 :) e4 ?_
  refine AW.aloadr_n 0 (dcN_11 dcg_201 :) rfl ?_
  refine AW.getR af_X6_42_2 sr_2_13 (dcN_0 dcg_202 :) ?_
  refine AW.iconst (dcN_1 dcg_202 :) ?_
  refine AW.iload_n 1 (dcN_2 dcg_202 :) rfl ?_
  refine AW.bipush (dcN_3 dcg_202 :) (by decide) (by decide) ?_
  refine AW.idiv (dcN_4 dcg_202 :) (by decide) ?_
  obtain ⟨g5, e6, h⟩ := hBe h
  refine AW.iast kc_27 sk_27 (by decide) (dcN_5 dcg_202 :) e6 ?_
  refine AW.aloadr_n 0 (dcN_6 dcg_202 :) rfl ?_
  refine AW.getR af_X6_42_2 sr_2_13 (dcN_7 dcg_202 :) ?_
  refine AW.iconst (dcN_8 dcg_202 :) ?_
  refine AW.iload_n 2 (dcN_9 dcg_202 :) rfl ?_
  obtain ⟨g7, e8, h⟩ := hBe h
  refine AW.iast kc_27 sk_27 (by decide) (dcN_10 dcg_202 :) e8 ?_
  exact AW.vret1 rfl (dcN_11 dcg_202 :) h rfl
theorem Rules_both_ok {z : AZ} {x0 : Int} {x1 : Int} {x2 : Int} {g : AG} : AMf z yX6_both cX6_both 3 (some .int) 0 [iv x0, iv x1, iv x2] g ((Rules_both x0 x1 x2), g) := by
  intro d hdd
  refine AM.of (by decide +kernel) (Nat.le_of_ble_eq_true rfl) ?_
  show AW z (RX6, cX6_both, 3, (some .int)) d (QD (some .int) ((Rules_both x0 x1 x2), g)) 0 [(0, iv x0), (1, iv x1), (2, iv x2)] [] g
  refine AW.iload_n 0 (dcN_0 dcg_218 :) rfl ?_
  by_cases c1 : nw x0 = 42
  · refine AW.lsw (tgt := 76) dX6_both_1 (by decide) c1 (by rfl) (by decide) ?_
    refine AW.iload_n 1 (dcN_8 dcg_219 :) rfl ?_
    refine AW.iload_n 2 (dcN_9 dcg_219 :) rfl ?_
    refine AW.imul (dcN_10 dcg_219 :) ?_
    exact AW.iret rfl (dcN_11 dcg_219 :) ⟨congrArg (fun v => some (iv v)) (show Rules_both x0 x1 x2  = (x1 * x2) from ((if_pos c1))).symm, rfl⟩
  · by_cases c2 : nw x0 = 43
    · refine AW.lsw (tgt := 68) dX6_both_1 (by decide) c2 (by rfl) (by decide) ?_
      refine AW.iload_n 1 (dcN_0 dcg_219 :) rfl ?_
      refine AW.iload_n 2 (dcN_1 dcg_219 :) rfl ?_
      refine AW.iadd (dcN_2 dcg_219 :) ?_
      exact AW.iret rfl (dcN_3 dcg_219 :) ⟨congrArg (fun v => some (iv v)) (show Rules_both x0 x1 x2  = (x1 + x2) from (((if_neg c1).trans (if_pos c2)))).symm, rfl⟩
    · by_cases c3 : nw x0 = 45
      · refine AW.lsw (tgt := 72) dX6_both_1 (by decide) c3 (by rfl) (by decide) ?_
        refine AW.iload_n 1 (dcN_4 dcg_219 :) rfl ?_
        refine AW.iload_n 2 (dcN_5 dcg_219 :) rfl ?_
        refine AW.isub (dcN_6 dcg_219 :) ?_
        exact AW.iret rfl (dcN_7 dcg_219 :) ⟨congrArg (fun v => some (iv v)) (show Rules_both x0 x1 x2  = (x1 - x2) from (((if_neg c1).trans ((if_neg c2).trans (if_pos c3))))).symm, rfl⟩
      · by_cases c4 : nw x0 = 60
        · refine AW.lsw (tgt := 80) dX6_both_1 (by decide) c4 (by rfl) (by decide) ?_
          refine AW.iload_n 1 (dcN_12 dcg_219 :) rfl ?_
          refine AW.iload_n 2 (dcN_13 dcg_219 :) rfl ?_
          refine AW.join (tgt := 90) (lv1 := [(0, iv x0), (1, iv x1), (2, iv x2)]) (st1 := [iv (if nw x2 ≤ nw x1 then 0 else 1)]) (g1 := g) ?_ (fun J82 => ?_)
          · exact AW.iret rfl (dcN_18 dcg_219 :) ⟨congrArg (fun v => some (iv v)) (show Rules_both x0 x1 x2  = (if nw x2 ≤ nw x1 then 0 else 1) from (((if_neg c1).trans ((if_neg c2).trans ((if_neg c3).trans (if_pos c4)))))).symm, rfl⟩
          refine AW.icmp_ge (tgt := 89) (dcN_14 dcg_219 :) (by decide) (fun c5 => ?_) (fun c5 => ?_)
          · refine AW.iconst (dcN_17 dcg_219 :) ?_
            exact AW.val (if_pos c5) J82
          · refine AW.iconst (dcN_15 dcg_219 :) ?_
            refine AW.goto (tgt := 90) (dcN_16 dcg_219 :) (by decide) ?_
            exact AW.val (if_neg c5) J82
        · by_cases c6 : nw x0 = 61
          · refine AW.lsw (tgt := 91) dX6_both_1 (by decide) c6 (by rfl) (by decide) ?_
            refine AW.iload_n 1 (dcN_19 dcg_219 :) rfl ?_
            refine AW.iload_n 2 (dcN_20 dcg_219 :) rfl ?_
            refine AW.join (tgt := 101) (lv1 := [(0, iv x0), (1, iv x1), (2, iv x2)]) (st1 := [iv (if nw x1 = nw x2 then 1 else 0)]) (g1 := g) ?_ (fun J93 => ?_)
            · exact AW.iret rfl (dcN_3 dcg_220 :) ⟨congrArg (fun v => some (iv v)) (show Rules_both x0 x1 x2  = (if nw x1 = nw x2 then 1 else 0) from (((if_neg c1).trans ((if_neg c2).trans ((if_neg c3).trans ((if_neg c4).trans (if_pos c6))))))).symm, rfl⟩
            refine AW.icmp_ne (tgt := 100) (dcN_21 dcg_219 :) (by decide) (fun c7 => ?_) (fun c7 => ?_)
            · refine AW.iconst (dcN_2 dcg_220 :) ?_
              exact AW.val (if_neg c7) J93
            · refine AW.iconst (dcN_0 dcg_220 :) ?_
              refine AW.goto (tgt := 101) (dcN_1 dcg_220 :) (by decide) ?_
              exact AW.val (if_pos c7) J93
          · by_cases c8 : nw x0 = 62
            · refine AW.lsw (tgt := 102) dX6_both_1 (by decide) c8 (by rfl) (by decide) ?_
              refine AW.iload_n 1 (dcN_4 dcg_220 :) rfl ?_
              refine AW.iload_n 2 (dcN_5 dcg_220 :) rfl ?_
              refine AW.join (tgt := 112) (lv1 := [(0, iv x0), (1, iv x1), (2, iv x2)]) (st1 := [iv (if nw x1 ≤ nw x2 then 0 else 1)]) (g1 := g) ?_ (fun J104 => ?_)
              · exact AW.iret rfl (dcN_10 dcg_220 :) ⟨congrArg (fun v => some (iv v)) (show Rules_both x0 x1 x2  = (if nw x1 ≤ nw x2 then 0 else 1) from (((if_neg c1).trans ((if_neg c2).trans ((if_neg c3).trans ((if_neg c4).trans ((if_neg c6).trans (if_pos c8)))))))).symm, rfl⟩
              refine AW.icmp_le (tgt := 111) (dcN_6 dcg_220 :) (by decide) (fun c9 => ?_) (fun c9 => ?_)
              · refine AW.iconst (dcN_9 dcg_220 :) ?_
                exact AW.val (if_pos c9) J104
              · refine AW.iconst (dcN_7 dcg_220 :) ?_
                refine AW.goto (tgt := 112) (dcN_8 dcg_220 :) (by decide) ?_
                exact AW.val (if_neg c9) J104
            · by_cases c10 : nw x0 = 109
              · refine AW.lsw (tgt := 113) dX6_both_1 (by decide) c10 (by rfl) (by decide) ?_
                refine AW.iload_n 1 (dcN_11 dcg_220 :) rfl ?_
                refine AW.iload_n 2 (dcN_12 dcg_220 :) rfl ?_
                refine AW.iand (dcN_13 dcg_220 :) ?_
                exact AW.iret rfl (dcN_14 dcg_220 :) ⟨congrArg (fun v => some (iv v)) (show Rules_both x0 x1 x2  = (andI x1 x2) from (((if_neg c1).trans ((if_neg c2).trans ((if_neg c3).trans ((if_neg c4).trans ((if_neg c6).trans ((if_neg c8).trans (if_pos c10))))))))).symm, rfl⟩
              · refine AW.lsw (tgt := 117) (off := 116) dX6_both_1 (by decide) rfl ((if_neg (fun q => c1 q.symm)).trans ((if_neg (fun q => c2 q.symm)).trans ((if_neg (fun q => c3 q.symm)).trans ((if_neg (fun q => c4 q.symm)).trans ((if_neg (fun q => c6 q.symm)).trans ((if_neg (fun q => c8 q.symm)).trans ((if_neg (fun q => c10 q.symm)).trans rfl))))))) (by decide) ?_
                refine AW.iload_n 1 (dcN_15 dcg_220 :) rfl ?_
                refine AW.iload_n 2 (dcN_16 dcg_220 :) rfl ?_
                refine AW.ior (dcN_17 dcg_220 :) ?_
                exact AW.iret rfl (dcN_18 dcg_220 :) ⟨congrArg (fun v => some (iv v)) (show Rules_both x0 x1 x2  = (orI x1 x2) from (((if_neg c1).trans ((if_neg c2).trans ((if_neg c3).trans ((if_neg c4).trans ((if_neg c6).trans ((if_neg c8).trans (if_neg c10))))))))).symm, rfl⟩
theorem Rules_askedOf_ok {z : AZ} {x1 : Int} {g : AG} {r : Int} (h : Rules_askedOf x1 g = some r) : AMf z yX6_askedOf cX6_askedOf 2 (some .int) 1 [rv z 2, iv x1] g (r, g) := by
  intro d hdd
  refine AM.of (by decide +kernel) (Nat.le_of_ble_eq_true rfl) ?_
  show AW z (RX6, cX6_askedOf, 2, (some .int)) d (QD (some .int) (r, g)) 0 [(0, rv z 2), (1, iv x1)] [] g
  unfold Rules_askedOf at h
  refine AW.iload_n 1 (dcN_0 dcg_215 :) rfl ?_
  refine AW.iconst (dcN_1 dcg_215 :) ?_
  refine AW.bipush (dcN_2 dcg_215 :) (by decide) (by decide) ?_
  refine AW.callN0 (As := [iv x1, iv 0, iv 8]) (st := []) X_within_ok ns_X6_78 in_X11 cd_X11_within st_X11_within (by decide) (Nat.le_trans (by decide) hdd) rfl (Nat.le_of_ble_eq_true rfl) (dcN_3 dcg_215 :) rfl ?_
  obtain ⟨r3, e4, h⟩ := hC h
  refine AW.join (tgt := 20) (lv1 := []) (st1 := [iv r3]) (g1 := g) ?_ (fun J7 => ?_)
  · exact AW.iret2 rfl (dcN_11 dcg_215 :) h rfl
  replace h := e4
  refine AW.if_eq (tgt := 19) (dcN_4 dcg_215 :) (by decide) (fun c1 => ?_) (fun c1 => ?_)
  · replace h := hT h c1
    refine AW.iconst (dcN_10 dcg_215 :) ?_
    refine AW.sub (lv1 := []) [] rfl ?_
    cases h
    exact J7
  · replace h := hF h c1
    refine AW.aloadr_n 0 (dcN_5 dcg_215 :) rfl ?_
    refine AW.getR af_X6_42_2 sr_2_13 (dcN_6 dcg_215 :) ?_
    refine AW.iload_n 1 (dcN_7 dcg_215 :) rfl ?_
    obtain ⟨k2, h⟩ := hK h
    refine AW.iald kc_27 sk_27 k2 (dcN_8 dcg_215 :) ?_
    refine AW.goto (tgt := 20) (dcN_9 dcg_215 :) (by decide) ?_
    refine AW.sub (lv1 := []) [] rfl ?_
    cases h
    exact J7
theorem Rules_alone_ok {z : AZ} {x0 : Int} {x1 : Int} {x2 : Int} {g : AG} {r : Int} (h : Rules_alone x0 x1 x2 g = some r) : AMf z yX6_alone cX6_alone 3 (some .int) 0 [iv x0, iv x1, iv x2] g (r, g) := by
  intro d hdd
  refine AM.of (by decide +kernel) (Nat.le_of_ble_eq_true rfl) ?_
  show AW z (RX6, cX6_alone, 3, (some .int)) d (QD (some .int) (r, g)) 0 [(0, iv x0), (1, iv x1), (2, iv x2)] [] g
  unfold Rules_alone at h
  refine AW.iload_n 0 (dcN_0 dcg_216 :) rfl ?_
  refine AW.bipush (dcN_1 dcg_216 :) (by decide) (by decide) ?_
  refine AW.icmp_ne (tgt := 10) (dcN_2 dcg_216 :) (by decide) (fun c1 => ?_) (fun c1 => ?_)
  · replace h := hF h c1
    refine AW.iload_n 2 (dcN_7 dcg_216 :) rfl ?_
    obtain ⟨r4, e5, h⟩ := hC h
    refine AW.join (tgt := 21) (lv1 := []) (st1 := [iv r4]) (g1 := g) ?_ (fun J11 => ?_)
    · exact AW.iret2 rfl (dcN_2 dcg_217 :) h rfl
    replace h := e5
    refine AW.if_ne (tgt := 18) (dcN_8 dcg_216 :) (by decide) (fun c2 => ?_) (fun c2 => ?_)
    · replace h := hF h c2
      refine AW.iload_n 1 (dcN_11 dcg_216 :) rfl ?_
      refine AW.iload_n 2 (dcN_0 dcg_217 :) rfl ?_
      obtain ⟨k3, h⟩ := hK h
      refine AW.idiv (dcN_1 dcg_217 :) k3 ?_
      refine AW.sub (lv1 := []) [] rfl ?_
      cases h
      exact J11
    · replace h := hT h c2
      refine AW.iconst (dcN_9 dcg_216 :) ?_
      refine AW.goto (tgt := 21) (dcN_10 dcg_216 :) (by decide) ?_
      refine AW.sub (lv1 := []) [] rfl ?_
      cases h
      exact J11
  · replace h := hT h c1
    refine AW.iconst (dcN_3 dcg_216 :) ?_
    refine AW.iload_n 1 (dcN_4 dcg_216 :) rfl ?_
    refine AW.isub (dcN_5 dcg_216 :) ?_
    exact AW.iret2 rfl (dcN_6 dcg_216 :) h rfl
set_option synthInstance.maxHeartbeats 2000000 in
theorem Rules_run_b_ok {z : AZ} {d : Nat} (hdd : 2 ≤ d) {x2 : Int} : ∀ (tag : Nat) (x3 : Int) (x4 : Int) (x5 : Int) (g : AG) (r : Int × AG), Rules_run_b x2 tag x3 x4 x5 g = some r → (tag = 1 → AW z (RX6, cX6_run, 6, (some .int)) d (QD (some .int) r) 5 [(0, rv z 2), (2, iv x2), (3, iv x3), (4, iv x4)] [] g) ∧ (tag = 2 → AW z (RX6, cX6_run, 6, (some .int)) d (QD (some .int) r) 32 [(0, rv z 2), (2, iv x2), (3, iv x3), (4, iv x4), (5, iv x5)] [] g) ∧ (tag = 3 → AW z (RX6, cX6_run, 6, (some .int)) d (QD (some .int) r) 96 [(0, rv z 2), (2, iv x2), (3, iv x3), (4, iv x4), (5, iv x5)] [] g) ∧ (tag = 4 → AW z (RX6, cX6_run, 6, (some .int)) d (QD (some .int) r) 171 [(0, rv z 2), (2, iv x2), (3, iv x3), (4, iv x4)] [] g) := by
  refine Rules_run_b.partial_correctness x2 (fun tag x3 x4 x5 g r => (tag = 1 → AW z (RX6, cX6_run, 6, (some .int)) d (QD (some .int) r) 5 [(0, rv z 2), (2, iv x2), (3, iv x3), (4, iv x4)] [] g) ∧ (tag = 2 → AW z (RX6, cX6_run, 6, (some .int)) d (QD (some .int) r) 32 [(0, rv z 2), (2, iv x2), (3, iv x3), (4, iv x4), (5, iv x5)] [] g) ∧ (tag = 3 → AW z (RX6, cX6_run, 6, (some .int)) d (QD (some .int) r) 96 [(0, rv z 2), (2, iv x2), (3, iv x3), (4, iv x4), (5, iv x5)] [] g) ∧ (tag = 4 → AW z (RX6, cX6_run, 6, (some .int)) d (QD (some .int) r) 171 [(0, rv z 2), (2, iv x2), (3, iv x3), (4, iv x4)] [] g)) ?_
  intro fb9 ih tag x3 x4 x5 g r h
  refine ⟨fun h9 => ?_, fun h9 => ?_, fun h9 => ?_, fun h9 => ?_⟩
  · subst h9
    replace h := hT h rfl
    refine AW.iload 3 (dcN_4 dcg_208 :) rfl ?_
    refine AW.iload_n 1 (dcN_5 dcg_208 :) rfl ?_
    refine AW.icmp_ge (tgt := 177) (dcN_6 dcg_208 :) (by decide) (fun c1 => ?_) (fun c1 => ?_)
    · replace h := hT h c1
      refine AW.iload_n 2 (dcN_9 dcg_213 :) rfl ?_
      obtain ⟨r4, e5, h⟩ := hC h
      refine AW.join (tgt := 193) (lv1 := []) (st1 := [iv r4.1]) (g1 := r4.2) ?_ (fun J178 => ?_)
      · exact AW.iret1 rfl (dcN_1 dcg_214 :) h rfl
      replace h := e5
      refine AW.if_le (tgt := 192) (dcN_10 dcg_213 :) (by decide) (fun c2 => ?_) (fun c2 => ?_)
      · replace h := hT h c2
        refine AW.iconst (dcN_0 dcg_214 :) ?_
        refine AW.sub (lv1 := []) [] rfl ?_
        cases h
        exact J178
      · replace h := hF h c2
        refine AW.aloadr_n 0 (dcN_11 dcg_213 :) rfl ?_
        refine AW.getR af_X6_45_2 sr_2_14 (dcN_12 dcg_213 :) ?_
        refine AW.iload_n 2 (dcN_13 dcg_213 :) rfl ?_
        refine AW.iconst (dcN_14 dcg_213 :) ?_
        refine AW.isub (dcN_15 dcg_213 :) ?_
        obtain ⟨k3, h⟩ := hK h
        refine AW.iald kc_28 sk_28 k3 (dcN_16 dcg_213 :) ?_
        refine AW.goto (tgt := 193) (dcN_17 dcg_213 :) (by decide) ?_
        refine AW.sub (lv1 := []) [] rfl ?_
        cases h
        exact J178
    · replace h := hF h c1
      refine AW.aloadr_n 0 (dcN_7 dcg_208 :) rfl ?_
      refine AW.getR af_X6_9_2 sr_2_0 (dcN_8 dcg_208 :) ?_
      refine AW.iload 3 (dcN_9 dcg_208 :) rfl ?_
      obtain ⟨k6, h⟩ := hK h
      refine AW.iald kc_17 sk_17 k6 (dcN_10 dcg_208 :) ?_
      refine AW.istore (lv1 := [(5, iv (g 17 (ix x4))), (0, rv z 2), (2, iv x2), (3, iv x3), (4, iv x4)]) (dcN_11 dcg_208 :) (by decide) rfl ?_
      refine AW.iload 0 (dcN_12 dcg_208 :) rfl ?_
      refine AW.iconst (dcN_13 dcg_208 :) ?_
      refine AW.icmp_eq (tgt := 32) (dcN_14 dcg_208 :) (by decide) (fun c7 => ?_) (fun c7 => ?_)
      · replace h := hT h c7
        refine AW.sub (lv1 := [(0, rv z 2), (2, iv x2), (3, iv x3), (4, iv x4), (5, iv (g 17 (ix x4)))]) [1, 2, 3, 4, 0] rfl ?_
        exact (ih _ _ _ _ _ _ h).2.1 rfl
      · replace h := hF h c7
        refine AW.iload 0 (dcN_15 dcg_208 :) rfl ?_
        refine AW.iconst (dcN_16 dcg_208 :) ?_
        refine AW.icmp_ne (tgt := 82) (dcN_17 dcg_208 :) (by decide) (fun c8 => ?_) (fun c8 => ?_)
        · replace h := hF h c8
          refine AW.iload 0 (dcN_9 dcg_210 :) rfl ?_
          refine AW.bipush (dcN_10 dcg_210 :) (by decide) (by decide) ?_
          refine AW.icmp_eq (tgt := 96) (dcN_11 dcg_210 :) (by decide) (fun c9 => ?_) (fun c9 => ?_)
          · replace h := hT h c9
            refine AW.sub (lv1 := [(0, rv z 2), (2, iv x2), (3, iv x3), (4, iv x4), (5, iv (g 17 (ix x4)))]) [1, 2, 3, 4, 0] rfl ?_
            exact (ih _ _ _ _ _ _ h).2.2.1 rfl
          · replace h := hF h c9
            refine AW.iload 0 (dcN_12 dcg_210 :) rfl ?_
            refine AW.bipush (dcN_13 dcg_210 :) (by decide) (by decide) ?_
            refine AW.icmp_ne (tgt := 134) (dcN_14 dcg_210 :) (by decide) (fun c10 => ?_) (fun c10 => ?_)
            · replace h := hF h c10
              refine AW.iload_n 3 (dcN_2 dcg_212 :) rfl ?_
              refine AW.iconst (dcN_3 dcg_212 :) ?_
              refine AW.icmp_ge (tgt := 141) (dcN_4 dcg_212 :) (by decide) (fun c11 => ?_) (fun c11 => ?_)
              · replace h := hT h c11
                refine AW.iinc (lv1 := [(3, iv (x3 + (-1))), (5, iv (g 17 (ix x4))), (0, rv z 2), (2, iv x2), (4, iv x4)]) 3 (dcN_7 dcg_212 :) rfl (by decide) rfl ?_
                refine AW.aloadr_n 2 (dcN_8 dcg_212 :) rfl ?_
                refine AW.getR af_X6_45_2 sr_2_14 (dcN_9 dcg_212 :) ?_
                refine AW.iload_n 0 (dcN_10 dcg_212 :) rfl ?_
                refine AW.iconst (dcN_11 dcg_212 :) ?_
                refine AW.isub (dcN_12 dcg_212 :) ?_
                refine AW.iload 1 (dcN_13 dcg_212 :) rfl ?_
                refine AW.aloadr_n 2 (dcN_14 dcg_212 :) rfl ?_
                refine AW.getR af_X6_45_2 sr_2_14 (dcN_15 dcg_212 :) ?_
                refine AW.iload_n 0 (dcN_16 dcg_212 :) rfl ?_
                refine AW.iconst (dcN_17 dcg_212 :) ?_
                refine AW.isub (dcN_18 dcg_212 :) ?_
                obtain ⟨k12, h⟩ := hK h
                refine AW.iald kc_28 sk_28 k12 (dcN_0 dcg_213 :) ?_
                refine AW.aloadr_n 2 (dcN_1 dcg_213 :) rfl ?_
                refine AW.getR af_X6_45_2 sr_2_14 (dcN_2 dcg_213 :) ?_
                refine AW.iload_n 0 (dcN_3 dcg_213 :) rfl ?_
                obtain ⟨k13, h⟩ := hK h
                refine AW.iald kc_28 sk_28 k13 (dcN_4 dcg_213 :) ?_
                refine AW.callSi (As := [iv (g 17 (ix x4)), iv (g 28 (ix ((x3 + (-1)) - 1))), iv (g 28 (ix (x3 + (-1))))]) (st := [iv ((x3 + (-1)) - 1), rv z 28]) Rules_both_ok cq_X6_90 st_X6_both (Nat.le_trans (by decide) hdd) rfl (dcN_5 dcg_213 :) rfl (Nat.le_of_ble_eq_true rfl) ?_
                obtain ⟨g14, e15, h⟩ := hBe h
                refine AW.iast kc_28 sk_28 k12 (dcN_6 dcg_213 :) e15 ?_
                refine AW.sub (lv1 := [(0, rv z 2), (2, iv x2), (3, iv (x3 + (-1))), (4, iv x4)]) [2, 3, 0, 4] rfl ?_
                exact (ih _ _ _ _ _ _ h).2.2.2 rfl
              · replace h := hF h c11
                refine AW.iconst (dcN_5 dcg_212 :) ?_
                exact AW.iret1 rfl (dcN_6 dcg_212 :) h rfl
            · replace h := hT h c10
              refine AW.sub (lv1 := [(0, rv z 2), (2, iv x2), (3, iv x3), (4, iv x4), (5, iv (g 17 (ix x4)))]) [1, 2, 3, 4, 0] rfl ?_
              exact (ih _ _ _ _ _ _ h).2.2.1 rfl
        · replace h := hT h c8
          refine AW.sub (lv1 := [(0, rv z 2), (2, iv x2), (3, iv x3), (4, iv x4), (5, iv (g 17 (ix x4)))]) [1, 2, 3, 4, 0] rfl ?_
          exact (ih _ _ _ _ _ _ h).2.1 rfl
  · subst h9
    replace h := hF h (by decide)
    replace h := hT h rfl
    refine AW.iload_n 2 (dcN_0 dcg_209 :) rfl ?_
    refine AW.aloadr_n 0 (dcN_1 dcg_209 :) rfl ?_
    refine AW.getR af_X6_45_2 sr_2_14 (dcN_2 dcg_209 :) ?_
    refine AW.alen kc_28 sk_28 (dcN_3 dcg_209 :) ?_
    refine AW.icmp_lt (tgt := 43) (dcN_4 dcg_209 :) (by decide) (fun c1 => ?_) (fun c1 => ?_)
    · replace h := hT h c1
      refine AW.aloadr_n 0 (dcN_7 dcg_209 :) rfl ?_
      refine AW.getR af_X6_45_2 sr_2_14 (dcN_8 dcg_209 :) ?_
      refine AW.iload_n 2 (dcN_9 dcg_209 :) rfl ?_
      refine AW.iload 4 (dcN_10 dcg_209 :) rfl ?_
      refine AW.iconst (dcN_11 dcg_209 :) ?_
      obtain ⟨r7, e8, h⟩ := hC h
      refine AW.join (tgt := 75) (lv1 := [(0, rv z 2), (2, iv x2), (3, iv x3), (4, iv x4)]) (st1 := [iv r7.1, iv x3, rv z 28]) (g1 := r7.2) ?_ (fun J51 => ?_)
      · obtain ⟨k9, h⟩ := hK h
        obtain ⟨g10, e11, h⟩ := hBe h
        refine AW.iast kc_28 sk_28 k9 (dcN_6 dcg_210 :) e11 ?_
        refine AW.iinc (lv1 := [(3, iv (x3 + 1)), (0, rv z 2), (2, iv x2), (4, iv x4)]) 2 (dcN_7 dcg_210 :) rfl (by decide) rfl ?_
        refine AW.goto (tgt := 171) (dcN_8 dcg_210 :) (by decide) ?_
        refine AW.sub (lv1 := [(0, rv z 2), (2, iv x2), (3, iv (x3 + 1)), (4, iv x4)]) [1, 2, 0, 3] rfl ?_
        exact (ih _ _ _ _ _ _ h).2.2.2 rfl
      replace h := e8
      refine AW.icmp_ne (tgt := 64) (dcN_12 dcg_209 :) (by decide) (fun c2 => ?_) (fun c2 => ?_)
      · replace h := hF h c2
        refine AW.aloadr_n 0 (dcN_0 dcg_210 :) rfl ?_
        refine AW.aloadr_n 0 (dcN_1 dcg_210 :) rfl ?_
        refine AW.getR af_X6_15_2 sr_2_1 (dcN_2 dcg_210 :) ?_
        refine AW.iload 3 (dcN_3 dcg_210 :) rfl ?_
        obtain ⟨k3, h⟩ := hK h
        refine AW.iald kc_18 sk_18 k3 (dcN_4 dcg_210 :) ?_
        obtain ⟨r4, e5, h⟩ := hC h
        refine AW.callVi (As := [iv (g 18 (ix x4))]) (st := [iv x3, rv z 28]) (Rules_askedOf_ok e5) cq_X6_82 cr_2_X6_askedOf (Nat.le_trans (by decide) hdd) rfl (dcN_5 dcg_210 :) rfl (Nat.le_of_ble_eq_true rfl) ?_
        refine AW.sub (lv1 := [(0, rv z 2), (2, iv x2), (3, iv x3), (4, iv x4)]) [0, 1, 2, 3] rfl ?_
        cases h
        exact J51
      · replace h := hT h c2
        refine AW.aloadr_n 0 (dcN_13 dcg_209 :) rfl ?_
        refine AW.getR af_X6_15_2 sr_2_1 (dcN_14 dcg_209 :) ?_
        refine AW.iload 3 (dcN_15 dcg_209 :) rfl ?_
        obtain ⟨k6, h⟩ := hK h
        refine AW.iald kc_18 sk_18 k6 (dcN_16 dcg_209 :) ?_
        refine AW.goto (tgt := 75) (dcN_17 dcg_209 :) (by decide) ?_
        refine AW.sub (lv1 := [(0, rv z 2), (2, iv x2), (3, iv x3), (4, iv x4)]) [0, 1, 2, 3] rfl ?_
        cases h
        exact J51
    · replace h := hF h c1
      refine AW.iconst (dcN_5 dcg_209 :) ?_
      exact AW.iret1 rfl (dcN_6 dcg_209 :) h rfl
  · subst h9
    replace h := hF h (by decide)
    replace h := hF h (by decide)
    replace h := hT h rfl
    refine AW.iload_n 2 (dcN_0 dcg_211 :) rfl ?_
    refine AW.iconst (dcN_1 dcg_211 :) ?_
    refine AW.icmp_ge (tgt := 103) (dcN_2 dcg_211 :) (by decide) (fun c1 => ?_) (fun c1 => ?_)
    · replace h := hT h c1
      refine AW.aloadr_n 0 (dcN_5 dcg_211 :) rfl ?_
      refine AW.getR af_X6_45_2 sr_2_14 (dcN_6 dcg_211 :) ?_
      refine AW.iload_n 2 (dcN_7 dcg_211 :) rfl ?_
      refine AW.iconst (dcN_8 dcg_211 :) ?_
      refine AW.isub (dcN_9 dcg_211 :) ?_
      refine AW.iload 4 (dcN_10 dcg_211 :) rfl ?_
      refine AW.aloadr_n 0 (dcN_11 dcg_211 :) rfl ?_
      refine AW.getR af_X6_45_2 sr_2_14 (dcN_12 dcg_211 :) ?_
      refine AW.iload_n 2 (dcN_13 dcg_211 :) rfl ?_
      refine AW.iconst (dcN_14 dcg_211 :) ?_
      refine AW.isub (dcN_15 dcg_211 :) ?_
      obtain ⟨k2, h⟩ := hK h
      refine AW.iald kc_28 sk_28 k2 (dcN_16 dcg_211 :) ?_
      refine AW.aloadr_n 0 (dcN_17 dcg_211 :) rfl ?_
      refine AW.getR af_X6_15_2 sr_2_1 (dcN_18 dcg_211 :) ?_
      refine AW.iload 3 (dcN_19 dcg_211 :) rfl ?_
      obtain ⟨k3, h⟩ := hK h
      refine AW.iald kc_18 sk_18 k3 (dcN_20 dcg_211 :) ?_
      obtain ⟨r4, e5, h⟩ := hC h
      refine AW.callSi (As := [iv x5, iv (g 28 (ix (x3 - 1))), iv (g 18 (ix x4))]) (st := [iv (x3 - 1), rv z 28]) (Rules_alone_ok e5) cq_X6_86 st_X6_alone (Nat.le_trans (by decide) hdd) rfl (dcN_21 dcg_211 :) rfl (Nat.le_of_ble_eq_true rfl) ?_
      obtain ⟨g6, e7, h⟩ := hBe h
      refine AW.iast kc_28 sk_28 k2 (dcN_0 dcg_212 :) e7 ?_
      refine AW.goto (tgt := 171) (dcN_1 dcg_212 :) (by decide) ?_
      refine AW.sub (lv1 := [(0, rv z 2), (2, iv x2), (3, iv x3), (4, iv x4)]) [0, 1, 2, 3] rfl ?_
      exact (ih _ _ _ _ _ _ h).2.2.2 rfl
    · replace h := hF h c1
      refine AW.iconst (dcN_3 dcg_211 :) ?_
      exact AW.iret1 rfl (dcN_4 dcg_211 :) h rfl
  · subst h9
    replace h := hF h (by decide)
    replace h := hF h (by decide)
    replace h := hF h (by decide)
    replace h := hT h rfl
    refine AW.iinc (lv1 := [(4, iv (x4 + 1)), (0, rv z 2), (2, iv x2), (3, iv x3)]) 3 (dcN_7 dcg_213 :) rfl (by decide) rfl ?_
    refine AW.goto (tgt := 5) (dcN_8 dcg_213 :) (by decide) ?_
    refine AW.sub (lv1 := [(0, rv z 2), (2, iv x2), (3, iv x3), (4, iv (x4 + 1))]) [1, 2, 3, 0] rfl ?_
    exact (ih _ _ _ _ _ _ h).1 rfl
theorem Rules_run_ok {z : AZ} {x1 : Int} {x2 : Int} {g : AG} {r : Int × AG} (h : Rules_run x1 x2 g = some r) : AMf z yX6_run cX6_run 6 (some .int) 2 [rv z 2, iv x1, iv x2] g r := by
  intro d hdd
  refine AM.of (by decide +kernel) (Nat.le_of_ble_eq_true rfl) ?_
  show AW z (RX6, cX6_run, 6, (some .int)) d (QD (some .int) r) 0 [(0, rv z 2), (1, iv x1), (2, iv x2)] [] g
  unfold Rules_run at h
  refine AW.iconst (dcN_0 dcg_208 :) ?_
  refine AW.istore_n (lv1 := [(3, iv 0), (0, rv z 2), (1, iv x1), (2, iv x2)]) (dcN_1 dcg_208 :) (by decide) rfl ?_
  refine AW.iload_n 2 (dcN_2 dcg_208 :) rfl ?_
  refine AW.istore (lv1 := [(4, iv x1), (3, iv 0), (0, rv z 2), (1, iv x1), (2, iv x2)]) (dcN_3 dcg_208 :) (by decide) rfl ?_
  refine AW.sub (lv1 := [(0, rv z 2), (2, iv x2), (3, iv 0), (4, iv x1)]) [2, 4, 1, 0] rfl ?_
  exact (Rules_run_b_ok hdd _ _ _ _ _ _ h).1 rfl
set_option synthInstance.maxHeartbeats 2000000 in
theorem Rules_serving_b_ok {z : AZ} {d : Nat} (hdd : 3 ≤ d) {x1 : Int} : ∀ (tag : Nat) (x2 : Int) (g : AG) (r : Int × AG), Rules_serving_b x1 tag x2 g = some r → (tag = 1 → AW z (RX6, cX6_serving, 3, (some .int)) d (QD (some .int) r) 2 [(0, rv z 2), (1, iv x1), (2, iv x2)] [] g) ∧ (tag = 2 → AW z (RX6, cX6_serving, 3, (some .int)) d (QD (some .int) r) 56 [(0, rv z 2), (1, iv x1), (2, iv x2)] [] g) := by
  refine Rules_serving_b.partial_correctness x1 (fun tag x2 g r => (tag = 1 → AW z (RX6, cX6_serving, 3, (some .int)) d (QD (some .int) r) 2 [(0, rv z 2), (1, iv x1), (2, iv x2)] [] g) ∧ (tag = 2 → AW z (RX6, cX6_serving, 3, (some .int)) d (QD (some .int) r) 56 [(0, rv z 2), (1, iv x1), (2, iv x2)] [] g)) ?_
  intro fb9 ih tag x2 g r h
  refine ⟨fun h9 => ?_, fun h9 => ?_⟩
  · subst h9
    replace h := hT h rfl
    refine AW.iload_n 2 (dcN_2 dcg_204 :) rfl ?_
    refine AW.aloadr_n 0 (dcN_3 dcg_204 :) rfl ?_
    refine AW.getI af_X6_52_2 sr_2_3 (dcN_4 dcg_204 :) ?_
    refine AW.icmp_ge (tgt := 62) (dcN_5 dcg_204 :) (by decide) (fun c1 => ?_) (fun c1 => ?_)
    · replace h := hT h c1
      refine AW.iconst (dcN_16 dcg_205 :) ?_
      exact AW.iret1 rfl (dcN_17 dcg_205 :) h rfl
    · replace h := hF h c1
      refine AW.aloadr_n 0 (dcN_6 dcg_204 :) rfl ?_
      refine AW.getR af_X6_18_2 sr_2_4 (dcN_7 dcg_204 :) ?_
      refine AW.iload_n 2 (dcN_8 dcg_204 :) rfl ?_
      obtain ⟨k2, h⟩ := hK h
      refine AW.iald kc_19 sk_19 k2 (dcN_9 dcg_204 :) ?_
      refine AW.iload_n 1 (dcN_10 dcg_204 :) rfl ?_
      refine AW.icmp_ne (tgt := 56) (dcN_11 dcg_204 :) (by decide) (fun c3 => ?_) (fun c3 => ?_)
      · replace h := hF h c3
        exact (ih _ _ _ _ h).2 rfl
      · replace h := hT h c3
        refine AW.aloadr_n 0 (dcN_12 dcg_204 :) rfl ?_
        refine AW.getR af_X6_24_2 sr_2_6 (dcN_13 dcg_204 :) ?_
        refine AW.iload_n 2 (dcN_14 dcg_204 :) rfl ?_
        refine AW.iald kc_21 sk_21 k2 (dcN_15 dcg_204 :) ?_
        refine AW.aloadr_n 0 (dcN_16 dcg_204 :) rfl ?_
        refine AW.getR af_X6_27_2 sr_2_7 (dcN_17 dcg_204 :) ?_
        refine AW.iload_n 2 (dcN_18 dcg_204 :) rfl ?_
        refine AW.iald kc_22 sk_22 k2 (dcN_19 dcg_204 :) ?_
        refine AW.icmp_eq (tgt := 54) (dcN_0 dcg_205 :) (by decide) (fun c4 => ?_) (fun c4 => ?_)
        · replace h := hT h c4
          refine AW.iload_n 2 (dcN_12 dcg_205 :) rfl ?_
          exact AW.iret1 rfl (dcN_13 dcg_205 :) h rfl
        · replace h := hF h c4
          refine AW.aloadr_n 0 (dcN_1 dcg_205 :) rfl ?_
          refine AW.aloadr_n 0 (dcN_2 dcg_205 :) rfl ?_
          refine AW.getR af_X6_24_2 sr_2_6 (dcN_3 dcg_205 :) ?_
          refine AW.iload_n 2 (dcN_4 dcg_205 :) rfl ?_
          refine AW.iald kc_21 sk_21 k2 (dcN_5 dcg_205 :) ?_
          refine AW.aloadr_n 0 (dcN_6 dcg_205 :) rfl ?_
          refine AW.getR af_X6_27_2 sr_2_7 (dcN_7 dcg_205 :) ?_
          refine AW.iload_n 2 (dcN_8 dcg_205 :) rfl ?_
          refine AW.iald kc_22 sk_22 k2 (dcN_9 dcg_205 :) ?_
          obtain ⟨r5, e6, h⟩ := hC h
          refine AW.callVi (As := [iv (g 21 (ix x2)), iv (g 22 (ix x2))]) (st := []) (Rules_run_ok e6) cq_X6_74 cr_2_X6_run (Nat.le_trans (by decide) hdd) rfl (dcN_10 dcg_205 :) rfl (Nat.le_of_ble_eq_true rfl) ?_
          refine AW.if_eq (tgt := 56) (dcN_11 dcg_205 :) (by decide) (fun c7 => ?_) (fun c7 => ?_)
          · replace h := hT h c7
            exact (ih _ _ _ _ h).2 rfl
          · replace h := hF h c7
            refine AW.iload_n 2 (dcN_12 dcg_205 :) rfl ?_
            exact AW.iret1 rfl (dcN_13 dcg_205 :) h rfl
  · subst h9
    replace h := hF h (by decide)
    replace h := hT h rfl
    refine AW.iinc (lv1 := [(2, iv (x2 + 1)), (0, rv z 2), (1, iv x1)]) 2 (dcN_14 dcg_205 :) rfl (by decide) rfl ?_
    refine AW.goto (tgt := 2) (dcN_15 dcg_205 :) (by decide) ?_
    refine AW.sub (lv1 := [(0, rv z 2), (1, iv x1), (2, iv (x2 + 1))]) [1, 2, 0] rfl ?_
    exact (ih _ _ _ _ h).1 rfl
theorem Rules_serving_ok {z : AZ} {x1 : Int} {g : AG} {r : Int × AG} (h : Rules_serving x1 g = some r) : AMf z yX6_serving cX6_serving 3 (some .int) 3 [rv z 2, iv x1] g r := by
  intro d hdd
  refine AM.of (by decide +kernel) (Nat.le_of_ble_eq_true rfl) ?_
  show AW z (RX6, cX6_serving, 3, (some .int)) d (QD (some .int) r) 0 [(0, rv z 2), (1, iv x1)] [] g
  unfold Rules_serving at h
  refine AW.iconst (dcN_0 dcg_204 :) ?_
  refine AW.istore_n (lv1 := [(2, iv 0), (0, rv z 2), (1, iv x1)]) (dcN_1 dcg_204 :) (by decide) rfl ?_
  refine AW.sub (lv1 := [(0, rv z 2), (1, iv x1), (2, iv 0)]) [1, 2, 0] rfl ?_
  exact (Rules_serving_b_ok hdd _ _ _ _ h).1 rfl
set_option synthInstance.maxHeartbeats 2000000 in
theorem Voyage_learnHours_b_ok {z : AZ} {d : Nat} (hdd : 4 ≤ d) : ∀ (x1 : Int) (g : AG) (r : Int × AG), Voyage_learnHours_b x1 g = some r → AW z (RX9, cX9_learnHours, 3, none) d (QD none r) 2 [(0, rv z 5), (1, iv x1)] [] g := by
  refine Voyage_learnHours_b.partial_correctness (fun x1 g r => AW z (RX9, cX9_learnHours, 3, none) d (QD none r) 2 [(0, rv z 5), (1, iv x1)] [] g) ?_
  intro fb9 ih x1 g r h
  refine AW.iload_n 1 (dcN_2 dcg_272 :) rfl ?_
  refine AW.bipush (dcN_3 dcg_272 :) (by decide) (by decide) ?_
  refine AW.icmp_ge (tgt := 88) (dcN_4 dcg_272 :) (by decide) (fun c1 => ?_) (fun c1 => ?_)
  · replace h := hT h c1
    exact AW.vret1 rfl (dcN_11 dcg_274 :) h rfl
  · replace h := hF h c1
    refine AW.aloadr_n 0 (dcN_5 dcg_272 :) rfl ?_
    refine AW.getR af_X9_28_5 sr_5_1 (dcN_6 dcg_272 :) ?_
    refine AW.iload_n 1 (dcN_7 dcg_272 :) rfl ?_
    refine AW.aloadr_n 0 (dcN_8 dcg_272 :) rfl ?_
    refine AW.getR af_X9_24_5 sr_5_0 (dcN_9 dcg_272 :) ?_
    refine AW.getI af_X9_38_1 sr_1_5 (dcN_10 dcg_272 :) ?_
    obtain ⟨r2, e3, h⟩ := hC h
    refine AW.callVv (As := [iv x1, iv (g 1 5)]) (st := []) (Rules_askDay_ok e3) cq_X9_44 cr_2_X6_askDay (Nat.le_trans (by decide) hdd) rfl (dcN_11 dcg_272 :) rfl (Nat.le_of_ble_eq_true rfl) ?_
    refine AW.aloadr_n 0 (dcN_12 dcg_272 :) rfl ?_
    refine AW.getR af_X9_28_5 sr_5_1 (dcN_13 dcg_272 :) ?_
    refine AW.bipush (dcN_14 dcg_272 :) (by decide) (by decide) ?_
    obtain ⟨r4, e5, h⟩ := hC h
    refine AW.callVi (As := [iv 100]) (st := []) (Rules_serving_ok e5) cq_X9_50 cr_2_X6_serving (Nat.le_trans (by decide) hdd) rfl (dcN_15 dcg_272 :) rfl (Nat.le_of_ble_eq_true rfl) ?_
    refine AW.istore_n (lv1 := [(2, iv r4.1), (0, rv z 5), (1, iv x1)]) (dcN_0 dcg_273 :) (by decide) rfl ?_
    refine AW.aloadr_n 1 (dcN_1 dcg_273 :) rfl ?_
    refine AW.getR af_X9_9_5 sr_5_2 (dcN_2 dcg_273 :) ?_
    refine AW.iload_n 2 (dcN_3 dcg_273 :) rfl ?_
    refine AW.iload_n 0 (dcN_4 dcg_273 :) rfl ?_
    refine AW.iconst (dcN_5 dcg_273 :) ?_
    obtain ⟨r8, e9, h⟩ := hC h
    refine AW.join (tgt := 56) (lv1 := [(0, rv z 5), (1, iv x1), (2, iv r4.1)]) (st1 := [iv r8.1, iv x1, rv z 44]) (g1 := r8.2) ?_ (fun J40 => ?_)
    · obtain ⟨k10, h⟩ := hK h
      obtain ⟨g11, e12, h⟩ := hBe h
      refine AW.iast kc_44 sk_44 k10 (dcN_14 dcg_273 :) e12 ?_
      refine AW.aloadr_n 0 (dcN_15 dcg_273 :) rfl ?_
      refine AW.getR af_X9_15_5 sr_5_3 (dcN_16 dcg_273 :) ?_
      refine AW.iload_n 1 (dcN_17 dcg_273 :) rfl ?_
      refine AW.iload_n 2 (dcN_18 dcg_273 :) rfl ?_
      refine AW.iconst (dcN_19 dcg_273 :) ?_
      obtain ⟨r15, e16, h⟩ := hC h
      refine AW.join (tgt := 81) (lv1 := [(0, rv z 5), (1, iv x1)]) (st1 := [iv r15.1, iv x1, rv z 45]) (g1 := r15.2) ?_ (fun J64 => ?_)
      · obtain ⟨g17, e18, h⟩ := hBe h
        refine AW.iast kc_45 sk_45 k10 (dcN_8 dcg_274 :) e18 ?_
        refine AW.iinc (lv1 := [(1, iv (x1 + 1)), (0, rv z 5)]) 1 (dcN_9 dcg_274 :) rfl (by decide) rfl ?_
        refine AW.goto (tgt := 2) (dcN_10 dcg_274 :) (by decide) ?_
        refine AW.sub (lv1 := [(0, rv z 5), (1, iv (x1 + 1))]) [1, 0] rfl ?_
        exact ih _ _ _ h
      replace h := e16
      refine AW.icmp_ne (tgt := 72) (dcN_0 dcg_274 :) (by decide) (fun c13 => ?_) (fun c13 => ?_)
      · replace h := hF h c13
        refine AW.aloadr_n 0 (dcN_3 dcg_274 :) rfl ?_
        refine AW.getR af_X9_28_5 sr_5_1 (dcN_4 dcg_274 :) ?_
        refine AW.getR af_X9_57_2 sr_2_9 (dcN_5 dcg_274 :) ?_
        refine AW.iload_n 2 (dcN_6 dcg_274 :) rfl ?_
        obtain ⟨k14, h⟩ := hK h
        refine AW.iald kc_24 sk_24 k14 (dcN_7 dcg_274 :) ?_
        refine AW.sub (lv1 := [(0, rv z 5), (1, iv x1)]) [0, 1] rfl ?_
        cases h
        exact J64
      · replace h := hT h c13
        refine AW.bipush (dcN_1 dcg_274 :) (by decide) (by decide) ?_
        refine AW.goto (tgt := 81) (dcN_2 dcg_274 :) (by decide) ?_
        refine AW.sub (lv1 := [(0, rv z 5), (1, iv x1)]) [0, 1] rfl ?_
        cases h
        exact J64
    replace h := e9
    refine AW.icmp_ne (tgt := 47) (dcN_6 dcg_273 :) (by decide) (fun c6 => ?_) (fun c6 => ?_)
    · replace h := hF h c6
      refine AW.aloadr_n 1 (dcN_9 dcg_273 :) rfl ?_
      refine AW.getR af_X9_28_5 sr_5_1 (dcN_10 dcg_273 :) ?_
      refine AW.getR af_X9_54_2 sr_2_8 (dcN_11 dcg_273 :) ?_
      refine AW.iload_n 0 (dcN_12 dcg_273 :) rfl ?_
      obtain ⟨k7, h⟩ := hK h
      refine AW.iald kc_23 sk_23 k7 (dcN_13 dcg_273 :) ?_
      refine AW.sub (lv1 := [(0, rv z 5), (1, iv x1), (2, iv r4.1)]) [1, 2, 0] rfl ?_
      cases h
      exact J40
    · replace h := hT h c6
      refine AW.iconst (dcN_7 dcg_273 :) ?_
      refine AW.goto (tgt := 56) (dcN_8 dcg_273 :) (by decide) ?_
      refine AW.sub (lv1 := [(0, rv z 5), (1, iv x1), (2, iv r4.1)]) [1, 2, 0] rfl ?_
      cases h
      exact J40
theorem Voyage_learnHours_ok {z : AZ} {g : AG} {r : Int × AG} (h : Voyage_learnHours g = some r) : AMf z yX9_learnHours cX9_learnHours 3 none 4 [rv z 5] g r := by
  intro d hdd
  refine AM.of (by decide +kernel) (Nat.le_of_ble_eq_true rfl) ?_
  show AW z (RX9, cX9_learnHours, 3, none) d (QD none r) 0 [(0, rv z 5)] [] g
  unfold Voyage_learnHours at h
  refine AW.iconst (dcN_0 dcg_272 :) ?_
  refine AW.istore_n (lv1 := [(1, iv 0), (0, rv z 5)]) (dcN_1 dcg_272 :) (by decide) rfl ?_
  refine AW.sub (lv1 := [(0, rv z 5), (1, iv 0)]) [1, 0] rfl ?_
  exact Voyage_learnHours_b_ok hdd _ _ _ h
theorem X_water_ok {z : AZ} {x1 : Int} {g : AG} {r : Int × AG} (h : X_water x1 g = some r) : AMf z yX11_water cX11_water 2 (some .boolean) 5 [rv z 0, iv x1] g r := by
  intro d hdd
  refine AM.of (by decide +kernel) (Nat.le_of_ble_eq_true rfl) ?_
  show AW z (RX11, cX11_water, 2, (some .boolean)) d (QD (some .boolean) r) 0 [(0, rv z 0), (1, iv x1)] [] g
  unfold X_water at h
  refine AW.iload_n 1 (dcN_0 dcg_356 :) rfl ?_
  refine AW.iconst (dcN_1 dcg_356 :) ?_
  refine AW.sipush (dcN_2 dcg_356 :) (by decide) (by decide) ?_
  refine AW.callSi (As := [iv x1, iv 0, iv 999]) (st := []) X_within_ok cq_X11_99 st_X11_within (Nat.le_trans (by decide) hdd) rfl (dcN_3 dcg_356 :) rfl (Nat.le_of_ble_eq_true rfl) ?_
  refine AW.if_ne (tgt := 13) (dcN_4 dcg_356 :) (by decide) (fun c1 => ?_) (fun c1 => ?_)
  · replace h := hF h c1
    refine AW.aloadr_n 0 (dcN_7 dcg_356 :) rfl ?_
    refine AW.getR af_X11_12_0 sr_0_0 (dcN_8 dcg_356 :) ?_
    refine AW.iload_n 1 (dcN_9 dcg_356 :) rfl ?_
    obtain ⟨g2, e3, h⟩ := hBe h
    refine AW.putI ap_X11_127_1 sr_1_5 (dcN_10 dcg_356 :) e3 ?_
    refine AW.aloadr_n 0 (dcN_11 dcg_356 :) rfl ?_
    refine AW.getR af_X11_40_0 sr_0_4 (dcN_0 dcg_357 :) ?_
    obtain ⟨r4, e5, h⟩ := hC h
    refine AW.callVv (As := []) (st := []) (Voyage_learnHours_ok e5) cq_X11_130 cr_5_X9_learnHours (Nat.le_trans (by decide) hdd) rfl (dcN_1 dcg_357 :) rfl (Nat.le_of_ble_eq_true rfl) ?_
    refine AW.iconst (dcN_2 dcg_357 :) ?_
    exact AW.zret1 rfl (Or.inr rfl) (dcN_3 dcg_357 :) h rfl
  · replace h := hT h c1
    refine AW.iconst (dcN_5 dcg_356 :) ?_
    exact AW.zret1 rfl (Or.inl rfl) (dcN_6 dcg_356 :) h rfl
set_option synthInstance.maxHeartbeats 2000000 in
theorem Canal_stop_b_ok {z : AZ} {d : Nat} (hdd : 0 ≤ d) {x1 : Int} {x3 : Int} : ∀ (x4 : Int) (g : AG) (r : Int × AG), Canal_stop_b x1 x3 x4 g = some r → AW z (RX2, cX2_stop, 5, none) d (QD none r) 3 [(0, rv z 1), (1, iv x1), (3, iv x3), (4, iv x4)] [] g := by
  refine Canal_stop_b.partial_correctness x1 x3 (fun x4 g r => AW z (RX2, cX2_stop, 5, none) d (QD none r) 3 [(0, rv z 1), (1, iv x1), (3, iv x3), (4, iv x4)] [] g) ?_
  intro fb9 ih x4 g r h
  refine AW.iload 3 (dcN_2 dcg_74 :) rfl ?_
  refine AW.iload_n 2 (dcN_3 dcg_74 :) rfl ?_
  refine AW.icmp_gt (tgt := 28) (dcN_4 dcg_74 :) (by decide) (fun c1 => ?_) (fun c1 => ?_)
  · replace h := hT h c1
    refine AW.aloadr_n 0 (dcN_5 dcg_75 :) rfl ?_
    refine AW.duprr (dcN_6 dcg_75 :) ?_
    refine AW.getI af_X2_34_1 sr_1_4 (dcN_7 dcg_75 :) ?_
    refine AW.iconst (dcN_8 dcg_75 :) ?_
    refine AW.iadd (dcN_9 dcg_75 :) ?_
    obtain ⟨g2, e3, h⟩ := hBe h
    refine AW.putI ap_X2_34_1 sr_1_4 (dcN_10 dcg_75 :) e3 ?_
    exact AW.vret1 rfl (dcN_11 dcg_75 :) h rfl
  · replace h := hF h c1
    refine AW.aloadr_n 0 (dcN_5 dcg_74 :) rfl ?_
    refine AW.getR af_X2_21_1 sr_1_3 (dcN_6 dcg_74 :) ?_
    refine AW.iload_n 1 (dcN_7 dcg_74 :) rfl ?_
    refine AW.dup2r (dcN_8 dcg_74 :) ?_
    obtain ⟨k4, h⟩ := hK h
    refine AW.iald kc_16 sk_16 k4 (dcN_9 dcg_74 :) ?_
    refine AW.iconst (dcN_10 dcg_74 :) ?_
    refine AW.iload 3 (dcN_11 dcg_74 :) rfl ?_
    refine AW.ishl (dcN_0 dcg_75 :) ?_
    refine AW.ior (dcN_1 dcg_75 :) ?_
    obtain ⟨g5, e6, h⟩ := hBe h
    refine AW.iast kc_16 sk_16 k4 (dcN_2 dcg_75 :) e6 ?_
    refine AW.iinc (lv1 := [(4, iv (x4 + 1)), (0, rv z 1), (1, iv x1), (3, iv x3)]) 3 (dcN_3 dcg_75 :) rfl (by decide) rfl ?_
    refine AW.goto (tgt := 3) (dcN_4 dcg_75 :) (by decide) ?_
    refine AW.sub (lv1 := [(0, rv z 1), (1, iv x1), (3, iv x3), (4, iv (x4 + 1))]) [1, 2, 3, 0] rfl ?_
    exact ih _ _ _ h
theorem Canal_stop_ok {z : AZ} {x1 : Int} {x2 : Int} {x3 : Int} {g : AG} {r : Int × AG} (h : Canal_stop x1 x2 x3 g = some r) : AMf z yX2_stop cX2_stop 5 none 0 [rv z 1, iv x1, iv x2, iv x3] g r := by
  intro d hdd
  refine AM.of (by decide +kernel) (Nat.le_of_ble_eq_true rfl) ?_
  show AW z (RX2, cX2_stop, 5, none) d (QD none r) 0 [(0, rv z 1), (1, iv x1), (2, iv x2), (3, iv x3)] [] g
  unfold Canal_stop at h
  refine AW.iload_n 2 (dcN_0 dcg_74 :) rfl ?_
  refine AW.istore (lv1 := [(4, iv x2), (0, rv z 1), (1, iv x1), (2, iv x2), (3, iv x3)]) (dcN_1 dcg_74 :) (by decide) rfl ?_
  refine AW.sub (lv1 := [(0, rv z 1), (1, iv x1), (3, iv x3), (4, iv x2)]) [1, 2, 4, 0] rfl ?_
  exact Canal_stop_b_ok hdd _ _ _ h
theorem Canal_reopen_ok {z : AZ} {g : AG} {r : Int × AG} (h : Canal_reopen g = some r) : AMf z yX2_reopen cX2_reopen 1 none 1 [rv z 1] g r := by
  intro d hdd
  refine AM.of (by decide +kernel) (Nat.le_of_ble_eq_true rfl) ?_
  show AW z (RX2, cX2_reopen, 1, none) d (QD none r) 0 [(0, rv z 1)] [] g
  unfold Canal_reopen at h
  refine AW.aloadr_n 0 (dcN_0 dcg_76 :) rfl ?_
  refine AW.getR af_X2_21_1 sr_1_3 (dcN_1 dcg_76 :) ?_
  refine AW.iconst (dcN_2 dcg_76 :) ?_
  obtain ⟨g1, e2, h⟩ := hBe h
  refine AW.callSv (st := []) (fill_ok kc_16 sk_16 (by decide)) cf_X2_28 st_fill (Nat.le_trans (by decide) hdd) rfl (dcN_3 dcg_76 :) rfl (Nat.le_of_ble_eq_true rfl) ?_
  rw [← e2]
  refine AW.aloadr_n 0 (dcN_4 dcg_76 :) rfl ?_
  refine AW.iconst (dcN_5 dcg_76 :) ?_
  obtain ⟨g3, e4, h⟩ := hBe h
  refine AW.putI ap_X2_34_1 sr_1_4 (dcN_6 dcg_76 :) e4 ?_
  exact AW.vret1 rfl (dcN_7 dcg_76 :) h rfl
theorem X_stoppage_ok {z : AZ} {x1 : Int} {x2 : Int} {x3 : Int} {g : AG} {r : Int × AG} (h : X_stoppage x1 x2 x3 g = some r) : AMf z yX11_stoppage cX11_stoppage 4 (some .int) 2 [rv z 0, iv x1, iv x2, iv x3] g r := by
  intro d hdd
  refine AM.of (by decide +kernel) (Nat.le_of_ble_eq_true rfl) ?_
  show AW z (RX11, cX11_stoppage, 4, (some .int)) d (QD (some .int) r) 0 [(0, rv z 0), (1, iv x1), (2, iv x2), (3, iv x3)] [] g
  unfold X_stoppage at h
  refine AW.iload_n 1 (dcN_0 dcg_358 :) rfl ?_
  refine AW.iconst (dcN_1 dcg_358 :) ?_
  refine AW.icmp_ne (tgt := 14) (dcN_2 dcg_358 :) (by decide) (fun c1 => ?_) (fun c1 => ?_)
  · replace h := hF h c1
    refine AW.iload_n 1 (dcN_8 dcg_358 :) rfl ?_
    refine AW.iconst (dcN_9 dcg_358 :) ?_
    refine AW.bipush (dcN_10 dcg_358 :) (by decide) (by decide) ?_
    refine AW.callSi (As := [iv x1, iv 0, iv 14]) (st := []) X_within_ok cq_X11_99 st_X11_within (Nat.le_trans (by decide) hdd) rfl (dcN_11 dcg_358 :) rfl (Nat.le_of_ble_eq_true rfl) ?_
    refine AW.if_eq (tgt := 39) (dcN_12 dcg_358 :) (by decide) (fun c2 => ?_) (fun c2 => ?_)
    · replace h := hT h c2
      refine AW.iconst (dcN_3 dcg_359 :) ?_
      exact AW.iret1 rfl (dcN_4 dcg_359 :) h rfl
    · replace h := hF h c2
      refine AW.iload_n 2 (dcN_13 dcg_358 :) rfl ?_
      refine AW.if_lt (tgt := 39) (dcN_14 dcg_358 :) (by decide) (fun c3 => ?_) (fun c3 => ?_)
      · replace h := hT h c3
        refine AW.iconst (dcN_3 dcg_359 :) ?_
        exact AW.iret1 rfl (dcN_4 dcg_359 :) h rfl
      · replace h := hF h c3
        refine AW.iload_n 2 (dcN_15 dcg_358 :) rfl ?_
        refine AW.iload_n 3 (dcN_16 dcg_358 :) rfl ?_
        refine AW.icmp_gt (tgt := 39) (dcN_17 dcg_358 :) (by decide) (fun c4 => ?_) (fun c4 => ?_)
        · replace h := hT h c4
          refine AW.iconst (dcN_3 dcg_359 :) ?_
          exact AW.iret1 rfl (dcN_4 dcg_359 :) h rfl
        · replace h := hF h c4
          refine AW.iload_n 3 (dcN_0 dcg_359 :) rfl ?_
          refine AW.bipush (dcN_1 dcg_359 :) (by decide) (by decide) ?_
          refine AW.icmp_lt (tgt := 41) (dcN_2 dcg_359 :) (by decide) (fun c5 => ?_) (fun c5 => ?_)
          · replace h := hT h c5
            refine AW.aloadr_n 0 (dcN_5 dcg_359 :) rfl ?_
            refine AW.getR af_X11_12_0 sr_0_0 (dcN_6 dcg_359 :) ?_
            refine AW.getI af_X11_136_1 sr_1_4 (dcN_7 dcg_359 :) ?_
            refine AW.bipush (dcN_8 dcg_359 :) (by decide) (by decide) ?_
            refine AW.icmp_lt (tgt := 55) (dcN_9 dcg_359 :) (by decide) (fun c6 => ?_) (fun c6 => ?_)
            · replace h := hT h c6
              refine AW.aloadr_n 0 (dcN_12 dcg_359 :) rfl ?_
              refine AW.getR af_X11_12_0 sr_0_0 (dcN_13 dcg_359 :) ?_
              refine AW.iload_n 1 (dcN_14 dcg_359 :) rfl ?_
              refine AW.iload_n 2 (dcN_15 dcg_359 :) rfl ?_
              refine AW.iload_n 3 (dcN_16 dcg_359 :) rfl ?_
              obtain ⟨r7, e8, h⟩ := hC h
              refine AW.callVv (As := [iv x1, iv x2, iv x3]) (st := []) (Canal_stop_ok e8) cq_X11_139 cr_1_X2_stop (Nat.le_trans (by decide) hdd) rfl (dcN_17 dcg_359 :) rfl (Nat.le_of_ble_eq_true rfl) ?_
              refine AW.aloadr_n 0 (dcN_0 dcg_360 :) rfl ?_
              refine AW.getR af_X11_12_0 sr_0_0 (dcN_1 dcg_360 :) ?_
              refine AW.getI af_X11_136_1 sr_1_4 (dcN_2 dcg_360 :) ?_
              exact AW.iret1 rfl (dcN_3 dcg_360 :) h rfl
            · replace h := hF h c6
              refine AW.iconst (dcN_10 dcg_359 :) ?_
              exact AW.iret1 rfl (dcN_11 dcg_359 :) h rfl
          · replace h := hF h c5
            refine AW.iconst (dcN_3 dcg_359 :) ?_
            exact AW.iret1 rfl (dcN_4 dcg_359 :) h rfl
  · replace h := hT h c1
    refine AW.aloadr_n 0 (dcN_3 dcg_358 :) rfl ?_
    refine AW.getR af_X11_12_0 sr_0_0 (dcN_4 dcg_358 :) ?_
    obtain ⟨r9, e10, h⟩ := hC h
    refine AW.callVv (As := []) (st := []) (Canal_reopen_ok e10) cq_X11_133 cr_1_X2_reopen (Nat.le_trans (by decide) hdd) rfl (dcN_5 dcg_358 :) rfl (Nat.le_of_ble_eq_true rfl) ?_
    refine AW.iconst (dcN_6 dcg_358 :) ?_
    exact AW.iret1 rfl (dcN_7 dcg_358 :) h rfl
theorem X_isBerths_ok {z : AZ} {x0 : Int} {g : AG} : AMf z yX11_isBerths cX11_isBerths 1 (some .boolean) 1 [iv x0] g ((X_isBerths x0), g) := by
  intro d hdd
  refine AM.of (by decide +kernel) (Nat.le_of_ble_eq_true rfl) ?_
  show AW z (RX11, cX11_isBerths, 1, (some .boolean)) d (QD (some .boolean) ((X_isBerths x0), g)) 0 [(0, iv x0)] [] g
  refine AW.iload_n 0 (dcN_0 dcg_349 :) rfl ?_
  refine AW.iconst (dcN_1 dcg_349 :) ?_
  refine AW.bipush (dcN_2 dcg_349 :) (by decide) (by decide) ?_
  refine AW.callSi (As := [iv x0, iv 2, iv 12]) (st := []) X_within_ok cq_X11_99 st_X11_within (Nat.le_trans (by decide) hdd) rfl (dcN_3 dcg_349 :) rfl (Nat.le_of_ble_eq_true rfl) ?_
  exact AW.zret rfl X_within_01 (dcN_4 dcg_349 :) ⟨congrArg (fun v => some (iv v)) (show X_isBerths x0  = (X_within x0 2 12) from rfl).symm, rfl⟩
theorem X_isPoint_ok {z : AZ} {x0 : Int} {g : AG} : AMf z yX11_isPoint cX11_isPoint 1 (some .boolean) 1 [iv x0] g ((X_isPoint x0), g) := by
  intro d hdd
  refine AM.of (by decide +kernel) (Nat.le_of_ble_eq_true rfl) ?_
  show AW z (RX11, cX11_isPoint, 1, (some .boolean)) d (QD (some .boolean) ((X_isPoint x0), g)) 0 [(0, iv x0)] [] g
  refine AW.iload_n 0 (dcN_0 dcg_346 :) rfl ?_
  refine AW.iconst (dcN_1 dcg_346 :) ?_
  refine AW.bipush (dcN_2 dcg_346 :) (by decide) (by decide) ?_
  refine AW.callSi (As := [iv x0, iv 0, iv 15]) (st := []) X_within_ok cq_X11_99 st_X11_within (Nat.le_trans (by decide) hdd) rfl (dcN_3 dcg_346 :) rfl (Nat.le_of_ble_eq_true rfl) ?_
  exact AW.zret rfl X_within_01 (dcN_4 dcg_346 :) ⟨congrArg (fun v => some (iv v)) (show X_isPoint x0  = (X_within x0 0 15) from rfl).symm, rfl⟩
theorem Boats_add_ok {z : AZ} {x1 : Int} {x2 : Int} {x3 : Int} {x4 : Int} {g : AG} {r : Int × AG} (h : Boats_add x1 x2 x3 x4 g = some r) : AMf z yX0_add cX0_add 5 (some .int) 0 [rv z 6, iv x1, iv x2, iv x3, iv x4] g r := by
  intro d hdd
  refine AM.of (by decide +kernel) (Nat.le_of_ble_eq_true rfl) ?_
  show AW z (RX0, cX0_add, 5, (some .int)) d (QD (some .int) r) 0 [(0, rv z 6), (1, iv x1), (2, iv x2), (3, iv x3), (4, iv x4)] [] g
  unfold Boats_add at h
  refine AW.aloadr_n 0 (dcN_0 dcg_3 :) rfl ?_
  refine AW.getI af_X0_50_6 sr_6_7 (dcN_1 dcg_3 :) ?_
  refine AW.bipush (dcN_2 dcg_3 :) (by decide) (by decide) ?_
  refine AW.icmp_lt (tgt := 11) (dcN_3 dcg_3 :) (by decide) (fun c1 => ?_) (fun c1 => ?_)
  · replace h := hT h c1
    refine AW.aloadr_n 0 (dcN_6 dcg_3 :) rfl ?_
    refine AW.getR af_X0_9_6 sr_6_3 (dcN_7 dcg_3 :) ?_
    refine AW.aloadr_n 0 (dcN_8 dcg_3 :) rfl ?_
    refine AW.getI af_X0_50_6 sr_6_7 (dcN_9 dcg_3 :) ?_
    refine AW.iload_n 1 (dcN_10 dcg_3 :) rfl ?_
    obtain ⟨k2, h⟩ := hK h
    obtain ⟨g3, e4, h⟩ := hBe h
    refine AW.iast kc_48 sk_48 k2 (dcN_11 dcg_3 :) e4 ?_
    refine AW.aloadr_n 0 (dcN_12 dcg_3 :) rfl ?_
    refine AW.getR af_X0_15_6 sr_6_4 (dcN_13 dcg_3 :) ?_
    refine AW.aloadr_n 0 (dcN_14 dcg_3 :) rfl ?_
    refine AW.getI af_X0_50_6 sr_6_7 (dcN_15 dcg_3 :) ?_
    refine AW.iload_n 2 (dcN_16 dcg_3 :) rfl ?_
    obtain ⟨k5, h⟩ := hK h
    obtain ⟨g6, e7, h⟩ := hBe h
    refine AW.iast kc_49 sk_49 k5 (dcN_17 dcg_3 :) e7 ?_
    refine AW.aloadr_n 0 (dcN_18 dcg_3 :) rfl ?_
    refine AW.getR af_X0_18_6 sr_6_5 (dcN_0 dcg_4 :) ?_
    refine AW.aloadr_n 0 (dcN_1 dcg_4 :) rfl ?_
    refine AW.getI af_X0_50_6 sr_6_7 (dcN_2 dcg_4 :) ?_
    refine AW.iload_n 3 (dcN_3 dcg_4 :) rfl ?_
    obtain ⟨k8, h⟩ := hK h
    obtain ⟨g9, e10, h⟩ := hBe h
    refine AW.iast kc_50 sk_50 k8 (dcN_4 dcg_4 :) e10 ?_
    refine AW.aloadr_n 0 (dcN_5 dcg_4 :) rfl ?_
    refine AW.getR af_X0_21_6 sr_6_6 (dcN_6 dcg_4 :) ?_
    refine AW.aloadr_n 0 (dcN_7 dcg_4 :) rfl ?_
    refine AW.getI af_X0_50_6 sr_6_7 (dcN_8 dcg_4 :) ?_
    refine AW.iload 4 (dcN_9 dcg_4 :) rfl ?_
    obtain ⟨k11, h⟩ := hK h
    obtain ⟨g12, e13, h⟩ := hBe h
    refine AW.iast kc_51 sk_51 k11 (dcN_10 dcg_4 :) e13 ?_
    refine AW.aloadr_n 0 (dcN_11 dcg_4 :) rfl ?_
    refine AW.duprr (dcN_12 dcg_4 :) ?_
    refine AW.getI af_X0_50_6 sr_6_7 (dcN_13 dcg_4 :) ?_
    refine AW.iconst (dcN_14 dcg_4 :) ?_
    refine AW.iadd (dcN_15 dcg_4 :) ?_
    obtain ⟨g14, e15, h⟩ := hBe h
    refine AW.putI ap_X0_50_6 sr_6_7 (dcN_16 dcg_4 :) e15 ?_
    refine AW.aloadr_n 0 (dcN_17 dcg_4 :) rfl ?_
    refine AW.getI af_X0_50_6 sr_6_7 (dcN_18 dcg_4 :) ?_
    refine AW.iconst (dcN_0 dcg_5 :) ?_
    refine AW.isub (dcN_1 dcg_5 :) ?_
    exact AW.iret1 rfl (dcN_2 dcg_5 :) h rfl
  · replace h := hF h c1
    refine AW.iconst (dcN_4 dcg_3 :) ?_
    exact AW.iret1 rfl (dcN_5 dcg_3 :) h rfl
theorem X_boat_ok {z : AZ} {x1 : Int} {x2 : Int} {x3 : Int} {x4 : Int} {g : AG} {r : Int × AG} (h : X_boat x1 x2 x3 x4 g = some r) : AMf z yX11_boat cX11_boat 5 (some .int) 2 [rv z 0, iv x1, iv x2, iv x3, iv x4] g r := by
  intro d hdd
  refine AM.of (by decide +kernel) (Nat.le_of_ble_eq_true rfl) ?_
  show AW z (RX11, cX11_boat, 5, (some .int)) d (QD (some .int) r) 0 [(0, rv z 0), (1, iv x1), (2, iv x2), (3, iv x3), (4, iv x4)] [] g
  unfold X_boat at h
  refine AW.iload_n 1 (dcN_0 dcg_361 :) rfl ?_
  refine AW.callSi (As := [iv x1]) (st := []) X_isBerths_ok cq_X11_143 st_X11_isBerths (Nat.le_trans (by decide) hdd) rfl (dcN_1 dcg_361 :) rfl (Nat.le_of_ble_eq_true rfl) ?_
  refine AW.if_eq (tgt := 17) (dcN_2 dcg_361 :) (by decide) (fun c1 => ?_) (fun c1 => ?_)
  · replace h := hT h c1
    refine AW.iconst (dcN_8 dcg_361 :) ?_
    exact AW.iret1 rfl (dcN_9 dcg_361 :) h rfl
  · replace h := hF h c1
    refine AW.iload_n 2 (dcN_3 dcg_361 :) rfl ?_
    refine AW.iconst (dcN_4 dcg_361 :) ?_
    refine AW.bipush (dcN_5 dcg_361 :) (by decide) (by decide) ?_
    refine AW.callSi (As := [iv x2, iv 0, iv 99]) (st := []) X_within_ok cq_X11_99 st_X11_within (Nat.le_trans (by decide) hdd) rfl (dcN_6 dcg_361 :) rfl (Nat.le_of_ble_eq_true rfl) ?_
    refine AW.if_ne (tgt := 19) (dcN_7 dcg_361 :) (by decide) (fun c2 => ?_) (fun c2 => ?_)
    · replace h := hF h c2
      refine AW.iload_n 3 (dcN_10 dcg_361 :) rfl ?_
      refine AW.callSi (As := [iv x3]) (st := []) X_isPoint_ok cq_X11_111 st_X11_isPoint (Nat.le_trans (by decide) hdd) rfl (dcN_11 dcg_361 :) rfl (Nat.le_of_ble_eq_true rfl) ?_
      refine AW.if_eq (tgt := 37) (dcN_12 dcg_361 :) (by decide) (fun c3 => ?_) (fun c3 => ?_)
      · replace h := hT h c3
        refine AW.iconst (dcN_1 dcg_362 :) ?_
        exact AW.iret1 rfl (dcN_2 dcg_362 :) h rfl
      · replace h := hF h c3
        refine AW.iload 4 (dcN_13 dcg_361 :) rfl ?_
        refine AW.iconst (dcN_14 dcg_361 :) ?_
        refine AW.bipush (dcN_15 dcg_361 :) (by decide) (by decide) ?_
        refine AW.callSi (As := [iv x4, iv 0, iv 60]) (st := []) X_within_ok cq_X11_99 st_X11_within (Nat.le_trans (by decide) hdd) rfl (dcN_16 dcg_361 :) rfl (Nat.le_of_ble_eq_true rfl) ?_
        refine AW.if_ne (tgt := 39) (dcN_0 dcg_362 :) (by decide) (fun c4 => ?_) (fun c4 => ?_)
        · replace h := hF h c4
          refine AW.aloadr_n 0 (dcN_3 dcg_362 :) rfl ?_
          refine AW.getR af_X11_49_0 sr_0_5 (dcN_4 dcg_362 :) ?_
          refine AW.iload_n 1 (dcN_5 dcg_362 :) rfl ?_
          refine AW.iload_n 2 (dcN_6 dcg_362 :) rfl ?_
          refine AW.iload_n 3 (dcN_7 dcg_362 :) rfl ?_
          refine AW.iload 4 (dcN_8 dcg_362 :) rfl ?_
          obtain ⟨r5, e6, h⟩ := hC h
          refine AW.callVi (As := [iv x1, iv x2, iv x3, iv x4]) (st := []) (Boats_add_ok e6) cq_X11_146 cr_6_X0_add (Nat.le_trans (by decide) hdd) rfl (dcN_9 dcg_362 :) rfl (Nat.le_of_ble_eq_true rfl) ?_
          exact AW.iret1 rfl (dcN_10 dcg_362 :) h rfl
        · replace h := hT h c4
          refine AW.iconst (dcN_1 dcg_362 :) ?_
          exact AW.iret1 rfl (dcN_2 dcg_362 :) h rfl
    · replace h := hT h c2
      refine AW.iconst (dcN_8 dcg_361 :) ?_
      exact AW.iret1 rfl (dcN_9 dcg_361 :) h rfl
set_option synthInstance.maxHeartbeats 2000000 in
theorem Parser_put_b_ok {z : AZ} {d : Nat} (hdd : 0 ≤ d) {x1 : Int} : ∀ (x2 : Int) (g : AG) (r : Int × AG), Parser_put_b x1 x2 g = some r → AW z (RX4, cX4_put, 3, none) d (QD none r) 3 [(0, rv z 4), (1, iv x1), (2, iv x2)] [] g := by
  refine Parser_put_b.partial_correctness x1 (fun x2 g r => AW z (RX4, cX4_put, 3, none) d (QD none r) 3 [(0, rv z 4), (1, iv x1), (2, iv x2)] [] g) ?_
  intro fb9 ih x2 g r h
  refine AW.iload_n 2 (dcN_2 dcg_106 :) rfl ?_
  refine AW.if_lt (tgt := 49) (dcN_3 dcg_106 :) (by decide) (fun c1 => ?_) (fun c1 => ?_)
  · replace h := hT h c1
    exact AW.vret1 rfl (dcN_9 dcg_107 :) h rfl
  · replace h := hF h c1
    refine AW.aloadr_n 0 (dcN_4 dcg_106 :) rfl ?_
    refine AW.getI af_X4_29_4 sr_4_2 (dcN_5 dcg_106 :) ?_
    refine AW.sipush (dcN_6 dcg_106 :) (by decide) (by decide) ?_
    obtain ⟨r8, e9, h⟩ := hC h
    refine AW.join (tgt := 43) (lv1 := [(0, rv z 4), (1, iv x1), (2, iv x2)]) (st1 := []) (g1 := r8) ?_ (fun J14 => ?_)
    · refine AW.iinc (lv1 := [(2, iv (x2 + (-8))), (0, rv z 4), (1, iv x1)]) 2 (dcN_7 dcg_107 :) rfl (by decide) rfl ?_
      refine AW.goto (tgt := 3) (dcN_8 dcg_107 :) (by decide) ?_
      refine AW.sub (lv1 := [(0, rv z 4), (1, iv x1), (2, iv (x2 + (-8)))]) [1, 2, 0] rfl ?_
      exact ih _ _ _ h
    replace h := e9
    refine AW.icmp_ge (tgt := 43) (dcN_7 dcg_106 :) (by decide) (fun c2 => ?_) (fun c2 => ?_)
    · replace h := hT h c2
      cases h
      exact J14
    · replace h := hF h c2
      refine AW.aloadr_n 0 (dcN_8 dcg_106 :) rfl ?_
      refine AW.getR af_X4_9_4 sr_4_1 (dcN_9 dcg_106 :) ?_
      refine AW.aloadr_n 0 (dcN_10 dcg_106 :) rfl ?_
      refine AW.getI af_X4_29_4 sr_4_2 (dcN_11 dcg_106 :) ?_
      refine AW.iload_n 1 (dcN_12 dcg_106 :) rfl ?_
      refine AW.iload_n 2 (dcN_13 dcg_106 :) rfl ?_
      refine AW.iushr (dcN_14 dcg_106 :) ?_
      refine AW.sipush (dcN_15 dcg_106 :) (by decide) (by decide) ?_
      refine AW.iand (dcN_16 dcg_106 :) ?_
      obtain ⟨k3, h⟩ := hK h
      obtain ⟨g4, e5, h⟩ := hBe h
      refine AW.iast kc_41 sk_41 k3 (dcN_0 dcg_107 :) e5 ?_
      refine AW.aloadr_n 0 (dcN_1 dcg_107 :) rfl ?_
      refine AW.duprr (dcN_2 dcg_107 :) ?_
      refine AW.getI af_X4_29_4 sr_4_2 (dcN_3 dcg_107 :) ?_
      refine AW.iconst (dcN_4 dcg_107 :) ?_
      refine AW.iadd (dcN_5 dcg_107 :) ?_
      obtain ⟨g6, e7, h⟩ := hBe h
      refine AW.putI ap_X4_29_4 sr_4_2 (dcN_6 dcg_107 :) e7 ?_
      cases h
      exact J14
theorem Parser_put_ok {z : AZ} {x1 : Int} {g : AG} {r : Int × AG} (h : Parser_put x1 g = some r) : AMf z yX4_put cX4_put 3 none 0 [rv z 4, iv x1] g r := by
  intro d hdd
  refine AM.of (by decide +kernel) (Nat.le_of_ble_eq_true rfl) ?_
  show AW z (RX4, cX4_put, 3, none) d (QD none r) 0 [(0, rv z 4), (1, iv x1)] [] g
  unfold Parser_put at h
  refine AW.bipush (dcN_0 dcg_106 :) (by decide) (by decide) ?_
  refine AW.istore_n (lv1 := [(2, iv 24), (0, rv z 4), (1, iv x1)]) (dcN_1 dcg_106 :) (by decide) rfl ?_
  refine AW.sub (lv1 := [(0, rv z 4), (1, iv x1), (2, iv 24)]) [1, 2, 0] rfl ?_
  exact Parser_put_b_ok hdd _ _ _ h
theorem X_feed_ok {z : AZ} {x1 : Int} {x2 : Int} {x3 : Int} {x4 : Int} {x5 : Int} {g : AG} {r : Int × AG} (h : X_feed x1 x2 x3 x4 x5 g = some r) : AMf z yX11_feed cX11_feed 6 (some .int) 1 [rv z 0, iv x1, iv x2, iv x3, iv x4, iv x5] g r := by
  intro d hdd
  refine AM.of (by decide +kernel) (Nat.le_of_ble_eq_true rfl) ?_
  show AW z (RX11, cX11_feed, 6, (some .int)) d (QD (some .int) r) 0 [(0, rv z 0), (1, iv x1), (2, iv x2), (3, iv x3), (4, iv x4), (5, iv x5)] [] g
  unfold X_feed at h
  refine AW.aloadr_n 0 (dcN_0 dcg_363 :) rfl ?_
  refine AW.getR af_X11_31_0 sr_0_3 (dcN_1 dcg_363 :) ?_
  refine AW.getI af_X11_150_4 sr_4_2 (dcN_2 dcg_363 :) ?_
  refine AW.bipush (dcN_3 dcg_363 :) (by decide) (by decide) ?_
  refine AW.iadd (dcN_4 dcg_363 :) ?_
  refine AW.sipush (dcN_5 dcg_363 :) (by decide) (by decide) ?_
  refine AW.icmp_le (tgt := 18) (dcN_6 dcg_363 :) (by decide) (fun c1 => ?_) (fun c1 => ?_)
  · replace h := hT h c1
    refine AW.aloadr_n 0 (dcN_9 dcg_363 :) rfl ?_
    refine AW.getR af_X11_31_0 sr_0_3 (dcN_10 dcg_363 :) ?_
    refine AW.iload_n 1 (dcN_11 dcg_363 :) rfl ?_
    obtain ⟨r2, e3, h⟩ := hC h
    refine AW.callVv (As := [iv x1]) (st := []) (Parser_put_ok e3) cq_X11_153 cr_4_X4_put (Nat.le_trans (by decide) hdd) rfl (dcN_12 dcg_363 :) rfl (Nat.le_of_ble_eq_true rfl) ?_
    refine AW.aloadr_n 0 (dcN_13 dcg_363 :) rfl ?_
    refine AW.getR af_X11_31_0 sr_0_3 (dcN_14 dcg_363 :) ?_
    refine AW.iload_n 2 (dcN_15 dcg_363 :) rfl ?_
    obtain ⟨r4, e5, h⟩ := hC h
    refine AW.callVv (As := [iv x2]) (st := []) (Parser_put_ok e5) cq_X11_153 cr_4_X4_put (Nat.le_trans (by decide) hdd) rfl (dcN_16 dcg_363 :) rfl (Nat.le_of_ble_eq_true rfl) ?_
    refine AW.aloadr_n 0 (dcN_0 dcg_364 :) rfl ?_
    refine AW.getR af_X11_31_0 sr_0_3 (dcN_1 dcg_364 :) ?_
    refine AW.iload_n 3 (dcN_2 dcg_364 :) rfl ?_
    obtain ⟨r6, e7, h⟩ := hC h
    refine AW.callVv (As := [iv x3]) (st := []) (Parser_put_ok e7) cq_X11_153 cr_4_X4_put (Nat.le_trans (by decide) hdd) rfl (dcN_3 dcg_364 :) rfl (Nat.le_of_ble_eq_true rfl) ?_
    refine AW.aloadr_n 0 (dcN_4 dcg_364 :) rfl ?_
    refine AW.getR af_X11_31_0 sr_0_3 (dcN_5 dcg_364 :) ?_
    refine AW.iload 4 (dcN_6 dcg_364 :) rfl ?_
    obtain ⟨r8, e9, h⟩ := hC h
    refine AW.callVv (As := [iv x4]) (st := []) (Parser_put_ok e9) cq_X11_153 cr_4_X4_put (Nat.le_trans (by decide) hdd) rfl (dcN_7 dcg_364 :) rfl (Nat.le_of_ble_eq_true rfl) ?_
    refine AW.aloadr_n 0 (dcN_8 dcg_364 :) rfl ?_
    refine AW.getR af_X11_31_0 sr_0_3 (dcN_9 dcg_364 :) ?_
    refine AW.iload 5 (dcN_10 dcg_364 :) rfl ?_
    obtain ⟨r10, e11, h⟩ := hC h
    refine AW.callVv (As := [iv x5]) (st := []) (Parser_put_ok e11) cq_X11_153 cr_4_X4_put (Nat.le_trans (by decide) hdd) rfl (dcN_11 dcg_364 :) rfl (Nat.le_of_ble_eq_true rfl) ?_
    refine AW.aloadr_n 0 (dcN_12 dcg_364 :) rfl ?_
    refine AW.getR af_X11_31_0 sr_0_3 (dcN_13 dcg_364 :) ?_
    refine AW.getI af_X11_150_4 sr_4_2 (dcN_0 dcg_365 :) ?_
    exact AW.iret1 rfl (dcN_1 dcg_365 :) h rfl
  · replace h := hF h c1
    refine AW.iconst (dcN_7 dcg_363 :) ?_
    exact AW.iret1 rfl (dcN_8 dcg_363 :) h rfl
theorem X_end_ok {z : AZ} {x1 : Int} {g : AG} {r : Int × AG} (h : X_end x1 g = some r) : AMf z yX11_end cX11_end 2 (some .boolean) 0 [rv z 0, iv x1] g r := by
  intro d hdd
  refine AM.of (by decide +kernel) (Nat.le_of_ble_eq_true rfl) ?_
  show AW z (RX11, cX11_end, 2, (some .boolean)) d (QD (some .boolean) r) 0 [(0, rv z 0), (1, iv x1)] [] g
  unfold X_end at h
  refine AW.iload_n 1 (dcN_0 dcg_366 :) rfl ?_
  refine AW.if_lt (tgt := 15) (dcN_1 dcg_366 :) (by decide) (fun c1 => ?_) (fun c1 => ?_)
  · replace h := hT h c1
    refine AW.iconst (dcN_7 dcg_366 :) ?_
    exact AW.zret1 rfl (Or.inl rfl) (dcN_8 dcg_366 :) h rfl
  · replace h := hF h c1
    refine AW.iload_n 1 (dcN_2 dcg_366 :) rfl ?_
    refine AW.aloadr_n 0 (dcN_3 dcg_366 :) rfl ?_
    refine AW.getR af_X11_31_0 sr_0_3 (dcN_4 dcg_366 :) ?_
    refine AW.getI af_X11_150_4 sr_4_2 (dcN_5 dcg_366 :) ?_
    refine AW.icmp_le (tgt := 17) (dcN_6 dcg_366 :) (by decide) (fun c2 => ?_) (fun c2 => ?_)
    · replace h := hT h c2
      refine AW.aloadr_n 0 (dcN_9 dcg_366 :) rfl ?_
      refine AW.getR af_X11_31_0 sr_0_3 (dcN_10 dcg_366 :) ?_
      refine AW.iload_n 1 (dcN_11 dcg_366 :) rfl ?_
      obtain ⟨g3, e4, h⟩ := hBe h
      refine AW.putI ap_X11_150_4 sr_4_2 (dcN_0 dcg_367 :) e4 ?_
      refine AW.iconst (dcN_1 dcg_367 :) ?_
      exact AW.zret1 rfl (Or.inr rfl) (dcN_2 dcg_367 :) h rfl
    · replace h := hF h c2
      refine AW.iconst (dcN_7 dcg_366 :) ?_
      exact AW.zret1 rfl (Or.inl rfl) (dcN_8 dcg_366 :) h rfl
theorem Rules_clear_ok {z : AZ} {g : AG} {r : Int × AG} (h : Rules_clear g = some r) : AMf z yX6_clear cX6_clear 1 none 1 [rv z 3] g r := by
  intro d hdd
  refine AM.of (by decide +kernel) (Nat.le_of_ble_eq_true rfl) ?_
  show AW z (RX6, cX6_clear, 1, none) d (QD none r) 0 [(0, rv z 3)] [] g
  unfold Rules_clear at h
  refine AW.aloadr_n 0 (dcN_0 dcg_188 :) rfl ?_
  refine AW.iconst (dcN_1 dcg_188 :) ?_
  obtain ⟨g1, e2, h⟩ := hBe h
  refine AW.putI ap_X6_48_3 sr_3_2 (dcN_2 dcg_188 :) e2 ?_
  refine AW.aloadr_n 0 (dcN_3 dcg_188 :) rfl ?_
  refine AW.iconst (dcN_4 dcg_188 :) ?_
  obtain ⟨g3, e4, h⟩ := hBe h
  refine AW.putI ap_X6_52_3 sr_3_3 (dcN_5 dcg_188 :) e4 ?_
  refine AW.aloadr_n 0 (dcN_6 dcg_188 :) rfl ?_
  refine AW.iconst (dcN_7 dcg_188 :) ?_
  obtain ⟨g5, e6, h⟩ := hBe h
  refine AW.putI ap_X6_55_3 sr_3_10 (dcN_8 dcg_188 :) e6 ?_
  refine AW.aloadr_n 0 (dcN_9 dcg_188 :) rfl ?_
  refine AW.getR af_X6_36_3 sr_3_11 (dcN_10 dcg_188 :) ?_
  refine AW.iconst (dcN_11 dcg_188 :) ?_
  obtain ⟨g7, e8, h⟩ := hBe h
  refine AW.callSv (st := []) (fill_ok kc_37 sk_37 (by decide)) cf_X6_58 st_fill (Nat.le_trans (by decide) hdd) rfl (dcN_0 dcg_189 :) rfl (Nat.le_of_ble_eq_true rfl) ?_
  rw [← e8]
  refine AW.aloadr_n 0 (dcN_1 dcg_189 :) rfl ?_
  refine AW.getR af_X6_39_3 sr_3_12 (dcN_2 dcg_189 :) ?_
  refine AW.iconst (dcN_3 dcg_189 :) ?_
  obtain ⟨g9, e10, h⟩ := hBe h
  refine AW.callSv (st := []) (fill_ok kc_38 sk_38 (by decide)) cf_X6_58 st_fill (Nat.le_trans (by decide) hdd) rfl (dcN_4 dcg_189 :) rfl (Nat.le_of_ble_eq_true rfl) ?_
  rw [← e10]
  exact AW.vret1 rfl (dcN_5 dcg_189 :) h rfl
theorem Parser_isLetter_ok {z : AZ} {x0 : Int} {g : AG} : AMf z yX4_isLetter cX4_isLetter 1 (some .boolean) 1 [iv x0] g ((Parser_isLetter x0), g) := by
  intro d hdd
  refine AM.of (by decide +kernel) (Nat.le_of_ble_eq_true rfl) ?_
  show AW z (RX4, cX4_isLetter, 1, (some .boolean)) d (QD (some .boolean) ((Parser_isLetter x0), g)) 0 [(0, iv x0)] [] g
  refine AW.iload_n 0 (dcN_0 dcg_118 :) rfl ?_
  refine AW.bipush (dcN_1 dcg_118 :) (by decide) (by decide) ?_
  refine AW.bipush (dcN_2 dcg_118 :) (by decide) (by decide) ?_
  refine AW.callN0 (As := [iv x0, iv 97, iv 122]) (st := []) X_within_ok ns_X4_87 in_X11 cd_X11_within st_X11_within (by decide) (Nat.le_trans (by decide) hdd) rfl (Nat.le_of_ble_eq_true rfl) (dcN_3 dcg_118 :) rfl ?_
  refine AW.join (tgt := 27) (lv1 := [(0, iv x0)]) (st1 := [iv (if nw (X_within x0 97 122) = 0 then (if nw (X_within x0 65 90) = 0 then 0 else 1) else 1)]) (g1 := g) ?_ (fun J8 => ?_)
  · exact AW.zret rfl (by (repeat' split) <;> first | exact Or.inl rfl | exact Or.inr rfl) (dcN_1 dcg_119 :) ⟨congrArg (fun v => some (iv v)) (show Parser_isLetter x0  = (if nw (X_within x0 97 122) = 0 then (if nw (X_within x0 65 90) = 0 then 0 else 1) else 1) from rfl).symm, rfl⟩
  refine AW.if_ne (tgt := 22) (dcN_4 dcg_118 :) (by decide) (fun c1 => ?_) (fun c1 => ?_)
  · refine AW.iconst (dcN_10 dcg_118 :) ?_
    refine AW.goto (tgt := 27) (dcN_11 dcg_118 :) (by decide) ?_
    exact AW.val (if_neg c1) J8
  · refine AW.iload_n 0 (dcN_5 dcg_118 :) rfl ?_
    refine AW.bipush (dcN_6 dcg_118 :) (by decide) (by decide) ?_
    refine AW.bipush (dcN_7 dcg_118 :) (by decide) (by decide) ?_
    refine AW.callN0 (As := [iv x0, iv 65, iv 90]) (st := []) X_within_ok ns_X4_87 in_X11 cd_X11_within st_X11_within (by decide) (Nat.le_trans (by decide) hdd) rfl (Nat.le_of_ble_eq_true rfl) (dcN_8 dcg_118 :) rfl ?_
    refine AW.if_eq (tgt := 26) (dcN_9 dcg_118 :) (by decide) (fun c2 => ?_) (fun c2 => ?_)
    · refine AW.iconst (dcN_0 dcg_119 :) ?_
      exact AW.val ((if_pos c1).trans (if_pos c2)) J8
    · refine AW.iconst (dcN_10 dcg_118 :) ?_
      refine AW.goto (tgt := 27) (dcN_11 dcg_118 :) (by decide) ?_
      exact AW.val ((if_pos c1).trans (if_neg c2)) J8
theorem Parser_isDigit_ok {z : AZ} {x0 : Int} {g : AG} : AMf z yX4_isDigit cX4_isDigit 1 (some .boolean) 1 [iv x0] g ((Parser_isDigit x0), g) := by
  intro d hdd
  refine AM.of (by decide +kernel) (Nat.le_of_ble_eq_true rfl) ?_
  show AW z (RX4, cX4_isDigit, 1, (some .boolean)) d (QD (some .boolean) ((Parser_isDigit x0), g)) 0 [(0, iv x0)] [] g
  refine AW.iload_n 0 (dcN_0 dcg_120 :) rfl ?_
  refine AW.bipush (dcN_1 dcg_120 :) (by decide) (by decide) ?_
  refine AW.bipush (dcN_2 dcg_120 :) (by decide) (by decide) ?_
  refine AW.callN0 (As := [iv x0, iv 48, iv 57]) (st := []) X_within_ok ns_X4_87 in_X11 cd_X11_within st_X11_within (by decide) (Nat.le_trans (by decide) hdd) rfl (Nat.le_of_ble_eq_true rfl) (dcN_3 dcg_120 :) rfl ?_
  exact AW.zret rfl X_within_01 (dcN_4 dcg_120 :) ⟨congrArg (fun v => some (iv v)) (show Parser_isDigit x0  = (X_within x0 48 57) from rfl).symm, rfl⟩
theorem Parser_add_ok {z : AZ} {x1 : Int} {x2 : Int} {g : AG} {r : Int × AG} (h : Parser_add x1 x2 g = some r) : AMf z yX4_add cX4_add 3 none 0 [rv z 4, iv x1, iv x2] g r := by
  intro d hdd
  refine AM.of (by decide +kernel) (Nat.le_of_ble_eq_true rfl) ?_
  show AW z (RX4, cX4_add, 3, none) d (QD none r) 0 [(0, rv z 4), (1, iv x1), (2, iv x2)] [] g
  unfold Parser_add at h
  refine AW.aloadr_n 0 (dcN_0 dcg_116 :) rfl ?_
  refine AW.getI af_X4_52_4 sr_4_5 (dcN_1 dcg_116 :) ?_
  refine AW.aloadr_n 0 (dcN_2 dcg_116 :) rfl ?_
  refine AW.getR af_X4_15_4 sr_4_3 (dcN_3 dcg_116 :) ?_
  refine AW.alen kc_42 sk_42 (dcN_4 dcg_116 :) ?_
  obtain ⟨r10, e11, h⟩ := hC h
  refine AW.join (tgt := 42) (lv1 := []) (st1 := []) (g1 := r10) ?_ (fun J9 => ?_)
  · exact AW.vret1 rfl dX4_add_42 h rfl
  replace h := e11
  refine AW.icmp_ge (tgt := 42) (dcN_5 dcg_116 :) (by decide) (fun c1 => ?_) (fun c1 => ?_)
  · replace h := hT h c1
    refine AW.sub (lv1 := []) [] rfl ?_
    cases h
    exact J9
  · replace h := hF h c1
    refine AW.aloadr_n 0 (dcN_6 dcg_116 :) rfl ?_
    refine AW.getR af_X4_15_4 sr_4_3 (dcN_7 dcg_116 :) ?_
    refine AW.aloadr_n 0 (dcN_8 dcg_116 :) rfl ?_
    refine AW.getI af_X4_52_4 sr_4_5 (dcN_9 dcg_116 :) ?_
    refine AW.iload_n 1 (dcN_10 dcg_116 :) rfl ?_
    obtain ⟨k2, h⟩ := hK h
    obtain ⟨g3, e4, h⟩ := hBe h
    refine AW.iast kc_42 sk_42 k2 (dcN_11 dcg_116 :) e4 ?_
    refine AW.aloadr_n 0 (dcN_0 dcg_117 :) rfl ?_
    refine AW.getR af_X4_18_4 sr_4_4 (dcN_1 dcg_117 :) ?_
    refine AW.aloadr_n 0 (dcN_2 dcg_117 :) rfl ?_
    refine AW.getI af_X4_52_4 sr_4_5 (dcN_3 dcg_117 :) ?_
    refine AW.iload_n 2 (dcN_4 dcg_117 :) rfl ?_
    obtain ⟨k5, h⟩ := hK h
    obtain ⟨g6, e7, h⟩ := hBe h
    refine AW.iast kc_43 sk_43 k5 (dcN_5 dcg_117 :) e7 ?_
    refine AW.aloadr_n 0 (dcN_6 dcg_117 :) rfl ?_
    refine AW.duprr (dcN_7 dcg_117 :) ?_
    refine AW.getI af_X4_52_4 sr_4_5 (dcN_8 dcg_117 :) ?_
    refine AW.iconst (dcN_9 dcg_117 :) ?_
    refine AW.iadd (dcN_10 dcg_117 :) ?_
    obtain ⟨g8, e9, h⟩ := hBe h
    refine AW.putI ap_X4_52_4 sr_4_5 (dcN_11 dcg_117 :) e9 ?_
    refine AW.sub (lv1 := []) [] rfl ?_
    cases h
    exact J9
set_option synthInstance.maxHeartbeats 2000000 in
theorem Parser_endOfDigits_b_ok {z : AZ} {d : Nat} (hdd : 2 ≤ d) {g : AG} : ∀ (x2 : Int) (x3 : Int) (r : Int), Parser_endOfDigits_b g x2 x3 = some r → AW z (RX4, cX4_endOfDigits, 4, (some .int)) d (QD (some .int) (r, g)) 4 [(0, rv z 4), (2, iv x2), (3, iv x3)] [] g := by
  refine Parser_endOfDigits_b.partial_correctness g (fun x2 x3 r => AW z (RX4, cX4_endOfDigits, 4, (some .int)) d (QD (some .int) (r, g)) 4 [(0, rv z 4), (2, iv x2), (3, iv x3)] [] g) ?_
  intro fb9 ih x2 x3 r h
  refine AW.iload_n 2 (dcN_4 dcg_123 :) rfl ?_
  refine AW.aloadr_n 0 (dcN_5 dcg_123 :) rfl ?_
  refine AW.getI af_X4_29_4 sr_4_2 (dcN_6 dcg_123 :) ?_
  refine AW.icmp_ge (tgt := 34) (dcN_7 dcg_123 :) (by decide) (fun c1 => ?_) (fun c1 => ?_)
  · replace h := hT h c1
    refine AW.iload_n 1 (dcN_8 dcg_124 :) rfl ?_
    exact AW.iret2 rfl (dcN_9 dcg_124 :) h rfl
  · replace h := hF h c1
    refine AW.aloadr_n 0 (dcN_8 dcg_123 :) rfl ?_
    refine AW.getR af_X4_9_4 sr_4_1 (dcN_9 dcg_123 :) ?_
    refine AW.iload_n 2 (dcN_10 dcg_123 :) rfl ?_
    obtain ⟨k2, h⟩ := hK h
    refine AW.iald kc_41 sk_41 k2 (dcN_11 dcg_123 :) ?_
    refine AW.callSi (As := [iv (g 41 (ix x3))]) (st := []) Parser_isDigit_ok cq_X4_71 st_X4_isDigit (Nat.le_trans (by decide) hdd) rfl (dcN_0 dcg_124 :) rfl (Nat.le_of_ble_eq_true rfl) ?_
    refine AW.if_eq (tgt := 34) (dcN_1 dcg_124 :) (by decide) (fun c3 => ?_) (fun c3 => ?_)
    · replace h := hT h c3
      refine AW.iload_n 1 (dcN_8 dcg_124 :) rfl ?_
      exact AW.iret2 rfl (dcN_9 dcg_124 :) h rfl
    · replace h := hF h c3
      refine AW.iload_n 2 (dcN_2 dcg_124 :) rfl ?_
      refine AW.iconst (dcN_3 dcg_124 :) ?_
      refine AW.iadd (dcN_4 dcg_124 :) ?_
      refine AW.istore_n (lv1 := [(2, iv (x3 + 1)), (0, rv z 4), (3, iv x3)]) (dcN_5 dcg_124 :) (by decide) rfl ?_
      refine AW.iinc (lv1 := [(3, iv (x3 + 1)), (2, iv (x3 + 1)), (0, rv z 4)]) 2 (dcN_6 dcg_124 :) rfl (by decide) rfl ?_
      refine AW.goto (tgt := 4) (dcN_7 dcg_124 :) (by decide) ?_
      refine AW.sub (lv1 := [(0, rv z 4), (2, iv (x3 + 1)), (3, iv (x3 + 1))]) [2, 1, 0] rfl ?_
      exact ih _ _ _ h
theorem Parser_endOfDigits_ok {z : AZ} {x1 : Int} {g : AG} {r : Int} (h : Parser_endOfDigits x1 g = some r) : AMf z yX4_endOfDigits cX4_endOfDigits 4 (some .int) 2 [rv z 4, iv x1] g (r, g) := by
  intro d hdd
  refine AM.of (by decide +kernel) (Nat.le_of_ble_eq_true rfl) ?_
  show AW z (RX4, cX4_endOfDigits, 4, (some .int)) d (QD (some .int) (r, g)) 0 [(0, rv z 4), (1, iv x1)] [] g
  unfold Parser_endOfDigits at h
  refine AW.iload_n 1 (dcN_0 dcg_123 :) rfl ?_
  refine AW.istore_n (lv1 := [(2, iv x1), (0, rv z 4), (1, iv x1)]) (dcN_1 dcg_123 :) (by decide) rfl ?_
  refine AW.iload_n 2 (dcN_2 dcg_123 :) rfl ?_
  refine AW.istore_n (lv1 := [(3, iv x1), (2, iv x1), (0, rv z 4), (1, iv x1)]) (dcN_3 dcg_123 :) (by decide) rfl ?_
  refine AW.sub (lv1 := [(0, rv z 4), (2, iv x1), (3, iv x1)]) [2, 1, 0] rfl ?_
  exact Parser_endOfDigits_b_ok hdd _ _ _ h
set_option synthInstance.maxHeartbeats 2000000 in
theorem Parser_numberOf_b_ok {z : AZ} {d : Nat} (hdd : 0 ≤ d) {x2 : Int} {g : AG} : ∀ (x3 : Int) (x4 : Int) (r : Int), Parser_numberOf_b x2 g x3 x4 = some r → AW z (RX4, cX4_numberOf, 5, (some .int)) d (QD (some .int) (r, g)) 14 [(0, rv z 4), (2, iv x2), (3, iv x3), (4, iv x4)] [] g := by
  refine Parser_numberOf_b.partial_correctness x2 g (fun x3 x4 r => AW z (RX4, cX4_numberOf, 5, (some .int)) d (QD (some .int) (r, g)) 14 [(0, rv z 4), (2, iv x2), (3, iv x3), (4, iv x4)] [] g) ?_
  intro fb9 ih x3 x4 r h
  refine AW.iload 3 (dcN_11 dcg_125 :) rfl ?_
  refine AW.iload_n 1 (dcN_0 dcg_126 :) rfl ?_
  refine AW.icmp_ge (tgt := 42) (dcN_1 dcg_126 :) (by decide) (fun c1 => ?_) (fun c1 => ?_)
  · replace h := hT h c1
    refine AW.sipush (dcN_3 dcg_127 :) (by decide) (by decide) ?_
    refine AW.iload_n 2 (dcN_4 dcg_127 :) rfl ?_
    refine AW.iadd (dcN_5 dcg_127 :) ?_
    exact AW.iret2 rfl (dcN_6 dcg_127 :) h rfl
  · replace h := hF h c1
    refine AW.iload_n 2 (dcN_2 dcg_126 :) rfl ?_
    refine AW.bipush (dcN_3 dcg_126 :) (by decide) (by decide) ?_
    refine AW.imul (dcN_4 dcg_126 :) ?_
    refine AW.aloadr_n 0 (dcN_5 dcg_126 :) rfl ?_
    refine AW.getR af_X4_9_4 sr_4_1 (dcN_6 dcg_126 :) ?_
    refine AW.iload 3 (dcN_7 dcg_126 :) rfl ?_
    obtain ⟨k2, h⟩ := hK h
    refine AW.iald kc_41 sk_41 k2 (dcN_8 dcg_126 :) ?_
    refine AW.iadd (dcN_9 dcg_126 :) ?_
    refine AW.bipush (dcN_10 dcg_126 :) (by decide) (by decide) ?_
    refine AW.isub (dcN_11 dcg_126 :) ?_
    refine AW.istore_n (lv1 := [(3, iv (((x3 * 10) + (g 41 (ix x4))) - 48)), (0, rv z 4), (2, iv x2), (4, iv x4)]) (dcN_0 dcg_127 :) (by decide) rfl ?_
    refine AW.iinc (lv1 := [(4, iv (x4 + 1)), (3, iv (((x3 * 10) + (g 41 (ix x4))) - 48)), (0, rv z 4), (2, iv x2)]) 3 (dcN_1 dcg_127 :) rfl (by decide) rfl ?_
    refine AW.goto (tgt := 14) (dcN_2 dcg_127 :) (by decide) ?_
    refine AW.sub (lv1 := [(0, rv z 4), (2, iv x2), (3, iv (((x3 * 10) + (g 41 (ix x4))) - 48)), (4, iv (x4 + 1))]) [2, 3, 1, 0] rfl ?_
    exact ih _ _ _ h
theorem Parser_numberOf_ok {z : AZ} {x1 : Int} {x2 : Int} {g : AG} {r : Int} (h : Parser_numberOf x1 x2 g = some r) : AMf z yX4_numberOf cX4_numberOf 5 (some .int) 0 [rv z 4, iv x1, iv x2] g (r, g) := by
  intro d hdd
  refine AM.of (by decide +kernel) (Nat.le_of_ble_eq_true rfl) ?_
  show AW z (RX4, cX4_numberOf, 5, (some .int)) d (QD (some .int) (r, g)) 0 [(0, rv z 4), (1, iv x1), (2, iv x2)] [] g
  unfold Parser_numberOf at h
  refine AW.iload_n 2 (dcN_0 dcg_125 :) rfl ?_
  refine AW.iload_n 1 (dcN_1 dcg_125 :) rfl ?_
  refine AW.isub (dcN_2 dcg_125 :) ?_
  refine AW.iconst (dcN_3 dcg_125 :) ?_
  refine AW.icmp_le (tgt := 9) (dcN_4 dcg_125 :) (by decide) (fun c1 => ?_) (fun c1 => ?_)
  · replace h := hT h c1
    refine AW.iconst (dcN_7 dcg_125 :) ?_
    refine AW.istore_n (lv1 := [(3, iv 0), (0, rv z 4), (1, iv x1), (2, iv x2)]) (dcN_8 dcg_125 :) (by decide) rfl ?_
    refine AW.iload_n 2 (dcN_9 dcg_125 :) rfl ?_
    refine AW.istore (lv1 := [(4, iv x1), (3, iv 0), (0, rv z 4), (1, iv x1), (2, iv x2)]) (dcN_10 dcg_125 :) (by decide) rfl ?_
    refine AW.sub (lv1 := [(0, rv z 4), (2, iv x2), (3, iv 0), (4, iv x1)]) [2, 4, 1, 0] rfl ?_
    exact Parser_numberOf_b_ok hdd _ _ _ h
  · replace h := hF h c1
    refine AW.iconst (dcN_5 dcg_125 :) ?_
    exact AW.iret2 rfl (dcN_6 dcg_125 :) h rfl
set_option synthInstance.maxHeartbeats 2000000 in
theorem Parser_endOfWord_b_ok {z : AZ} {d : Nat} (hdd : 2 ≤ d) {g : AG} : ∀ (x2 : Int) (x3 : Int) (r : Int), Parser_endOfWord_b g x2 x3 = some r → AW z (RX4, cX4_endOfWord, 4, (some .int)) d (QD (some .int) (r, g)) 4 [(0, rv z 4), (2, iv x2), (3, iv x3)] [] g := by
  refine Parser_endOfWord_b.partial_correctness g (fun x2 x3 r => AW z (RX4, cX4_endOfWord, 4, (some .int)) d (QD (some .int) (r, g)) 4 [(0, rv z 4), (2, iv x2), (3, iv x3)] [] g) ?_
  intro fb9 ih x2 x3 r h
  refine AW.iload_n 2 (dcN_4 dcg_121 :) rfl ?_
  refine AW.aloadr_n 0 (dcN_5 dcg_121 :) rfl ?_
  refine AW.getI af_X4_29_4 sr_4_2 (dcN_6 dcg_121 :) ?_
  refine AW.icmp_ge (tgt := 34) (dcN_7 dcg_121 :) (by decide) (fun c1 => ?_) (fun c1 => ?_)
  · replace h := hT h c1
    refine AW.iload_n 1 (dcN_8 dcg_122 :) rfl ?_
    exact AW.iret2 rfl (dcN_9 dcg_122 :) h rfl
  · replace h := hF h c1
    refine AW.aloadr_n 0 (dcN_8 dcg_121 :) rfl ?_
    refine AW.getR af_X4_9_4 sr_4_1 (dcN_9 dcg_121 :) ?_
    refine AW.iload_n 2 (dcN_10 dcg_121 :) rfl ?_
    obtain ⟨k2, h⟩ := hK h
    refine AW.iald kc_41 sk_41 k2 (dcN_11 dcg_121 :) ?_
    refine AW.callSi (As := [iv (g 41 (ix x3))]) (st := []) Parser_isLetter_ok cq_X4_55 st_X4_isLetter (Nat.le_trans (by decide) hdd) rfl (dcN_0 dcg_122 :) rfl (Nat.le_of_ble_eq_true rfl) ?_
    refine AW.if_eq (tgt := 34) (dcN_1 dcg_122 :) (by decide) (fun c3 => ?_) (fun c3 => ?_)
    · replace h := hT h c3
      refine AW.iload_n 1 (dcN_8 dcg_122 :) rfl ?_
      exact AW.iret2 rfl (dcN_9 dcg_122 :) h rfl
    · replace h := hF h c3
      refine AW.iload_n 2 (dcN_2 dcg_122 :) rfl ?_
      refine AW.iconst (dcN_3 dcg_122 :) ?_
      refine AW.iadd (dcN_4 dcg_122 :) ?_
      refine AW.istore_n (lv1 := [(2, iv (x3 + 1)), (0, rv z 4), (3, iv x3)]) (dcN_5 dcg_122 :) (by decide) rfl ?_
      refine AW.iinc (lv1 := [(3, iv (x3 + 1)), (2, iv (x3 + 1)), (0, rv z 4)]) 2 (dcN_6 dcg_122 :) rfl (by decide) rfl ?_
      refine AW.goto (tgt := 4) (dcN_7 dcg_122 :) (by decide) ?_
      refine AW.sub (lv1 := [(0, rv z 4), (2, iv (x3 + 1)), (3, iv (x3 + 1))]) [2, 1, 0] rfl ?_
      exact ih _ _ _ h
theorem Parser_endOfWord_ok {z : AZ} {x1 : Int} {g : AG} {r : Int} (h : Parser_endOfWord x1 g = some r) : AMf z yX4_endOfWord cX4_endOfWord 4 (some .int) 2 [rv z 4, iv x1] g (r, g) := by
  intro d hdd
  refine AM.of (by decide +kernel) (Nat.le_of_ble_eq_true rfl) ?_
  show AW z (RX4, cX4_endOfWord, 4, (some .int)) d (QD (some .int) (r, g)) 0 [(0, rv z 4), (1, iv x1)] [] g
  unfold Parser_endOfWord at h
  refine AW.iload_n 1 (dcN_0 dcg_121 :) rfl ?_
  refine AW.istore_n (lv1 := [(2, iv x1), (0, rv z 4), (1, iv x1)]) (dcN_1 dcg_121 :) (by decide) rfl ?_
  refine AW.iload_n 2 (dcN_2 dcg_121 :) rfl ?_
  refine AW.istore_n (lv1 := [(3, iv x1), (2, iv x1), (0, rv z 4), (1, iv x1)]) (dcN_3 dcg_121 :) (by decide) rfl ?_
  refine AW.sub (lv1 := [(0, rv z 4), (2, iv x1), (3, iv x1)]) [2, 1, 0] rfl ?_
  exact Parser_endOfWord_b_ok hdd _ _ _ h
set_option synthInstance.maxHeartbeats 2000000 in
theorem Parser_isSame_b_ok {z : AZ} {d : Nat} (hdd : 5 ≤ d) {x1 : Int} {x2 : Int} {x3 : Int} {g : AG} : ∀ (x4 : Int) (r : Int), Parser_isSame_b x1 x2 x3 g x4 = some r → AW z (RX4, cX4_isSame, 5, (some .boolean)) d (QD (some .boolean) (r, g)) 3 [(0, rv z 4), (1, iv x1), (2, iv x2), (3, iv x3), (4, iv x4)] [] g := by
  refine Parser_isSame_b.partial_correctness x1 x2 x3 g (fun x4 r => AW z (RX4, cX4_isSame, 5, (some .boolean)) d (QD (some .boolean) (r, g)) 3 [(0, rv z 4), (1, iv x1), (2, iv x2), (3, iv x3), (4, iv x4)] [] g) ?_
  intro fb9 ih x4 r h
  refine AW.iload 4 (dcN_2 dcg_131 :) rfl ?_
  refine AW.iload_n 3 (dcN_3 dcg_131 :) rfl ?_
  refine AW.icmp_ge (tgt := 38) (dcN_4 dcg_131 :) (by decide) (fun c1 => ?_) (fun c1 => ?_)
  · replace h := hT h c1
    refine AW.iconst (dcN_9 dcg_132 :) ?_
    exact AW.zret2 rfl (Or.inr rfl) (dcN_10 dcg_132 :) h rfl
  · replace h := hF h c1
    refine AW.aloadr_n 0 (dcN_5 dcg_131 :) rfl ?_
    refine AW.getR af_X4_9_4 sr_4_1 (dcN_6 dcg_131 :) ?_
    refine AW.iload_n 1 (dcN_7 dcg_131 :) rfl ?_
    refine AW.iload 4 (dcN_8 dcg_131 :) rfl ?_
    refine AW.iadd (dcN_9 dcg_131 :) ?_
    obtain ⟨k2, h⟩ := hK h
    refine AW.iald kc_41 sk_41 k2 (dcN_10 dcg_131 :) ?_
    refine AW.ldcS (dcN_11 dcg_131 :) sw_X4_91 ?_
    refine AW.iload_n 2 (dcN_0 dcg_132 :) rfl ?_
    refine AW.iload 4 (dcN_1 dcg_132 :) rfl ?_
    refine AW.iadd (dcN_2 dcg_132 :) ?_
    obtain ⟨k3, h⟩ := hK h
    refine AW.tCh cq_X4_96 (by decide) k3 (Nat.le_trans (by decide) hdd) (dcN_3 dcg_132 :) (Nat.le_of_ble_eq_true rfl) ?_
    refine AW.icmp_eq (tgt := 32) (dcN_4 dcg_132 :) (by decide) (fun c4 => ?_) (fun c4 => ?_)
    · replace h := hT h c4
      refine AW.iinc (lv1 := [(4, iv (x4 + 1)), (0, rv z 4), (1, iv x1), (2, iv x2), (3, iv x3)]) 4 (dcN_7 dcg_132 :) rfl (by decide) rfl ?_
      refine AW.goto (tgt := 3) (dcN_8 dcg_132 :) (by decide) ?_
      refine AW.sub (lv1 := [(0, rv z 4), (1, iv x1), (2, iv x2), (3, iv x3), (4, iv (x4 + 1))]) [1, 2, 3, 4, 0] rfl ?_
      exact ih _ _ h
    · replace h := hF h c4
      refine AW.iconst (dcN_5 dcg_132 :) ?_
      exact AW.zret2 rfl (Or.inl rfl) (dcN_6 dcg_132 :) h rfl
theorem Parser_isSame_ok {z : AZ} {x1 : Int} {x2 : Int} {x3 : Int} {g : AG} {r : Int} (h : Parser_isSame x1 x2 x3 g = some r) : AMf z yX4_isSame cX4_isSame 5 (some .boolean) 5 [rv z 4, iv x1, iv x2, iv x3] g (r, g) := by
  intro d hdd
  refine AM.of (by decide +kernel) (Nat.le_of_ble_eq_true rfl) ?_
  show AW z (RX4, cX4_isSame, 5, (some .boolean)) d (QD (some .boolean) (r, g)) 0 [(0, rv z 4), (1, iv x1), (2, iv x2), (3, iv x3)] [] g
  unfold Parser_isSame at h
  refine AW.iconst (dcN_0 dcg_131 :) ?_
  refine AW.istore (lv1 := [(4, iv 0), (0, rv z 4), (1, iv x1), (2, iv x2), (3, iv x3)]) (dcN_1 dcg_131 :) (by decide) rfl ?_
  refine AW.sub (lv1 := [(0, rv z 4), (1, iv x1), (2, iv x2), (3, iv x3), (4, iv 0)]) [1, 2, 3, 4, 0] rfl ?_
  exact Parser_isSame_b_ok hdd _ _ h
set_option synthInstance.maxHeartbeats 2000000 in
theorem Parser_wordOf_b_ok {z : AZ} {d : Nat} (hdd : 6 ≤ d) {x1 : Int} {x2 : Int} {g : AG} : ∀ (tag : Nat) (x3 : Int) (x4 : Int) (x5 : Int) (r : Int), Parser_wordOf_b x1 x2 g tag x3 x4 x5 = some r → (tag = 1 → AW z (RX4, cX4_wordOf, 6, (some .int)) d (QD (some .int) (r, g)) 9 [(0, rv z 4), (1, iv x1), (2, iv x2), (3, iv x3), (4, iv x4), (5, iv x5)] [] g) ∧ (tag = 2 → AW z (RX4, cX4_wordOf, 6, (some .int)) d (QD (some .int) (r, g)) 59 [(0, rv z 4), (1, iv x1), (2, iv x2), (3, iv x3), (5, iv x5)] [] g) ∧ (tag = 3 → AW z (RX4, cX4_wordOf, 6, (some .int)) d (QD (some .int) (r, g)) 68 [(0, rv z 4), (1, iv x1), (2, iv x2), (3, iv x3), (4, iv x4), (5, iv x5)] [] g) := by
  refine Parser_wordOf_b.partial_correctness x1 x2 g (fun tag x3 x4 x5 r => (tag = 1 → AW z (RX4, cX4_wordOf, 6, (some .int)) d (QD (some .int) (r, g)) 9 [(0, rv z 4), (1, iv x1), (2, iv x2), (3, iv x3), (4, iv x4), (5, iv x5)] [] g) ∧ (tag = 2 → AW z (RX4, cX4_wordOf, 6, (some .int)) d (QD (some .int) (r, g)) 59 [(0, rv z 4), (1, iv x1), (2, iv x2), (3, iv x3), (5, iv x5)] [] g) ∧ (tag = 3 → AW z (RX4, cX4_wordOf, 6, (some .int)) d (QD (some .int) (r, g)) 68 [(0, rv z 4), (1, iv x1), (2, iv x2), (3, iv x3), (4, iv x4), (5, iv x5)] [] g)) ?_
  intro fb9 ih tag x3 x4 x5 r h
  refine ⟨fun h9 => ?_, fun h9 => ?_, fun h9 => ?_⟩
  · subst h9
    replace h := hT h rfl
    refine AW.iload 5 (dcN_6 dcg_128 :) rfl ?_
    refine AW.ldcS (dcN_7 dcg_128 :) sw_X4_91 ?_
    refine AW.tLen cq_X4_93 (by decide) (Nat.le_trans (by decide) hdd) (dcN_8 dcg_128 :) (Nat.le_of_ble_eq_true rfl) ?_
    refine AW.icmp_ge (tgt := 74) (dcN_9 dcg_128 :) (by decide) (fun c1 => ?_) (fun c1 => ?_)
    · replace h := hT h c1
      refine AW.iconst (dcN_5 dcg_130 :) ?_
      exact AW.iret2 rfl (dcN_6 dcg_130 :) h rfl
    · replace h := hF h c1
      refine AW.ldcS (dcN_10 dcg_128 :) sw_X4_91 ?_
      refine AW.iload 5 (dcN_11 dcg_128 :) rfl ?_
      obtain ⟨k2, h⟩ := hK h
      refine AW.tCh cq_X4_96 (by decide) k2 (Nat.le_trans (by decide) hdd) (dcN_12 dcg_128 :) (Nat.le_of_ble_eq_true rfl) ?_
      refine AW.bipush (dcN_13 dcg_128 :) (by decide) (by decide) ?_
      refine AW.icmp_ne (tgt := 68) (dcN_14 dcg_128 :) (by decide) (fun c3 => ?_) (fun c3 => ?_)
      · replace h := hF h c3
        exact (ih _ _ _ _ _ h).2.2 rfl
      · replace h := hT h c3
        refine AW.iload 5 (dcN_15 dcg_128 :) rfl ?_
        refine AW.iload 4 (dcN_0 dcg_129 :) rfl ?_
        refine AW.isub (dcN_1 dcg_129 :) ?_
        refine AW.iload_n 2 (dcN_2 dcg_129 :) rfl ?_
        refine AW.iload_n 1 (dcN_3 dcg_129 :) rfl ?_
        refine AW.isub (dcN_4 dcg_129 :) ?_
        refine AW.icmp_ne (tgt := 59) (dcN_5 dcg_129 :) (by decide) (fun c4 => ?_) (fun c4 => ?_)
        · replace h := hF h c4
          refine AW.sub (lv1 := [(0, rv z 4), (1, iv x1), (2, iv x2), (3, iv x3), (5, iv x5)]) [0, 1, 2, 3, 5] rfl ?_
          exact (ih _ _ _ _ _ h).2.1 rfl
        · replace h := hT h c4
          refine AW.aloadr_n 0 (dcN_6 dcg_129 :) rfl ?_
          refine AW.iload_n 1 (dcN_7 dcg_129 :) rfl ?_
          refine AW.iload 4 (dcN_8 dcg_129 :) rfl ?_
          refine AW.iload 5 (dcN_9 dcg_129 :) rfl ?_
          refine AW.iload 4 (dcN_10 dcg_129 :) rfl ?_
          refine AW.isub (dcN_11 dcg_129 :) ?_
          obtain ⟨r5, e6, h⟩ := hC h
          refine AW.callVi (As := [iv x1, iv x4, iv (x5 - x4)]) (st := []) (Parser_isSame_ok e6) cq_X4_100 cr_4_X4_isSame (Nat.le_trans (by decide) hdd) rfl (dcN_12 dcg_129 :) rfl (Nat.le_of_ble_eq_true rfl) ?_
          refine AW.if_eq (tgt := 59) (dcN_13 dcg_129 :) (by decide) (fun c7 => ?_) (fun c7 => ?_)
          · replace h := hT h c7
            refine AW.sub (lv1 := [(0, rv z 4), (1, iv x1), (2, iv x2), (3, iv x3), (5, iv x5)]) [0, 1, 2, 3, 5] rfl ?_
            exact (ih _ _ _ _ _ h).2.1 rfl
          · replace h := hF h c7
            refine AW.iload_n 3 (dcN_14 dcg_129 :) rfl ?_
            exact AW.iret2 rfl (dcN_15 dcg_129 :) h rfl
  · subst h9
    replace h := hF h (by decide)
    replace h := hT h rfl
    refine AW.iinc (lv1 := [(3, iv (x3 + 1)), (0, rv z 4), (1, iv x1), (2, iv x2), (5, iv x5)]) 3 (dcN_16 dcg_129 :) rfl (by decide) rfl ?_
    refine AW.iload 4 (dcN_17 dcg_129 :) rfl ?_
    refine AW.iconst (dcN_0 dcg_130 :) ?_
    refine AW.iadd (dcN_1 dcg_130 :) ?_
    refine AW.istore (lv1 := [(4, iv (x5 + 1)), (3, iv (x3 + 1)), (0, rv z 4), (1, iv x1), (2, iv x2), (5, iv x5)]) (dcN_2 dcg_130 :) (by decide) rfl ?_
    refine AW.sub (lv1 := [(0, rv z 4), (1, iv x1), (2, iv x2), (3, iv (x3 + 1)), (4, iv (x5 + 1)), (5, iv x5)]) [2, 3, 4, 1, 0, 5] rfl ?_
    exact (ih _ _ _ _ _ h).2.2 rfl
  · subst h9
    replace h := hF h (by decide)
    replace h := hF h (by decide)
    replace h := hT h rfl
    refine AW.iinc (lv1 := [(5, iv (x5 + 1)), (0, rv z 4), (1, iv x1), (2, iv x2), (3, iv x3), (4, iv x4)]) 5 (dcN_3 dcg_130 :) rfl (by decide) rfl ?_
    refine AW.goto (tgt := 9) (dcN_4 dcg_130 :) (by decide) ?_
    refine AW.sub (lv1 := [(0, rv z 4), (1, iv x1), (2, iv x2), (3, iv x3), (4, iv x4), (5, iv (x5 + 1))]) [1, 2, 3, 4, 5, 0] rfl ?_
    exact (ih _ _ _ _ _ h).1 rfl
theorem Parser_wordOf_ok {z : AZ} {x1 : Int} {x2 : Int} {g : AG} {r : Int} (h : Parser_wordOf x1 x2 g = some r) : AMf z yX4_wordOf cX4_wordOf 6 (some .int) 6 [rv z 4, iv x1, iv x2] g (r, g) := by
  intro d hdd
  refine AM.of (by decide +kernel) (Nat.le_of_ble_eq_true rfl) ?_
  show AW z (RX4, cX4_wordOf, 6, (some .int)) d (QD (some .int) (r, g)) 0 [(0, rv z 4), (1, iv x1), (2, iv x2)] [] g
  unfold Parser_wordOf at h
  refine AW.bipush (dcN_0 dcg_128 :) (by decide) (by decide) ?_
  refine AW.istore_n (lv1 := [(3, iv 100), (0, rv z 4), (1, iv x1), (2, iv x2)]) (dcN_1 dcg_128 :) (by decide) rfl ?_
  refine AW.iconst (dcN_2 dcg_128 :) ?_
  refine AW.istore (lv1 := [(4, iv 0), (3, iv 100), (0, rv z 4), (1, iv x1), (2, iv x2)]) (dcN_3 dcg_128 :) (by decide) rfl ?_
  refine AW.iconst (dcN_4 dcg_128 :) ?_
  refine AW.istore (lv1 := [(5, iv 0), (4, iv 0), (3, iv 100), (0, rv z 4), (1, iv x1), (2, iv x2)]) (dcN_5 dcg_128 :) (by decide) rfl ?_
  refine AW.sub (lv1 := [(0, rv z 4), (1, iv x1), (2, iv x2), (3, iv 100), (4, iv 0), (5, iv 0)]) [3, 4, 5, 2, 1, 0] rfl ?_
  exact (Parser_wordOf_b_ok hdd _ _ _ _ _ h).1 rfl
end
