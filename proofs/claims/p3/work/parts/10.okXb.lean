set_option synthInstance.maxHeartbeats 2000000 in
theorem Parser_scan_b_ok {z : AZ} {d : Nat} (hdd : 7 ≤ d) : ∀ (tag : Nat) (x1 : Int) (x2 : Int) (g : AG) (r : Int × AG), Parser_scan_b tag x1 x2 g = some r → (tag = 1 → AW z (RX4, cX4_scan, 5, none) d (QD none r) 9 [(0, rv z 4), (1, iv x1), (2, iv x2)] [] g) ∧ (tag = 2 → AW z (RX4, cX4_scan, 5, none) d (QD none r) 135 [(0, rv z 4)] [] g) := by
  refine Parser_scan_b.partial_correctness (fun tag x1 x2 g r => (tag = 1 → AW z (RX4, cX4_scan, 5, none) d (QD none r) 9 [(0, rv z 4), (1, iv x1), (2, iv x2)] [] g) ∧ (tag = 2 → AW z (RX4, cX4_scan, 5, none) d (QD none r) 135 [(0, rv z 4)] [] g)) ?_
  intro fb9 ih tag x1 x2 g r h
  refine ⟨fun h9 => ?_, fun h9 => ?_⟩
  · subst h9
    replace h := hT h rfl
    refine AW.iload_n 2 dX4_scan_9 rfl ?_
    refine AW.sipush dX4_scan_10 (by decide) (by decide) ?_
    refine AW.icmp_ge (tgt := 135) dX4_scan_13 (by decide) (fun c1 => ?_) (fun c1 => ?_)
    · replace h := hT h c1
      refine AW.sub (lv1 := [(0, rv z 4)]) [0] rfl ?_
      exact (ih _ _ _ _ _ h).2 rfl
    · replace h := hF h c1
      refine AW.iload_n 1 dX4_scan_16 rfl ?_
      refine AW.aloadr_n 0 dX4_scan_17 rfl ?_
      refine AW.getI af_X4_29_4 sr_4_2 dX4_scan_18 ?_
      refine AW.icmp_ge (tgt := 135) dX4_scan_21 (by decide) (fun c2 => ?_) (fun c2 => ?_)
      · replace h := hT h c2
        refine AW.sub (lv1 := [(0, rv z 4)]) [0] rfl ?_
        exact (ih _ _ _ _ _ h).2 rfl
      · replace h := hF h c2
        refine AW.aloadr_n 0 dX4_scan_24 rfl ?_
        refine AW.getR af_X4_9_4 sr_4_1 dX4_scan_25 ?_
        refine AW.iload_n 1 dX4_scan_28 rfl ?_
        obtain ⟨k3, h⟩ := hK h
        refine AW.iald kc_41 sk_41 k3 dX4_scan_29 ?_
        refine AW.istore_n (lv1 := [(3, iv (g 41 (ix x1))), (0, rv z 4), (1, iv x1), (2, iv x2)]) dX4_scan_30 (by decide) rfl ?_
        refine AW.iload_n 2 dX4_scan_31 rfl ?_
        refine AW.iconst dX4_scan_32 ?_
        refine AW.iadd dX4_scan_33 ?_
        refine AW.istore (lv1 := [(4, iv (x1 + 1)), (3, iv (g 41 (ix x1))), (0, rv z 4), (1, iv x1), (2, iv x2)]) dX4_scan_34 (by decide) rfl ?_
        refine AW.iload_n 1 dX4_scan_36 rfl ?_
        refine AW.callSi (As := [iv (g 41 (ix x1))]) (st := []) Parser_isLetter_ok cq_X4_55 st_X4_isLetter (Nat.le_trans (by decide) hdd) rfl dX4_scan_37 rfl (Nat.le_of_ble_eq_true rfl) ?_
        obtain ⟨r25, e26, h⟩ := hC h
        refine AW.join (tgt := 126) (lv1 := [(0, rv z 4), (2, iv x2), (4, iv r25.1)]) (st1 := []) (g1 := r25.2) ?_ (fun J40 => ?_)
        · refine AW.iload 2 dX4_scan_126 rfl ?_
          refine AW.istore_n (lv1 := [(1, iv r25.1), (0, rv z 4), (2, iv x2), (4, iv r25.1)]) dX4_scan_128 (by decide) rfl ?_
          refine AW.iinc (lv1 := [(2, iv (x2 + 1)), (1, iv r25.1), (0, rv z 4), (4, iv r25.1)]) 2 dX4_scan_129 rfl (by decide) rfl ?_
          refine AW.goto (tgt := 9) dX4_scan_132 (by decide) ?_
          refine AW.sub (lv1 := [(0, rv z 4), (1, iv r25.1), (2, iv (x2 + 1))]) [2, 1, 0] rfl ?_
          exact (ih _ _ _ _ _ h).1 rfl
        replace h := e26
        refine AW.if_eq (tgt := 65) dX4_scan_40 (by decide) (fun c4 => ?_) (fun c4 => ?_)
        · replace h := hT h c4
          refine AW.iload_n 1 dX4_scan_65 rfl ?_
          refine AW.callSi (As := [iv (g 41 (ix x1))]) (st := []) Parser_isDigit_ok cq_X4_71 st_X4_isDigit (Nat.le_trans (by decide) hdd) rfl dX4_scan_66 rfl (Nat.le_of_ble_eq_true rfl) ?_
          refine AW.if_eq (tgt := 94) dX4_scan_69 (by decide) (fun c5 => ?_) (fun c5 => ?_)
          · replace h := hT h c5
            refine AW.iload_n 1 dX4_scan_94 rfl ?_
            refine AW.bipush dX4_scan_95 (by decide) (by decide) ?_
            refine AW.icmp_eq (tgt := 126) dX4_scan_97 (by decide) (fun c6 => ?_) (fun c6 => ?_)
            · replace h := hT h c6
              refine AW.sub (lv1 := [(0, rv z 4), (2, iv x2), (4, iv (x1 + 1))]) [2, 4, 0] rfl ?_
              cases h
              exact J40
            · replace h := hF h c6
              refine AW.iload_n 1 dX4_scan_100 rfl ?_
              refine AW.bipush dX4_scan_101 (by decide) (by decide) ?_
              refine AW.icmp_eq (tgt := 126) dX4_scan_103 (by decide) (fun c7 => ?_) (fun c7 => ?_)
              · replace h := hT h c7
                refine AW.sub (lv1 := [(0, rv z 4), (2, iv x2), (4, iv (x1 + 1))]) [2, 4, 0] rfl ?_
                cases h
                exact J40
              · replace h := hF h c7
                refine AW.aloadr_n 2 dX4_scan_106 rfl ?_
                refine AW.ldcS dX4_scan_107 sw_X4_80 ?_
                refine AW.iload_n 1 dX4_scan_109 rfl ?_
                refine AW.i2c dX4_scan_110 ?_
                refine AW.tIx cq_X4_82 (by decide) (Nat.le_trans (by decide) hdd) dX4_scan_111 (Nat.le_of_ble_eq_true rfl) ?_
                obtain ⟨t8, e9, h⟩ := hBe h
                refine AW.join (tgt := 122) (lv1 := [(4, iv (x1 + 1)), (3, iv (g 41 (ix x1))), (0, rv z 4), (1, iv x1), (2, iv x2)]) (st1 := [iv t8, rv z 4]) (g1 := g) ?_ (fun J114 => ?_)
                · refine AW.iload_n 3 dX4_scan_122 rfl ?_
                  obtain ⟨r10, e11, h⟩ := hC h
                  refine AW.callVv (As := [iv t8, iv x1]) (st := []) (Parser_add_ok e11) cq_X4_67 cr_4_X4_add (Nat.le_trans (by decide) hdd) rfl dX4_scan_123 rfl (Nat.le_of_ble_eq_true rfl) ?_
                  refine AW.sub (lv1 := [(0, rv z 4), (2, iv x2), (4, iv (x1 + 1))]) [2, 4, 0] rfl ?_
                  cases h
                  exact J40
                refine AW.if_lt (tgt := 121) dX4_scan_114 (by decide) (fun c12 => ?_) (fun c12 => ?_)
                · refine AW.iconst dX4_scan_121 ?_
                  exact AW.val (e9.trans (if_pos c12)) J114
                · refine AW.iload_n 1 dX4_scan_117 rfl ?_
                  refine AW.goto (tgt := 122) dX4_scan_118 (by decide) ?_
                  exact AW.val (e9.trans (if_neg c12)) J114
          · replace h := hF h c5
            refine AW.aloadr_n 2 dX4_scan_72 rfl ?_
            refine AW.iload_n 3 dX4_scan_73 rfl ?_
            obtain ⟨r13, e14, h⟩ := hC h
            refine AW.callVi (As := [iv x1]) (st := []) (Parser_endOfDigits_ok e14) cq_X4_74 cr_4_X4_endOfDigits (Nat.le_trans (by decide) hdd) rfl dX4_scan_74 rfl (Nat.le_of_ble_eq_true rfl) ?_
            refine AW.istore (lv1 := [(4, iv r13), (3, iv (g 41 (ix x1))), (0, rv z 4), (1, iv x1), (2, iv x2)]) dX4_scan_77 (by decide) rfl ?_
            refine AW.aloadr_n 2 dX4_scan_79 rfl ?_
            refine AW.aloadr_n 2 dX4_scan_80 rfl ?_
            refine AW.iload_n 3 dX4_scan_81 rfl ?_
            refine AW.iload 0 dX4_scan_82 rfl ?_
            obtain ⟨r15, e16, h⟩ := hC h
            refine AW.callVi (As := [iv x1, iv r13]) (st := [rv z 4]) (Parser_numberOf_ok e16) cq_X4_77 cr_4_X4_numberOf (Nat.le_trans (by decide) hdd) rfl dX4_scan_84 rfl (Nat.le_of_ble_eq_true rfl) ?_
            refine AW.iload_n 3 dX4_scan_87 rfl ?_
            obtain ⟨r17, e18, h⟩ := hC h
            refine AW.callVv (As := [iv r15, iv x1]) (st := []) (Parser_add_ok e18) cq_X4_67 cr_4_X4_add (Nat.le_trans (by decide) hdd) rfl dX4_scan_88 rfl (Nat.le_of_ble_eq_true rfl) ?_
            refine AW.goto (tgt := 126) dX4_scan_91 (by decide) ?_
            refine AW.sub (lv1 := [(0, rv z 4), (2, iv x2), (4, iv r13)]) [2, 4, 0] rfl ?_
            cases h
            exact J40
        · replace h := hF h c4
          refine AW.aloadr_n 2 dX4_scan_43 rfl ?_
          refine AW.iload_n 3 dX4_scan_44 rfl ?_
          obtain ⟨r19, e20, h⟩ := hC h
          refine AW.callVi (As := [iv x1]) (st := []) (Parser_endOfWord_ok e20) cq_X4_59 cr_4_X4_endOfWord (Nat.le_trans (by decide) hdd) rfl dX4_scan_45 rfl (Nat.le_of_ble_eq_true rfl) ?_
          refine AW.istore (lv1 := [(4, iv r19), (3, iv (g 41 (ix x1))), (0, rv z 4), (1, iv x1), (2, iv x2)]) dX4_scan_48 (by decide) rfl ?_
          refine AW.aloadr_n 2 dX4_scan_50 rfl ?_
          refine AW.aloadr_n 2 dX4_scan_51 rfl ?_
          refine AW.iload_n 3 dX4_scan_52 rfl ?_
          refine AW.iload 0 dX4_scan_53 rfl ?_
          obtain ⟨r21, e22, h⟩ := hC h
          refine AW.callVi (As := [iv x1, iv r19]) (st := [rv z 4]) (Parser_wordOf_ok e22) cq_X4_63 cr_4_X4_wordOf (Nat.le_trans (by decide) hdd) rfl dX4_scan_55 rfl (Nat.le_of_ble_eq_true rfl) ?_
          refine AW.iload_n 3 dX4_scan_58 rfl ?_
          obtain ⟨r23, e24, h⟩ := hC h
          refine AW.callVv (As := [iv r21, iv x1]) (st := []) (Parser_add_ok e24) cq_X4_67 cr_4_X4_add (Nat.le_trans (by decide) hdd) rfl dX4_scan_59 rfl (Nat.le_of_ble_eq_true rfl) ?_
          refine AW.goto (tgt := 126) dX4_scan_62 (by decide) ?_
          refine AW.sub (lv1 := [(0, rv z 4), (2, iv x2), (4, iv r19)]) [2, 4, 0] rfl ?_
          cases h
          exact J40
  · subst h9
    replace h := hF h (by decide)
    replace h := hT h rfl
    refine AW.aloadr_n 0 dX4_scan_135 rfl ?_
    refine AW.iconst dX4_scan_136 ?_
    refine AW.aloadr_n 0 dX4_scan_137 rfl ?_
    refine AW.getI af_X4_29_4 sr_4_2 dX4_scan_138 ?_
    obtain ⟨r1, e2, h⟩ := hC h
    refine AW.callVv (As := [iv 0, iv (g 4 2)]) (st := []) (Parser_add_ok e2) cq_X4_67 cr_4_X4_add (Nat.le_trans (by decide) hdd) rfl dX4_scan_141 rfl (Nat.le_of_ble_eq_true rfl) ?_
    exact AW.vret1 rfl dX4_scan_144 h rfl
theorem Parser_scan_ok {z : AZ} {g : AG} {r : Int × AG} (h : Parser_scan g = some r) : AMf z yX4_scan cX4_scan 5 none 7 [rv z 4] g r := by
  intro d hdd
  refine AM.of (by decide +kernel) (Nat.le_of_ble_eq_true rfl) ?_
  show AW z (RX4, cX4_scan, 5, none) d (QD none r) 0 [(0, rv z 4)] [] g
  unfold Parser_scan at h
  refine AW.aloadr_n 0 dX4_scan_0 rfl ?_
  refine AW.iconst dX4_scan_1 ?_
  obtain ⟨g1, e2, h⟩ := hBe h
  refine AW.putI ap_X4_52_4 sr_4_5 dX4_scan_2 e2 ?_
  refine AW.iconst dX4_scan_5 ?_
  refine AW.istore_n (lv1 := [(1, iv 0), (0, rv z 4)]) dX4_scan_6 (by decide) rfl ?_
  refine AW.iconst dX4_scan_7 ?_
  refine AW.istore_n (lv1 := [(2, iv 0), (1, iv 0), (0, rv z 4)]) dX4_scan_8 (by decide) rfl ?_
  refine AW.sub (lv1 := [(0, rv z 4), (1, iv 0), (2, iv 0)]) [2, 1, 0] rfl ?_
  exact (Parser_scan_b_ok hdd _ _ _ _ _ h).1 rfl
theorem Parser_goOn_ok {z : AZ} {g : AG} {r : Int × AG} (h : Parser_goOn g = some r) : AMf z yX4_goOn cX4_goOn 1 none 0 [rv z 4] g r := by
  intro d hdd
  refine AM.of (by decide +kernel) (Nat.le_of_ble_eq_true rfl) ?_
  show AW z (RX4, cX4_goOn, 1, none) d (QD none r) 0 [(0, rv z 4)] [] g
  unfold Parser_goOn at h
  refine AW.aloadr_n 0 dX4_goOn_0 rfl ?_
  refine AW.getI af_X4_35_4 sr_4_6 dX4_goOn_1 ?_
  refine AW.aloadr_n 0 dX4_goOn_4 rfl ?_
  refine AW.getI af_X4_52_4 sr_4_5 dX4_goOn_5 ?_
  refine AW.iconst dX4_goOn_8 ?_
  refine AW.isub dX4_goOn_9 ?_
  obtain ⟨r4, e5, h⟩ := hC h
  refine AW.join (tgt := 23) (lv1 := []) (st1 := []) (g1 := r4) ?_ (fun J10 => ?_)
  · exact AW.vret1 rfl dX4_goOn_23 h rfl
  replace h := e5
  refine AW.icmp_ge (tgt := 23) dX4_goOn_10 (by decide) (fun c1 => ?_) (fun c1 => ?_)
  · replace h := hT h c1
    refine AW.sub (lv1 := []) [] rfl ?_
    cases h
    exact J10
  · replace h := hF h c1
    refine AW.aloadr_n 0 dX4_goOn_13 rfl ?_
    refine AW.duprr dX4_goOn_14 ?_
    refine AW.getI af_X4_35_4 sr_4_6 dX4_goOn_15 ?_
    refine AW.iconst dX4_goOn_18 ?_
    refine AW.iadd dX4_goOn_19 ?_
    obtain ⟨g2, e3, h⟩ := hBe h
    refine AW.putI ap_X4_35_4 sr_4_6 dX4_goOn_20 e3 ?_
    refine AW.sub (lv1 := []) [] rfl ?_
    cases h
    exact J10
theorem Parser_fail_ok {z : AZ} {x1 : Int} {g : AG} {r : Int × AG} (h : Parser_fail x1 g = some r) : AMf z yX4_fail cX4_fail 2 none 0 [rv z 4, iv x1] g r := by
  intro d hdd
  refine AM.of (by decide +kernel) (Nat.le_of_ble_eq_true rfl) ?_
  show AW z (RX4, cX4_fail, 2, none) d (QD none r) 0 [(0, rv z 4), (1, iv x1)] [] g
  unfold Parser_fail at h
  refine AW.aloadr_n 0 dX4_fail_0 rfl ?_
  refine AW.getI af_X4_32_4 sr_4_7 dX4_fail_1 ?_
  obtain ⟨r7, e8, h⟩ := hC h
  refine AW.join (tgt := 25) (lv1 := []) (st1 := []) (g1 := r7) ?_ (fun J4 => ?_)
  · exact AW.vret1 rfl dX4_fail_25 h rfl
  replace h := e8
  refine AW.if_ne (tgt := 25) dX4_fail_4 (by decide) (fun c1 => ?_) (fun c1 => ?_)
  · replace h := hF h c1
    refine AW.sub (lv1 := []) [] rfl ?_
    cases h
    exact J4
  · replace h := hT h c1
    refine AW.aloadr_n 0 dX4_fail_7 rfl ?_
    refine AW.iload_n 1 dX4_fail_8 rfl ?_
    obtain ⟨g2, e3, h⟩ := hBe h
    refine AW.putI ap_X4_32_4 sr_4_7 dX4_fail_9 e3 ?_
    refine AW.aloadr_n 0 dX4_fail_12 rfl ?_
    refine AW.aloadr_n 0 dX4_fail_13 rfl ?_
    refine AW.getR af_X4_18_4 sr_4_4 dX4_fail_14 ?_
    refine AW.aloadr_n 0 dX4_fail_17 rfl ?_
    refine AW.getI af_X4_35_4 sr_4_6 dX4_fail_18 ?_
    obtain ⟨k4, h⟩ := hK h
    refine AW.iald kc_43 sk_43 k4 dX4_fail_21 ?_
    obtain ⟨g5, e6, h⟩ := hBe h
    refine AW.putI ap_X4_21_4 sr_4_8 dX4_fail_22 e6 ?_
    refine AW.sub (lv1 := []) [] rfl ?_
    cases h
    exact J4
theorem Rules_put_ok {z : AZ} {x1 : Int} {x2 : Int} {g : AG} {r : Int × AG} (h : Rules_put x1 x2 g = some r) : AMf z yX6_put cX6_put 3 none 0 [rv z 3, iv x1, iv x2] g r := by
  intro d hdd
  refine AM.of (by decide +kernel) (Nat.le_of_ble_eq_true rfl) ?_
  show AW z (RX6, cX6_put, 3, none) d (QD none r) 0 [(0, rv z 3), (1, iv x1), (2, iv x2)] [] g
  unfold Rules_put at h
  refine AW.aloadr_n 0 dX6_put_0 rfl ?_
  refine AW.getI af_X6_48_3 sr_3_2 dX6_put_1 ?_
  refine AW.sipush dX6_put_4 (by decide) (by decide) ?_
  obtain ⟨r10, e11, h⟩ := hC h
  refine AW.join (tgt := 40) (lv1 := []) (st1 := []) (g1 := r10) ?_ (fun J7 => ?_)
  · exact AW.vret1 rfl dX6_put_40 h rfl
  replace h := e11
  refine AW.icmp_ge (tgt := 40) dX6_put_7 (by decide) (fun c1 => ?_) (fun c1 => ?_)
  · replace h := hT h c1
    refine AW.sub (lv1 := []) [] rfl ?_
    cases h
    exact J7
  · replace h := hF h c1
    refine AW.aloadr_n 0 dX6_put_10 rfl ?_
    refine AW.getR af_X6_9_3 sr_3_0 dX6_put_11 ?_
    refine AW.aloadr_n 0 dX6_put_14 rfl ?_
    refine AW.getI af_X6_48_3 sr_3_2 dX6_put_15 ?_
    refine AW.iload_n 1 dX6_put_18 rfl ?_
    obtain ⟨k2, h⟩ := hK h
    obtain ⟨g3, e4, h⟩ := hBe h
    refine AW.iast kc_29 sk_29 k2 dX6_put_19 e4 ?_
    refine AW.aloadr_n 0 dX6_put_20 rfl ?_
    refine AW.getR af_X6_15_3 sr_3_1 dX6_put_21 ?_
    refine AW.aloadr_n 0 dX6_put_24 rfl ?_
    refine AW.getI af_X6_48_3 sr_3_2 dX6_put_25 ?_
    refine AW.iload_n 2 dX6_put_28 rfl ?_
    obtain ⟨k5, h⟩ := hK h
    obtain ⟨g6, e7, h⟩ := hBe h
    refine AW.iast kc_30 sk_30 k5 dX6_put_29 e7 ?_
    refine AW.aloadr_n 0 dX6_put_30 rfl ?_
    refine AW.duprr dX6_put_31 ?_
    refine AW.getI af_X6_48_3 sr_3_2 dX6_put_32 ?_
    refine AW.iconst dX6_put_35 ?_
    refine AW.iadd dX6_put_36 ?_
    obtain ⟨g8, e9, h⟩ := hBe h
    refine AW.putI ap_X6_48_3 sr_3_2 dX6_put_37 e9 ?_
    refine AW.sub (lv1 := []) [] rfl ?_
    cases h
    exact J7
set_option synthInstance.maxHeartbeats 2000000 in
theorem Parser_readUnit_b_ok {z : AZ} {d : Nat} (hdd : 1 ≤ d) {g : AG} : ∀ (r : Int × AG), Parser_readUnit_b g = some r → AW z (RX4, cX4_readUnit, 2, none) d (QD none r) 73 [(0, rv z 4)] [] g := by
  intro r h
  unfold Parser_readUnit_b at h
  refine AW.aloadr_n 0 dX4_readUnit_73 rfl ?_
  obtain ⟨r1, e2, h⟩ := hC h
  refine AW.callVv (As := []) (st := []) (Parser_goOn_ok e2) cq_X4_107 cr_4_X4_goOn (Nat.le_trans (by decide) hdd) rfl dX4_readUnit_74 rfl (Nat.le_of_ble_eq_true rfl) ?_
  exact AW.vret1 rfl dX4_readUnit_77 h rfl
theorem Parser_readUnit_ok {z : AZ} {g : AG} {r : Int × AG} (h : Parser_readUnit g = some r) : AMf z yX4_readUnit cX4_readUnit 2 none 1 [rv z 4] g r := by
  intro d hdd
  refine AM.of (by decide +kernel) (Nat.le_of_ble_eq_true rfl) ?_
  show AW z (RX4, cX4_readUnit, 2, none) d (QD none r) 0 [(0, rv z 4)] [] g
  unfold Parser_readUnit at h
  refine AW.aloadr_n 0 dX4_readUnit_0 rfl ?_
  refine AW.getR af_X4_15_4 sr_4_3 dX4_readUnit_1 ?_
  refine AW.aloadr_n 0 dX4_readUnit_4 rfl ?_
  refine AW.getI af_X4_35_4 sr_4_6 dX4_readUnit_5 ?_
  obtain ⟨k1, h⟩ := hK h
  refine AW.iald kc_42 sk_42 k1 dX4_readUnit_8 ?_
  refine AW.istore_n (lv1 := [(1, iv (g 42 (ix (g 4 6)))), (0, rv z 4)]) dX4_readUnit_9 (by decide) rfl ?_
  refine AW.aloadr_n 1 dX4_readUnit_10 rfl ?_
  refine AW.getI af_X4_32_4 sr_4_7 dX4_readUnit_11 ?_
  refine AW.if_eq (tgt := 18) dX4_readUnit_14 (by decide) (fun c2 => ?_) (fun c2 => ?_)
  · replace h := hT h c2
    refine AW.iload_n 0 dX4_readUnit_18 rfl ?_
    refine AW.sipush dX4_readUnit_19 (by decide) (by decide) ?_
    refine AW.icmp_lt (tgt := 41) dX4_readUnit_22 (by decide) (fun c3 => ?_) (fun c3 => ?_)
    · replace h := hT h c3
      refine AW.iload_n 0 dX4_readUnit_41 rfl ?_
      refine AW.bipush dX4_readUnit_42 (by decide) (by decide) ?_
      refine AW.bipush dX4_readUnit_44 (by decide) (by decide) ?_
      refine AW.callN0 (As := [iv (g 42 (ix (g 4 6))), iv 111, iv 119]) (st := []) X_within_ok ns_X4_87 in_X11 cd_X11_within st_X11_within (by decide) (Nat.le_trans (by decide) hdd) rfl (Nat.le_of_ble_eq_true rfl) dX4_readUnit_46 rfl ?_
      refine AW.if_eq (tgt := 67) dX4_readUnit_49 (by decide) (fun c4 => ?_) (fun c4 => ?_)
      · replace h := hT h c4
        refine AW.aloadr_n 1 dX4_readUnit_67 rfl ?_
        refine AW.iconst dX4_readUnit_68 ?_
        obtain ⟨r5, e6, h⟩ := hC h
        refine AW.callVv (As := [iv 1]) (st := []) (Parser_fail_ok e6) cq_X4_103 cr_4_X4_fail (Nat.le_trans (by decide) hdd) rfl dX4_readUnit_69 rfl (Nat.le_of_ble_eq_true rfl) ?_
        exact AW.vret1 rfl dX4_readUnit_72 h rfl
      · replace h := hF h c4
        refine AW.aloadr_n 1 dX4_readUnit_52 rfl ?_
        refine AW.getR af_X4_25_4 sr_4_0 dX4_readUnit_53 ?_
        refine AW.iconst dX4_readUnit_56 ?_
        refine AW.iload_n 0 dX4_readUnit_57 rfl ?_
        refine AW.bipush dX4_readUnit_58 (by decide) (by decide) ?_
        refine AW.isub dX4_readUnit_60 ?_
        obtain ⟨r7, e8, h⟩ := hC h
        refine AW.callVv (As := [iv 3, iv ((g 42 (ix (g 4 6))) - 111)]) (st := []) (Rules_put_ok e8) cq_X4_164 cr_3_X6_put (Nat.le_trans (by decide) hdd) rfl dX4_readUnit_61 rfl (Nat.le_of_ble_eq_true rfl) ?_
        refine AW.goto (tgt := 73) dX4_readUnit_64 (by decide) ?_
        refine AW.sub (lv1 := [(0, rv z 4)]) [1] rfl ?_
        exact Parser_readUnit_b_ok hdd _ h
    · replace h := hF h c3
      refine AW.aloadr_n 1 dX4_readUnit_25 rfl ?_
      refine AW.getR af_X4_25_4 sr_4_0 dX4_readUnit_26 ?_
      refine AW.iconst dX4_readUnit_29 ?_
      refine AW.iload_n 0 dX4_readUnit_30 rfl ?_
      refine AW.sipush dX4_readUnit_31 (by decide) (by decide) ?_
      refine AW.isub dX4_readUnit_34 ?_
      obtain ⟨r9, e10, h⟩ := hC h
      refine AW.callVv (As := [iv 2, iv ((g 42 (ix (g 4 6))) - 1000)]) (st := []) (Rules_put_ok e10) cq_X4_164 cr_3_X6_put (Nat.le_trans (by decide) hdd) rfl dX4_readUnit_35 rfl (Nat.le_of_ble_eq_true rfl) ?_
      refine AW.goto (tgt := 73) dX4_readUnit_38 (by decide) ?_
      refine AW.sub (lv1 := [(0, rv z 4)]) [1] rfl ?_
      exact Parser_readUnit_b_ok hdd _ h
  · replace h := hF h c2
    exact AW.vret1 rfl dX4_readUnit_17 h rfl
theorem Parser_is_ok {z : AZ} {x1 : Int} {g : AG} {r : Int} (h : Parser_is x1 g = some r) : AMf z yX4_is cX4_is 2 (some .boolean) 0 [rv z 4, iv x1] g (r, g) := by
  intro d hdd
  refine AM.of (by decide +kernel) (Nat.le_of_ble_eq_true rfl) ?_
  show AW z (RX4, cX4_is, 2, (some .boolean)) d (QD (some .boolean) (r, g)) 0 [(0, rv z 4), (1, iv x1)] [] g
  unfold Parser_is at h
  refine AW.aloadr_n 0 dX4_is_0 rfl ?_
  refine AW.getI af_X4_32_4 sr_4_7 dX4_is_1 ?_
  obtain ⟨r6, e7, h⟩ := hC h
  refine AW.join (tgt := 25) (lv1 := []) (st1 := [iv r6]) (g1 := g) ?_ (fun J4 => ?_)
  · obtain ⟨k8, h⟩ := hK h
    exact AW.zret2 rfl k8 dX4_is_25 h rfl
  replace h := e7
  refine AW.if_ne (tgt := 24) dX4_is_4 (by decide) (fun c1 => ?_) (fun c1 => ?_)
  · replace h := hF h c1
    refine AW.iconst dX4_is_24 ?_
    refine AW.sub (lv1 := []) [] rfl ?_
    cases h
    exact J4
  · replace h := hT h c1
    refine AW.aloadr_n 0 dX4_is_7 rfl ?_
    refine AW.getR af_X4_15_4 sr_4_3 dX4_is_8 ?_
    refine AW.aloadr_n 0 dX4_is_11 rfl ?_
    refine AW.getI af_X4_35_4 sr_4_6 dX4_is_12 ?_
    obtain ⟨k2, h⟩ := hK h
    refine AW.iald kc_42 sk_42 k2 dX4_is_15 ?_
    refine AW.iload_n 1 dX4_is_16 rfl ?_
    obtain ⟨t3, e4, h⟩ := hBe h
    refine AW.join (tgt := 25) (lv1 := [(0, rv z 4), (1, iv x1)]) (st1 := [iv t3]) (g1 := g) ?_ (fun J17 => ?_)
    · refine AW.sub (lv1 := []) [] rfl ?_
      cases h
      exact J4
    refine AW.icmp_ne (tgt := 24) dX4_is_17 (by decide) (fun c5 => ?_) (fun c5 => ?_)
    · refine AW.iconst dX4_is_24 ?_
      exact AW.val (e4.trans (if_neg c5)) J17
    · refine AW.iconst dX4_is_20 ?_
      refine AW.goto (tgt := 25) dX4_is_21 (by decide) ?_
      exact AW.val (e4.trans (if_pos c5)) J17
theorem Parser_readPart_ok {z : AZ} {g : AG} {r : Int × AG} (h : Parser_readPart g = some r) : AMf z yX4_readPart cX4_readPart 2 none 1 [rv z 4] g r := by
  intro d hdd
  refine AM.of (by decide +kernel) (Nat.le_of_ble_eq_true rfl) ?_
  show AW z (RX4, cX4_readPart, 2, none) d (QD none r) 0 [(0, rv z 4)] [] g
  unfold Parser_readPart at h
  refine AW.aloadr_n 0 dX4_readPart_0 rfl ?_
  refine AW.getR af_X4_15_4 sr_4_3 dX4_readPart_1 ?_
  refine AW.aloadr_n 0 dX4_readPart_4 rfl ?_
  refine AW.getI af_X4_35_4 sr_4_6 dX4_readPart_5 ?_
  obtain ⟨k1, h⟩ := hK h
  refine AW.iald kc_42 sk_42 k1 dX4_readPart_8 ?_
  refine AW.sipush dX4_readPart_9 (by decide) (by decide) ?_
  refine AW.isub dX4_readPart_12 ?_
  refine AW.istore_n (lv1 := [(1, iv ((g 42 (ix (g 4 6))) - 1000)), (0, rv z 4)]) dX4_readPart_13 (by decide) rfl ?_
  refine AW.iload_n 0 dX4_readPart_14 rfl ?_
  obtain ⟨r12, e13, h⟩ := hC h
  refine AW.join (tgt := 52) (lv1 := []) (st1 := []) (g1 := r12) ?_ (fun J15 => ?_)
  · exact AW.vret1 rfl dX4_readPart_52 h rfl
  replace h := e13
  refine AW.if_ge (tgt := 26) dX4_readPart_15 (by decide) (fun c2 => ?_) (fun c2 => ?_)
  · replace h := hT h c2
    refine AW.iload_n 0 dX4_readPart_26 rfl ?_
    refine AW.if_ne (tgt := 38) dX4_readPart_27 (by decide) (fun c3 => ?_) (fun c3 => ?_)
    · replace h := hF h c3
      refine AW.aloadr_n 1 dX4_readPart_38 rfl ?_
      refine AW.getR af_X4_25_4 sr_4_0 dX4_readPart_39 ?_
      refine AW.bipush dX4_readPart_42 (by decide) (by decide) ?_
      refine AW.iload_n 0 dX4_readPart_44 rfl ?_
      obtain ⟨r4, e5, h⟩ := hC h
      refine AW.callVv (As := [iv 47, iv ((g 42 (ix (g 4 6))) - 1000)]) (st := []) (Rules_put_ok e5) cq_X4_164 cr_3_X6_put (Nat.le_trans (by decide) hdd) rfl dX4_readPart_45 rfl (Nat.le_of_ble_eq_true rfl) ?_
      refine AW.aloadr_n 1 dX4_readPart_48 rfl ?_
      obtain ⟨r6, e7, h⟩ := hC h
      refine AW.callVv (As := []) (st := []) (Parser_goOn_ok e7) cq_X4_107 cr_4_X4_goOn (Nat.le_trans (by decide) hdd) rfl dX4_readPart_49 rfl (Nat.le_of_ble_eq_true rfl) ?_
      refine AW.sub (lv1 := []) [] rfl ?_
      cases h
      exact J15
    · replace h := hT h c3
      refine AW.aloadr_n 1 dX4_readPart_30 rfl ?_
      refine AW.iconst dX4_readPart_31 ?_
      obtain ⟨r8, e9, h⟩ := hC h
      refine AW.callVv (As := [iv 2]) (st := []) (Parser_fail_ok e9) cq_X4_103 cr_4_X4_fail (Nat.le_trans (by decide) hdd) rfl dX4_readPart_32 rfl (Nat.le_of_ble_eq_true rfl) ?_
      refine AW.goto (tgt := 52) dX4_readPart_35 (by decide) ?_
      refine AW.sub (lv1 := []) [] rfl ?_
      cases h
      exact J15
  · replace h := hF h c2
    refine AW.aloadr_n 1 dX4_readPart_18 rfl ?_
    refine AW.iconst dX4_readPart_19 ?_
    obtain ⟨r10, e11, h⟩ := hC h
    refine AW.callVv (As := [iv 1]) (st := []) (Parser_fail_ok e11) cq_X4_103 cr_4_X4_fail (Nat.le_trans (by decide) hdd) rfl dX4_readPart_20 rfl (Nat.le_of_ble_eq_true rfl) ?_
    refine AW.goto (tgt := 52) dX4_readPart_23 (by decide) ?_
    refine AW.sub (lv1 := []) [] rfl ?_
    cases h
    exact J15
set_option synthInstance.maxHeartbeats 2000000 in
theorem Parser_readProduct_b_ok {z : AZ} {d : Nat} (hdd : 2 ≤ d) : ∀ (tag : Nat) (x1 : Int) (g : AG) (r : Int × AG), Parser_readProduct_b tag x1 g = some r → (tag = 1 → AW z (RX4, cX4_readProduct, 3, none) d (QD none r) 6 [(0, rv z 4), (1, iv x1)] [] g) ∧ (tag = 2 → AW z (RX4, cX4_readProduct, 3, none) d (QD none r) 31 [(0, rv z 4), (1, iv x1)] [] g) := by
  refine Parser_readProduct_b.partial_correctness (fun tag x1 g r => (tag = 1 → AW z (RX4, cX4_readProduct, 3, none) d (QD none r) 6 [(0, rv z 4), (1, iv x1)] [] g) ∧ (tag = 2 → AW z (RX4, cX4_readProduct, 3, none) d (QD none r) 31 [(0, rv z 4), (1, iv x1)] [] g)) ?_
  intro fb9 ih tag x1 g r h
  refine ⟨fun h9 => ?_, fun h9 => ?_⟩
  · subst h9
    replace h := hT h rfl
    refine AW.iload_n 1 dX4_readProduct_6 rfl ?_
    refine AW.sipush dX4_readProduct_7 (by decide) (by decide) ?_
    refine AW.icmp_ge (tgt := 73) dX4_readProduct_10 (by decide) (fun c1 => ?_) (fun c1 => ?_)
    · replace h := hT h c1
      exact AW.vret1 rfl dX4_readProduct_73 h rfl
    · replace h := hF h c1
      refine AW.aloadr_n 0 dX4_readProduct_13 rfl ?_
      refine AW.bipush dX4_readProduct_14 (by decide) (by decide) ?_
      obtain ⟨r2, e3, h⟩ := hC h
      refine AW.callVi (As := [iv 42]) (st := []) (Parser_is_ok e3) cq_X4_137 cr_4_X4_is (Nat.le_trans (by decide) hdd) rfl dX4_readProduct_16 rfl (Nat.le_of_ble_eq_true rfl) ?_
      refine AW.if_ne (tgt := 31) dX4_readProduct_19 (by decide) (fun c4 => ?_) (fun c4 => ?_)
      · replace h := hF h c4
        exact (ih _ _ _ _ h).2 rfl
      · replace h := hT h c4
        refine AW.aloadr_n 0 dX4_readProduct_22 rfl ?_
        refine AW.bipush dX4_readProduct_23 (by decide) (by decide) ?_
        obtain ⟨r5, e6, h⟩ := hC h
        refine AW.callVi (As := [iv 47]) (st := []) (Parser_is_ok e6) cq_X4_137 cr_4_X4_is (Nat.le_trans (by decide) hdd) rfl dX4_readProduct_25 rfl (Nat.le_of_ble_eq_true rfl) ?_
        refine AW.if_eq (tgt := 73) dX4_readProduct_28 (by decide) (fun c7 => ?_) (fun c7 => ?_)
        · replace h := hT h c7
          exact AW.vret1 rfl dX4_readProduct_73 h rfl
        · replace h := hF h c7
          exact (ih _ _ _ _ h).2 rfl
  · subst h9
    replace h := hF h (by decide)
    replace h := hT h rfl
    refine AW.aloadr_n 0 dX4_readProduct_31 rfl ?_
    refine AW.bipush dX4_readProduct_32 (by decide) (by decide) ?_
    obtain ⟨r1, e2, h⟩ := hC h
    refine AW.callVi (As := [iv 42]) (st := []) (Parser_is_ok e2) cq_X4_137 cr_4_X4_is (Nat.le_trans (by decide) hdd) rfl dX4_readProduct_34 rfl (Nat.le_of_ble_eq_true rfl) ?_
    refine AW.istore_n (lv1 := [(2, iv r1), (0, rv z 4), (1, iv x1)]) dX4_readProduct_37 (by decide) rfl ?_
    refine AW.aloadr_n 1 dX4_readProduct_38 rfl ?_
    obtain ⟨r3, e4, h⟩ := hC h
    refine AW.callVv (As := []) (st := []) (Parser_goOn_ok e4) cq_X4_107 cr_4_X4_goOn (Nat.le_trans (by decide) hdd) rfl dX4_readProduct_39 rfl (Nat.le_of_ble_eq_true rfl) ?_
    refine AW.iload_n 0 dX4_readProduct_42 rfl ?_
    obtain ⟨r12, e13, h⟩ := hC h
    refine AW.join (tgt := 67) (lv1 := [(0, rv z 4), (1, iv x1)]) (st1 := []) (g1 := r12) ?_ (fun J43 => ?_)
    · refine AW.iinc (lv1 := [(1, iv (x1 + 1)), (0, rv z 4)]) 1 dX4_readProduct_67 rfl (by decide) rfl ?_
      refine AW.goto (tgt := 6) dX4_readProduct_70 (by decide) ?_
      refine AW.sub (lv1 := [(0, rv z 4), (1, iv (x1 + 1))]) [1, 0] rfl ?_
      exact (ih _ _ _ _ h).1 rfl
    replace h := e13
    refine AW.if_eq (tgt := 63) dX4_readProduct_43 (by decide) (fun c5 => ?_) (fun c5 => ?_)
    · replace h := hT h c5
      refine AW.aloadr_n 1 dX4_readProduct_63 rfl ?_
      obtain ⟨r6, e7, h⟩ := hC h
      refine AW.callVv (As := []) (st := []) (Parser_readPart_ok e7) cq_X4_182 cr_4_X4_readPart (Nat.le_trans (by decide) hdd) rfl dX4_readProduct_64 rfl (Nat.le_of_ble_eq_true rfl) ?_
      refine AW.sub (lv1 := [(0, rv z 4), (1, iv x1)]) [1, 2] rfl ?_
      cases h
      exact J43
    · replace h := hF h c5
      refine AW.aloadr_n 1 dX4_readProduct_46 rfl ?_
      obtain ⟨r8, e9, h⟩ := hC h
      refine AW.callVv (As := []) (st := []) (Parser_readUnit_ok e9) cq_X4_179 cr_4_X4_readUnit (Nat.le_trans (by decide) hdd) rfl dX4_readProduct_47 rfl (Nat.le_of_ble_eq_true rfl) ?_
      refine AW.aloadr_n 1 dX4_readProduct_50 rfl ?_
      refine AW.getR af_X4_25_4 sr_4_0 dX4_readProduct_51 ?_
      refine AW.bipush dX4_readProduct_54 (by decide) (by decide) ?_
      refine AW.iconst dX4_readProduct_56 ?_
      obtain ⟨r10, e11, h⟩ := hC h
      refine AW.callVv (As := [iv 42, iv 0]) (st := []) (Rules_put_ok e11) cq_X4_164 cr_3_X6_put (Nat.le_trans (by decide) hdd) rfl dX4_readProduct_57 rfl (Nat.le_of_ble_eq_true rfl) ?_
      refine AW.goto (tgt := 67) dX4_readProduct_60 (by decide) ?_
      refine AW.sub (lv1 := [(0, rv z 4), (1, iv x1)]) [1, 2] rfl ?_
      cases h
      exact J43
theorem Parser_readProduct_ok {z : AZ} {g : AG} {r : Int × AG} (h : Parser_readProduct g = some r) : AMf z yX4_readProduct cX4_readProduct 3 none 2 [rv z 4] g r := by
  intro d hdd
  refine AM.of (by decide +kernel) (Nat.le_of_ble_eq_true rfl) ?_
  show AW z (RX4, cX4_readProduct, 3, none) d (QD none r) 0 [(0, rv z 4)] [] g
  unfold Parser_readProduct at h
  refine AW.aloadr_n 0 dX4_readProduct_0 rfl ?_
  obtain ⟨r1, e2, h⟩ := hC h
  refine AW.callVv (As := []) (st := []) (Parser_readUnit_ok e2) cq_X4_179 cr_4_X4_readUnit (Nat.le_trans (by decide) hdd) rfl dX4_readProduct_1 rfl (Nat.le_of_ble_eq_true rfl) ?_
  refine AW.iconst dX4_readProduct_4 ?_
  refine AW.istore_n (lv1 := [(1, iv 0), (0, rv z 4)]) dX4_readProduct_5 (by decide) rfl ?_
  refine AW.sub (lv1 := [(0, rv z 4), (1, iv 0)]) [1, 0] rfl ?_
  exact (Parser_readProduct_b_ok hdd _ _ _ _ h).1 rfl
set_option synthInstance.maxHeartbeats 2000000 in
theorem Parser_readSum_b_ok {z : AZ} {d : Nat} (hdd : 3 ≤ d) : ∀ (tag : Nat) (x1 : Int) (g : AG) (r : Int × AG), Parser_readSum_b tag x1 g = some r → (tag = 1 → AW z (RX4, cX4_readSum, 3, none) d (QD none r) 6 [(0, rv z 4), (1, iv x1)] [] g) ∧ (tag = 2 → AW z (RX4, cX4_readSum, 3, none) d (QD none r) 31 [(0, rv z 4), (1, iv x1)] [] g) := by
  refine Parser_readSum_b.partial_correctness (fun tag x1 g r => (tag = 1 → AW z (RX4, cX4_readSum, 3, none) d (QD none r) 6 [(0, rv z 4), (1, iv x1)] [] g) ∧ (tag = 2 → AW z (RX4, cX4_readSum, 3, none) d (QD none r) 31 [(0, rv z 4), (1, iv x1)] [] g)) ?_
  intro fb9 ih tag x1 g r h
  refine ⟨fun h9 => ?_, fun h9 => ?_⟩
  · subst h9
    replace h := hT h rfl
    refine AW.iload_n 1 dX4_readSum_6 rfl ?_
    refine AW.sipush dX4_readSum_7 (by decide) (by decide) ?_
    refine AW.icmp_ge (tgt := 64) dX4_readSum_10 (by decide) (fun c1 => ?_) (fun c1 => ?_)
    · replace h := hT h c1
      exact AW.vret1 rfl dX4_readSum_64 h rfl
    · replace h := hF h c1
      refine AW.aloadr_n 0 dX4_readSum_13 rfl ?_
      refine AW.bipush dX4_readSum_14 (by decide) (by decide) ?_
      obtain ⟨r2, e3, h⟩ := hC h
      refine AW.callVi (As := [iv 43]) (st := []) (Parser_is_ok e3) cq_X4_137 cr_4_X4_is (Nat.le_trans (by decide) hdd) rfl dX4_readSum_16 rfl (Nat.le_of_ble_eq_true rfl) ?_
      refine AW.if_ne (tgt := 31) dX4_readSum_19 (by decide) (fun c4 => ?_) (fun c4 => ?_)
      · replace h := hF h c4
        exact (ih _ _ _ _ h).2 rfl
      · replace h := hT h c4
        refine AW.aloadr_n 0 dX4_readSum_22 rfl ?_
        refine AW.bipush dX4_readSum_23 (by decide) (by decide) ?_
        obtain ⟨r5, e6, h⟩ := hC h
        refine AW.callVi (As := [iv 45]) (st := []) (Parser_is_ok e6) cq_X4_137 cr_4_X4_is (Nat.le_trans (by decide) hdd) rfl dX4_readSum_25 rfl (Nat.le_of_ble_eq_true rfl) ?_
        refine AW.if_eq (tgt := 64) dX4_readSum_28 (by decide) (fun c7 => ?_) (fun c7 => ?_)
        · replace h := hT h c7
          exact AW.vret1 rfl dX4_readSum_64 h rfl
        · replace h := hF h c7
          exact (ih _ _ _ _ h).2 rfl
  · subst h9
    replace h := hF h (by decide)
    replace h := hT h rfl
    refine AW.aloadr_n 0 dX4_readSum_31 rfl ?_
    refine AW.getR af_X4_15_4 sr_4_3 dX4_readSum_32 ?_
    refine AW.aloadr_n 0 dX4_readSum_35 rfl ?_
    refine AW.getI af_X4_35_4 sr_4_6 dX4_readSum_36 ?_
    obtain ⟨k1, h⟩ := hK h
    refine AW.iald kc_42 sk_42 k1 dX4_readSum_39 ?_
    refine AW.istore_n (lv1 := [(2, iv (g 42 (ix (g 4 6)))), (0, rv z 4), (1, iv x1)]) dX4_readSum_40 (by decide) rfl ?_
    refine AW.aloadr_n 1 dX4_readSum_41 rfl ?_
    obtain ⟨r2, e3, h⟩ := hC h
    refine AW.callVv (As := []) (st := []) (Parser_goOn_ok e3) cq_X4_107 cr_4_X4_goOn (Nat.le_trans (by decide) hdd) rfl dX4_readSum_42 rfl (Nat.le_of_ble_eq_true rfl) ?_
    refine AW.aloadr_n 1 dX4_readSum_45 rfl ?_
    obtain ⟨r4, e5, h⟩ := hC h
    refine AW.callVv (As := []) (st := []) (Parser_readProduct_ok e5) cq_X4_176 cr_4_X4_readProduct (Nat.le_trans (by decide) hdd) rfl dX4_readSum_46 rfl (Nat.le_of_ble_eq_true rfl) ?_
    refine AW.aloadr_n 1 dX4_readSum_49 rfl ?_
    refine AW.getR af_X4_25_4 sr_4_0 dX4_readSum_50 ?_
    refine AW.iload_n 0 dX4_readSum_53 rfl ?_
    refine AW.iconst dX4_readSum_54 ?_
    obtain ⟨r6, e7, h⟩ := hC h
    refine AW.callVv (As := [iv (g 42 (ix (g 4 6))), iv 0]) (st := []) (Rules_put_ok e7) cq_X4_164 cr_3_X6_put (Nat.le_trans (by decide) hdd) rfl dX4_readSum_55 rfl (Nat.le_of_ble_eq_true rfl) ?_
    refine AW.iinc (lv1 := [(1, iv (x1 + 1)), (2, iv (g 42 (ix (g 4 6)))), (0, rv z 4)]) 2 dX4_readSum_58 rfl (by decide) rfl ?_
    refine AW.goto (tgt := 6) dX4_readSum_61 (by decide) ?_
    refine AW.sub (lv1 := [(0, rv z 4), (1, iv (x1 + 1))]) [2, 0] rfl ?_
    exact (ih _ _ _ _ h).1 rfl
theorem Parser_readSum_ok {z : AZ} {g : AG} {r : Int × AG} (h : Parser_readSum g = some r) : AMf z yX4_readSum cX4_readSum 3 none 3 [rv z 4] g r := by
  intro d hdd
  refine AM.of (by decide +kernel) (Nat.le_of_ble_eq_true rfl) ?_
  show AW z (RX4, cX4_readSum, 3, none) d (QD none r) 0 [(0, rv z 4)] [] g
  unfold Parser_readSum at h
  refine AW.aloadr_n 0 dX4_readSum_0 rfl ?_
  obtain ⟨r1, e2, h⟩ := hC h
  refine AW.callVv (As := []) (st := []) (Parser_readProduct_ok e2) cq_X4_176 cr_4_X4_readProduct (Nat.le_trans (by decide) hdd) rfl dX4_readSum_1 rfl (Nat.le_of_ble_eq_true rfl) ?_
  refine AW.iconst dX4_readSum_4 ?_
  refine AW.istore_n (lv1 := [(1, iv 0), (0, rv z 4)]) dX4_readSum_5 (by decide) rfl ?_
  refine AW.sub (lv1 := [(0, rv z 4), (1, iv 0)]) [1, 0] rfl ?_
  exact (Parser_readSum_b_ok hdd _ _ _ _ h).1 rfl
theorem Parser_numberUpTo_ok {z : AZ} {x1 : Int} {g : AG} {r : Int × AG} (h : Parser_numberUpTo x1 g = some r) : AMf z yX4_numberUpTo cX4_numberUpTo 3 (some .int) 1 [rv z 4, iv x1] g r := by
  intro d hdd
  refine AM.of (by decide +kernel) (Nat.le_of_ble_eq_true rfl) ?_
  show AW z (RX4, cX4_numberUpTo, 3, (some .int)) d (QD (some .int) r) 0 [(0, rv z 4), (1, iv x1)] [] g
  unfold Parser_numberUpTo at h
  refine AW.aloadr_n 0 dX4_numberUpTo_0 rfl ?_
  refine AW.getR af_X4_15_4 sr_4_3 dX4_numberUpTo_1 ?_
  refine AW.aloadr_n 0 dX4_numberUpTo_4 rfl ?_
  refine AW.getI af_X4_35_4 sr_4_6 dX4_numberUpTo_5 ?_
  obtain ⟨k1, h⟩ := hK h
  refine AW.iald kc_42 sk_42 k1 dX4_numberUpTo_8 ?_
  refine AW.sipush dX4_numberUpTo_9 (by decide) (by decide) ?_
  refine AW.isub dX4_numberUpTo_12 ?_
  refine AW.istore_n (lv1 := [(2, iv ((g 42 (ix (g 4 6))) - 1000)), (0, rv z 4), (1, iv x1)]) dX4_numberUpTo_13 (by decide) rfl ?_
  refine AW.iload_n 0 dX4_numberUpTo_14 rfl ?_
  obtain ⟨r8, e9, h⟩ := hC h
  refine AW.join (tgt := 36) (lv1 := [(0, rv z 4), (2, iv ((g 42 (ix (g 4 6))) - 1000))]) (st1 := []) (g1 := r8) ?_ (fun J15 => ?_)
  · refine AW.aloadr_n 0 dX4_numberUpTo_36 rfl ?_
    refine AW.getI af_X4_32_4 sr_4_7 dX4_numberUpTo_37 ?_
    refine AW.if_eq (tgt := 45) dX4_numberUpTo_40 (by decide) (fun c10 => ?_) (fun c10 => ?_)
    · replace h := hT h c10
      refine AW.aloadr_n 0 dX4_numberUpTo_45 rfl ?_
      obtain ⟨r11, e12, h⟩ := hC h
      refine AW.callVv (As := []) (st := []) (Parser_goOn_ok e12) cq_X4_107 cr_4_X4_goOn (Nat.le_trans (by decide) hdd) rfl dX4_numberUpTo_46 rfl (Nat.le_of_ble_eq_true rfl) ?_
      refine AW.iload_n 1 dX4_numberUpTo_49 rfl ?_
      exact AW.iret1 rfl dX4_numberUpTo_50 h rfl
    · replace h := hF h c10
      refine AW.iconst dX4_numberUpTo_43 ?_
      exact AW.iret1 rfl dX4_numberUpTo_44 h rfl
  replace h := e9
  refine AW.if_ge (tgt := 26) dX4_numberUpTo_15 (by decide) (fun c2 => ?_) (fun c2 => ?_)
  · replace h := hT h c2
    refine AW.iload_n 0 dX4_numberUpTo_26 rfl ?_
    refine AW.iload_n 2 dX4_numberUpTo_27 rfl ?_
    refine AW.icmp_le (tgt := 36) dX4_numberUpTo_28 (by decide) (fun c3 => ?_) (fun c3 => ?_)
    · replace h := hT h c3
      refine AW.sub (lv1 := [(0, rv z 4), (2, iv ((g 42 (ix (g 4 6))) - 1000))]) [1, 0] rfl ?_
      cases h
      exact J15
    · replace h := hF h c3
      refine AW.aloadr_n 1 dX4_numberUpTo_31 rfl ?_
      refine AW.iconst dX4_numberUpTo_32 ?_
      obtain ⟨r4, e5, h⟩ := hC h
      refine AW.callVv (As := [iv 2]) (st := []) (Parser_fail_ok e5) cq_X4_103 cr_4_X4_fail (Nat.le_trans (by decide) hdd) rfl dX4_numberUpTo_33 rfl (Nat.le_of_ble_eq_true rfl) ?_
      refine AW.sub (lv1 := [(0, rv z 4), (2, iv ((g 42 (ix (g 4 6))) - 1000))]) [1, 0] rfl ?_
      cases h
      exact J15
  · replace h := hF h c2
    refine AW.aloadr_n 1 dX4_numberUpTo_18 rfl ?_
    refine AW.iconst dX4_numberUpTo_19 ?_
    obtain ⟨r6, e7, h⟩ := hC h
    refine AW.callVv (As := [iv 1]) (st := []) (Parser_fail_ok e7) cq_X4_103 cr_4_X4_fail (Nat.le_trans (by decide) hdd) rfl dX4_numberUpTo_20 rfl (Nat.le_of_ble_eq_true rfl) ?_
    refine AW.goto (tgt := 36) dX4_numberUpTo_23 (by decide) ?_
    refine AW.sub (lv1 := [(0, rv z 4), (2, iv ((g 42 (ix (g 4 6))) - 1000))]) [1, 0] rfl ?_
    cases h
    exact J15
theorem Rules_hasTunnel_3_ok {z : AZ} {x1 : Int} {g : AG} : AMf z yX6_hasTunnel cX6_hasTunnel 2 (some .boolean) 0 [rv z 3, iv x1] g ((Rules_hasTunnel_3 x1 g), g) := by
  intro d hdd
  refine AM.of (by decide +kernel) (Nat.le_of_ble_eq_true rfl) ?_
  show AW z (RX6, cX6_hasTunnel, 2, (some .boolean)) d (QD (some .boolean) ((Rules_hasTunnel_3 x1 g), g)) 0 [(0, rv z 3), (1, iv x1)] [] g
  refine AW.aloadr_n 0 dX6_hasTunnel_0 rfl ?_
  refine AW.getI af_X6_55_3 sr_3_10 dX6_hasTunnel_1 ?_
  refine AW.iload_n 1 dX6_hasTunnel_4 rfl ?_
  refine AW.ishr dX6_hasTunnel_5 ?_
  refine AW.iconst dX6_hasTunnel_6 ?_
  refine AW.iand dX6_hasTunnel_7 ?_
  refine AW.join (tgt := 16) (lv1 := [(0, rv z 3), (1, iv x1)]) (st1 := [iv (if nw (andI (shrI (g 3 10) x1) 1) = 0 then 0 else 1)]) (g1 := g) ?_ (fun J8 => ?_)
  · exact AW.zret rfl (by (repeat' split) <;> first | exact Or.inl rfl | exact Or.inr rfl) dX6_hasTunnel_16 ⟨congrArg (fun v => some (iv v)) (show Rules_hasTunnel_3 x1 g = (if nw (andI (shrI (g 3 10) x1) 1) = 0 then 0 else 1) from rfl).symm, rfl⟩
  refine AW.if_eq (tgt := 15) dX6_hasTunnel_8 (by decide) (fun c1 => ?_) (fun c1 => ?_)
  · refine AW.iconst dX6_hasTunnel_15 ?_
    exact AW.val (if_pos c1) J8
  · refine AW.iconst dX6_hasTunnel_11 ?_
    refine AW.goto (tgt := 16) dX6_hasTunnel_12 (by decide) ?_
    exact AW.val (if_neg c1) J8
set_option synthInstance.maxHeartbeats 2000000 in
theorem Parser_readTunnel_b_ok {z : AZ} {d : Nat} (hdd : 2 ≤ d) {x1 : Int} {g : AG} : ∀ (r : Int × AG), Parser_readTunnel_b x1 g = some r → AW z (RX4, cX4_readTunnel, 3, none) d (QD none r) 31 [(0, rv z 4), (1, iv x1)] [] g := by
  intro r h
  unfold Parser_readTunnel_b at h
  refine AW.aloadr_n 0 dX4_readTunnel_31 rfl ?_
  refine AW.bipush dX4_readTunnel_32 (by decide) (by decide) ?_
  obtain ⟨r1, e2, h⟩ := hC h
  refine AW.callVi (As := [iv 105]) (st := []) (Parser_is_ok e2) cq_X4_137 cr_4_X4_is (Nat.le_trans (by decide) hdd) rfl dX4_readTunnel_34 rfl (Nat.le_of_ble_eq_true rfl) ?_
  obtain ⟨t3, e4, h⟩ := hBe h
  refine AW.join (tgt := 48) (lv1 := [(0, rv z 4), (1, iv x1)]) (st1 := [iv t3]) (g1 := g) ?_ (fun J37 => ?_)
  · refine AW.istore_n (lv1 := [(2, iv t3), (0, rv z 4), (1, iv x1)]) dX4_readTunnel_48 (by decide) rfl ?_
    refine AW.aloadr_n 1 dX4_readTunnel_49 rfl ?_
    refine AW.getR af_X4_25_4 sr_4_0 dX4_readTunnel_50 ?_
    refine AW.iload_n 0 dX4_readTunnel_53 rfl ?_
    refine AW.callVi (As := [iv t3]) (st := []) Rules_hasTunnel_3_ok cq_X4_149 cr_3_X6_hasTunnel (Nat.le_trans (by decide) hdd) rfl dX4_readTunnel_54 rfl (Nat.le_of_ble_eq_true rfl) ?_
    refine AW.if_eq (tgt := 66) dX4_readTunnel_57 (by decide) (fun c5 => ?_) (fun c5 => ?_)
    · replace h := hT h c5
      refine AW.aloadr_n 1 dX4_readTunnel_66 rfl ?_
      obtain ⟨r6, e7, h⟩ := hC h
      refine AW.callVv (As := []) (st := []) (Parser_goOn_ok e7) cq_X4_107 cr_4_X4_goOn (Nat.le_trans (by decide) hdd) rfl dX4_readTunnel_67 rfl (Nat.le_of_ble_eq_true rfl) ?_
      refine AW.aloadr_n 1 dX4_readTunnel_70 rfl ?_
      refine AW.getR af_X4_25_4 sr_4_0 dX4_readTunnel_71 ?_
      refine AW.duprr dX4_readTunnel_74 ?_
      refine AW.getI af_X4_152_3 sr_3_10 dX4_readTunnel_75 ?_
      refine AW.iconst dX4_readTunnel_78 ?_
      refine AW.iload_n 0 dX4_readTunnel_79 rfl ?_
      refine AW.ishl dX4_readTunnel_80 ?_
      refine AW.ior dX4_readTunnel_81 ?_
      obtain ⟨g8, e9, h⟩ := hBe h
      refine AW.putI ap_X4_152_3 sr_3_10 dX4_readTunnel_82 e9 ?_
      refine AW.aloadr_n 1 dX4_readTunnel_85 rfl ?_
      refine AW.getR af_X4_25_4 sr_4_0 dX4_readTunnel_86 ?_
      refine AW.getR af_X4_155_3 sr_3_11 dX4_readTunnel_89 ?_
      refine AW.iload_n 0 dX4_readTunnel_92 rfl ?_
      refine AW.aloadr_n 1 dX4_readTunnel_93 rfl ?_
      refine AW.bipush dX4_readTunnel_94 (by decide) (by decide) ?_
      obtain ⟨r10, e11, h⟩ := hC h
      refine AW.callVi (As := [iv 24]) (st := [iv t3, rv z 37]) (Parser_numberUpTo_ok e11) cq_X4_125 cr_4_X4_numberUpTo (Nat.le_trans (by decide) hdd) rfl dX4_readTunnel_96 rfl (Nat.le_of_ble_eq_true rfl) ?_
      obtain ⟨k12, h⟩ := hK h
      obtain ⟨g13, e14, h⟩ := hBe h
      refine AW.iast kc_37 sk_37 k12 dX4_readTunnel_99 e14 ?_
      refine AW.aloadr_n 1 dX4_readTunnel_100 rfl ?_
      refine AW.getR af_X4_25_4 sr_4_0 dX4_readTunnel_101 ?_
      refine AW.getR af_X4_158_3 sr_3_12 dX4_readTunnel_104 ?_
      refine AW.iload_n 0 dX4_readTunnel_107 rfl ?_
      refine AW.aloadr_n 1 dX4_readTunnel_108 rfl ?_
      refine AW.bipush dX4_readTunnel_109 (by decide) (by decide) ?_
      obtain ⟨r15, e16, h⟩ := hC h
      refine AW.callVi (As := [iv 24]) (st := [iv t3, rv z 38]) (Parser_numberUpTo_ok e16) cq_X4_125 cr_4_X4_numberUpTo (Nat.le_trans (by decide) hdd) rfl dX4_readTunnel_111 rfl (Nat.le_of_ble_eq_true rfl) ?_
      obtain ⟨g17, e18, h⟩ := hBe h
      refine AW.iast kc_38 sk_38 k12 dX4_readTunnel_114 e18 ?_
      exact AW.vret1 rfl dX4_readTunnel_115 h rfl
    · replace h := hF h c5
      refine AW.aloadr_n 1 dX4_readTunnel_60 rfl ?_
      refine AW.iconst dX4_readTunnel_61 ?_
      obtain ⟨r19, e20, h⟩ := hC h
      refine AW.callVv (As := [iv 3]) (st := []) (Parser_fail_ok e20) cq_X4_103 cr_4_X4_fail (Nat.le_trans (by decide) hdd) rfl dX4_readTunnel_62 rfl (Nat.le_of_ble_eq_true rfl) ?_
      exact AW.vret1 rfl dX4_readTunnel_65 h rfl
  refine AW.if_eq (tgt := 44) dX4_readTunnel_37 (by decide) (fun c21 => ?_) (fun c21 => ?_)
  · refine AW.bipush dX4_readTunnel_44 (by decide) (by decide) ?_
    refine AW.iload_n 1 dX4_readTunnel_46 rfl ?_
    refine AW.iadd dX4_readTunnel_47 ?_
    exact AW.val (e4.trans (if_pos c21)) J37
  · refine AW.iload_n 1 dX4_readTunnel_40 rfl ?_
    refine AW.goto (tgt := 48) dX4_readTunnel_41 (by decide) ?_
    exact AW.val (e4.trans (if_neg c21)) J37
theorem Parser_readTunnel_ok {z : AZ} {g : AG} {r : Int × AG} (h : Parser_readTunnel g = some r) : AMf z yX4_readTunnel cX4_readTunnel 3 none 2 [rv z 4] g r := by
  intro d hdd
  refine AM.of (by decide +kernel) (Nat.le_of_ble_eq_true rfl) ?_
  show AW z (RX4, cX4_readTunnel, 3, none) d (QD none r) 0 [(0, rv z 4)] [] g
  unfold Parser_readTunnel at h
  refine AW.aloadr_n 0 dX4_readTunnel_0 rfl ?_
  refine AW.bipush dX4_readTunnel_1 (by decide) (by decide) ?_
  obtain ⟨r1, e2, h⟩ := hC h
  refine AW.callVi (As := [iv 14]) (st := []) (Parser_numberUpTo_ok e2) cq_X4_125 cr_4_X4_numberUpTo (Nat.le_trans (by decide) hdd) rfl dX4_readTunnel_3 rfl (Nat.le_of_ble_eq_true rfl) ?_
  refine AW.istore_n (lv1 := [(1, iv r1.1), (0, rv z 4)]) dX4_readTunnel_6 (by decide) rfl ?_
  refine AW.aloadr_n 1 dX4_readTunnel_7 rfl ?_
  refine AW.bipush dX4_readTunnel_8 (by decide) (by decide) ?_
  obtain ⟨r3, e4, h⟩ := hC h
  refine AW.callVi (As := [iv 105]) (st := []) (Parser_is_ok e4) cq_X4_137 cr_4_X4_is (Nat.le_trans (by decide) hdd) rfl dX4_readTunnel_10 rfl (Nat.le_of_ble_eq_true rfl) ?_
  refine AW.if_ne (tgt := 31) dX4_readTunnel_13 (by decide) (fun c5 => ?_) (fun c5 => ?_)
  · replace h := hF h c5
    refine AW.sub (lv1 := [(0, rv z 4), (1, iv r1.1)]) [1, 0] rfl ?_
    exact Parser_readTunnel_b_ok hdd _ h
  · replace h := hT h c5
    refine AW.aloadr_n 1 dX4_readTunnel_16 rfl ?_
    refine AW.bipush dX4_readTunnel_17 (by decide) (by decide) ?_
    obtain ⟨r6, e7, h⟩ := hC h
    refine AW.callVi (As := [iv 106]) (st := []) (Parser_is_ok e7) cq_X4_137 cr_4_X4_is (Nat.le_trans (by decide) hdd) rfl dX4_readTunnel_19 rfl (Nat.le_of_ble_eq_true rfl) ?_
    refine AW.if_ne (tgt := 31) dX4_readTunnel_22 (by decide) (fun c8 => ?_) (fun c8 => ?_)
    · replace h := hF h c8
      refine AW.sub (lv1 := [(0, rv z 4), (1, iv r1.1)]) [1, 0] rfl ?_
      exact Parser_readTunnel_b_ok hdd _ h
    · replace h := hT h c8
      refine AW.aloadr_n 1 dX4_readTunnel_25 rfl ?_
      refine AW.iconst dX4_readTunnel_26 ?_
      obtain ⟨r9, e10, h⟩ := hC h
      refine AW.callVv (As := [iv 1]) (st := []) (Parser_fail_ok e10) cq_X4_103 cr_4_X4_fail (Nat.le_trans (by decide) hdd) rfl dX4_readTunnel_27 rfl (Nat.le_of_ble_eq_true rfl) ?_
      exact AW.vret1 rfl dX4_readTunnel_30 h rfl
theorem Parser_openOneMore_ok {z : AZ} {x1 : Int} {g : AG} {r : Int × AG} (h : Parser_openOneMore x1 g = some r) : AMf z yX4_openOneMore cX4_openOneMore 2 none 1 [rv z 4, iv x1] g r := by
  intro d hdd
  refine AM.of (by decide +kernel) (Nat.le_of_ble_eq_true rfl) ?_
  show AW z (RX4, cX4_openOneMore, 2, none) d (QD none r) 0 [(0, rv z 4), (1, iv x1)] [] g
  unfold Parser_openOneMore at h
  refine AW.iload_n 1 dX4_openOneMore_0 rfl ?_
  refine AW.bipush dX4_openOneMore_1 (by decide) (by decide) ?_
  obtain ⟨r6, e7, h⟩ := hC h
  refine AW.join (tgt := 18) (lv1 := []) (st1 := []) (g1 := r6) ?_ (fun J3 => ?_)
  · exact AW.vret1 rfl dX4_openOneMore_18 h rfl
  replace h := e7
  refine AW.icmp_lt (tgt := 14) dX4_openOneMore_3 (by decide) (fun c1 => ?_) (fun c1 => ?_)
  · replace h := hT h c1
    refine AW.aloadr_n 0 dX4_openOneMore_14 rfl ?_
    obtain ⟨r2, e3, h⟩ := hC h
    refine AW.callVv (As := []) (st := []) (Parser_goOn_ok e3) cq_X4_107 cr_4_X4_goOn (Nat.le_trans (by decide) hdd) rfl dX4_openOneMore_15 rfl (Nat.le_of_ble_eq_true rfl) ?_
    refine AW.sub (lv1 := []) [] rfl ?_
    cases h
    exact J3
  · replace h := hF h c1
    refine AW.aloadr_n 0 dX4_openOneMore_6 rfl ?_
    refine AW.iconst dX4_openOneMore_7 ?_
    obtain ⟨r4, e5, h⟩ := hC h
    refine AW.callVv (As := [iv 3]) (st := []) (Parser_fail_ok e5) cq_X4_103 cr_4_X4_fail (Nat.le_trans (by decide) hdd) rfl dX4_openOneMore_8 rfl (Nat.le_of_ble_eq_true rfl) ?_
    refine AW.goto (tgt := 18) dX4_openOneMore_11 (by decide) ?_
    refine AW.sub (lv1 := []) [] rfl ?_
    cases h
    exact J3
theorem Parser_demandComparing_ok {z : AZ} {g : AG} {r : Int × AG} (h : Parser_demandComparing g = some r) : AMf z yX4_demandComparing cX4_demandComparing 1 none 1 [rv z 4] g r := by
  intro d hdd
  refine AM.of (by decide +kernel) (Nat.le_of_ble_eq_true rfl) ?_
  show AW z (RX4, cX4_demandComparing, 1, none) d (QD none r) 0 [(0, rv z 4)] [] g
  unfold Parser_demandComparing at h
  refine AW.aloadr_n 0 dX4_demandComparing_0 rfl ?_
  refine AW.bipush dX4_demandComparing_1 (by decide) (by decide) ?_
  obtain ⟨r1, e2, h⟩ := hC h
  refine AW.callVi (As := [iv 60]) (st := []) (Parser_is_ok e2) cq_X4_137 cr_4_X4_is (Nat.le_trans (by decide) hdd) rfl dX4_demandComparing_3 rfl (Nat.le_of_ble_eq_true rfl) ?_
  obtain ⟨r18, e19, h⟩ := hC h
  refine AW.join (tgt := 39) (lv1 := []) (st1 := []) (g1 := r18) ?_ (fun J6 => ?_)
  · exact AW.vret1 rfl dX4_demandComparing_39 h rfl
  replace h := e19
  refine AW.if_ne (tgt := 27) dX4_demandComparing_6 (by decide) (fun c3 => ?_) (fun c3 => ?_)
  · replace h := hF h c3
    refine AW.aloadr_n 0 dX4_demandComparing_27 rfl ?_
    obtain ⟨r4, e5, h⟩ := hC h
    refine AW.callVv (As := []) (st := []) (Parser_goOn_ok e5) cq_X4_107 cr_4_X4_goOn (Nat.le_trans (by decide) hdd) rfl dX4_demandComparing_28 rfl (Nat.le_of_ble_eq_true rfl) ?_
    refine AW.goto (tgt := 39) dX4_demandComparing_31 (by decide) ?_
    refine AW.sub (lv1 := []) [] rfl ?_
    cases h
    exact J6
  · replace h := hT h c3
    refine AW.aloadr_n 0 dX4_demandComparing_9 rfl ?_
    refine AW.bipush dX4_demandComparing_10 (by decide) (by decide) ?_
    obtain ⟨r6, e7, h⟩ := hC h
    refine AW.callVi (As := [iv 61]) (st := []) (Parser_is_ok e7) cq_X4_137 cr_4_X4_is (Nat.le_trans (by decide) hdd) rfl dX4_demandComparing_12 rfl (Nat.le_of_ble_eq_true rfl) ?_
    refine AW.if_ne (tgt := 27) dX4_demandComparing_15 (by decide) (fun c8 => ?_) (fun c8 => ?_)
    · replace h := hF h c8
      refine AW.aloadr_n 0 dX4_demandComparing_27 rfl ?_
      obtain ⟨r9, e10, h⟩ := hC h
      refine AW.callVv (As := []) (st := []) (Parser_goOn_ok e10) cq_X4_107 cr_4_X4_goOn (Nat.le_trans (by decide) hdd) rfl dX4_demandComparing_28 rfl (Nat.le_of_ble_eq_true rfl) ?_
      refine AW.goto (tgt := 39) dX4_demandComparing_31 (by decide) ?_
      refine AW.sub (lv1 := []) [] rfl ?_
      cases h
      exact J6
    · replace h := hT h c8
      refine AW.aloadr_n 0 dX4_demandComparing_18 rfl ?_
      refine AW.bipush dX4_demandComparing_19 (by decide) (by decide) ?_
      obtain ⟨r11, e12, h⟩ := hC h
      refine AW.callVi (As := [iv 62]) (st := []) (Parser_is_ok e12) cq_X4_137 cr_4_X4_is (Nat.le_trans (by decide) hdd) rfl dX4_demandComparing_21 rfl (Nat.le_of_ble_eq_true rfl) ?_
      refine AW.if_eq (tgt := 34) dX4_demandComparing_24 (by decide) (fun c13 => ?_) (fun c13 => ?_)
      · replace h := hT h c13
        refine AW.aloadr_n 0 dX4_demandComparing_34 rfl ?_
        refine AW.iconst dX4_demandComparing_35 ?_
        obtain ⟨r14, e15, h⟩ := hC h
        refine AW.callVv (As := [iv 1]) (st := []) (Parser_fail_ok e15) cq_X4_103 cr_4_X4_fail (Nat.le_trans (by decide) hdd) rfl dX4_demandComparing_36 rfl (Nat.le_of_ble_eq_true rfl) ?_
        refine AW.sub (lv1 := []) [] rfl ?_
        cases h
        exact J6
      · replace h := hF h c13
        refine AW.aloadr_n 0 dX4_demandComparing_27 rfl ?_
        obtain ⟨r16, e17, h⟩ := hC h
        refine AW.callVv (As := []) (st := []) (Parser_goOn_ok e17) cq_X4_107 cr_4_X4_goOn (Nat.le_trans (by decide) hdd) rfl dX4_demandComparing_28 rfl (Nat.le_of_ble_eq_true rfl) ?_
        refine AW.goto (tgt := 39) dX4_demandComparing_31 (by decide) ?_
        refine AW.sub (lv1 := []) [] rfl ?_
        cases h
        exact J6
theorem Parser_demand_ok {z : AZ} {x1 : Int} {g : AG} {r : Int × AG} (h : Parser_demand x1 g = some r) : AMf z yX4_demand cX4_demand 2 none 1 [rv z 4, iv x1] g r := by
  intro d hdd
  refine AM.of (by decide +kernel) (Nat.le_of_ble_eq_true rfl) ?_
  show AW z (RX4, cX4_demand, 2, none) d (QD none r) 0 [(0, rv z 4), (1, iv x1)] [] g
  unfold Parser_demand at h
  refine AW.aloadr_n 0 dX4_demand_0 rfl ?_
  refine AW.iload_n 1 dX4_demand_1 rfl ?_
  obtain ⟨r1, e2, h⟩ := hC h
  refine AW.callVi (As := [iv x1]) (st := []) (Parser_is_ok e2) cq_X4_137 cr_4_X4_is (Nat.le_trans (by decide) hdd) rfl dX4_demand_2 rfl (Nat.le_of_ble_eq_true rfl) ?_
  obtain ⟨r8, e9, h⟩ := hC h
  refine AW.join (tgt := 20) (lv1 := []) (st1 := []) (g1 := r8) ?_ (fun J5 => ?_)
  · exact AW.vret1 rfl dX4_demand_20 h rfl
  replace h := e9
  refine AW.if_eq (tgt := 15) dX4_demand_5 (by decide) (fun c3 => ?_) (fun c3 => ?_)
  · replace h := hT h c3
    refine AW.aloadr_n 0 dX4_demand_15 rfl ?_
    refine AW.iconst dX4_demand_16 ?_
    obtain ⟨r4, e5, h⟩ := hC h
    refine AW.callVv (As := [iv 1]) (st := []) (Parser_fail_ok e5) cq_X4_103 cr_4_X4_fail (Nat.le_trans (by decide) hdd) rfl dX4_demand_17 rfl (Nat.le_of_ble_eq_true rfl) ?_
    refine AW.sub (lv1 := []) [] rfl ?_
    cases h
    exact J5
  · replace h := hF h c3
    refine AW.aloadr_n 0 dX4_demand_8 rfl ?_
    obtain ⟨r6, e7, h⟩ := hC h
    refine AW.callVv (As := []) (st := []) (Parser_goOn_ok e7) cq_X4_107 cr_4_X4_goOn (Nat.le_trans (by decide) hdd) rfl dX4_demand_9 rfl (Nat.le_of_ble_eq_true rfl) ?_
    refine AW.goto (tgt := 20) dX4_demand_12 (by decide) ?_
    refine AW.sub (lv1 := []) [] rfl ?_
    cases h
    exact J5
set_option synthInstance.maxHeartbeats 2000000 in
theorem Parser_readOne_b_ok {z : AZ} {rec : Int → AG → Option (Int × AG)} {Dr : Nat} (hC9 : 4 ≤ Dr) (hrec : ∀ (x1 : Int) (g : AG) (r : Int × AG), rec x1 g = some r → AMf z yX4_readEither cX4_readEither 3 none Dr [rv z 4, iv x1] g r) {d : Nat} (hdd : Dr + 1 ≤ d) {x1 : Int} : ∀ (tag : Nat) (x2 : Int) (x3 : Int) (g : AG) (r : Int × AG), Parser_readOne_b rec x1 tag x2 x3 g = some r → (tag = 1 → AW z (RX4, cX4_readOne, 4, none) d (QD none r) 4 [(0, rv z 4), (1, iv x1), (2, iv x2), (3, iv x3)] [] g) ∧ (tag = 2 → AW z (RX4, cX4_readOne, 4, none) d (QD none r) 34 [(0, rv z 4), (1, iv x1), (2, iv x2)] [] g) ∧ (tag = 3 → AW z (RX4, cX4_readOne, 4, none) d (QD none r) 97 [(0, rv z 4), (2, iv x2), (3, iv x3)] [] g) := by
  refine Parser_readOne_b.partial_correctness rec x1 (fun tag x2 x3 g r => (tag = 1 → AW z (RX4, cX4_readOne, 4, none) d (QD none r) 4 [(0, rv z 4), (1, iv x1), (2, iv x2), (3, iv x3)] [] g) ∧ (tag = 2 → AW z (RX4, cX4_readOne, 4, none) d (QD none r) 34 [(0, rv z 4), (1, iv x1), (2, iv x2)] [] g) ∧ (tag = 3 → AW z (RX4, cX4_readOne, 4, none) d (QD none r) 97 [(0, rv z 4), (2, iv x2), (3, iv x3)] [] g)) ?_
  intro fb9 ih tag x2 x3 g r h
  refine ⟨fun h9 => ?_, fun h9 => ?_, fun h9 => ?_⟩
  · subst h9
    replace h := hT h rfl
    refine AW.iload_n 3 dX4_readOne_4 rfl ?_
    refine AW.sipush dX4_readOne_5 (by decide) (by decide) ?_
    refine AW.icmp_ge (tgt := 34) dX4_readOne_8 (by decide) (fun c1 => ?_) (fun c1 => ?_)
    · replace h := hT h c1
      refine AW.sub (lv1 := [(0, rv z 4), (1, iv x1), (2, iv x2)]) [0, 1, 2] rfl ?_
      exact (ih _ _ _ _ _ h).2.1 rfl
    · replace h := hF h c1
      refine AW.aloadr_n 0 dX4_readOne_11 rfl ?_
      refine AW.bipush dX4_readOne_12 (by decide) (by decide) ?_
      obtain ⟨r2, e3, h⟩ := hC h
      refine AW.callVi (As := [iv 110]) (st := []) (Parser_is_ok e3) cq_X4_137 cr_4_X4_is (by omega) rfl dX4_readOne_14 rfl (Nat.le_of_ble_eq_true rfl) ?_
      refine AW.if_eq (tgt := 34) dX4_readOne_17 (by decide) (fun c4 => ?_) (fun c4 => ?_)
      · replace h := hT h c4
        refine AW.sub (lv1 := [(0, rv z 4), (1, iv x1), (2, iv x2)]) [0, 1, 2] rfl ?_
        exact (ih _ _ _ _ _ h).2.1 rfl
      · replace h := hF h c4
        refine AW.aloadr_n 0 dX4_readOne_20 rfl ?_
        refine AW.iload_n 2 dX4_readOne_21 rfl ?_
        obtain ⟨r5, e6, h⟩ := hC h
        refine AW.callVv (As := [iv x2]) (st := []) (Parser_openOneMore_ok e6) cq_X4_170 cr_4_X4_openOneMore (by omega) rfl dX4_readOne_22 rfl (Nat.le_of_ble_eq_true rfl) ?_
        refine AW.iinc (lv1 := [(2, iv (x2 + 1)), (0, rv z 4), (1, iv x1), (3, iv x3)]) 2 dX4_readOne_25 rfl (by decide) rfl ?_
        refine AW.iinc (lv1 := [(3, iv (x3 + 1)), (2, iv (x2 + 1)), (0, rv z 4), (1, iv x1)]) 3 dX4_readOne_28 rfl (by decide) rfl ?_
        refine AW.goto (tgt := 4) dX4_readOne_31 (by decide) ?_
        refine AW.sub (lv1 := [(0, rv z 4), (1, iv x1), (2, iv (x2 + 1)), (3, iv (x3 + 1))]) [2, 3, 1, 0] rfl ?_
        exact (ih _ _ _ _ _ h).1 rfl
  · subst h9
    replace h := hF h (by decide)
    replace h := hT h rfl
    refine AW.aloadr_n 0 dX4_readOne_34 rfl ?_
    refine AW.bipush dX4_readOne_35 (by decide) (by decide) ?_
    obtain ⟨r1, e2, h⟩ := hC h
    refine AW.callVi (As := [iv 40]) (st := []) (Parser_is_ok e2) cq_X4_137 cr_4_X4_is (by omega) rfl dX4_readOne_37 rfl (Nat.le_of_ble_eq_true rfl) ?_
    obtain ⟨r19, e20, h⟩ := hC h
    refine AW.join (tgt := 95) (lv1 := [(0, rv z 4), (1, iv x1), (2, iv x2)]) (st1 := []) (g1 := r19) ?_ (fun J40 => ?_)
    · refine AW.iload_n 1 dX4_readOne_95 rfl ?_
      refine AW.istore_n (lv1 := [(3, iv x1), (0, rv z 4), (1, iv x1), (2, iv x2)]) dX4_readOne_96 (by decide) rfl ?_
      refine AW.sub (lv1 := [(0, rv z 4), (2, iv x2), (3, iv x1)]) [1, 3, 0] rfl ?_
      exact (ih _ _ _ _ _ h).2.2 rfl
    replace h := e20
    refine AW.if_eq (tgt := 64) dX4_readOne_40 (by decide) (fun c3 => ?_) (fun c3 => ?_)
    · replace h := hT h c3
      refine AW.aloadr_n 0 dX4_readOne_64 rfl ?_
      obtain ⟨r4, e5, h⟩ := hC h
      refine AW.callVv (As := []) (st := []) (Parser_readSum_ok e5) cq_X4_131 cr_4_X4_readSum (by omega) rfl dX4_readOne_65 rfl (Nat.le_of_ble_eq_true rfl) ?_
      refine AW.aloadr_n 0 dX4_readOne_68 rfl ?_
      refine AW.getR af_X4_15_4 sr_4_3 dX4_readOne_69 ?_
      refine AW.aloadr_n 0 dX4_readOne_72 rfl ?_
      refine AW.getI af_X4_35_4 sr_4_6 dX4_readOne_73 ?_
      obtain ⟨k6, h⟩ := hK h
      refine AW.iald kc_42 sk_42 k6 dX4_readOne_76 ?_
      refine AW.istore_n (lv1 := [(3, iv (r4.2 42 (ix (r4.2 4 6)))), (0, rv z 4), (1, iv x1), (2, iv x2)]) dX4_readOne_77 (by decide) rfl ?_
      refine AW.aloadr_n 1 dX4_readOne_78 rfl ?_
      obtain ⟨r7, e8, h⟩ := hC h
      refine AW.callVv (As := []) (st := []) (Parser_demandComparing_ok e8) cq_X4_173 cr_4_X4_demandComparing (by omega) rfl dX4_readOne_79 rfl (Nat.le_of_ble_eq_true rfl) ?_
      refine AW.aloadr_n 1 dX4_readOne_82 rfl ?_
      obtain ⟨r9, e10, h⟩ := hC h
      refine AW.callVv (As := []) (st := []) (Parser_readSum_ok e10) cq_X4_131 cr_4_X4_readSum (by omega) rfl dX4_readOne_83 rfl (Nat.le_of_ble_eq_true rfl) ?_
      refine AW.aloadr_n 1 dX4_readOne_86 rfl ?_
      refine AW.getR af_X4_25_4 sr_4_0 dX4_readOne_87 ?_
      refine AW.iload_n 0 dX4_readOne_90 rfl ?_
      refine AW.iconst dX4_readOne_91 ?_
      obtain ⟨r11, e12, h⟩ := hC h
      refine AW.callVv (As := [iv (r4.2 42 (ix (r4.2 4 6))), iv 0]) (st := []) (Rules_put_ok e12) cq_X4_164 cr_3_X6_put (by omega) rfl dX4_readOne_92 rfl (Nat.le_of_ble_eq_true rfl) ?_
      refine AW.sub (lv1 := [(0, rv z 4), (1, iv x1), (2, iv x2)]) [1, 2, 3] rfl ?_
      cases h
      exact J40
    · replace h := hF h c3
      refine AW.aloadr_n 0 dX4_readOne_43 rfl ?_
      refine AW.iload_n 2 dX4_readOne_44 rfl ?_
      obtain ⟨r13, e14, h⟩ := hC h
      refine AW.callVv (As := [iv x2]) (st := []) (Parser_openOneMore_ok e14) cq_X4_170 cr_4_X4_openOneMore (by omega) rfl dX4_readOne_45 rfl (Nat.le_of_ble_eq_true rfl) ?_
      refine AW.aloadr_n 0 dX4_readOne_48 rfl ?_
      refine AW.iload_n 2 dX4_readOne_49 rfl ?_
      refine AW.iconst dX4_readOne_50 ?_
      refine AW.iadd dX4_readOne_51 ?_
      obtain ⟨r15, e16, h⟩ := hC h
      refine AW.callVv (As := [iv (x2 + 1)]) (st := []) (hrec _ _ _ e16) cq_X4_140 cr_4_X4_readEither (by omega) rfl dX4_readOne_52 rfl (Nat.le_of_ble_eq_true rfl) ?_
      refine AW.aloadr_n 0 dX4_readOne_55 rfl ?_
      refine AW.bipush dX4_readOne_56 (by decide) (by decide) ?_
      obtain ⟨r17, e18, h⟩ := hC h
      refine AW.callVv (As := [iv 41]) (st := []) (Parser_demand_ok e18) cq_X4_146 cr_4_X4_demand (by omega) rfl dX4_readOne_58 rfl (Nat.le_of_ble_eq_true rfl) ?_
      refine AW.goto (tgt := 95) dX4_readOne_61 (by decide) ?_
      cases h
      exact J40
  · subst h9
    replace h := hF h (by decide)
    replace h := hF h (by decide)
    replace h := hT h rfl
    refine AW.iload_n 2 dX4_readOne_97 rfl ?_
    refine AW.iload_n 1 dX4_readOne_98 rfl ?_
    refine AW.icmp_ge (tgt := 118) dX4_readOne_99 (by decide) (fun c1 => ?_) (fun c1 => ?_)
    · replace h := hT h c1
      exact AW.vret1 rfl dX4_readOne_118 h rfl
    · replace h := hF h c1
      refine AW.aloadr_n 0 dX4_readOne_102 rfl ?_
      refine AW.getR af_X4_25_4 sr_4_0 dX4_readOne_103 ?_
      refine AW.bipush dX4_readOne_106 (by decide) (by decide) ?_
      refine AW.iconst dX4_readOne_108 ?_
      obtain ⟨r2, e3, h⟩ := hC h
      refine AW.callVv (As := [iv 110, iv 0]) (st := []) (Rules_put_ok e3) cq_X4_164 cr_3_X6_put (by omega) rfl dX4_readOne_109 rfl (Nat.le_of_ble_eq_true rfl) ?_
      refine AW.iinc (lv1 := [(3, iv (x3 + 1)), (0, rv z 4), (2, iv x2)]) 2 dX4_readOne_112 rfl (by decide) rfl ?_
      refine AW.goto (tgt := 97) dX4_readOne_115 (by decide) ?_
      refine AW.sub (lv1 := [(0, rv z 4), (2, iv x2), (3, iv (x3 + 1))]) [1, 2, 0] rfl ?_
      exact (ih _ _ _ _ _ h).2.2 rfl
theorem Parser_readOne_ok {z : AZ} {rec : Int → AG → Option (Int × AG)} {Dr : Nat} (hC9 : 4 ≤ Dr) (hrec : ∀ (x1 : Int) (g : AG) (r : Int × AG), rec x1 g = some r → AMf z yX4_readEither cX4_readEither 3 none Dr [rv z 4, iv x1] g r) {x1 : Int} {g : AG} {r : Int × AG} (h : Parser_readOne rec x1 g = some r) : AMf z yX4_readOne cX4_readOne 4 none (Dr + 1) [rv z 4, iv x1] g r := by
  intro d hdd
  refine AM.of (by decide +kernel) (Nat.le_of_ble_eq_true rfl) ?_
  show AW z (RX4, cX4_readOne, 4, none) d (QD none r) 0 [(0, rv z 4), (1, iv x1)] [] g
  unfold Parser_readOne at h
  refine AW.iload_n 1 dX4_readOne_0 rfl ?_
  refine AW.istore_n (lv1 := [(2, iv x1), (0, rv z 4), (1, iv x1)]) dX4_readOne_1 (by decide) rfl ?_
  refine AW.iconst dX4_readOne_2 ?_
  refine AW.istore_n (lv1 := [(3, iv 0), (2, iv x1), (0, rv z 4), (1, iv x1)]) dX4_readOne_3 (by decide) rfl ?_
  refine AW.sub (lv1 := [(0, rv z 4), (1, iv x1), (2, iv x1), (3, iv 0)]) [2, 3, 1, 0] rfl ?_
  exact (Parser_readOne_b_ok hC9 hrec hdd _ _ _ _ _ h).1 rfl
set_option synthInstance.maxHeartbeats 2000000 in
theorem Parser_readAll_b_ok {z : AZ} {rec : Int → AG → Option (Int × AG)} {Dr : Nat} (hC9 : 4 ≤ Dr) (hrec : ∀ (x1 : Int) (g : AG) (r : Int × AG), rec x1 g = some r → AMf z yX4_readEither cX4_readEither 3 none Dr [rv z 4, iv x1] g r) {d : Nat} (hdd : Dr + 2 ≤ d) {x1 : Int} : ∀ (x2 : Int) (g : AG) (r : Int × AG), Parser_readAll_b rec x1 x2 g = some r → AW z (RX4, cX4_readAll, 3, none) d (QD none r) 7 [(0, rv z 4), (1, iv x1), (2, iv x2)] [] g := by
  refine Parser_readAll_b.partial_correctness rec x1 (fun x2 g r => AW z (RX4, cX4_readAll, 3, none) d (QD none r) 7 [(0, rv z 4), (1, iv x1), (2, iv x2)] [] g) ?_
  intro fb9 ih x2 g r h
  refine AW.iload_n 2 dX4_readAll_7 rfl ?_
  refine AW.sipush dX4_readAll_8 (by decide) (by decide) ?_
  refine AW.icmp_ge (tgt := 48) dX4_readAll_11 (by decide) (fun c1 => ?_) (fun c1 => ?_)
  · replace h := hT h c1
    exact AW.vret1 rfl dX4_readAll_48 h rfl
  · replace h := hF h c1
    refine AW.aloadr_n 0 dX4_readAll_14 rfl ?_
    refine AW.bipush dX4_readAll_15 (by decide) (by decide) ?_
    obtain ⟨r2, e3, h⟩ := hC h
    refine AW.callVi (As := [iv 109]) (st := []) (Parser_is_ok e3) cq_X4_137 cr_4_X4_is (by omega) rfl dX4_readAll_17 rfl (Nat.le_of_ble_eq_true rfl) ?_
    refine AW.if_eq (tgt := 48) dX4_readAll_20 (by decide) (fun c4 => ?_) (fun c4 => ?_)
    · replace h := hT h c4
      exact AW.vret1 rfl dX4_readAll_48 h rfl
    · replace h := hF h c4
      refine AW.aloadr_n 0 dX4_readAll_23 rfl ?_
      obtain ⟨r5, e6, h⟩ := hC h
      refine AW.callVv (As := []) (st := []) (Parser_goOn_ok e6) cq_X4_107 cr_4_X4_goOn (by omega) rfl dX4_readAll_24 rfl (Nat.le_of_ble_eq_true rfl) ?_
      refine AW.aloadr_n 0 dX4_readAll_27 rfl ?_
      refine AW.iload_n 1 dX4_readAll_28 rfl ?_
      obtain ⟨r7, e8, h⟩ := hC h
      refine AW.callVv (As := [iv x1]) (st := []) (Parser_readOne_ok (Nat.le_trans (by decide) hC9) hrec e8) cq_X4_167 cr_4_X4_readOne (by omega) rfl dX4_readAll_29 rfl (Nat.le_of_ble_eq_true rfl) ?_
      refine AW.aloadr_n 0 dX4_readAll_32 rfl ?_
      refine AW.getR af_X4_25_4 sr_4_0 dX4_readAll_33 ?_
      refine AW.bipush dX4_readAll_36 (by decide) (by decide) ?_
      refine AW.iconst dX4_readAll_38 ?_
      obtain ⟨r9, e10, h⟩ := hC h
      refine AW.callVv (As := [iv 109, iv 0]) (st := []) (Rules_put_ok e10) cq_X4_164 cr_3_X6_put (by omega) rfl dX4_readAll_39 rfl (Nat.le_of_ble_eq_true rfl) ?_
      refine AW.iinc (lv1 := [(2, iv (x2 + 1)), (0, rv z 4), (1, iv x1)]) 2 dX4_readAll_42 rfl (by decide) rfl ?_
      refine AW.goto (tgt := 7) dX4_readAll_45 (by decide) ?_
      refine AW.sub (lv1 := [(0, rv z 4), (1, iv x1), (2, iv (x2 + 1))]) [1, 2, 0] rfl ?_
      exact ih _ _ _ h
theorem Parser_readAll_ok {z : AZ} {rec : Int → AG → Option (Int × AG)} {Dr : Nat} (hC9 : 4 ≤ Dr) (hrec : ∀ (x1 : Int) (g : AG) (r : Int × AG), rec x1 g = some r → AMf z yX4_readEither cX4_readEither 3 none Dr [rv z 4, iv x1] g r) {x1 : Int} {g : AG} {r : Int × AG} (h : Parser_readAll rec x1 g = some r) : AMf z yX4_readAll cX4_readAll 3 none (Dr + 2) [rv z 4, iv x1] g r := by
  intro d hdd
  refine AM.of (by decide +kernel) (Nat.le_of_ble_eq_true rfl) ?_
  show AW z (RX4, cX4_readAll, 3, none) d (QD none r) 0 [(0, rv z 4), (1, iv x1)] [] g
  unfold Parser_readAll at h
  refine AW.aloadr_n 0 dX4_readAll_0 rfl ?_
  refine AW.iload_n 1 dX4_readAll_1 rfl ?_
  obtain ⟨r1, e2, h⟩ := hC h
  refine AW.callVv (As := [iv x1]) (st := []) (Parser_readOne_ok (Nat.le_trans (by decide) hC9) hrec e2) cq_X4_167 cr_4_X4_readOne (by omega) rfl dX4_readAll_2 rfl (Nat.le_of_ble_eq_true rfl) ?_
  refine AW.iconst dX4_readAll_5 ?_
  refine AW.istore_n (lv1 := [(2, iv 0), (0, rv z 4), (1, iv x1)]) dX4_readAll_6 (by decide) rfl ?_
  refine AW.sub (lv1 := [(0, rv z 4), (1, iv x1), (2, iv 0)]) [1, 2, 0] rfl ?_
  exact Parser_readAll_b_ok hC9 hrec hdd _ _ _ h
set_option synthInstance.maxHeartbeats 2000000 in
theorem Parser_readEither_b_ok {z : AZ} {rec : Int → AG → Option (Int × AG)} {Dr : Nat} (hC9 : 4 ≤ Dr) (hrec : ∀ (x1 : Int) (g : AG) (r : Int × AG), rec x1 g = some r → AMf z yX4_readEither cX4_readEither 3 none Dr [rv z 4, iv x1] g r) {d : Nat} (hdd : Dr + 3 ≤ d) {x1 : Int} : ∀ (x2 : Int) (g : AG) (r : Int × AG), Parser_readEither_b rec x1 x2 g = some r → AW z (RX4, cX4_readEither, 3, none) d (QD none r) 14 [(0, rv z 4), (1, iv x1), (2, iv x2)] [] g := by
  refine Parser_readEither_b.partial_correctness rec x1 (fun x2 g r => AW z (RX4, cX4_readEither, 3, none) d (QD none r) 14 [(0, rv z 4), (1, iv x1), (2, iv x2)] [] g) ?_
  intro fb9 ih x2 g r h
  refine AW.iload_n 2 dX4_readEither_14 rfl ?_
  refine AW.sipush dX4_readEither_15 (by decide) (by decide) ?_
  refine AW.icmp_ge (tgt := 55) dX4_readEither_18 (by decide) (fun c1 => ?_) (fun c1 => ?_)
  · replace h := hT h c1
    exact AW.vret1 rfl dX4_readEither_55 h rfl
  · replace h := hF h c1
    refine AW.aloadr_n 0 dX4_readEither_21 rfl ?_
    refine AW.bipush dX4_readEither_22 (by decide) (by decide) ?_
    obtain ⟨r2, e3, h⟩ := hC h
    refine AW.callVi (As := [iv 108]) (st := []) (Parser_is_ok e3) cq_X4_137 cr_4_X4_is (by omega) rfl dX4_readEither_24 rfl (Nat.le_of_ble_eq_true rfl) ?_
    refine AW.if_eq (tgt := 55) dX4_readEither_27 (by decide) (fun c4 => ?_) (fun c4 => ?_)
    · replace h := hT h c4
      exact AW.vret1 rfl dX4_readEither_55 h rfl
    · replace h := hF h c4
      refine AW.aloadr_n 0 dX4_readEither_30 rfl ?_
      obtain ⟨r5, e6, h⟩ := hC h
      refine AW.callVv (As := []) (st := []) (Parser_goOn_ok e6) cq_X4_107 cr_4_X4_goOn (by omega) rfl dX4_readEither_31 rfl (Nat.le_of_ble_eq_true rfl) ?_
      refine AW.aloadr_n 0 dX4_readEither_34 rfl ?_
      refine AW.iload_n 1 dX4_readEither_35 rfl ?_
      obtain ⟨r7, e8, h⟩ := hC h
      refine AW.callVv (As := [iv x1]) (st := []) (Parser_readAll_ok (Nat.le_trans (by decide) hC9) hrec e8) cq_X4_161 cr_4_X4_readAll (by omega) rfl dX4_readEither_36 rfl (Nat.le_of_ble_eq_true rfl) ?_
      refine AW.aloadr_n 0 dX4_readEither_39 rfl ?_
      refine AW.getR af_X4_25_4 sr_4_0 dX4_readEither_40 ?_
      refine AW.bipush dX4_readEither_43 (by decide) (by decide) ?_
      refine AW.iconst dX4_readEither_45 ?_
      obtain ⟨r9, e10, h⟩ := hC h
      refine AW.callVv (As := [iv 108, iv 0]) (st := []) (Rules_put_ok e10) cq_X4_164 cr_3_X6_put (by omega) rfl dX4_readEither_46 rfl (Nat.le_of_ble_eq_true rfl) ?_
      refine AW.iinc (lv1 := [(2, iv (x2 + 1)), (0, rv z 4), (1, iv x1)]) 2 dX4_readEither_49 rfl (by decide) rfl ?_
      refine AW.goto (tgt := 14) dX4_readEither_52 (by decide) ?_
      refine AW.sub (lv1 := [(0, rv z 4), (1, iv x1), (2, iv (x2 + 1))]) [1, 2, 0] rfl ?_
      exact ih _ _ _ h
theorem Parser_readEither_s_ok {z : AZ} {rec : Int → AG → Option (Int × AG)} {Dr : Nat} (hC9 : 4 ≤ Dr) (hrec : ∀ (x1 : Int) (g : AG) (r : Int × AG), rec x1 g = some r → AMf z yX4_readEither cX4_readEither 3 none Dr [rv z 4, iv x1] g r) {x1 : Int} {g : AG} {r : Int × AG} (h : Parser_readEither_s rec x1 g = some r) : AMf z yX4_readEither cX4_readEither 3 none (Dr + 3) [rv z 4, iv x1] g r := by
  intro d hdd
  refine AM.of (by decide +kernel) (Nat.le_of_ble_eq_true rfl) ?_
  show AW z (RX4, cX4_readEither, 3, none) d (QD none r) 0 [(0, rv z 4), (1, iv x1)] [] g
  unfold Parser_readEither_s at h
  refine AW.iload_n 1 dX4_readEither_0 rfl ?_
  refine AW.bipush dX4_readEither_1 (by decide) (by decide) ?_
  refine AW.icmp_le (tgt := 7) dX4_readEither_3 (by decide) (fun c1 => ?_) (fun c1 => ?_)
  · replace h := hT h c1
    refine AW.aloadr_n 0 dX4_readEither_7 rfl ?_
    refine AW.iload_n 1 dX4_readEither_8 rfl ?_
    obtain ⟨r2, e3, h⟩ := hC h
    refine AW.callVv (As := [iv x1]) (st := []) (Parser_readAll_ok (Nat.le_trans (by decide) hC9) hrec e3) cq_X4_161 cr_4_X4_readAll (by omega) rfl dX4_readEither_9 rfl (Nat.le_of_ble_eq_true rfl) ?_
    refine AW.iconst dX4_readEither_12 ?_
    refine AW.istore_n (lv1 := [(2, iv 0), (0, rv z 4), (1, iv x1)]) dX4_readEither_13 (by decide) rfl ?_
    refine AW.sub (lv1 := [(0, rv z 4), (1, iv x1), (2, iv 0)]) [1, 2, 0] rfl ?_
    exact Parser_readEither_b_ok hC9 hrec hdd _ _ _ h
  · replace h := hF h c1
    exact AW.vret1 rfl dX4_readEither_6 h rfl
theorem Parser_readEither_ok {z : AZ} {n : Nat} {x1 : Int} {g : AG} {r : Int × AG} (h : Parser_readEither n x1 g = some r) : AMf z yX4_readEither cX4_readEither 3 none (4 + n * 3) [rv z 4, iv x1] g r := by
  induction n generalizing x1 g r with
  | zero => cases h
  | succ n ih =>
    have q := Parser_readEither_s_ok (z := z) (Dr := 4 + n * 3) (Nat.le_add_right _ _) (fun x1 g r h9 => ih h9) h
    rw [show 4 + (n + 1) * 3 = 4 + n * 3 + 3 by rw [Nat.add_mul]; omega]
    exact q
theorem Parser_readLine_ok {z : AZ} {g : AG} {r : Int × AG} (h : Parser_readLine g = some r) : AMf z yX4_readLine cX4_readLine 3 none 41 [rv z 4] g r := by
  intro d hdd
  refine AM.of (by decide +kernel) (Nat.le_of_ble_eq_true rfl) ?_
  show AW z (RX4, cX4_readLine, 3, none) d (QD none r) 0 [(0, rv z 4)] [] g
  unfold Parser_readLine at h
  refine AW.aloadr_n 0 dX4_readLine_0 rfl ?_
  refine AW.getR af_X4_15_4 sr_4_3 dX4_readLine_1 ?_
  refine AW.aloadr_n 0 dX4_readLine_4 rfl ?_
  refine AW.getI af_X4_35_4 sr_4_6 dX4_readLine_5 ?_
  obtain ⟨k1, h⟩ := hK h
  refine AW.iald kc_42 sk_42 k1 dX4_readLine_8 ?_
  refine AW.istore_n (lv1 := [(1, iv (g 42 (ix (g 4 6)))), (0, rv z 4)]) dX4_readLine_9 (by decide) rfl ?_
  refine AW.aloadr_n 1 dX4_readLine_10 rfl ?_
  refine AW.getR af_X4_25_4 sr_4_0 dX4_readLine_11 ?_
  refine AW.getI af_X4_49_3 sr_3_3 dX4_readLine_14 ?_
  refine AW.istore_n (lv1 := [(2, iv (g 3 3)), (1, iv (g 42 (ix (g 4 6)))), (0, rv z 4)]) dX4_readLine_17 (by decide) rfl ?_
  refine AW.iload_n 1 dX4_readLine_18 rfl ?_
  refine AW.bipush dX4_readLine_19 (by decide) (by decide) ?_
  refine AW.bipush dX4_readLine_21 (by decide) (by decide) ?_
  refine AW.callN0 (As := [iv (g 42 (ix (g 4 6))), iv 100, iv 104]) (st := []) X_within_ok ns_X4_87 in_X11 cd_X11_within st_X11_within (by decide) (Nat.le_trans (by decide) hdd) rfl (Nat.le_of_ble_eq_true rfl) dX4_readLine_23 rfl ?_
  refine AW.if_ne (tgt := 35) dX4_readLine_26 (by decide) (fun c2 => ?_) (fun c2 => ?_)
  · replace h := hF h c2
    refine AW.iload_n 0 dX4_readLine_35 rfl ?_
    refine AW.bipush dX4_readLine_36 (by decide) (by decide) ?_
    refine AW.icmp_lt (tgt := 47) dX4_readLine_38 (by decide) (fun c3 => ?_) (fun c3 => ?_)
    · replace h := hT h c3
      refine AW.aloadr_n 2 dX4_readLine_47 rfl ?_
      obtain ⟨r4, e5, h⟩ := hC h
      refine AW.callVv (As := []) (st := []) (Parser_goOn_ok e5) cq_X4_107 cr_4_X4_goOn (Nat.le_trans (by decide) hdd) rfl dX4_readLine_48 rfl (Nat.le_of_ble_eq_true rfl) ?_
      refine AW.aloadr_n 2 dX4_readLine_51 rfl ?_
      refine AW.getR af_X4_25_4 sr_4_0 dX4_readLine_52 ?_
      refine AW.getR af_X4_110_3 sr_3_4 dX4_readLine_55 ?_
      refine AW.iload_n 0 dX4_readLine_58 rfl ?_
      refine AW.iload_n 1 dX4_readLine_59 rfl ?_
      obtain ⟨k6, h⟩ := hK h
      obtain ⟨g7, e8, h⟩ := hBe h
      refine AW.iast kc_31 sk_31 k6 dX4_readLine_60 e8 ?_
      refine AW.aloadr_n 2 dX4_readLine_61 rfl ?_
      refine AW.getR af_X4_25_4 sr_4_0 dX4_readLine_62 ?_
      refine AW.getR af_X4_113_3 sr_3_5 dX4_readLine_65 ?_
      refine AW.iload_n 0 dX4_readLine_68 rfl ?_
      refine AW.aloadr_n 2 dX4_readLine_69 rfl ?_
      refine AW.getR af_X4_25_4 sr_4_0 dX4_readLine_70 ?_
      refine AW.getI af_X4_116_3 sr_3_2 dX4_readLine_73 ?_
      obtain ⟨g9, e10, h⟩ := hBe h
      refine AW.iast kc_32 sk_32 k6 dX4_readLine_76 e10 ?_
      refine AW.iload_n 1 dX4_readLine_77 rfl ?_
      refine AW.bipush dX4_readLine_78 (by decide) (by decide) ?_
      obtain ⟨r25, e26, h⟩ := hC h
      refine AW.join (tgt := 133) (lv1 := [(0, rv z 4), (1, iv (g 42 (ix (g 4 6)))), (2, iv (g 3 3))]) (st1 := []) (g1 := r25) ?_ (fun J80 => ?_)
      · refine AW.aloadr_n 0 dX4_readLine_133 rfl ?_
        refine AW.getR af_X4_25_4 sr_4_0 dX4_readLine_134 ?_
        refine AW.getR af_X4_134_3 sr_3_6 dX4_readLine_137 ?_
        refine AW.iload_n 2 dX4_readLine_140 rfl ?_
        refine AW.aloadr_n 0 dX4_readLine_141 rfl ?_
        refine AW.getR af_X4_25_4 sr_4_0 dX4_readLine_142 ?_
        refine AW.getI af_X4_116_3 sr_3_2 dX4_readLine_145 ?_
        obtain ⟨g27, e28, h⟩ := hBe h
        refine AW.iast kc_33 sk_33 k6 dX4_readLine_148 e28 ?_
        refine AW.iload_n 1 dX4_readLine_149 rfl ?_
        refine AW.bipush dX4_readLine_150 (by decide) (by decide) ?_
        obtain ⟨r37, e38, h⟩ := hC h
        refine AW.join (tgt := 173) (lv1 := [(0, rv z 4), (2, iv (g 3 3))]) (st1 := []) (g1 := r37) ?_ (fun J152 => ?_)
        · refine AW.aloadr_n 0 dX4_readLine_173 rfl ?_
          refine AW.getR af_X4_25_4 sr_4_0 dX4_readLine_174 ?_
          refine AW.getR af_X4_143_3 sr_3_7 dX4_readLine_177 ?_
          refine AW.iload_n 1 dX4_readLine_180 rfl ?_
          refine AW.aloadr_n 0 dX4_readLine_181 rfl ?_
          refine AW.getR af_X4_25_4 sr_4_0 dX4_readLine_182 ?_
          refine AW.getI af_X4_116_3 sr_3_2 dX4_readLine_185 ?_
          obtain ⟨g39, e40, h⟩ := hBe h
          refine AW.iast kc_34 sk_34 k6 dX4_readLine_188 e40 ?_
          refine AW.aloadr_n 0 dX4_readLine_189 rfl ?_
          refine AW.bipush dX4_readLine_190 (by decide) (by decide) ?_
          obtain ⟨r41, e42, h⟩ := hC h
          refine AW.callVv (As := [iv 59]) (st := []) (Parser_demand_ok e42) cq_X4_146 cr_4_X4_demand (Nat.le_trans (by decide) hdd) rfl dX4_readLine_192 rfl (Nat.le_of_ble_eq_true rfl) ?_
          refine AW.aloadr_n 0 dX4_readLine_195 rfl ?_
          refine AW.getR af_X4_25_4 sr_4_0 dX4_readLine_196 ?_
          refine AW.duprr dX4_readLine_199 ?_
          refine AW.getI af_X4_49_3 sr_3_3 dX4_readLine_200 ?_
          refine AW.iconst dX4_readLine_203 ?_
          refine AW.iadd dX4_readLine_204 ?_
          obtain ⟨g43, e44, h⟩ := hBe h
          refine AW.putI ap_X4_49_3 sr_3_3 dX4_readLine_205 e44 ?_
          exact AW.vret1 rfl dX4_readLine_208 h rfl
        replace h := e38
        refine AW.icmp_eq (tgt := 173) dX4_readLine_152 (by decide) (fun c29 => ?_) (fun c29 => ?_)
        · replace h := hT h c29
          refine AW.sub (lv1 := [(0, rv z 4), (2, iv (g 3 3))]) [0, 2] rfl ?_
          cases h
          exact J152
        · replace h := hF h c29
          refine AW.aloadr_n 0 dX4_readLine_155 rfl ?_
          refine AW.bipush dX4_readLine_156 (by decide) (by decide) ?_
          obtain ⟨r30, e31, h⟩ := hC h
          refine AW.callVi (As := [iv 107]) (st := []) (Parser_is_ok e31) cq_X4_137 cr_4_X4_is (Nat.le_trans (by decide) hdd) rfl dX4_readLine_158 rfl (Nat.le_of_ble_eq_true rfl) ?_
          refine AW.if_eq (tgt := 173) dX4_readLine_161 (by decide) (fun c32 => ?_) (fun c32 => ?_)
          · replace h := hT h c32
            refine AW.sub (lv1 := [(0, rv z 4), (2, iv (g 3 3))]) [0, 2] rfl ?_
            cases h
            exact J152
          · replace h := hF h c32
            refine AW.aloadr_n 0 dX4_readLine_164 rfl ?_
            obtain ⟨r33, e34, h⟩ := hC h
            refine AW.callVv (As := []) (st := []) (Parser_goOn_ok e34) cq_X4_107 cr_4_X4_goOn (Nat.le_trans (by decide) hdd) rfl dX4_readLine_165 rfl (Nat.le_of_ble_eq_true rfl) ?_
            refine AW.aloadr_n 0 dX4_readLine_168 rfl ?_
            refine AW.iconst dX4_readLine_169 ?_
            obtain ⟨r35, e36, h⟩ := hC h
            refine AW.callVv (As := [iv 0]) (st := []) ((Parser_readEither_ok (n := 12)) e36) cq_X4_140 cr_4_X4_readEither (Nat.le_trans (by decide) hdd) rfl dX4_readLine_170 rfl (Nat.le_of_ble_eq_true rfl) ?_
            refine AW.sub (lv1 := [(0, rv z 4), (2, iv (g 3 3))]) [0, 2] rfl ?_
            cases h
            exact J152
      replace h := e26
      refine AW.icmp_ne (tgt := 90) dX4_readLine_80 (by decide) (fun c11 => ?_) (fun c11 => ?_)
      · replace h := hF h c11
        refine AW.iload_n 1 dX4_readLine_90 rfl ?_
        refine AW.bipush dX4_readLine_91 (by decide) (by decide) ?_
        refine AW.icmp_ne (tgt := 129) dX4_readLine_93 (by decide) (fun c12 => ?_) (fun c12 => ?_)
        · replace h := hF h c12
          refine AW.aloadr_n 2 dX4_readLine_129 rfl ?_
          obtain ⟨r13, e14, h⟩ := hC h
          refine AW.callVv (As := []) (st := []) (Parser_readSum_ok e14) cq_X4_131 cr_4_X4_readSum (Nat.le_trans (by decide) hdd) rfl dX4_readLine_130 rfl (Nat.le_of_ble_eq_true rfl) ?_
          refine AW.sub (lv1 := [(0, rv z 4), (1, iv (g 42 (ix (g 4 6)))), (2, iv (g 3 3))]) [2, 1, 0] rfl ?_
          cases h
          exact J80
        · replace h := hT h c12
          refine AW.aloadr_n 2 dX4_readLine_96 rfl ?_
          refine AW.getR af_X4_25_4 sr_4_0 dX4_readLine_97 ?_
          refine AW.getR af_X4_122_3 sr_3_8 dX4_readLine_100 ?_
          refine AW.iload_n 0 dX4_readLine_103 rfl ?_
          refine AW.aloadr_n 2 dX4_readLine_104 rfl ?_
          refine AW.bipush dX4_readLine_105 (by decide) (by decide) ?_
          obtain ⟨r15, e16, h⟩ := hC h
          refine AW.callVi (As := [iv 24]) (st := [iv (g 3 3), rv z 35]) (Parser_numberUpTo_ok e16) cq_X4_125 cr_4_X4_numberUpTo (Nat.le_trans (by decide) hdd) rfl dX4_readLine_107 rfl (Nat.le_of_ble_eq_true rfl) ?_
          obtain ⟨g17, e18, h⟩ := hBe h
          refine AW.iast kc_35 sk_35 k6 dX4_readLine_110 e18 ?_
          refine AW.aloadr_n 2 dX4_readLine_111 rfl ?_
          refine AW.getR af_X4_25_4 sr_4_0 dX4_readLine_112 ?_
          refine AW.getR af_X4_128_3 sr_3_9 dX4_readLine_115 ?_
          refine AW.iload_n 0 dX4_readLine_118 rfl ?_
          refine AW.aloadr_n 2 dX4_readLine_119 rfl ?_
          refine AW.bipush dX4_readLine_120 (by decide) (by decide) ?_
          obtain ⟨r19, e20, h⟩ := hC h
          refine AW.callVi (As := [iv 24]) (st := [iv (g 3 3), rv z 36]) (Parser_numberUpTo_ok e20) cq_X4_125 cr_4_X4_numberUpTo (Nat.le_trans (by decide) hdd) rfl dX4_readLine_122 rfl (Nat.le_of_ble_eq_true rfl) ?_
          obtain ⟨g21, e22, h⟩ := hBe h
          refine AW.iast kc_36 sk_36 k6 dX4_readLine_125 e22 ?_
          refine AW.goto (tgt := 133) dX4_readLine_126 (by decide) ?_
          refine AW.sub (lv1 := [(0, rv z 4), (1, iv (g 42 (ix (g 4 6)))), (2, iv (g 3 3))]) [2, 1, 0] rfl ?_
          cases h
          exact J80
      · replace h := hT h c11
        refine AW.aloadr_n 2 dX4_readLine_83 rfl ?_
        obtain ⟨r23, e24, h⟩ := hC h
        refine AW.callVv (As := []) (st := []) (Parser_readTunnel_ok e24) cq_X4_119 cr_4_X4_readTunnel (Nat.le_trans (by decide) hdd) rfl dX4_readLine_84 rfl (Nat.le_of_ble_eq_true rfl) ?_
        refine AW.goto (tgt := 133) dX4_readLine_87 (by decide) ?_
        refine AW.sub (lv1 := [(0, rv z 4), (1, iv (g 42 (ix (g 4 6)))), (2, iv (g 3 3))]) [2, 1, 0] rfl ?_
        cases h
        exact J80
    · replace h := hF h c3
      refine AW.aloadr_n 2 dX4_readLine_41 rfl ?_
      refine AW.iconst dX4_readLine_42 ?_
      obtain ⟨r45, e46, h⟩ := hC h
      refine AW.callVv (As := [iv 3]) (st := []) (Parser_fail_ok e46) cq_X4_103 cr_4_X4_fail (Nat.le_trans (by decide) hdd) rfl dX4_readLine_43 rfl (Nat.le_of_ble_eq_true rfl) ?_
      exact AW.vret1 rfl dX4_readLine_46 h rfl
  · replace h := hT h c2
    refine AW.aloadr_n 2 dX4_readLine_29 rfl ?_
    refine AW.iconst dX4_readLine_30 ?_
    obtain ⟨r47, e48, h⟩ := hC h
    refine AW.callVv (As := [iv 1]) (st := []) (Parser_fail_ok e48) cq_X4_103 cr_4_X4_fail (Nat.le_trans (by decide) hdd) rfl dX4_readLine_31 rfl (Nat.le_of_ble_eq_true rfl) ?_
    exact AW.vret1 rfl dX4_readLine_34 h rfl
set_option synthInstance.maxHeartbeats 2000000 in
theorem Parser_read_b_ok {z : AZ} {d : Nat} (hdd : 42 ≤ d) : ∀ (tag : Nat) (x1 : Int) (g : AG) (r : Int × AG), Parser_read_b tag x1 g = some r → (tag = 1 → AW z (RX4, cX4_read, 2, (some .int)) d (QD (some .int) r) 28 [(0, rv z 4), (1, iv x1)] [] g) ∧ (tag = 2 → AW z (RX4, cX4_read, 2, (some .int)) d (QD (some .int) r) 63 [(0, rv z 4)] [] g) := by
  refine Parser_read_b.partial_correctness (fun tag x1 g r => (tag = 1 → AW z (RX4, cX4_read, 2, (some .int)) d (QD (some .int) r) 28 [(0, rv z 4), (1, iv x1)] [] g) ∧ (tag = 2 → AW z (RX4, cX4_read, 2, (some .int)) d (QD (some .int) r) 63 [(0, rv z 4)] [] g)) ?_
  intro fb9 ih tag x1 g r h
  refine ⟨fun h9 => ?_, fun h9 => ?_⟩
  · subst h9
    replace h := hT h rfl
    refine AW.iload_n 1 dX4_read_28 rfl ?_
    refine AW.bipush dX4_read_29 (by decide) (by decide) ?_
    refine AW.icmp_gt (tgt := 63) dX4_read_31 (by decide) (fun c1 => ?_) (fun c1 => ?_)
    · replace h := hT h c1
      refine AW.sub (lv1 := [(0, rv z 4)]) [0] rfl ?_
      exact (ih _ _ _ _ h).2 rfl
    · replace h := hF h c1
      refine AW.aloadr_n 0 dX4_read_34 rfl ?_
      refine AW.getI af_X4_32_4 sr_4_7 dX4_read_35 ?_
      refine AW.if_ne (tgt := 63) dX4_read_38 (by decide) (fun c2 => ?_) (fun c2 => ?_)
      · replace h := hF h c2
        refine AW.sub (lv1 := [(0, rv z 4)]) [0] rfl ?_
        exact (ih _ _ _ _ h).2 rfl
      · replace h := hT h c2
        refine AW.aloadr_n 0 dX4_read_41 rfl ?_
        refine AW.getR af_X4_15_4 sr_4_3 dX4_read_42 ?_
        refine AW.aloadr_n 0 dX4_read_45 rfl ?_
        refine AW.getI af_X4_35_4 sr_4_6 dX4_read_46 ?_
        obtain ⟨k3, h⟩ := hK h
        refine AW.iald kc_42 sk_42 k3 dX4_read_49 ?_
        refine AW.if_eq (tgt := 63) dX4_read_50 (by decide) (fun c4 => ?_) (fun c4 => ?_)
        · replace h := hT h c4
          refine AW.sub (lv1 := [(0, rv z 4)]) [0] rfl ?_
          exact (ih _ _ _ _ h).2 rfl
        · replace h := hF h c4
          refine AW.aloadr_n 0 dX4_read_53 rfl ?_
          obtain ⟨r5, e6, h⟩ := hC h
          refine AW.callVv (As := []) (st := []) (Parser_readLine_ok e6) cq_X4_46 cr_4_X4_readLine (Nat.le_trans (by decide) hdd) rfl dX4_read_54 rfl (Nat.le_of_ble_eq_true rfl) ?_
          refine AW.iinc (lv1 := [(1, iv (x1 + 1)), (0, rv z 4)]) 1 dX4_read_57 rfl (by decide) rfl ?_
          refine AW.goto (tgt := 28) dX4_read_60 (by decide) ?_
          refine AW.sub (lv1 := [(0, rv z 4), (1, iv (x1 + 1))]) [1, 0] rfl ?_
          exact (ih _ _ _ _ h).1 rfl
  · subst h9
    replace h := hF h (by decide)
    replace h := hT h rfl
    refine AW.aloadr_n 0 dX4_read_63 rfl ?_
    refine AW.iconst dX4_read_64 ?_
    obtain ⟨g1, e2, h⟩ := hBe h
    refine AW.putI ap_X4_29_4 sr_4_2 dX4_read_65 e2 ?_
    refine AW.aloadr_n 0 dX4_read_68 rfl ?_
    refine AW.getI af_X4_32_4 sr_4_7 dX4_read_69 ?_
    obtain ⟨t3, e4, h⟩ := hBe h
    refine AW.join (tgt := 86) (lv1 := [(0, rv z 4)]) (st1 := [iv t3]) (g1 := g1) ?_ (fun J72 => ?_)
    · exact AW.iret1 rfl dX4_read_86 h rfl
    refine AW.if_ne (tgt := 85) dX4_read_72 (by decide) (fun c5 => ?_) (fun c5 => ?_)
    · refine AW.iconst dX4_read_85 ?_
      exact AW.val (e4.trans (if_neg c5)) J72
    · refine AW.aloadr_n 0 dX4_read_75 rfl ?_
      refine AW.getR af_X4_25_4 sr_4_0 dX4_read_76 ?_
      refine AW.getI af_X4_49_3 sr_3_3 dX4_read_79 ?_
      refine AW.goto (tgt := 86) dX4_read_82 (by decide) ?_
      exact AW.val (e4.trans (if_pos c5)) J72
theorem Parser_read_ok {z : AZ} {g : AG} {r : Int × AG} (h : Parser_read g = some r) : AMf z yX4_read cX4_read 2 (some .int) 42 [rv z 4] g r := by
  intro d hdd
  refine AM.of (by decide +kernel) (Nat.le_of_ble_eq_true rfl) ?_
  show AW z (RX4, cX4_read, 2, (some .int)) d (QD (some .int) r) 0 [(0, rv z 4)] [] g
  unfold Parser_read at h
  refine AW.aloadr_n 0 dX4_read_0 rfl ?_
  refine AW.iconst dX4_read_1 ?_
  obtain ⟨g1, e2, h⟩ := hBe h
  refine AW.putI ap_X4_32_4 sr_4_7 dX4_read_2 e2 ?_
  refine AW.aloadr_n 0 dX4_read_5 rfl ?_
  refine AW.iconst dX4_read_6 ?_
  obtain ⟨g3, e4, h⟩ := hBe h
  refine AW.putI ap_X4_21_4 sr_4_8 dX4_read_7 e4 ?_
  refine AW.aloadr_n 0 dX4_read_10 rfl ?_
  refine AW.iconst dX4_read_11 ?_
  obtain ⟨g5, e6, h⟩ := hBe h
  refine AW.putI ap_X4_35_4 sr_4_6 dX4_read_12 e6 ?_
  refine AW.aloadr_n 0 dX4_read_15 rfl ?_
  refine AW.getR af_X4_25_4 sr_4_0 dX4_read_16 ?_
  obtain ⟨r7, e8, h⟩ := hC h
  refine AW.callVv (As := []) (st := []) (Rules_clear_ok e8) cq_X4_38 cr_3_X6_clear (Nat.le_trans (by decide) hdd) rfl dX4_read_19 rfl (Nat.le_of_ble_eq_true rfl) ?_
  refine AW.aloadr_n 0 dX4_read_22 rfl ?_
  obtain ⟨r9, e10, h⟩ := hC h
  refine AW.callVv (As := []) (st := []) (Parser_scan_ok e10) cq_X4_43 cr_4_X4_scan (Nat.le_trans (by decide) hdd) rfl dX4_read_23 rfl (Nat.le_of_ble_eq_true rfl) ?_
  refine AW.iconst dX4_read_26 ?_
  refine AW.istore_n (lv1 := [(1, iv 0), (0, rv z 4)]) dX4_read_27 (by decide) rfl ?_
  refine AW.sub (lv1 := [(0, rv z 4), (1, iv 0)]) [1, 0] rfl ?_
  exact (Parser_read_b_ok hdd _ _ _ _ h).1 rfl
