set_option synthInstance.maxHeartbeats 2000000 in
theorem Parser_scan_b_ok {z : AZ} {d : Nat} (hdd : 7 ≤ d) : ∀ (tag : Nat) (x1 : Int) (x2 : Int) (g : AG) (r : Int × AG), Parser_scan_b tag x1 x2 g = some r → (tag = 1 → AW z (RX4, cX4_scan, 5, none) d (QD none r) 9 [(0, rv z 4), (1, iv x1), (2, iv x2)] [] g) ∧ (tag = 2 → AW z (RX4, cX4_scan, 5, none) d (QD none r) 135 [(0, rv z 4)] [] g) := by
  refine Parser_scan_b.partial_correctness (fun tag x1 x2 g r => (tag = 1 → AW z (RX4, cX4_scan, 5, none) d (QD none r) 9 [(0, rv z 4), (1, iv x1), (2, iv x2)] [] g) ∧ (tag = 2 → AW z (RX4, cX4_scan, 5, none) d (QD none r) 135 [(0, rv z 4)] [] g)) ?_
  intro fb9 ih tag x1 x2 g r h
  refine ⟨fun h9 => ?_, fun h9 => ?_⟩
  · subst h9
    replace h := hT h rfl
    refine AW.iload_n 2 (dcN_7 dcg_111 :) rfl ?_
    refine AW.sipush (dcN_8 dcg_111 :) (by decide) (by decide) ?_
    refine AW.icmp_ge (tgt := 135) (dcN_9 dcg_111 :) (by decide) (fun c1 => ?_) (fun c1 => ?_)
    · replace h := hT h c1
      refine AW.sub (lv1 := [(0, rv z 4)]) [0] rfl ?_
      exact (ih _ _ _ _ _ h).2 rfl
    · replace h := hF h c1
      refine AW.iload_n 1 (dcN_10 dcg_111 :) rfl ?_
      refine AW.aloadr_n 0 (dcN_11 dcg_111 :) rfl ?_
      refine AW.getI af_X4_29_4 sr_4_2 (dcN_12 dcg_111 :) ?_
      refine AW.icmp_ge (tgt := 135) (dcN_13 dcg_111 :) (by decide) (fun c2 => ?_) (fun c2 => ?_)
      · replace h := hT h c2
        refine AW.sub (lv1 := [(0, rv z 4)]) [0] rfl ?_
        exact (ih _ _ _ _ _ h).2 rfl
      · replace h := hF h c2
        refine AW.aloadr_n 0 (dcN_14 dcg_111 :) rfl ?_
        refine AW.getR af_X4_9_4 sr_4_1 (dcN_15 dcg_111 :) ?_
        refine AW.iload_n 1 (dcN_16 dcg_111 :) rfl ?_
        obtain ⟨k3, h⟩ := hK h
        refine AW.iald kc_41 sk_41 k3 (dcN_17 dcg_111 :) ?_
        refine AW.istore_n (lv1 := [(3, iv (g 41 (ix x1))), (0, rv z 4), (1, iv x1), (2, iv x2)]) (dcN_18 dcg_111 :) (by decide) rfl ?_
        refine AW.iload_n 2 (dcN_19 dcg_111 :) rfl ?_
        refine AW.iconst (dcN_0 dcg_112 :) ?_
        refine AW.iadd (dcN_1 dcg_112 :) ?_
        refine AW.istore (lv1 := [(4, iv (x1 + 1)), (3, iv (g 41 (ix x1))), (0, rv z 4), (1, iv x1), (2, iv x2)]) (dcN_2 dcg_112 :) (by decide) rfl ?_
        refine AW.iload_n 1 (dcN_3 dcg_112 :) rfl ?_
        refine AW.callSi (As := [iv (g 41 (ix x1))]) (st := []) Parser_isLetter_ok cq_X4_55 st_X4_isLetter (Nat.le_trans (by decide) hdd) rfl (dcN_4 dcg_112 :) rfl (Nat.le_of_ble_eq_true rfl) ?_
        obtain ⟨r25, e26, h⟩ := hC h
        refine AW.join (tgt := 126) (lv1 := [(0, rv z 4), (2, iv x2), (4, iv r25.1)]) (st1 := []) (g1 := r25.2) ?_ (fun J40 => ?_)
        · refine AW.iload 2 (dcN_15 dcg_114 :) rfl ?_
          refine AW.istore_n (lv1 := [(1, iv r25.1), (0, rv z 4), (2, iv x2), (4, iv r25.1)]) (dcN_0 dcg_115 :) (by decide) rfl ?_
          refine AW.iinc (lv1 := [(2, iv (x2 + 1)), (1, iv r25.1), (0, rv z 4), (4, iv r25.1)]) 2 (dcN_1 dcg_115 :) rfl (by decide) rfl ?_
          refine AW.goto (tgt := 9) (dcN_2 dcg_115 :) (by decide) ?_
          refine AW.sub (lv1 := [(0, rv z 4), (1, iv r25.1), (2, iv (x2 + 1))]) [2, 1, 0] rfl ?_
          exact (ih _ _ _ _ _ h).1 rfl
        replace h := e26
        refine AW.if_eq (tgt := 65) (dcN_5 dcg_112 :) (by decide) (fun c4 => ?_) (fun c4 => ?_)
        · replace h := hT h c4
          refine AW.iload_n 1 (dcN_0 dcg_113 :) rfl ?_
          refine AW.callSi (As := [iv (g 41 (ix x1))]) (st := []) Parser_isDigit_ok cq_X4_71 st_X4_isDigit (Nat.le_trans (by decide) hdd) rfl (dcN_1 dcg_113 :) rfl (Nat.le_of_ble_eq_true rfl) ?_
          refine AW.if_eq (tgt := 94) (dcN_2 dcg_113 :) (by decide) (fun c5 => ?_) (fun c5 => ?_)
          · replace h := hT h c5
            refine AW.iload_n 1 (dcN_15 dcg_113 :) rfl ?_
            refine AW.bipush (dcN_16 dcg_113 :) (by decide) (by decide) ?_
            refine AW.icmp_eq (tgt := 126) (dcN_0 dcg_114 :) (by decide) (fun c6 => ?_) (fun c6 => ?_)
            · replace h := hT h c6
              refine AW.sub (lv1 := [(0, rv z 4), (2, iv x2), (4, iv (x1 + 1))]) [2, 4, 0] rfl ?_
              cases h
              exact J40
            · replace h := hF h c6
              refine AW.iload_n 1 (dcN_1 dcg_114 :) rfl ?_
              refine AW.bipush (dcN_2 dcg_114 :) (by decide) (by decide) ?_
              refine AW.icmp_eq (tgt := 126) (dcN_3 dcg_114 :) (by decide) (fun c7 => ?_) (fun c7 => ?_)
              · replace h := hT h c7
                refine AW.sub (lv1 := [(0, rv z 4), (2, iv x2), (4, iv (x1 + 1))]) [2, 4, 0] rfl ?_
                cases h
                exact J40
              · replace h := hF h c7
                refine AW.aloadr_n 2 (dcN_4 dcg_114 :) rfl ?_
                refine AW.ldcS (dcN_5 dcg_114 :) sw_X4_80 ?_
                refine AW.iload_n 1 (dcN_6 dcg_114 :) rfl ?_
                refine AW.i2c (dcN_7 dcg_114 :) ?_
                refine AW.tIx cq_X4_82 (by decide) (Nat.le_trans (by decide) hdd) (dcN_8 dcg_114 :) (Nat.le_of_ble_eq_true rfl) ?_
                obtain ⟨t8, e9, h⟩ := hBe h
                refine AW.join (tgt := 122) (lv1 := [(4, iv (x1 + 1)), (3, iv (g 41 (ix x1))), (0, rv z 4), (1, iv x1), (2, iv x2)]) (st1 := [iv t8, rv z 4]) (g1 := g) ?_ (fun J114 => ?_)
                · refine AW.iload_n 3 (dcN_13 dcg_114 :) rfl ?_
                  obtain ⟨r10, e11, h⟩ := hC h
                  refine AW.callVv (As := [iv t8, iv x1]) (st := []) (Parser_add_ok e11) cq_X4_67 cr_4_X4_add (Nat.le_trans (by decide) hdd) rfl (dcN_14 dcg_114 :) rfl (Nat.le_of_ble_eq_true rfl) ?_
                  refine AW.sub (lv1 := [(0, rv z 4), (2, iv x2), (4, iv (x1 + 1))]) [2, 4, 0] rfl ?_
                  cases h
                  exact J40
                refine AW.if_lt (tgt := 121) (dcN_9 dcg_114 :) (by decide) (fun c12 => ?_) (fun c12 => ?_)
                · refine AW.iconst (dcN_12 dcg_114 :) ?_
                  exact AW.val (e9.trans (if_pos c12)) J114
                · refine AW.iload_n 1 (dcN_10 dcg_114 :) rfl ?_
                  refine AW.goto (tgt := 122) (dcN_11 dcg_114 :) (by decide) ?_
                  exact AW.val (e9.trans (if_neg c12)) J114
          · replace h := hF h c5
            refine AW.aloadr_n 2 (dcN_3 dcg_113 :) rfl ?_
            refine AW.iload_n 3 (dcN_4 dcg_113 :) rfl ?_
            obtain ⟨r13, e14, h⟩ := hC h
            refine AW.callVi (As := [iv x1]) (st := []) (Parser_endOfDigits_ok e14) cq_X4_74 cr_4_X4_endOfDigits (Nat.le_trans (by decide) hdd) rfl (dcN_5 dcg_113 :) rfl (Nat.le_of_ble_eq_true rfl) ?_
            refine AW.istore (lv1 := [(4, iv r13), (3, iv (g 41 (ix x1))), (0, rv z 4), (1, iv x1), (2, iv x2)]) (dcN_6 dcg_113 :) (by decide) rfl ?_
            refine AW.aloadr_n 2 (dcN_7 dcg_113 :) rfl ?_
            refine AW.aloadr_n 2 (dcN_8 dcg_113 :) rfl ?_
            refine AW.iload_n 3 (dcN_9 dcg_113 :) rfl ?_
            refine AW.iload 0 (dcN_10 dcg_113 :) rfl ?_
            obtain ⟨r15, e16, h⟩ := hC h
            refine AW.callVi (As := [iv x1, iv r13]) (st := [rv z 4]) (Parser_numberOf_ok e16) cq_X4_77 cr_4_X4_numberOf (Nat.le_trans (by decide) hdd) rfl (dcN_11 dcg_113 :) rfl (Nat.le_of_ble_eq_true rfl) ?_
            refine AW.iload_n 3 (dcN_12 dcg_113 :) rfl ?_
            obtain ⟨r17, e18, h⟩ := hC h
            refine AW.callVv (As := [iv r15, iv x1]) (st := []) (Parser_add_ok e18) cq_X4_67 cr_4_X4_add (Nat.le_trans (by decide) hdd) rfl (dcN_13 dcg_113 :) rfl (Nat.le_of_ble_eq_true rfl) ?_
            refine AW.goto (tgt := 126) (dcN_14 dcg_113 :) (by decide) ?_
            refine AW.sub (lv1 := [(0, rv z 4), (2, iv x2), (4, iv r13)]) [2, 4, 0] rfl ?_
            cases h
            exact J40
        · replace h := hF h c4
          refine AW.aloadr_n 2 (dcN_6 dcg_112 :) rfl ?_
          refine AW.iload_n 3 (dcN_7 dcg_112 :) rfl ?_
          obtain ⟨r19, e20, h⟩ := hC h
          refine AW.callVi (As := [iv x1]) (st := []) (Parser_endOfWord_ok e20) cq_X4_59 cr_4_X4_endOfWord (Nat.le_trans (by decide) hdd) rfl (dcN_8 dcg_112 :) rfl (Nat.le_of_ble_eq_true rfl) ?_
          refine AW.istore (lv1 := [(4, iv r19), (3, iv (g 41 (ix x1))), (0, rv z 4), (1, iv x1), (2, iv x2)]) (dcN_9 dcg_112 :) (by decide) rfl ?_
          refine AW.aloadr_n 2 (dcN_10 dcg_112 :) rfl ?_
          refine AW.aloadr_n 2 (dcN_11 dcg_112 :) rfl ?_
          refine AW.iload_n 3 (dcN_12 dcg_112 :) rfl ?_
          refine AW.iload 0 (dcN_13 dcg_112 :) rfl ?_
          obtain ⟨r21, e22, h⟩ := hC h
          refine AW.callVi (As := [iv x1, iv r19]) (st := [rv z 4]) (Parser_wordOf_ok e22) cq_X4_63 cr_4_X4_wordOf (Nat.le_trans (by decide) hdd) rfl (dcN_14 dcg_112 :) rfl (Nat.le_of_ble_eq_true rfl) ?_
          refine AW.iload_n 3 (dcN_15 dcg_112 :) rfl ?_
          obtain ⟨r23, e24, h⟩ := hC h
          refine AW.callVv (As := [iv r21, iv x1]) (st := []) (Parser_add_ok e24) cq_X4_67 cr_4_X4_add (Nat.le_trans (by decide) hdd) rfl (dcN_16 dcg_112 :) rfl (Nat.le_of_ble_eq_true rfl) ?_
          refine AW.goto (tgt := 126) (dcN_17 dcg_112 :) (by decide) ?_
          refine AW.sub (lv1 := [(0, rv z 4), (2, iv x2), (4, iv r19)]) [2, 4, 0] rfl ?_
          cases h
          exact J40
  · subst h9
    replace h := hF h (by decide)
    replace h := hT h rfl
    refine AW.aloadr_n 0 (dcN_3 dcg_115 :) rfl ?_
    refine AW.iconst (dcN_4 dcg_115 :) ?_
    refine AW.aloadr_n 0 (dcN_5 dcg_115 :) rfl ?_
    refine AW.getI af_X4_29_4 sr_4_2 (dcN_6 dcg_115 :) ?_
    obtain ⟨r1, e2, h⟩ := hC h
    refine AW.callVv (As := [iv 0, iv (g 4 2)]) (st := []) (Parser_add_ok e2) cq_X4_67 cr_4_X4_add (Nat.le_trans (by decide) hdd) rfl (dcN_7 dcg_115 :) rfl (Nat.le_of_ble_eq_true rfl) ?_
    exact AW.vret1 rfl (dcN_8 dcg_115 :) h rfl
theorem Parser_scan_ok {z : AZ} {g : AG} {r : Int × AG} (h : Parser_scan g = some r) : AMf z yX4_scan cX4_scan 5 none 7 [rv z 4] g r := by
  intro d hdd
  refine AM.of (by decide +kernel) (Nat.le_of_ble_eq_true rfl) ?_
  show AW z (RX4, cX4_scan, 5, none) d (QD none r) 0 [(0, rv z 4)] [] g
  unfold Parser_scan at h
  refine AW.aloadr_n 0 (dcN_0 dcg_111 :) rfl ?_
  refine AW.iconst (dcN_1 dcg_111 :) ?_
  obtain ⟨g1, e2, h⟩ := hBe h
  refine AW.putI ap_X4_52_4 sr_4_5 (dcN_2 dcg_111 :) e2 ?_
  refine AW.iconst (dcN_3 dcg_111 :) ?_
  refine AW.istore_n (lv1 := [(1, iv 0), (0, rv z 4)]) (dcN_4 dcg_111 :) (by decide) rfl ?_
  refine AW.iconst (dcN_5 dcg_111 :) ?_
  refine AW.istore_n (lv1 := [(2, iv 0), (1, iv 0), (0, rv z 4)]) (dcN_6 dcg_111 :) (by decide) rfl ?_
  refine AW.sub (lv1 := [(0, rv z 4), (1, iv 0), (2, iv 0)]) [2, 1, 0] rfl ?_
  exact (Parser_scan_b_ok hdd _ _ _ _ _ h).1 rfl
theorem Parser_goOn_ok {z : AZ} {g : AG} {r : Int × AG} (h : Parser_goOn g = some r) : AMf z yX4_goOn cX4_goOn 1 none 0 [rv z 4] g r := by
  intro d hdd
  refine AM.of (by decide +kernel) (Nat.le_of_ble_eq_true rfl) ?_
  show AW z (RX4, cX4_goOn, 1, none) d (QD none r) 0 [(0, rv z 4)] [] g
  unfold Parser_goOn at h
  refine AW.aloadr_n 0 (dcN_0 dcg_137 :) rfl ?_
  refine AW.getI af_X4_35_4 sr_4_6 (dcN_1 dcg_137 :) ?_
  refine AW.aloadr_n 0 (dcN_2 dcg_137 :) rfl ?_
  refine AW.getI af_X4_52_4 sr_4_5 (dcN_3 dcg_137 :) ?_
  refine AW.iconst (dcN_4 dcg_137 :) ?_
  refine AW.isub (dcN_5 dcg_137 :) ?_
  obtain ⟨r4, e5, h⟩ := hC h
  refine AW.join (tgt := 23) (lv1 := []) (st1 := []) (g1 := r4) ?_ (fun J10 => ?_)
  · exact AW.vret1 rfl (dcN_1 dcg_138 :) h rfl
  replace h := e5
  refine AW.icmp_ge (tgt := 23) (dcN_6 dcg_137 :) (by decide) (fun c1 => ?_) (fun c1 => ?_)
  · replace h := hT h c1
    refine AW.sub (lv1 := []) [] rfl ?_
    cases h
    exact J10
  · replace h := hF h c1
    refine AW.aloadr_n 0 (dcN_7 dcg_137 :) rfl ?_
    refine AW.duprr (dcN_8 dcg_137 :) ?_
    refine AW.getI af_X4_35_4 sr_4_6 (dcN_9 dcg_137 :) ?_
    refine AW.iconst (dcN_10 dcg_137 :) ?_
    refine AW.iadd (dcN_11 dcg_137 :) ?_
    obtain ⟨g2, e3, h⟩ := hBe h
    refine AW.putI ap_X4_35_4 sr_4_6 (dcN_0 dcg_138 :) e3 ?_
    refine AW.sub (lv1 := []) [] rfl ?_
    cases h
    exact J10
theorem Parser_fail_ok {z : AZ} {x1 : Int} {g : AG} {r : Int × AG} (h : Parser_fail x1 g = some r) : AMf z yX4_fail cX4_fail 2 none 0 [rv z 4, iv x1] g r := by
  intro d hdd
  refine AM.of (by decide +kernel) (Nat.le_of_ble_eq_true rfl) ?_
  show AW z (RX4, cX4_fail, 2, none) d (QD none r) 0 [(0, rv z 4), (1, iv x1)] [] g
  unfold Parser_fail at h
  refine AW.aloadr_n 0 (dcN_0 dcg_133 :) rfl ?_
  refine AW.getI af_X4_32_4 sr_4_7 (dcN_1 dcg_133 :) ?_
  obtain ⟨r7, e8, h⟩ := hC h
  refine AW.join (tgt := 25) (lv1 := []) (st1 := []) (g1 := r7) ?_ (fun J4 => ?_)
  · exact AW.vret1 rfl (dcN_1 dcg_134 :) h rfl
  replace h := e8
  refine AW.if_ne (tgt := 25) (dcN_2 dcg_133 :) (by decide) (fun c1 => ?_) (fun c1 => ?_)
  · replace h := hF h c1
    refine AW.sub (lv1 := []) [] rfl ?_
    cases h
    exact J4
  · replace h := hT h c1
    refine AW.aloadr_n 0 (dcN_3 dcg_133 :) rfl ?_
    refine AW.iload_n 1 (dcN_4 dcg_133 :) rfl ?_
    obtain ⟨g2, e3, h⟩ := hBe h
    refine AW.putI ap_X4_32_4 sr_4_7 (dcN_5 dcg_133 :) e3 ?_
    refine AW.aloadr_n 0 (dcN_6 dcg_133 :) rfl ?_
    refine AW.aloadr_n 0 (dcN_7 dcg_133 :) rfl ?_
    refine AW.getR af_X4_18_4 sr_4_4 (dcN_8 dcg_133 :) ?_
    refine AW.aloadr_n 0 (dcN_9 dcg_133 :) rfl ?_
    refine AW.getI af_X4_35_4 sr_4_6 (dcN_10 dcg_133 :) ?_
    obtain ⟨k4, h⟩ := hK h
    refine AW.iald kc_43 sk_43 k4 (dcN_11 dcg_133 :) ?_
    obtain ⟨g5, e6, h⟩ := hBe h
    refine AW.putI ap_X4_21_4 sr_4_8 (dcN_0 dcg_134 :) e6 ?_
    refine AW.sub (lv1 := []) [] rfl ?_
    cases h
    exact J4
theorem Rules_put_ok {z : AZ} {x1 : Int} {x2 : Int} {g : AG} {r : Int × AG} (h : Rules_put x1 x2 g = some r) : AMf z yX6_put cX6_put 3 none 0 [rv z 3, iv x1, iv x2] g r := by
  intro d hdd
  refine AM.of (by decide +kernel) (Nat.le_of_ble_eq_true rfl) ?_
  show AW z (RX6, cX6_put, 3, none) d (QD none r) 0 [(0, rv z 3), (1, iv x1), (2, iv x2)] [] g
  unfold Rules_put at h
  refine AW.aloadr_n 0 (dcN_0 dcg_196 :) rfl ?_
  refine AW.getI af_X6_48_3 sr_3_2 (dcN_1 dcg_196 :) ?_
  refine AW.sipush (dcN_2 dcg_196 :) (by decide) (by decide) ?_
  obtain ⟨r10, e11, h⟩ := hC h
  refine AW.join (tgt := 40) (lv1 := []) (st1 := []) (g1 := r10) ?_ (fun J7 => ?_)
  · exact AW.vret1 rfl (dcN_10 dcg_197 :) h rfl
  replace h := e11
  refine AW.icmp_ge (tgt := 40) (dcN_3 dcg_196 :) (by decide) (fun c1 => ?_) (fun c1 => ?_)
  · replace h := hT h c1
    refine AW.sub (lv1 := []) [] rfl ?_
    cases h
    exact J7
  · replace h := hF h c1
    refine AW.aloadr_n 0 (dcN_4 dcg_196 :) rfl ?_
    refine AW.getR af_X6_9_3 sr_3_0 (dcN_5 dcg_196 :) ?_
    refine AW.aloadr_n 0 (dcN_6 dcg_196 :) rfl ?_
    refine AW.getI af_X6_48_3 sr_3_2 (dcN_7 dcg_196 :) ?_
    refine AW.iload_n 1 (dcN_8 dcg_196 :) rfl ?_
    obtain ⟨k2, h⟩ := hK h
    obtain ⟨g3, e4, h⟩ := hBe h
    refine AW.iast kc_29 sk_29 k2 (dcN_9 dcg_196 :) e4 ?_
    refine AW.aloadr_n 0 (dcN_10 dcg_196 :) rfl ?_
    refine AW.getR af_X6_15_3 sr_3_1 (dcN_11 dcg_196 :) ?_
    refine AW.aloadr_n 0 (dcN_0 dcg_197 :) rfl ?_
    refine AW.getI af_X6_48_3 sr_3_2 (dcN_1 dcg_197 :) ?_
    refine AW.iload_n 2 (dcN_2 dcg_197 :) rfl ?_
    obtain ⟨k5, h⟩ := hK h
    obtain ⟨g6, e7, h⟩ := hBe h
    refine AW.iast kc_30 sk_30 k5 (dcN_3 dcg_197 :) e7 ?_
    refine AW.aloadr_n 0 (dcN_4 dcg_197 :) rfl ?_
    refine AW.duprr (dcN_5 dcg_197 :) ?_
    refine AW.getI af_X6_48_3 sr_3_2 (dcN_6 dcg_197 :) ?_
    refine AW.iconst (dcN_7 dcg_197 :) ?_
    refine AW.iadd (dcN_8 dcg_197 :) ?_
    obtain ⟨g8, e9, h⟩ := hBe h
    refine AW.putI ap_X6_48_3 sr_3_2 (dcN_9 dcg_197 :) e9 ?_
    refine AW.sub (lv1 := []) [] rfl ?_
    cases h
    exact J7
set_option synthInstance.maxHeartbeats 2000000 in
theorem Parser_readUnit_b_ok {z : AZ} {d : Nat} (hdd : 1 ≤ d) {g : AG} : ∀ (r : Int × AG), Parser_readUnit_b g = some r → AW z (RX4, cX4_readUnit, 2, none) d (QD none r) 73 [(0, rv z 4)] [] g := by
  intro r h
  unfold Parser_readUnit_b at h
  refine AW.aloadr_n 0 (dcN_5 dcg_172 :) rfl ?_
  obtain ⟨r1, e2, h⟩ := hC h
  refine AW.callVv (As := []) (st := []) (Parser_goOn_ok e2) cq_X4_107 cr_4_X4_goOn (Nat.le_trans (by decide) hdd) rfl (dcN_6 dcg_172 :) rfl (Nat.le_of_ble_eq_true rfl) ?_
  exact AW.vret1 rfl (dcN_7 dcg_172 :) h rfl
theorem Parser_readUnit_ok {z : AZ} {g : AG} {r : Int × AG} (h : Parser_readUnit g = some r) : AMf z yX4_readUnit cX4_readUnit 2 none 1 [rv z 4] g r := by
  intro d hdd
  refine AM.of (by decide +kernel) (Nat.le_of_ble_eq_true rfl) ?_
  show AW z (RX4, cX4_readUnit, 2, none) d (QD none r) 0 [(0, rv z 4)] [] g
  unfold Parser_readUnit at h
  refine AW.aloadr_n 0 (dcN_0 dcg_170 :) rfl ?_
  refine AW.getR af_X4_15_4 sr_4_3 (dcN_1 dcg_170 :) ?_
  refine AW.aloadr_n 0 (dcN_2 dcg_170 :) rfl ?_
  refine AW.getI af_X4_35_4 sr_4_6 (dcN_3 dcg_170 :) ?_
  obtain ⟨k1, h⟩ := hK h
  refine AW.iald kc_42 sk_42 k1 (dcN_4 dcg_170 :) ?_
  refine AW.istore_n (lv1 := [(1, iv (g 42 (ix (g 4 6)))), (0, rv z 4)]) (dcN_5 dcg_170 :) (by decide) rfl ?_
  refine AW.aloadr_n 1 (dcN_6 dcg_170 :) rfl ?_
  refine AW.getI af_X4_32_4 sr_4_7 (dcN_7 dcg_170 :) ?_
  refine AW.if_eq (tgt := 18) (dcN_8 dcg_170 :) (by decide) (fun c2 => ?_) (fun c2 => ?_)
  · replace h := hT h c2
    refine AW.iload_n 0 (dcN_10 dcg_170 :) rfl ?_
    refine AW.sipush (dcN_11 dcg_170 :) (by decide) (by decide) ?_
    refine AW.icmp_lt (tgt := 41) (dcN_12 dcg_170 :) (by decide) (fun c3 => ?_) (fun c3 => ?_)
    · replace h := hT h c3
      refine AW.iload_n 0 (dcN_3 dcg_171 :) rfl ?_
      refine AW.bipush (dcN_4 dcg_171 :) (by decide) (by decide) ?_
      refine AW.bipush (dcN_5 dcg_171 :) (by decide) (by decide) ?_
      refine AW.callN0 (As := [iv (g 42 (ix (g 4 6))), iv 111, iv 119]) (st := []) X_within_ok ns_X4_87 in_X11 cd_X11_within st_X11_within (by decide) (Nat.le_trans (by decide) hdd) rfl (Nat.le_of_ble_eq_true rfl) (dcN_6 dcg_171 :) rfl ?_
      refine AW.if_eq (tgt := 67) (dcN_7 dcg_171 :) (by decide) (fun c4 => ?_) (fun c4 => ?_)
      · replace h := hT h c4
        refine AW.aloadr_n 1 (dcN_1 dcg_172 :) rfl ?_
        refine AW.iconst (dcN_2 dcg_172 :) ?_
        obtain ⟨r5, e6, h⟩ := hC h
        refine AW.callVv (As := [iv 1]) (st := []) (Parser_fail_ok e6) cq_X4_103 cr_4_X4_fail (Nat.le_trans (by decide) hdd) rfl (dcN_3 dcg_172 :) rfl (Nat.le_of_ble_eq_true rfl) ?_
        exact AW.vret1 rfl (dcN_4 dcg_172 :) h rfl
      · replace h := hF h c4
        refine AW.aloadr_n 1 (dcN_8 dcg_171 :) rfl ?_
        refine AW.getR af_X4_25_4 sr_4_0 (dcN_9 dcg_171 :) ?_
        refine AW.iconst (dcN_10 dcg_171 :) ?_
        refine AW.iload_n 0 (dcN_11 dcg_171 :) rfl ?_
        refine AW.bipush (dcN_12 dcg_171 :) (by decide) (by decide) ?_
        refine AW.isub (dcN_13 dcg_171 :) ?_
        obtain ⟨r7, e8, h⟩ := hC h
        refine AW.callVv (As := [iv 3, iv ((g 42 (ix (g 4 6))) - 111)]) (st := []) (Rules_put_ok e8) cq_X4_164 cr_3_X6_put (Nat.le_trans (by decide) hdd) rfl (dcN_14 dcg_171 :) rfl (Nat.le_of_ble_eq_true rfl) ?_
        refine AW.goto (tgt := 73) (dcN_0 dcg_172 :) (by decide) ?_
        refine AW.sub (lv1 := [(0, rv z 4)]) [1] rfl ?_
        exact Parser_readUnit_b_ok hdd _ h
    · replace h := hF h c3
      refine AW.aloadr_n 1 (dcN_13 dcg_170 :) rfl ?_
      refine AW.getR af_X4_25_4 sr_4_0 (dcN_14 dcg_170 :) ?_
      refine AW.iconst (dcN_15 dcg_170 :) ?_
      refine AW.iload_n 0 (dcN_16 dcg_170 :) rfl ?_
      refine AW.sipush (dcN_17 dcg_170 :) (by decide) (by decide) ?_
      refine AW.isub (dcN_0 dcg_171 :) ?_
      obtain ⟨r9, e10, h⟩ := hC h
      refine AW.callVv (As := [iv 2, iv ((g 42 (ix (g 4 6))) - 1000)]) (st := []) (Rules_put_ok e10) cq_X4_164 cr_3_X6_put (Nat.le_trans (by decide) hdd) rfl (dcN_1 dcg_171 :) rfl (Nat.le_of_ble_eq_true rfl) ?_
      refine AW.goto (tgt := 73) (dcN_2 dcg_171 :) (by decide) ?_
      refine AW.sub (lv1 := [(0, rv z 4)]) [1] rfl ?_
      exact Parser_readUnit_b_ok hdd _ h
  · replace h := hF h c2
    exact AW.vret1 rfl (dcN_9 dcg_170 :) h rfl
theorem Parser_is_ok {z : AZ} {x1 : Int} {g : AG} {r : Int} (h : Parser_is x1 g = some r) : AMf z yX4_is cX4_is 2 (some .boolean) 0 [rv z 4, iv x1] g (r, g) := by
  intro d hdd
  refine AM.of (by decide +kernel) (Nat.le_of_ble_eq_true rfl) ?_
  show AW z (RX4, cX4_is, 2, (some .boolean)) d (QD (some .boolean) (r, g)) 0 [(0, rv z 4), (1, iv x1)] [] g
  unfold Parser_is at h
  refine AW.aloadr_n 0 (dcN_0 dcg_135 :) rfl ?_
  refine AW.getI af_X4_32_4 sr_4_7 (dcN_1 dcg_135 :) ?_
  obtain ⟨r6, e7, h⟩ := hC h
  refine AW.join (tgt := 25) (lv1 := []) (st1 := [iv r6]) (g1 := g) ?_ (fun J4 => ?_)
  · obtain ⟨k8, h⟩ := hK h
    exact AW.zret2 rfl k8 (dcN_1 dcg_136 :) h rfl
  replace h := e7
  refine AW.if_ne (tgt := 24) (dcN_2 dcg_135 :) (by decide) (fun c1 => ?_) (fun c1 => ?_)
  · replace h := hF h c1
    refine AW.iconst (dcN_0 dcg_136 :) ?_
    refine AW.sub (lv1 := []) [] rfl ?_
    cases h
    exact J4
  · replace h := hT h c1
    refine AW.aloadr_n 0 (dcN_3 dcg_135 :) rfl ?_
    refine AW.getR af_X4_15_4 sr_4_3 (dcN_4 dcg_135 :) ?_
    refine AW.aloadr_n 0 (dcN_5 dcg_135 :) rfl ?_
    refine AW.getI af_X4_35_4 sr_4_6 (dcN_6 dcg_135 :) ?_
    obtain ⟨k2, h⟩ := hK h
    refine AW.iald kc_42 sk_42 k2 (dcN_7 dcg_135 :) ?_
    refine AW.iload_n 1 (dcN_8 dcg_135 :) rfl ?_
    obtain ⟨t3, e4, h⟩ := hBe h
    refine AW.join (tgt := 25) (lv1 := [(0, rv z 4), (1, iv x1)]) (st1 := [iv t3]) (g1 := g) ?_ (fun J17 => ?_)
    · refine AW.sub (lv1 := []) [] rfl ?_
      cases h
      exact J4
    refine AW.icmp_ne (tgt := 24) (dcN_9 dcg_135 :) (by decide) (fun c5 => ?_) (fun c5 => ?_)
    · refine AW.iconst (dcN_0 dcg_136 :) ?_
      exact AW.val (e4.trans (if_neg c5)) J17
    · refine AW.iconst (dcN_10 dcg_135 :) ?_
      refine AW.goto (tgt := 25) (dcN_11 dcg_135 :) (by decide) ?_
      exact AW.val (e4.trans (if_pos c5)) J17
theorem Parser_readPart_ok {z : AZ} {g : AG} {r : Int × AG} (h : Parser_readPart g = some r) : AMf z yX4_readPart cX4_readPart 2 none 1 [rv z 4] g r := by
  intro d hdd
  refine AM.of (by decide +kernel) (Nat.le_of_ble_eq_true rfl) ?_
  show AW z (RX4, cX4_readPart, 2, none) d (QD none r) 0 [(0, rv z 4)] [] g
  unfold Parser_readPart at h
  refine AW.aloadr_n 0 (dcN_0 dcg_173 :) rfl ?_
  refine AW.getR af_X4_15_4 sr_4_3 (dcN_1 dcg_173 :) ?_
  refine AW.aloadr_n 0 (dcN_2 dcg_173 :) rfl ?_
  refine AW.getI af_X4_35_4 sr_4_6 (dcN_3 dcg_173 :) ?_
  obtain ⟨k1, h⟩ := hK h
  refine AW.iald kc_42 sk_42 k1 (dcN_4 dcg_173 :) ?_
  refine AW.sipush (dcN_5 dcg_173 :) (by decide) (by decide) ?_
  refine AW.isub (dcN_6 dcg_173 :) ?_
  refine AW.istore_n (lv1 := [(1, iv ((g 42 (ix (g 4 6))) - 1000)), (0, rv z 4)]) (dcN_7 dcg_173 :) (by decide) rfl ?_
  refine AW.iload_n 0 (dcN_8 dcg_173 :) rfl ?_
  obtain ⟨r12, e13, h⟩ := hC h
  refine AW.join (tgt := 52) (lv1 := []) (st1 := []) (g1 := r12) ?_ (fun J15 => ?_)
  · exact AW.vret1 rfl (dcN_9 dcg_174 :) h rfl
  replace h := e13
  refine AW.if_ge (tgt := 26) (dcN_9 dcg_173 :) (by decide) (fun c2 => ?_) (fun c2 => ?_)
  · replace h := hT h c2
    refine AW.iload_n 0 (dcN_14 dcg_173 :) rfl ?_
    refine AW.if_ne (tgt := 38) (dcN_15 dcg_173 :) (by decide) (fun c3 => ?_) (fun c3 => ?_)
    · replace h := hF h c3
      refine AW.aloadr_n 1 (dcN_2 dcg_174 :) rfl ?_
      refine AW.getR af_X4_25_4 sr_4_0 (dcN_3 dcg_174 :) ?_
      refine AW.bipush (dcN_4 dcg_174 :) (by decide) (by decide) ?_
      refine AW.iload_n 0 (dcN_5 dcg_174 :) rfl ?_
      obtain ⟨r4, e5, h⟩ := hC h
      refine AW.callVv (As := [iv 47, iv ((g 42 (ix (g 4 6))) - 1000)]) (st := []) (Rules_put_ok e5) cq_X4_164 cr_3_X6_put (Nat.le_trans (by decide) hdd) rfl (dcN_6 dcg_174 :) rfl (Nat.le_of_ble_eq_true rfl) ?_
      refine AW.aloadr_n 1 (dcN_7 dcg_174 :) rfl ?_
      obtain ⟨r6, e7, h⟩ := hC h
      refine AW.callVv (As := []) (st := []) (Parser_goOn_ok e7) cq_X4_107 cr_4_X4_goOn (Nat.le_trans (by decide) hdd) rfl (dcN_8 dcg_174 :) rfl (Nat.le_of_ble_eq_true rfl) ?_
      refine AW.sub (lv1 := []) [] rfl ?_
      cases h
      exact J15
    · replace h := hT h c3
      refine AW.aloadr_n 1 (dcN_16 dcg_173 :) rfl ?_
      refine AW.iconst (dcN_17 dcg_173 :) ?_
      obtain ⟨r8, e9, h⟩ := hC h
      refine AW.callVv (As := [iv 2]) (st := []) (Parser_fail_ok e9) cq_X4_103 cr_4_X4_fail (Nat.le_trans (by decide) hdd) rfl (dcN_0 dcg_174 :) rfl (Nat.le_of_ble_eq_true rfl) ?_
      refine AW.goto (tgt := 52) (dcN_1 dcg_174 :) (by decide) ?_
      refine AW.sub (lv1 := []) [] rfl ?_
      cases h
      exact J15
  · replace h := hF h c2
    refine AW.aloadr_n 1 (dcN_10 dcg_173 :) rfl ?_
    refine AW.iconst (dcN_11 dcg_173 :) ?_
    obtain ⟨r10, e11, h⟩ := hC h
    refine AW.callVv (As := [iv 1]) (st := []) (Parser_fail_ok e11) cq_X4_103 cr_4_X4_fail (Nat.le_trans (by decide) hdd) rfl (dcN_12 dcg_173 :) rfl (Nat.le_of_ble_eq_true rfl) ?_
    refine AW.goto (tgt := 52) (dcN_13 dcg_173 :) (by decide) ?_
    refine AW.sub (lv1 := []) [] rfl ?_
    cases h
    exact J15
set_option synthInstance.maxHeartbeats 2000000 in
theorem Parser_readProduct_b_ok {z : AZ} {d : Nat} (hdd : 2 ≤ d) : ∀ (tag : Nat) (x1 : Int) (g : AG) (r : Int × AG), Parser_readProduct_b tag x1 g = some r → (tag = 1 → AW z (RX4, cX4_readProduct, 3, none) d (QD none r) 6 [(0, rv z 4), (1, iv x1)] [] g) ∧ (tag = 2 → AW z (RX4, cX4_readProduct, 3, none) d (QD none r) 31 [(0, rv z 4), (1, iv x1)] [] g) := by
  refine Parser_readProduct_b.partial_correctness (fun tag x1 g r => (tag = 1 → AW z (RX4, cX4_readProduct, 3, none) d (QD none r) 6 [(0, rv z 4), (1, iv x1)] [] g) ∧ (tag = 2 → AW z (RX4, cX4_readProduct, 3, none) d (QD none r) 31 [(0, rv z 4), (1, iv x1)] [] g)) ?_
  intro fb9 ih tag x1 g r h
  refine ⟨fun h9 => ?_, fun h9 => ?_⟩
  · subst h9
    replace h := hT h rfl
    refine AW.iload_n 1 (dcN_4 dcg_167 :) rfl ?_
    refine AW.sipush (dcN_5 dcg_167 :) (by decide) (by decide) ?_
    refine AW.icmp_ge (tgt := 73) (dcN_6 dcg_167 :) (by decide) (fun c1 => ?_) (fun c1 => ?_)
    · replace h := hT h c1
      exact AW.vret1 rfl (dcN_3 dcg_169 :) h rfl
    · replace h := hF h c1
      refine AW.aloadr_n 0 (dcN_7 dcg_167 :) rfl ?_
      refine AW.bipush (dcN_8 dcg_167 :) (by decide) (by decide) ?_
      obtain ⟨r2, e3, h⟩ := hC h
      refine AW.callVi (As := [iv 42]) (st := []) (Parser_is_ok e3) cq_X4_137 cr_4_X4_is (Nat.le_trans (by decide) hdd) rfl (dcN_9 dcg_167 :) rfl (Nat.le_of_ble_eq_true rfl) ?_
      refine AW.if_ne (tgt := 31) (dcN_10 dcg_167 :) (by decide) (fun c4 => ?_) (fun c4 => ?_)
      · replace h := hF h c4
        exact (ih _ _ _ _ h).2 rfl
      · replace h := hT h c4
        refine AW.aloadr_n 0 (dcN_11 dcg_167 :) rfl ?_
        refine AW.bipush (dcN_12 dcg_167 :) (by decide) (by decide) ?_
        obtain ⟨r5, e6, h⟩ := hC h
        refine AW.callVi (As := [iv 47]) (st := []) (Parser_is_ok e6) cq_X4_137 cr_4_X4_is (Nat.le_trans (by decide) hdd) rfl (dcN_13 dcg_167 :) rfl (Nat.le_of_ble_eq_true rfl) ?_
        refine AW.if_eq (tgt := 73) (dcN_14 dcg_167 :) (by decide) (fun c7 => ?_) (fun c7 => ?_)
        · replace h := hT h c7
          exact AW.vret1 rfl (dcN_3 dcg_169 :) h rfl
        · replace h := hF h c7
          exact (ih _ _ _ _ h).2 rfl
  · subst h9
    replace h := hF h (by decide)
    replace h := hT h rfl
    refine AW.aloadr_n 0 (dcN_15 dcg_167 :) rfl ?_
    refine AW.bipush (dcN_0 dcg_168 :) (by decide) (by decide) ?_
    obtain ⟨r1, e2, h⟩ := hC h
    refine AW.callVi (As := [iv 42]) (st := []) (Parser_is_ok e2) cq_X4_137 cr_4_X4_is (Nat.le_trans (by decide) hdd) rfl (dcN_1 dcg_168 :) rfl (Nat.le_of_ble_eq_true rfl) ?_
    refine AW.istore_n (lv1 := [(2, iv r1), (0, rv z 4), (1, iv x1)]) (dcN_2 dcg_168 :) (by decide) rfl ?_
    refine AW.aloadr_n 1 (dcN_3 dcg_168 :) rfl ?_
    obtain ⟨r3, e4, h⟩ := hC h
    refine AW.callVv (As := []) (st := []) (Parser_goOn_ok e4) cq_X4_107 cr_4_X4_goOn (Nat.le_trans (by decide) hdd) rfl (dcN_4 dcg_168 :) rfl (Nat.le_of_ble_eq_true rfl) ?_
    refine AW.iload_n 0 (dcN_5 dcg_168 :) rfl ?_
    obtain ⟨r12, e13, h⟩ := hC h
    refine AW.join (tgt := 67) (lv1 := [(0, rv z 4), (1, iv x1)]) (st1 := []) (g1 := r12) ?_ (fun J43 => ?_)
    · refine AW.iinc (lv1 := [(1, iv (x1 + 1)), (0, rv z 4)]) 1 (dcN_1 dcg_169 :) rfl (by decide) rfl ?_
      refine AW.goto (tgt := 6) (dcN_2 dcg_169 :) (by decide) ?_
      refine AW.sub (lv1 := [(0, rv z 4), (1, iv (x1 + 1))]) [1, 0] rfl ?_
      exact (ih _ _ _ _ h).1 rfl
    replace h := e13
    refine AW.if_eq (tgt := 63) (dcN_6 dcg_168 :) (by decide) (fun c5 => ?_) (fun c5 => ?_)
    · replace h := hT h c5
      refine AW.aloadr_n 1 (dcN_15 dcg_168 :) rfl ?_
      obtain ⟨r6, e7, h⟩ := hC h
      refine AW.callVv (As := []) (st := []) (Parser_readPart_ok e7) cq_X4_182 cr_4_X4_readPart (Nat.le_trans (by decide) hdd) rfl (dcN_0 dcg_169 :) rfl (Nat.le_of_ble_eq_true rfl) ?_
      refine AW.sub (lv1 := [(0, rv z 4), (1, iv x1)]) [1, 2] rfl ?_
      cases h
      exact J43
    · replace h := hF h c5
      refine AW.aloadr_n 1 (dcN_7 dcg_168 :) rfl ?_
      obtain ⟨r8, e9, h⟩ := hC h
      refine AW.callVv (As := []) (st := []) (Parser_readUnit_ok e9) cq_X4_179 cr_4_X4_readUnit (Nat.le_trans (by decide) hdd) rfl (dcN_8 dcg_168 :) rfl (Nat.le_of_ble_eq_true rfl) ?_
      refine AW.aloadr_n 1 (dcN_9 dcg_168 :) rfl ?_
      refine AW.getR af_X4_25_4 sr_4_0 (dcN_10 dcg_168 :) ?_
      refine AW.bipush (dcN_11 dcg_168 :) (by decide) (by decide) ?_
      refine AW.iconst (dcN_12 dcg_168 :) ?_
      obtain ⟨r10, e11, h⟩ := hC h
      refine AW.callVv (As := [iv 42, iv 0]) (st := []) (Rules_put_ok e11) cq_X4_164 cr_3_X6_put (Nat.le_trans (by decide) hdd) rfl (dcN_13 dcg_168 :) rfl (Nat.le_of_ble_eq_true rfl) ?_
      refine AW.goto (tgt := 67) (dcN_14 dcg_168 :) (by decide) ?_
      refine AW.sub (lv1 := [(0, rv z 4), (1, iv x1)]) [1, 2] rfl ?_
      cases h
      exact J43
theorem Parser_readProduct_ok {z : AZ} {g : AG} {r : Int × AG} (h : Parser_readProduct g = some r) : AMf z yX4_readProduct cX4_readProduct 3 none 2 [rv z 4] g r := by
  intro d hdd
  refine AM.of (by decide +kernel) (Nat.le_of_ble_eq_true rfl) ?_
  show AW z (RX4, cX4_readProduct, 3, none) d (QD none r) 0 [(0, rv z 4)] [] g
  unfold Parser_readProduct at h
  refine AW.aloadr_n 0 (dcN_0 dcg_167 :) rfl ?_
  obtain ⟨r1, e2, h⟩ := hC h
  refine AW.callVv (As := []) (st := []) (Parser_readUnit_ok e2) cq_X4_179 cr_4_X4_readUnit (Nat.le_trans (by decide) hdd) rfl (dcN_1 dcg_167 :) rfl (Nat.le_of_ble_eq_true rfl) ?_
  refine AW.iconst (dcN_2 dcg_167 :) ?_
  refine AW.istore_n (lv1 := [(1, iv 0), (0, rv z 4)]) (dcN_3 dcg_167 :) (by decide) rfl ?_
  refine AW.sub (lv1 := [(0, rv z 4), (1, iv 0)]) [1, 0] rfl ?_
  exact (Parser_readProduct_b_ok hdd _ _ _ _ h).1 rfl
set_option synthInstance.maxHeartbeats 2000000 in
theorem Parser_readSum_b_ok {z : AZ} {d : Nat} (hdd : 3 ≤ d) : ∀ (tag : Nat) (x1 : Int) (g : AG) (r : Int × AG), Parser_readSum_b tag x1 g = some r → (tag = 1 → AW z (RX4, cX4_readSum, 3, none) d (QD none r) 6 [(0, rv z 4), (1, iv x1)] [] g) ∧ (tag = 2 → AW z (RX4, cX4_readSum, 3, none) d (QD none r) 31 [(0, rv z 4), (1, iv x1)] [] g) := by
  refine Parser_readSum_b.partial_correctness (fun tag x1 g r => (tag = 1 → AW z (RX4, cX4_readSum, 3, none) d (QD none r) 6 [(0, rv z 4), (1, iv x1)] [] g) ∧ (tag = 2 → AW z (RX4, cX4_readSum, 3, none) d (QD none r) 31 [(0, rv z 4), (1, iv x1)] [] g)) ?_
  intro fb9 ih tag x1 g r h
  refine ⟨fun h9 => ?_, fun h9 => ?_⟩
  · subst h9
    replace h := hT h rfl
    refine AW.iload_n 1 (dcN_4 dcg_164 :) rfl ?_
    refine AW.sipush (dcN_5 dcg_164 :) (by decide) (by decide) ?_
    refine AW.icmp_ge (tgt := 64) (dcN_6 dcg_164 :) (by decide) (fun c1 => ?_) (fun c1 => ?_)
    · replace h := hT h c1
      exact AW.vret1 rfl (dcN_0 dcg_166 :) h rfl
    · replace h := hF h c1
      refine AW.aloadr_n 0 (dcN_7 dcg_164 :) rfl ?_
      refine AW.bipush (dcN_8 dcg_164 :) (by decide) (by decide) ?_
      obtain ⟨r2, e3, h⟩ := hC h
      refine AW.callVi (As := [iv 43]) (st := []) (Parser_is_ok e3) cq_X4_137 cr_4_X4_is (Nat.le_trans (by decide) hdd) rfl (dcN_9 dcg_164 :) rfl (Nat.le_of_ble_eq_true rfl) ?_
      refine AW.if_ne (tgt := 31) (dcN_10 dcg_164 :) (by decide) (fun c4 => ?_) (fun c4 => ?_)
      · replace h := hF h c4
        exact (ih _ _ _ _ h).2 rfl
      · replace h := hT h c4
        refine AW.aloadr_n 0 (dcN_11 dcg_164 :) rfl ?_
        refine AW.bipush (dcN_12 dcg_164 :) (by decide) (by decide) ?_
        obtain ⟨r5, e6, h⟩ := hC h
        refine AW.callVi (As := [iv 45]) (st := []) (Parser_is_ok e6) cq_X4_137 cr_4_X4_is (Nat.le_trans (by decide) hdd) rfl (dcN_13 dcg_164 :) rfl (Nat.le_of_ble_eq_true rfl) ?_
        refine AW.if_eq (tgt := 64) (dcN_14 dcg_164 :) (by decide) (fun c7 => ?_) (fun c7 => ?_)
        · replace h := hT h c7
          exact AW.vret1 rfl (dcN_0 dcg_166 :) h rfl
        · replace h := hF h c7
          exact (ih _ _ _ _ h).2 rfl
  · subst h9
    replace h := hF h (by decide)
    replace h := hT h rfl
    refine AW.aloadr_n 0 (dcN_15 dcg_164 :) rfl ?_
    refine AW.getR af_X4_15_4 sr_4_3 (dcN_0 dcg_165 :) ?_
    refine AW.aloadr_n 0 (dcN_1 dcg_165 :) rfl ?_
    refine AW.getI af_X4_35_4 sr_4_6 (dcN_2 dcg_165 :) ?_
    obtain ⟨k1, h⟩ := hK h
    refine AW.iald kc_42 sk_42 k1 (dcN_3 dcg_165 :) ?_
    refine AW.istore_n (lv1 := [(2, iv (g 42 (ix (g 4 6)))), (0, rv z 4), (1, iv x1)]) (dcN_4 dcg_165 :) (by decide) rfl ?_
    refine AW.aloadr_n 1 (dcN_5 dcg_165 :) rfl ?_
    obtain ⟨r2, e3, h⟩ := hC h
    refine AW.callVv (As := []) (st := []) (Parser_goOn_ok e3) cq_X4_107 cr_4_X4_goOn (Nat.le_trans (by decide) hdd) rfl (dcN_6 dcg_165 :) rfl (Nat.le_of_ble_eq_true rfl) ?_
    refine AW.aloadr_n 1 (dcN_7 dcg_165 :) rfl ?_
    obtain ⟨r4, e5, h⟩ := hC h
    refine AW.callVv (As := []) (st := []) (Parser_readProduct_ok e5) cq_X4_176 cr_4_X4_readProduct (Nat.le_trans (by decide) hdd) rfl (dcN_8 dcg_165 :) rfl (Nat.le_of_ble_eq_true rfl) ?_
    refine AW.aloadr_n 1 (dcN_9 dcg_165 :) rfl ?_
    refine AW.getR af_X4_25_4 sr_4_0 (dcN_10 dcg_165 :) ?_
    refine AW.iload_n 0 (dcN_11 dcg_165 :) rfl ?_
    refine AW.iconst (dcN_12 dcg_165 :) ?_
    obtain ⟨r6, e7, h⟩ := hC h
    refine AW.callVv (As := [iv (g 42 (ix (g 4 6))), iv 0]) (st := []) (Rules_put_ok e7) cq_X4_164 cr_3_X6_put (Nat.le_trans (by decide) hdd) rfl (dcN_13 dcg_165 :) rfl (Nat.le_of_ble_eq_true rfl) ?_
    refine AW.iinc (lv1 := [(1, iv (x1 + 1)), (2, iv (g 42 (ix (g 4 6)))), (0, rv z 4)]) 2 (dcN_14 dcg_165 :) rfl (by decide) rfl ?_
    refine AW.goto (tgt := 6) (dcN_15 dcg_165 :) (by decide) ?_
    refine AW.sub (lv1 := [(0, rv z 4), (1, iv (x1 + 1))]) [2, 0] rfl ?_
    exact (ih _ _ _ _ h).1 rfl
theorem Parser_readSum_ok {z : AZ} {g : AG} {r : Int × AG} (h : Parser_readSum g = some r) : AMf z yX4_readSum cX4_readSum 3 none 3 [rv z 4] g r := by
  intro d hdd
  refine AM.of (by decide +kernel) (Nat.le_of_ble_eq_true rfl) ?_
  show AW z (RX4, cX4_readSum, 3, none) d (QD none r) 0 [(0, rv z 4)] [] g
  unfold Parser_readSum at h
  refine AW.aloadr_n 0 (dcN_0 dcg_164 :) rfl ?_
  obtain ⟨r1, e2, h⟩ := hC h
  refine AW.callVv (As := []) (st := []) (Parser_readProduct_ok e2) cq_X4_176 cr_4_X4_readProduct (Nat.le_trans (by decide) hdd) rfl (dcN_1 dcg_164 :) rfl (Nat.le_of_ble_eq_true rfl) ?_
  refine AW.iconst (dcN_2 dcg_164 :) ?_
  refine AW.istore_n (lv1 := [(1, iv 0), (0, rv z 4)]) (dcN_3 dcg_164 :) (by decide) rfl ?_
  refine AW.sub (lv1 := [(0, rv z 4), (1, iv 0)]) [1, 0] rfl ?_
  exact (Parser_readSum_b_ok hdd _ _ _ _ h).1 rfl
theorem Parser_numberUpTo_ok {z : AZ} {x1 : Int} {g : AG} {r : Int × AG} (h : Parser_numberUpTo x1 g = some r) : AMf z yX4_numberUpTo cX4_numberUpTo 3 (some .int) 1 [rv z 4, iv x1] g r := by
  intro d hdd
  refine AM.of (by decide +kernel) (Nat.le_of_ble_eq_true rfl) ?_
  show AW z (RX4, cX4_numberUpTo, 3, (some .int)) d (QD (some .int) r) 0 [(0, rv z 4), (1, iv x1)] [] g
  unfold Parser_numberUpTo at h
  refine AW.aloadr_n 0 (dcN_0 dcg_150 :) rfl ?_
  refine AW.getR af_X4_15_4 sr_4_3 (dcN_1 dcg_150 :) ?_
  refine AW.aloadr_n 0 (dcN_2 dcg_150 :) rfl ?_
  refine AW.getI af_X4_35_4 sr_4_6 (dcN_3 dcg_150 :) ?_
  obtain ⟨k1, h⟩ := hK h
  refine AW.iald kc_42 sk_42 k1 (dcN_4 dcg_150 :) ?_
  refine AW.sipush (dcN_5 dcg_150 :) (by decide) (by decide) ?_
  refine AW.isub (dcN_6 dcg_150 :) ?_
  refine AW.istore_n (lv1 := [(2, iv ((g 42 (ix (g 4 6))) - 1000)), (0, rv z 4), (1, iv x1)]) (dcN_7 dcg_150 :) (by decide) rfl ?_
  refine AW.iload_n 0 (dcN_8 dcg_150 :) rfl ?_
  obtain ⟨r8, e9, h⟩ := hC h
  refine AW.join (tgt := 36) (lv1 := [(0, rv z 4), (2, iv ((g 42 (ix (g 4 6))) - 1000))]) (st1 := []) (g1 := r8) ?_ (fun J15 => ?_)
  · refine AW.aloadr_n 0 (dcN_2 dcg_151 :) rfl ?_
    refine AW.getI af_X4_32_4 sr_4_7 (dcN_3 dcg_151 :) ?_
    refine AW.if_eq (tgt := 45) (dcN_4 dcg_151 :) (by decide) (fun c10 => ?_) (fun c10 => ?_)
    · replace h := hT h c10
      refine AW.aloadr_n 0 (dcN_7 dcg_151 :) rfl ?_
      obtain ⟨r11, e12, h⟩ := hC h
      refine AW.callVv (As := []) (st := []) (Parser_goOn_ok e12) cq_X4_107 cr_4_X4_goOn (Nat.le_trans (by decide) hdd) rfl (dcN_8 dcg_151 :) rfl (Nat.le_of_ble_eq_true rfl) ?_
      refine AW.iload_n 1 (dcN_9 dcg_151 :) rfl ?_
      exact AW.iret1 rfl (dcN_10 dcg_151 :) h rfl
    · replace h := hF h c10
      refine AW.iconst (dcN_5 dcg_151 :) ?_
      exact AW.iret1 rfl (dcN_6 dcg_151 :) h rfl
  replace h := e9
  refine AW.if_ge (tgt := 26) (dcN_9 dcg_150 :) (by decide) (fun c2 => ?_) (fun c2 => ?_)
  · replace h := hT h c2
    refine AW.iload_n 0 (dcN_14 dcg_150 :) rfl ?_
    refine AW.iload_n 2 (dcN_15 dcg_150 :) rfl ?_
    refine AW.icmp_le (tgt := 36) (dcN_16 dcg_150 :) (by decide) (fun c3 => ?_) (fun c3 => ?_)
    · replace h := hT h c3
      refine AW.sub (lv1 := [(0, rv z 4), (2, iv ((g 42 (ix (g 4 6))) - 1000))]) [1, 0] rfl ?_
      cases h
      exact J15
    · replace h := hF h c3
      refine AW.aloadr_n 1 (dcN_17 dcg_150 :) rfl ?_
      refine AW.iconst (dcN_0 dcg_151 :) ?_
      obtain ⟨r4, e5, h⟩ := hC h
      refine AW.callVv (As := [iv 2]) (st := []) (Parser_fail_ok e5) cq_X4_103 cr_4_X4_fail (Nat.le_trans (by decide) hdd) rfl (dcN_1 dcg_151 :) rfl (Nat.le_of_ble_eq_true rfl) ?_
      refine AW.sub (lv1 := [(0, rv z 4), (2, iv ((g 42 (ix (g 4 6))) - 1000))]) [1, 0] rfl ?_
      cases h
      exact J15
  · replace h := hF h c2
    refine AW.aloadr_n 1 (dcN_10 dcg_150 :) rfl ?_
    refine AW.iconst (dcN_11 dcg_150 :) ?_
    obtain ⟨r6, e7, h⟩ := hC h
    refine AW.callVv (As := [iv 1]) (st := []) (Parser_fail_ok e7) cq_X4_103 cr_4_X4_fail (Nat.le_trans (by decide) hdd) rfl (dcN_12 dcg_150 :) rfl (Nat.le_of_ble_eq_true rfl) ?_
    refine AW.goto (tgt := 36) (dcN_13 dcg_150 :) (by decide) ?_
    refine AW.sub (lv1 := [(0, rv z 4), (2, iv ((g 42 (ix (g 4 6))) - 1000))]) [1, 0] rfl ?_
    cases h
    exact J15
theorem Rules_hasTunnel_3_ok {z : AZ} {x1 : Int} {g : AG} : AMf z yX6_hasTunnel cX6_hasTunnel 2 (some .boolean) 0 [rv z 3, iv x1] g ((Rules_hasTunnel_3 x1 g), g) := by
  intro d hdd
  refine AM.of (by decide +kernel) (Nat.le_of_ble_eq_true rfl) ?_
  show AW z (RX6, cX6_hasTunnel, 2, (some .boolean)) d (QD (some .boolean) ((Rules_hasTunnel_3 x1 g), g)) 0 [(0, rv z 3), (1, iv x1)] [] g
  refine AW.aloadr_n 0 (dcN_0 dcg_198 :) rfl ?_
  refine AW.getI af_X6_55_3 sr_3_10 (dcN_1 dcg_198 :) ?_
  refine AW.iload_n 1 (dcN_2 dcg_198 :) rfl ?_
  refine AW.ishr (dcN_3 dcg_198 :) ?_
  refine AW.iconst (dcN_4 dcg_198 :) ?_
  refine AW.iand (dcN_5 dcg_198 :) ?_
  refine AW.join (tgt := 16) (lv1 := [(0, rv z 3), (1, iv x1)]) (st1 := [iv (if nw (andI (shrI (g 3 10) x1) 1) = 0 then 0 else 1)]) (g1 := g) ?_ (fun J8 => ?_)
  · exact AW.zret rfl (by (repeat' split) <;> first | exact Or.inl rfl | exact Or.inr rfl) (dcN_10 dcg_198 :) ⟨congrArg (fun v => some (iv v)) (show Rules_hasTunnel_3 x1 g = (if nw (andI (shrI (g 3 10) x1) 1) = 0 then 0 else 1) from rfl).symm, rfl⟩
  refine AW.if_eq (tgt := 15) (dcN_6 dcg_198 :) (by decide) (fun c1 => ?_) (fun c1 => ?_)
  · refine AW.iconst (dcN_9 dcg_198 :) ?_
    exact AW.val (if_pos c1) J8
  · refine AW.iconst (dcN_7 dcg_198 :) ?_
    refine AW.goto (tgt := 16) (dcN_8 dcg_198 :) (by decide) ?_
    exact AW.val (if_neg c1) J8
set_option synthInstance.maxHeartbeats 2000000 in
theorem Parser_readTunnel_b_ok {z : AZ} {d : Nat} (hdd : 2 ≤ d) {x1 : Int} {g : AG} : ∀ (r : Int × AG), Parser_readTunnel_b x1 g = some r → AW z (RX4, cX4_readTunnel, 3, none) d (QD none r) 31 [(0, rv z 4), (1, iv x1)] [] g := by
  intro r h
  unfold Parser_readTunnel_b at h
  refine AW.aloadr_n 0 (dcN_16 dcg_146 :) rfl ?_
  refine AW.bipush (dcN_0 dcg_147 :) (by decide) (by decide) ?_
  obtain ⟨r1, e2, h⟩ := hC h
  refine AW.callVi (As := [iv 105]) (st := []) (Parser_is_ok e2) cq_X4_137 cr_4_X4_is (Nat.le_trans (by decide) hdd) rfl (dcN_1 dcg_147 :) rfl (Nat.le_of_ble_eq_true rfl) ?_
  obtain ⟨t3, e4, h⟩ := hBe h
  refine AW.join (tgt := 48) (lv1 := [(0, rv z 4), (1, iv x1)]) (st1 := [iv t3]) (g1 := g) ?_ (fun J37 => ?_)
  · refine AW.istore_n (lv1 := [(2, iv t3), (0, rv z 4), (1, iv x1)]) (dcN_8 dcg_147 :) (by decide) rfl ?_
    refine AW.aloadr_n 1 (dcN_9 dcg_147 :) rfl ?_
    refine AW.getR af_X4_25_4 sr_4_0 (dcN_10 dcg_147 :) ?_
    refine AW.iload_n 0 (dcN_11 dcg_147 :) rfl ?_
    refine AW.callVi (As := [iv t3]) (st := []) Rules_hasTunnel_3_ok cq_X4_149 cr_3_X6_hasTunnel (Nat.le_trans (by decide) hdd) rfl (dcN_12 dcg_147 :) rfl (Nat.le_of_ble_eq_true rfl) ?_
    refine AW.if_eq (tgt := 66) (dcN_13 dcg_147 :) (by decide) (fun c5 => ?_) (fun c5 => ?_)
    · replace h := hT h c5
      refine AW.aloadr_n 1 (dcN_1 dcg_148 :) rfl ?_
      obtain ⟨r6, e7, h⟩ := hC h
      refine AW.callVv (As := []) (st := []) (Parser_goOn_ok e7) cq_X4_107 cr_4_X4_goOn (Nat.le_trans (by decide) hdd) rfl (dcN_2 dcg_148 :) rfl (Nat.le_of_ble_eq_true rfl) ?_
      refine AW.aloadr_n 1 (dcN_3 dcg_148 :) rfl ?_
      refine AW.getR af_X4_25_4 sr_4_0 (dcN_4 dcg_148 :) ?_
      refine AW.duprr (dcN_5 dcg_148 :) ?_
      refine AW.getI af_X4_152_3 sr_3_10 (dcN_6 dcg_148 :) ?_
      refine AW.iconst (dcN_7 dcg_148 :) ?_
      refine AW.iload_n 0 (dcN_8 dcg_148 :) rfl ?_
      refine AW.ishl (dcN_9 dcg_148 :) ?_
      refine AW.ior (dcN_10 dcg_148 :) ?_
      obtain ⟨g8, e9, h⟩ := hBe h
      refine AW.putI ap_X4_152_3 sr_3_10 (dcN_11 dcg_148 :) e9 ?_
      refine AW.aloadr_n 1 (dcN_12 dcg_148 :) rfl ?_
      refine AW.getR af_X4_25_4 sr_4_0 (dcN_13 dcg_148 :) ?_
      refine AW.getR af_X4_155_3 sr_3_11 (dcN_14 dcg_148 :) ?_
      refine AW.iload_n 0 (dcN_15 dcg_148 :) rfl ?_
      refine AW.aloadr_n 1 (dcN_16 dcg_148 :) rfl ?_
      refine AW.bipush (dcN_17 dcg_148 :) (by decide) (by decide) ?_
      obtain ⟨r10, e11, h⟩ := hC h
      refine AW.callVi (As := [iv 24]) (st := [iv t3, rv z 37]) (Parser_numberUpTo_ok e11) cq_X4_125 cr_4_X4_numberUpTo (Nat.le_trans (by decide) hdd) rfl (dcN_0 dcg_149 :) rfl (Nat.le_of_ble_eq_true rfl) ?_
      obtain ⟨k12, h⟩ := hK h
      obtain ⟨g13, e14, h⟩ := hBe h
      refine AW.iast kc_37 sk_37 k12 (dcN_1 dcg_149 :) e14 ?_
      refine AW.aloadr_n 1 (dcN_2 dcg_149 :) rfl ?_
      refine AW.getR af_X4_25_4 sr_4_0 (dcN_3 dcg_149 :) ?_
      refine AW.getR af_X4_158_3 sr_3_12 (dcN_4 dcg_149 :) ?_
      refine AW.iload_n 0 (dcN_5 dcg_149 :) rfl ?_
      refine AW.aloadr_n 1 (dcN_6 dcg_149 :) rfl ?_
      refine AW.bipush (dcN_7 dcg_149 :) (by decide) (by decide) ?_
      obtain ⟨r15, e16, h⟩ := hC h
      refine AW.callVi (As := [iv 24]) (st := [iv t3, rv z 38]) (Parser_numberUpTo_ok e16) cq_X4_125 cr_4_X4_numberUpTo (Nat.le_trans (by decide) hdd) rfl (dcN_8 dcg_149 :) rfl (Nat.le_of_ble_eq_true rfl) ?_
      obtain ⟨g17, e18, h⟩ := hBe h
      refine AW.iast kc_38 sk_38 k12 (dcN_9 dcg_149 :) e18 ?_
      exact AW.vret1 rfl (dcN_10 dcg_149 :) h rfl
    · replace h := hF h c5
      refine AW.aloadr_n 1 (dcN_14 dcg_147 :) rfl ?_
      refine AW.iconst (dcN_15 dcg_147 :) ?_
      obtain ⟨r19, e20, h⟩ := hC h
      refine AW.callVv (As := [iv 3]) (st := []) (Parser_fail_ok e20) cq_X4_103 cr_4_X4_fail (Nat.le_trans (by decide) hdd) rfl (dcN_16 dcg_147 :) rfl (Nat.le_of_ble_eq_true rfl) ?_
      exact AW.vret1 rfl (dcN_0 dcg_148 :) h rfl
  refine AW.if_eq (tgt := 44) (dcN_2 dcg_147 :) (by decide) (fun c21 => ?_) (fun c21 => ?_)
  · refine AW.bipush (dcN_5 dcg_147 :) (by decide) (by decide) ?_
    refine AW.iload_n 1 (dcN_6 dcg_147 :) rfl ?_
    refine AW.iadd (dcN_7 dcg_147 :) ?_
    exact AW.val (e4.trans (if_pos c21)) J37
  · refine AW.iload_n 1 (dcN_3 dcg_147 :) rfl ?_
    refine AW.goto (tgt := 48) (dcN_4 dcg_147 :) (by decide) ?_
    exact AW.val (e4.trans (if_neg c21)) J37
theorem Parser_readTunnel_ok {z : AZ} {g : AG} {r : Int × AG} (h : Parser_readTunnel g = some r) : AMf z yX4_readTunnel cX4_readTunnel 3 none 2 [rv z 4] g r := by
  intro d hdd
  refine AM.of (by decide +kernel) (Nat.le_of_ble_eq_true rfl) ?_
  show AW z (RX4, cX4_readTunnel, 3, none) d (QD none r) 0 [(0, rv z 4)] [] g
  unfold Parser_readTunnel at h
  refine AW.aloadr_n 0 (dcN_0 dcg_146 :) rfl ?_
  refine AW.bipush (dcN_1 dcg_146 :) (by decide) (by decide) ?_
  obtain ⟨r1, e2, h⟩ := hC h
  refine AW.callVi (As := [iv 14]) (st := []) (Parser_numberUpTo_ok e2) cq_X4_125 cr_4_X4_numberUpTo (Nat.le_trans (by decide) hdd) rfl (dcN_2 dcg_146 :) rfl (Nat.le_of_ble_eq_true rfl) ?_
  refine AW.istore_n (lv1 := [(1, iv r1.1), (0, rv z 4)]) (dcN_3 dcg_146 :) (by decide) rfl ?_
  refine AW.aloadr_n 1 (dcN_4 dcg_146 :) rfl ?_
  refine AW.bipush (dcN_5 dcg_146 :) (by decide) (by decide) ?_
  obtain ⟨r3, e4, h⟩ := hC h
  refine AW.callVi (As := [iv 105]) (st := []) (Parser_is_ok e4) cq_X4_137 cr_4_X4_is (Nat.le_trans (by decide) hdd) rfl (dcN_6 dcg_146 :) rfl (Nat.le_of_ble_eq_true rfl) ?_
  refine AW.if_ne (tgt := 31) (dcN_7 dcg_146 :) (by decide) (fun c5 => ?_) (fun c5 => ?_)
  · replace h := hF h c5
    refine AW.sub (lv1 := [(0, rv z 4), (1, iv r1.1)]) [1, 0] rfl ?_
    exact Parser_readTunnel_b_ok hdd _ h
  · replace h := hT h c5
    refine AW.aloadr_n 1 (dcN_8 dcg_146 :) rfl ?_
    refine AW.bipush (dcN_9 dcg_146 :) (by decide) (by decide) ?_
    obtain ⟨r6, e7, h⟩ := hC h
    refine AW.callVi (As := [iv 106]) (st := []) (Parser_is_ok e7) cq_X4_137 cr_4_X4_is (Nat.le_trans (by decide) hdd) rfl (dcN_10 dcg_146 :) rfl (Nat.le_of_ble_eq_true rfl) ?_
    refine AW.if_ne (tgt := 31) (dcN_11 dcg_146 :) (by decide) (fun c8 => ?_) (fun c8 => ?_)
    · replace h := hF h c8
      refine AW.sub (lv1 := [(0, rv z 4), (1, iv r1.1)]) [1, 0] rfl ?_
      exact Parser_readTunnel_b_ok hdd _ h
    · replace h := hT h c8
      refine AW.aloadr_n 1 (dcN_12 dcg_146 :) rfl ?_
      refine AW.iconst (dcN_13 dcg_146 :) ?_
      obtain ⟨r9, e10, h⟩ := hC h
      refine AW.callVv (As := [iv 1]) (st := []) (Parser_fail_ok e10) cq_X4_103 cr_4_X4_fail (Nat.le_trans (by decide) hdd) rfl (dcN_14 dcg_146 :) rfl (Nat.le_of_ble_eq_true rfl) ?_
      exact AW.vret1 rfl (dcN_15 dcg_146 :) h rfl
theorem Parser_openOneMore_ok {z : AZ} {x1 : Int} {g : AG} {r : Int × AG} (h : Parser_openOneMore x1 g = some r) : AMf z yX4_openOneMore cX4_openOneMore 2 none 1 [rv z 4, iv x1] g r := by
  intro d hdd
  refine AM.of (by decide +kernel) (Nat.le_of_ble_eq_true rfl) ?_
  show AW z (RX4, cX4_openOneMore, 2, none) d (QD none r) 0 [(0, rv z 4), (1, iv x1)] [] g
  unfold Parser_openOneMore at h
  refine AW.iload_n 1 (dcN_0 dcg_161 :) rfl ?_
  refine AW.bipush (dcN_1 dcg_161 :) (by decide) (by decide) ?_
  obtain ⟨r6, e7, h⟩ := hC h
  refine AW.join (tgt := 18) (lv1 := []) (st1 := []) (g1 := r6) ?_ (fun J3 => ?_)
  · exact AW.vret1 rfl (dcN_9 dcg_161 :) h rfl
  replace h := e7
  refine AW.icmp_lt (tgt := 14) (dcN_2 dcg_161 :) (by decide) (fun c1 => ?_) (fun c1 => ?_)
  · replace h := hT h c1
    refine AW.aloadr_n 0 (dcN_7 dcg_161 :) rfl ?_
    obtain ⟨r2, e3, h⟩ := hC h
    refine AW.callVv (As := []) (st := []) (Parser_goOn_ok e3) cq_X4_107 cr_4_X4_goOn (Nat.le_trans (by decide) hdd) rfl (dcN_8 dcg_161 :) rfl (Nat.le_of_ble_eq_true rfl) ?_
    refine AW.sub (lv1 := []) [] rfl ?_
    cases h
    exact J3
  · replace h := hF h c1
    refine AW.aloadr_n 0 (dcN_3 dcg_161 :) rfl ?_
    refine AW.iconst (dcN_4 dcg_161 :) ?_
    obtain ⟨r4, e5, h⟩ := hC h
    refine AW.callVv (As := [iv 3]) (st := []) (Parser_fail_ok e5) cq_X4_103 cr_4_X4_fail (Nat.le_trans (by decide) hdd) rfl (dcN_5 dcg_161 :) rfl (Nat.le_of_ble_eq_true rfl) ?_
    refine AW.goto (tgt := 18) (dcN_6 dcg_161 :) (by decide) ?_
    refine AW.sub (lv1 := []) [] rfl ?_
    cases h
    exact J3
theorem Parser_demandComparing_ok {z : AZ} {g : AG} {r : Int × AG} (h : Parser_demandComparing g = some r) : AMf z yX4_demandComparing cX4_demandComparing 1 none 1 [rv z 4] g r := by
  intro d hdd
  refine AM.of (by decide +kernel) (Nat.le_of_ble_eq_true rfl) ?_
  show AW z (RX4, cX4_demandComparing, 1, none) d (QD none r) 0 [(0, rv z 4)] [] g
  unfold Parser_demandComparing at h
  refine AW.aloadr_n 0 (dcN_0 dcg_162 :) rfl ?_
  refine AW.bipush (dcN_1 dcg_162 :) (by decide) (by decide) ?_
  obtain ⟨r1, e2, h⟩ := hC h
  refine AW.callVi (As := [iv 60]) (st := []) (Parser_is_ok e2) cq_X4_137 cr_4_X4_is (Nat.le_trans (by decide) hdd) rfl (dcN_2 dcg_162 :) rfl (Nat.le_of_ble_eq_true rfl) ?_
  obtain ⟨r18, e19, h⟩ := hC h
  refine AW.join (tgt := 39) (lv1 := []) (st1 := []) (g1 := r18) ?_ (fun J6 => ?_)
  · exact AW.vret1 rfl (dcN_6 dcg_163 :) h rfl
  replace h := e19
  refine AW.if_ne (tgt := 27) (dcN_3 dcg_162 :) (by decide) (fun c3 => ?_) (fun c3 => ?_)
  · replace h := hF h c3
    refine AW.aloadr_n 0 (dcN_0 dcg_163 :) rfl ?_
    obtain ⟨r4, e5, h⟩ := hC h
    refine AW.callVv (As := []) (st := []) (Parser_goOn_ok e5) cq_X4_107 cr_4_X4_goOn (Nat.le_trans (by decide) hdd) rfl (dcN_1 dcg_163 :) rfl (Nat.le_of_ble_eq_true rfl) ?_
    refine AW.goto (tgt := 39) (dcN_2 dcg_163 :) (by decide) ?_
    refine AW.sub (lv1 := []) [] rfl ?_
    cases h
    exact J6
  · replace h := hT h c3
    refine AW.aloadr_n 0 (dcN_4 dcg_162 :) rfl ?_
    refine AW.bipush (dcN_5 dcg_162 :) (by decide) (by decide) ?_
    obtain ⟨r6, e7, h⟩ := hC h
    refine AW.callVi (As := [iv 61]) (st := []) (Parser_is_ok e7) cq_X4_137 cr_4_X4_is (Nat.le_trans (by decide) hdd) rfl (dcN_6 dcg_162 :) rfl (Nat.le_of_ble_eq_true rfl) ?_
    refine AW.if_ne (tgt := 27) (dcN_7 dcg_162 :) (by decide) (fun c8 => ?_) (fun c8 => ?_)
    · replace h := hF h c8
      refine AW.aloadr_n 0 (dcN_0 dcg_163 :) rfl ?_
      obtain ⟨r9, e10, h⟩ := hC h
      refine AW.callVv (As := []) (st := []) (Parser_goOn_ok e10) cq_X4_107 cr_4_X4_goOn (Nat.le_trans (by decide) hdd) rfl (dcN_1 dcg_163 :) rfl (Nat.le_of_ble_eq_true rfl) ?_
      refine AW.goto (tgt := 39) (dcN_2 dcg_163 :) (by decide) ?_
      refine AW.sub (lv1 := []) [] rfl ?_
      cases h
      exact J6
    · replace h := hT h c8
      refine AW.aloadr_n 0 (dcN_8 dcg_162 :) rfl ?_
      refine AW.bipush (dcN_9 dcg_162 :) (by decide) (by decide) ?_
      obtain ⟨r11, e12, h⟩ := hC h
      refine AW.callVi (As := [iv 62]) (st := []) (Parser_is_ok e12) cq_X4_137 cr_4_X4_is (Nat.le_trans (by decide) hdd) rfl (dcN_10 dcg_162 :) rfl (Nat.le_of_ble_eq_true rfl) ?_
      refine AW.if_eq (tgt := 34) (dcN_11 dcg_162 :) (by decide) (fun c13 => ?_) (fun c13 => ?_)
      · replace h := hT h c13
        refine AW.aloadr_n 0 (dcN_3 dcg_163 :) rfl ?_
        refine AW.iconst (dcN_4 dcg_163 :) ?_
        obtain ⟨r14, e15, h⟩ := hC h
        refine AW.callVv (As := [iv 1]) (st := []) (Parser_fail_ok e15) cq_X4_103 cr_4_X4_fail (Nat.le_trans (by decide) hdd) rfl (dcN_5 dcg_163 :) rfl (Nat.le_of_ble_eq_true rfl) ?_
        refine AW.sub (lv1 := []) [] rfl ?_
        cases h
        exact J6
      · replace h := hF h c13
        refine AW.aloadr_n 0 (dcN_0 dcg_163 :) rfl ?_
        obtain ⟨r16, e17, h⟩ := hC h
        refine AW.callVv (As := []) (st := []) (Parser_goOn_ok e17) cq_X4_107 cr_4_X4_goOn (Nat.le_trans (by decide) hdd) rfl (dcN_1 dcg_163 :) rfl (Nat.le_of_ble_eq_true rfl) ?_
        refine AW.goto (tgt := 39) (dcN_2 dcg_163 :) (by decide) ?_
        refine AW.sub (lv1 := []) [] rfl ?_
        cases h
        exact J6
theorem Parser_demand_ok {z : AZ} {x1 : Int} {g : AG} {r : Int × AG} (h : Parser_demand x1 g = some r) : AMf z yX4_demand cX4_demand 2 none 1 [rv z 4, iv x1] g r := by
  intro d hdd
  refine AM.of (by decide +kernel) (Nat.le_of_ble_eq_true rfl) ?_
  show AW z (RX4, cX4_demand, 2, none) d (QD none r) 0 [(0, rv z 4), (1, iv x1)] [] g
  unfold Parser_demand at h
  refine AW.aloadr_n 0 (dcN_0 dcg_152 :) rfl ?_
  refine AW.iload_n 1 (dcN_1 dcg_152 :) rfl ?_
  obtain ⟨r1, e2, h⟩ := hC h
  refine AW.callVi (As := [iv x1]) (st := []) (Parser_is_ok e2) cq_X4_137 cr_4_X4_is (Nat.le_trans (by decide) hdd) rfl (dcN_2 dcg_152 :) rfl (Nat.le_of_ble_eq_true rfl) ?_
  obtain ⟨r8, e9, h⟩ := hC h
  refine AW.join (tgt := 20) (lv1 := []) (st1 := []) (g1 := r8) ?_ (fun J5 => ?_)
  · exact AW.vret1 rfl (dcN_10 dcg_152 :) h rfl
  replace h := e9
  refine AW.if_eq (tgt := 15) (dcN_3 dcg_152 :) (by decide) (fun c3 => ?_) (fun c3 => ?_)
  · replace h := hT h c3
    refine AW.aloadr_n 0 (dcN_7 dcg_152 :) rfl ?_
    refine AW.iconst (dcN_8 dcg_152 :) ?_
    obtain ⟨r4, e5, h⟩ := hC h
    refine AW.callVv (As := [iv 1]) (st := []) (Parser_fail_ok e5) cq_X4_103 cr_4_X4_fail (Nat.le_trans (by decide) hdd) rfl (dcN_9 dcg_152 :) rfl (Nat.le_of_ble_eq_true rfl) ?_
    refine AW.sub (lv1 := []) [] rfl ?_
    cases h
    exact J5
  · replace h := hF h c3
    refine AW.aloadr_n 0 (dcN_4 dcg_152 :) rfl ?_
    obtain ⟨r6, e7, h⟩ := hC h
    refine AW.callVv (As := []) (st := []) (Parser_goOn_ok e7) cq_X4_107 cr_4_X4_goOn (Nat.le_trans (by decide) hdd) rfl (dcN_5 dcg_152 :) rfl (Nat.le_of_ble_eq_true rfl) ?_
    refine AW.goto (tgt := 20) (dcN_6 dcg_152 :) (by decide) ?_
    refine AW.sub (lv1 := []) [] rfl ?_
    cases h
    exact J5
set_option synthInstance.maxHeartbeats 2000000 in
theorem Parser_readOne_b_ok {z : AZ} {rec : Int → AG → Option (Int × AG)} {Dr : Nat} (hC9 : 4 ≤ Dr) (hrec : ∀ (x1 : Int) (g : AG) (r : Int × AG), rec x1 g = some r → AMf z yX4_readEither cX4_readEither 3 none Dr [rv z 4, iv x1] g r) {d : Nat} (hdd : Dr + 1 ≤ d) {x1 : Int} : ∀ (tag : Nat) (x2 : Int) (x3 : Int) (g : AG) (r : Int × AG), Parser_readOne_b rec x1 tag x2 x3 g = some r → (tag = 1 → AW z (RX4, cX4_readOne, 4, none) d (QD none r) 4 [(0, rv z 4), (1, iv x1), (2, iv x2), (3, iv x3)] [] g) ∧ (tag = 2 → AW z (RX4, cX4_readOne, 4, none) d (QD none r) 34 [(0, rv z 4), (1, iv x1), (2, iv x2)] [] g) ∧ (tag = 3 → AW z (RX4, cX4_readOne, 4, none) d (QD none r) 97 [(0, rv z 4), (2, iv x2), (3, iv x3)] [] g) := by
  refine Parser_readOne_b.partial_correctness rec x1 (fun tag x2 x3 g r => (tag = 1 → AW z (RX4, cX4_readOne, 4, none) d (QD none r) 4 [(0, rv z 4), (1, iv x1), (2, iv x2), (3, iv x3)] [] g) ∧ (tag = 2 → AW z (RX4, cX4_readOne, 4, none) d (QD none r) 34 [(0, rv z 4), (1, iv x1), (2, iv x2)] [] g) ∧ (tag = 3 → AW z (RX4, cX4_readOne, 4, none) d (QD none r) 97 [(0, rv z 4), (2, iv x2), (3, iv x3)] [] g)) ?_
  intro fb9 ih tag x2 x3 g r h
  refine ⟨fun h9 => ?_, fun h9 => ?_, fun h9 => ?_⟩
  · subst h9
    replace h := hT h rfl
    refine AW.iload_n 3 (dcN_4 dcg_157 :) rfl ?_
    refine AW.sipush (dcN_5 dcg_157 :) (by decide) (by decide) ?_
    refine AW.icmp_ge (tgt := 34) (dcN_6 dcg_157 :) (by decide) (fun c1 => ?_) (fun c1 => ?_)
    · replace h := hT h c1
      refine AW.sub (lv1 := [(0, rv z 4), (1, iv x1), (2, iv x2)]) [0, 1, 2] rfl ?_
      exact (ih _ _ _ _ _ h).2.1 rfl
    · replace h := hF h c1
      refine AW.aloadr_n 0 (dcN_7 dcg_157 :) rfl ?_
      refine AW.bipush (dcN_8 dcg_157 :) (by decide) (by decide) ?_
      obtain ⟨r2, e3, h⟩ := hC h
      refine AW.callVi (As := [iv 110]) (st := []) (Parser_is_ok e3) cq_X4_137 cr_4_X4_is (by omega) rfl (dcN_9 dcg_157 :) rfl (Nat.le_of_ble_eq_true rfl) ?_
      refine AW.if_eq (tgt := 34) (dcN_10 dcg_157 :) (by decide) (fun c4 => ?_) (fun c4 => ?_)
      · replace h := hT h c4
        refine AW.sub (lv1 := [(0, rv z 4), (1, iv x1), (2, iv x2)]) [0, 1, 2] rfl ?_
        exact (ih _ _ _ _ _ h).2.1 rfl
      · replace h := hF h c4
        refine AW.aloadr_n 0 (dcN_11 dcg_157 :) rfl ?_
        refine AW.iload_n 2 (dcN_12 dcg_157 :) rfl ?_
        obtain ⟨r5, e6, h⟩ := hC h
        refine AW.callVv (As := [iv x2]) (st := []) (Parser_openOneMore_ok e6) cq_X4_170 cr_4_X4_openOneMore (by omega) rfl (dcN_13 dcg_157 :) rfl (Nat.le_of_ble_eq_true rfl) ?_
        refine AW.iinc (lv1 := [(2, iv (x2 + 1)), (0, rv z 4), (1, iv x1), (3, iv x3)]) 2 (dcN_14 dcg_157 :) rfl (by decide) rfl ?_
        refine AW.iinc (lv1 := [(3, iv (x3 + 1)), (2, iv (x2 + 1)), (0, rv z 4), (1, iv x1)]) 3 (dcN_15 dcg_157 :) rfl (by decide) rfl ?_
        refine AW.goto (tgt := 4) (dcN_16 dcg_157 :) (by decide) ?_
        refine AW.sub (lv1 := [(0, rv z 4), (1, iv x1), (2, iv (x2 + 1)), (3, iv (x3 + 1))]) [2, 3, 1, 0] rfl ?_
        exact (ih _ _ _ _ _ h).1 rfl
  · subst h9
    replace h := hF h (by decide)
    replace h := hT h rfl
    refine AW.aloadr_n 0 (dcN_0 dcg_158 :) rfl ?_
    refine AW.bipush (dcN_1 dcg_158 :) (by decide) (by decide) ?_
    obtain ⟨r1, e2, h⟩ := hC h
    refine AW.callVi (As := [iv 40]) (st := []) (Parser_is_ok e2) cq_X4_137 cr_4_X4_is (by omega) rfl (dcN_2 dcg_158 :) rfl (Nat.le_of_ble_eq_true rfl) ?_
    obtain ⟨r19, e20, h⟩ := hC h
    refine AW.join (tgt := 95) (lv1 := [(0, rv z 4), (1, iv x1), (2, iv x2)]) (st1 := []) (g1 := r19) ?_ (fun J40 => ?_)
    · refine AW.iload_n 1 (dcN_17 dcg_159 :) rfl ?_
      refine AW.istore_n (lv1 := [(3, iv x1), (0, rv z 4), (1, iv x1), (2, iv x2)]) (dcN_0 dcg_160 :) (by decide) rfl ?_
      refine AW.sub (lv1 := [(0, rv z 4), (2, iv x2), (3, iv x1)]) [1, 3, 0] rfl ?_
      exact (ih _ _ _ _ _ h).2.2 rfl
    replace h := e20
    refine AW.if_eq (tgt := 64) (dcN_3 dcg_158 :) (by decide) (fun c3 => ?_) (fun c3 => ?_)
    · replace h := hT h c3
      refine AW.aloadr_n 0 (dcN_0 dcg_159 :) rfl ?_
      obtain ⟨r4, e5, h⟩ := hC h
      refine AW.callVv (As := []) (st := []) (Parser_readSum_ok e5) cq_X4_131 cr_4_X4_readSum (by omega) rfl (dcN_1 dcg_159 :) rfl (Nat.le_of_ble_eq_true rfl) ?_
      refine AW.aloadr_n 0 (dcN_2 dcg_159 :) rfl ?_
      refine AW.getR af_X4_15_4 sr_4_3 (dcN_3 dcg_159 :) ?_
      refine AW.aloadr_n 0 (dcN_4 dcg_159 :) rfl ?_
      refine AW.getI af_X4_35_4 sr_4_6 (dcN_5 dcg_159 :) ?_
      obtain ⟨k6, h⟩ := hK h
      refine AW.iald kc_42 sk_42 k6 (dcN_6 dcg_159 :) ?_
      refine AW.istore_n (lv1 := [(3, iv (r4.2 42 (ix (r4.2 4 6)))), (0, rv z 4), (1, iv x1), (2, iv x2)]) (dcN_7 dcg_159 :) (by decide) rfl ?_
      refine AW.aloadr_n 1 (dcN_8 dcg_159 :) rfl ?_
      obtain ⟨r7, e8, h⟩ := hC h
      refine AW.callVv (As := []) (st := []) (Parser_demandComparing_ok e8) cq_X4_173 cr_4_X4_demandComparing (by omega) rfl (dcN_9 dcg_159 :) rfl (Nat.le_of_ble_eq_true rfl) ?_
      refine AW.aloadr_n 1 (dcN_10 dcg_159 :) rfl ?_
      obtain ⟨r9, e10, h⟩ := hC h
      refine AW.callVv (As := []) (st := []) (Parser_readSum_ok e10) cq_X4_131 cr_4_X4_readSum (by omega) rfl (dcN_11 dcg_159 :) rfl (Nat.le_of_ble_eq_true rfl) ?_
      refine AW.aloadr_n 1 (dcN_12 dcg_159 :) rfl ?_
      refine AW.getR af_X4_25_4 sr_4_0 (dcN_13 dcg_159 :) ?_
      refine AW.iload_n 0 (dcN_14 dcg_159 :) rfl ?_
      refine AW.iconst (dcN_15 dcg_159 :) ?_
      obtain ⟨r11, e12, h⟩ := hC h
      refine AW.callVv (As := [iv (r4.2 42 (ix (r4.2 4 6))), iv 0]) (st := []) (Rules_put_ok e12) cq_X4_164 cr_3_X6_put (by omega) rfl (dcN_16 dcg_159 :) rfl (Nat.le_of_ble_eq_true rfl) ?_
      refine AW.sub (lv1 := [(0, rv z 4), (1, iv x1), (2, iv x2)]) [1, 2, 3] rfl ?_
      cases h
      exact J40
    · replace h := hF h c3
      refine AW.aloadr_n 0 (dcN_4 dcg_158 :) rfl ?_
      refine AW.iload_n 2 (dcN_5 dcg_158 :) rfl ?_
      obtain ⟨r13, e14, h⟩ := hC h
      refine AW.callVv (As := [iv x2]) (st := []) (Parser_openOneMore_ok e14) cq_X4_170 cr_4_X4_openOneMore (by omega) rfl (dcN_6 dcg_158 :) rfl (Nat.le_of_ble_eq_true rfl) ?_
      refine AW.aloadr_n 0 (dcN_7 dcg_158 :) rfl ?_
      refine AW.iload_n 2 (dcN_8 dcg_158 :) rfl ?_
      refine AW.iconst (dcN_9 dcg_158 :) ?_
      refine AW.iadd (dcN_10 dcg_158 :) ?_
      obtain ⟨r15, e16, h⟩ := hC h
      refine AW.callVv (As := [iv (x2 + 1)]) (st := []) (hrec _ _ _ e16) cq_X4_140 cr_4_X4_readEither (by omega) rfl (dcN_11 dcg_158 :) rfl (Nat.le_of_ble_eq_true rfl) ?_
      refine AW.aloadr_n 0 (dcN_12 dcg_158 :) rfl ?_
      refine AW.bipush (dcN_13 dcg_158 :) (by decide) (by decide) ?_
      obtain ⟨r17, e18, h⟩ := hC h
      refine AW.callVv (As := [iv 41]) (st := []) (Parser_demand_ok e18) cq_X4_146 cr_4_X4_demand (by omega) rfl (dcN_14 dcg_158 :) rfl (Nat.le_of_ble_eq_true rfl) ?_
      refine AW.goto (tgt := 95) (dcN_15 dcg_158 :) (by decide) ?_
      cases h
      exact J40
  · subst h9
    replace h := hF h (by decide)
    replace h := hF h (by decide)
    replace h := hT h rfl
    refine AW.iload_n 2 (dcN_1 dcg_160 :) rfl ?_
    refine AW.iload_n 1 (dcN_2 dcg_160 :) rfl ?_
    refine AW.icmp_ge (tgt := 118) (dcN_3 dcg_160 :) (by decide) (fun c1 => ?_) (fun c1 => ?_)
    · replace h := hT h c1
      exact AW.vret1 rfl (dcN_11 dcg_160 :) h rfl
    · replace h := hF h c1
      refine AW.aloadr_n 0 (dcN_4 dcg_160 :) rfl ?_
      refine AW.getR af_X4_25_4 sr_4_0 (dcN_5 dcg_160 :) ?_
      refine AW.bipush (dcN_6 dcg_160 :) (by decide) (by decide) ?_
      refine AW.iconst (dcN_7 dcg_160 :) ?_
      obtain ⟨r2, e3, h⟩ := hC h
      refine AW.callVv (As := [iv 110, iv 0]) (st := []) (Rules_put_ok e3) cq_X4_164 cr_3_X6_put (by omega) rfl (dcN_8 dcg_160 :) rfl (Nat.le_of_ble_eq_true rfl) ?_
      refine AW.iinc (lv1 := [(3, iv (x3 + 1)), (0, rv z 4), (2, iv x2)]) 2 (dcN_9 dcg_160 :) rfl (by decide) rfl ?_
      refine AW.goto (tgt := 97) (dcN_10 dcg_160 :) (by decide) ?_
      refine AW.sub (lv1 := [(0, rv z 4), (2, iv x2), (3, iv (x3 + 1))]) [1, 2, 0] rfl ?_
      exact (ih _ _ _ _ _ h).2.2 rfl
theorem Parser_readOne_ok {z : AZ} {rec : Int → AG → Option (Int × AG)} {Dr : Nat} (hC9 : 4 ≤ Dr) (hrec : ∀ (x1 : Int) (g : AG) (r : Int × AG), rec x1 g = some r → AMf z yX4_readEither cX4_readEither 3 none Dr [rv z 4, iv x1] g r) {x1 : Int} {g : AG} {r : Int × AG} (h : Parser_readOne rec x1 g = some r) : AMf z yX4_readOne cX4_readOne 4 none (Dr + 1) [rv z 4, iv x1] g r := by
  intro d hdd
  refine AM.of (by decide +kernel) (Nat.le_of_ble_eq_true rfl) ?_
  show AW z (RX4, cX4_readOne, 4, none) d (QD none r) 0 [(0, rv z 4), (1, iv x1)] [] g
  unfold Parser_readOne at h
  refine AW.iload_n 1 (dcN_0 dcg_157 :) rfl ?_
  refine AW.istore_n (lv1 := [(2, iv x1), (0, rv z 4), (1, iv x1)]) (dcN_1 dcg_157 :) (by decide) rfl ?_
  refine AW.iconst (dcN_2 dcg_157 :) ?_
  refine AW.istore_n (lv1 := [(3, iv 0), (2, iv x1), (0, rv z 4), (1, iv x1)]) (dcN_3 dcg_157 :) (by decide) rfl ?_
  refine AW.sub (lv1 := [(0, rv z 4), (1, iv x1), (2, iv x1), (3, iv 0)]) [2, 3, 1, 0] rfl ?_
  exact (Parser_readOne_b_ok hC9 hrec hdd _ _ _ _ _ h).1 rfl
set_option synthInstance.maxHeartbeats 2000000 in
theorem Parser_readAll_b_ok {z : AZ} {rec : Int → AG → Option (Int × AG)} {Dr : Nat} (hC9 : 4 ≤ Dr) (hrec : ∀ (x1 : Int) (g : AG) (r : Int × AG), rec x1 g = some r → AMf z yX4_readEither cX4_readEither 3 none Dr [rv z 4, iv x1] g r) {d : Nat} (hdd : Dr + 2 ≤ d) {x1 : Int} : ∀ (x2 : Int) (g : AG) (r : Int × AG), Parser_readAll_b rec x1 x2 g = some r → AW z (RX4, cX4_readAll, 3, none) d (QD none r) 7 [(0, rv z 4), (1, iv x1), (2, iv x2)] [] g := by
  refine Parser_readAll_b.partial_correctness rec x1 (fun x2 g r => AW z (RX4, cX4_readAll, 3, none) d (QD none r) 7 [(0, rv z 4), (1, iv x1), (2, iv x2)] [] g) ?_
  intro fb9 ih x2 g r h
  refine AW.iload_n 2 (dcN_5 dcg_155 :) rfl ?_
  refine AW.sipush (dcN_6 dcg_155 :) (by decide) (by decide) ?_
  refine AW.icmp_ge (tgt := 48) (dcN_7 dcg_155 :) (by decide) (fun c1 => ?_) (fun c1 => ?_)
  · replace h := hT h c1
    exact AW.vret1 rfl (dcN_7 dcg_156 :) h rfl
  · replace h := hF h c1
    refine AW.aloadr_n 0 (dcN_8 dcg_155 :) rfl ?_
    refine AW.bipush (dcN_9 dcg_155 :) (by decide) (by decide) ?_
    obtain ⟨r2, e3, h⟩ := hC h
    refine AW.callVi (As := [iv 109]) (st := []) (Parser_is_ok e3) cq_X4_137 cr_4_X4_is (by omega) rfl (dcN_10 dcg_155 :) rfl (Nat.le_of_ble_eq_true rfl) ?_
    refine AW.if_eq (tgt := 48) (dcN_11 dcg_155 :) (by decide) (fun c4 => ?_) (fun c4 => ?_)
    · replace h := hT h c4
      exact AW.vret1 rfl (dcN_7 dcg_156 :) h rfl
    · replace h := hF h c4
      refine AW.aloadr_n 0 (dcN_12 dcg_155 :) rfl ?_
      obtain ⟨r5, e6, h⟩ := hC h
      refine AW.callVv (As := []) (st := []) (Parser_goOn_ok e6) cq_X4_107 cr_4_X4_goOn (by omega) rfl (dcN_13 dcg_155 :) rfl (Nat.le_of_ble_eq_true rfl) ?_
      refine AW.aloadr_n 0 (dcN_14 dcg_155 :) rfl ?_
      refine AW.iload_n 1 (dcN_15 dcg_155 :) rfl ?_
      obtain ⟨r7, e8, h⟩ := hC h
      refine AW.callVv (As := [iv x1]) (st := []) (Parser_readOne_ok (Nat.le_trans (by decide) hC9) hrec e8) cq_X4_167 cr_4_X4_readOne (by omega) rfl (dcN_16 dcg_155 :) rfl (Nat.le_of_ble_eq_true rfl) ?_
      refine AW.aloadr_n 0 (dcN_0 dcg_156 :) rfl ?_
      refine AW.getR af_X4_25_4 sr_4_0 (dcN_1 dcg_156 :) ?_
      refine AW.bipush (dcN_2 dcg_156 :) (by decide) (by decide) ?_
      refine AW.iconst (dcN_3 dcg_156 :) ?_
      obtain ⟨r9, e10, h⟩ := hC h
      refine AW.callVv (As := [iv 109, iv 0]) (st := []) (Rules_put_ok e10) cq_X4_164 cr_3_X6_put (by omega) rfl (dcN_4 dcg_156 :) rfl (Nat.le_of_ble_eq_true rfl) ?_
      refine AW.iinc (lv1 := [(2, iv (x2 + 1)), (0, rv z 4), (1, iv x1)]) 2 (dcN_5 dcg_156 :) rfl (by decide) rfl ?_
      refine AW.goto (tgt := 7) (dcN_6 dcg_156 :) (by decide) ?_
      refine AW.sub (lv1 := [(0, rv z 4), (1, iv x1), (2, iv (x2 + 1))]) [1, 2, 0] rfl ?_
      exact ih _ _ _ h
theorem Parser_readAll_ok {z : AZ} {rec : Int → AG → Option (Int × AG)} {Dr : Nat} (hC9 : 4 ≤ Dr) (hrec : ∀ (x1 : Int) (g : AG) (r : Int × AG), rec x1 g = some r → AMf z yX4_readEither cX4_readEither 3 none Dr [rv z 4, iv x1] g r) {x1 : Int} {g : AG} {r : Int × AG} (h : Parser_readAll rec x1 g = some r) : AMf z yX4_readAll cX4_readAll 3 none (Dr + 2) [rv z 4, iv x1] g r := by
  intro d hdd
  refine AM.of (by decide +kernel) (Nat.le_of_ble_eq_true rfl) ?_
  show AW z (RX4, cX4_readAll, 3, none) d (QD none r) 0 [(0, rv z 4), (1, iv x1)] [] g
  unfold Parser_readAll at h
  refine AW.aloadr_n 0 (dcN_0 dcg_155 :) rfl ?_
  refine AW.iload_n 1 (dcN_1 dcg_155 :) rfl ?_
  obtain ⟨r1, e2, h⟩ := hC h
  refine AW.callVv (As := [iv x1]) (st := []) (Parser_readOne_ok (Nat.le_trans (by decide) hC9) hrec e2) cq_X4_167 cr_4_X4_readOne (by omega) rfl (dcN_2 dcg_155 :) rfl (Nat.le_of_ble_eq_true rfl) ?_
  refine AW.iconst (dcN_3 dcg_155 :) ?_
  refine AW.istore_n (lv1 := [(2, iv 0), (0, rv z 4), (1, iv x1)]) (dcN_4 dcg_155 :) (by decide) rfl ?_
  refine AW.sub (lv1 := [(0, rv z 4), (1, iv x1), (2, iv 0)]) [1, 2, 0] rfl ?_
  exact Parser_readAll_b_ok hC9 hrec hdd _ _ _ h
set_option synthInstance.maxHeartbeats 2000000 in
theorem Parser_readEither_b_ok {z : AZ} {rec : Int → AG → Option (Int × AG)} {Dr : Nat} (hC9 : 4 ≤ Dr) (hrec : ∀ (x1 : Int) (g : AG) (r : Int × AG), rec x1 g = some r → AMf z yX4_readEither cX4_readEither 3 none Dr [rv z 4, iv x1] g r) {d : Nat} (hdd : Dr + 3 ≤ d) {x1 : Int} : ∀ (x2 : Int) (g : AG) (r : Int × AG), Parser_readEither_b rec x1 x2 g = some r → AW z (RX4, cX4_readEither, 3, none) d (QD none r) 14 [(0, rv z 4), (1, iv x1), (2, iv x2)] [] g := by
  refine Parser_readEither_b.partial_correctness rec x1 (fun x2 g r => AW z (RX4, cX4_readEither, 3, none) d (QD none r) 14 [(0, rv z 4), (1, iv x1), (2, iv x2)] [] g) ?_
  intro fb9 ih x2 g r h
  refine AW.iload_n 2 (dcN_9 dcg_153 :) rfl ?_
  refine AW.sipush (dcN_10 dcg_153 :) (by decide) (by decide) ?_
  refine AW.icmp_ge (tgt := 55) (dcN_11 dcg_153 :) (by decide) (fun c1 => ?_) (fun c1 => ?_)
  · replace h := hT h c1
    exact AW.vret1 rfl (dcN_10 dcg_154 :) h rfl
  · replace h := hF h c1
    refine AW.aloadr_n 0 (dcN_12 dcg_153 :) rfl ?_
    refine AW.bipush (dcN_13 dcg_153 :) (by decide) (by decide) ?_
    obtain ⟨r2, e3, h⟩ := hC h
    refine AW.callVi (As := [iv 108]) (st := []) (Parser_is_ok e3) cq_X4_137 cr_4_X4_is (by omega) rfl (dcN_14 dcg_153 :) rfl (Nat.le_of_ble_eq_true rfl) ?_
    refine AW.if_eq (tgt := 55) (dcN_15 dcg_153 :) (by decide) (fun c4 => ?_) (fun c4 => ?_)
    · replace h := hT h c4
      exact AW.vret1 rfl (dcN_10 dcg_154 :) h rfl
    · replace h := hF h c4
      refine AW.aloadr_n 0 (dcN_16 dcg_153 :) rfl ?_
      obtain ⟨r5, e6, h⟩ := hC h
      refine AW.callVv (As := []) (st := []) (Parser_goOn_ok e6) cq_X4_107 cr_4_X4_goOn (by omega) rfl (dcN_17 dcg_153 :) rfl (Nat.le_of_ble_eq_true rfl) ?_
      refine AW.aloadr_n 0 (dcN_0 dcg_154 :) rfl ?_
      refine AW.iload_n 1 (dcN_1 dcg_154 :) rfl ?_
      obtain ⟨r7, e8, h⟩ := hC h
      refine AW.callVv (As := [iv x1]) (st := []) (Parser_readAll_ok (Nat.le_trans (by decide) hC9) hrec e8) cq_X4_161 cr_4_X4_readAll (by omega) rfl (dcN_2 dcg_154 :) rfl (Nat.le_of_ble_eq_true rfl) ?_
      refine AW.aloadr_n 0 (dcN_3 dcg_154 :) rfl ?_
      refine AW.getR af_X4_25_4 sr_4_0 (dcN_4 dcg_154 :) ?_
      refine AW.bipush (dcN_5 dcg_154 :) (by decide) (by decide) ?_
      refine AW.iconst (dcN_6 dcg_154 :) ?_
      obtain ⟨r9, e10, h⟩ := hC h
      refine AW.callVv (As := [iv 108, iv 0]) (st := []) (Rules_put_ok e10) cq_X4_164 cr_3_X6_put (by omega) rfl (dcN_7 dcg_154 :) rfl (Nat.le_of_ble_eq_true rfl) ?_
      refine AW.iinc (lv1 := [(2, iv (x2 + 1)), (0, rv z 4), (1, iv x1)]) 2 (dcN_8 dcg_154 :) rfl (by decide) rfl ?_
      refine AW.goto (tgt := 14) (dcN_9 dcg_154 :) (by decide) ?_
      refine AW.sub (lv1 := [(0, rv z 4), (1, iv x1), (2, iv (x2 + 1))]) [1, 2, 0] rfl ?_
      exact ih _ _ _ h
theorem Parser_readEither_s_ok {z : AZ} {rec : Int → AG → Option (Int × AG)} {Dr : Nat} (hC9 : 4 ≤ Dr) (hrec : ∀ (x1 : Int) (g : AG) (r : Int × AG), rec x1 g = some r → AMf z yX4_readEither cX4_readEither 3 none Dr [rv z 4, iv x1] g r) {x1 : Int} {g : AG} {r : Int × AG} (h : Parser_readEither_s rec x1 g = some r) : AMf z yX4_readEither cX4_readEither 3 none (Dr + 3) [rv z 4, iv x1] g r := by
  intro d hdd
  refine AM.of (by decide +kernel) (Nat.le_of_ble_eq_true rfl) ?_
  show AW z (RX4, cX4_readEither, 3, none) d (QD none r) 0 [(0, rv z 4), (1, iv x1)] [] g
  unfold Parser_readEither_s at h
  refine AW.iload_n 1 (dcN_0 dcg_153 :) rfl ?_
  refine AW.bipush (dcN_1 dcg_153 :) (by decide) (by decide) ?_
  refine AW.icmp_le (tgt := 7) (dcN_2 dcg_153 :) (by decide) (fun c1 => ?_) (fun c1 => ?_)
  · replace h := hT h c1
    refine AW.aloadr_n 0 (dcN_4 dcg_153 :) rfl ?_
    refine AW.iload_n 1 (dcN_5 dcg_153 :) rfl ?_
    obtain ⟨r2, e3, h⟩ := hC h
    refine AW.callVv (As := [iv x1]) (st := []) (Parser_readAll_ok (Nat.le_trans (by decide) hC9) hrec e3) cq_X4_161 cr_4_X4_readAll (by omega) rfl (dcN_6 dcg_153 :) rfl (Nat.le_of_ble_eq_true rfl) ?_
    refine AW.iconst (dcN_7 dcg_153 :) ?_
    refine AW.istore_n (lv1 := [(2, iv 0), (0, rv z 4), (1, iv x1)]) (dcN_8 dcg_153 :) (by decide) rfl ?_
    refine AW.sub (lv1 := [(0, rv z 4), (1, iv x1), (2, iv 0)]) [1, 2, 0] rfl ?_
    exact Parser_readEither_b_ok hC9 hrec hdd _ _ _ h
  · replace h := hF h c1
    exact AW.vret1 rfl (dcN_3 dcg_153 :) h rfl
theorem Parser_readEither_ok {z : AZ} {n : Nat} {x1 : Int} {g : AG} {r : Int × AG} (h : Parser_readEither n x1 g = some r) : AMf z yX4_readEither cX4_readEither 3 none (4 + n * 3) [rv z 4, iv x1] g r := by
  induction n generalizing x1 g r with
  | zero => cases h
  | succ n ih =>
    have q := Parser_readEither_s_ok (z := z) (Dr := 4 + n * 3) (Nat.le_add_right _ _) (fun x1 g r h9 => ih h9) h
    rw [show 4 + (n + 1) * 3 = 4 + n * 3 + 3 by rw [Nat.add_mul]; omega]
    exact q
theorem Parser_readLine_ok {z : AZ} {g : AG} {r : Int × AG} (h : Parser_readLine g = some r) : AMf z yX4_readLine cX4_readLine 3 none 41 [rv z 4] g r := by
  intro d hdd
  refine AM.of (by decide +kernel) (Nat.le_of_ble_eq_true rfl) ?_
  show AW z (RX4, cX4_readLine, 3, none) d (QD none r) 0 [(0, rv z 4)] [] g
  unfold Parser_readLine at h
  refine AW.aloadr_n 0 (dcN_0 dcg_139 :) rfl ?_
  refine AW.getR af_X4_15_4 sr_4_3 (dcN_1 dcg_139 :) ?_
  refine AW.aloadr_n 0 (dcN_2 dcg_139 :) rfl ?_
  refine AW.getI af_X4_35_4 sr_4_6 (dcN_3 dcg_139 :) ?_
  obtain ⟨k1, h⟩ := hK h
  refine AW.iald kc_42 sk_42 k1 (dcN_4 dcg_139 :) ?_
  refine AW.istore_n (lv1 := [(1, iv (g 42 (ix (g 4 6)))), (0, rv z 4)]) (dcN_5 dcg_139 :) (by decide) rfl ?_
  refine AW.aloadr_n 1 (dcN_6 dcg_139 :) rfl ?_
  refine AW.getR af_X4_25_4 sr_4_0 (dcN_7 dcg_139 :) ?_
  refine AW.getI af_X4_49_3 sr_3_3 (dcN_8 dcg_139 :) ?_
  refine AW.istore_n (lv1 := [(2, iv (g 3 3)), (1, iv (g 42 (ix (g 4 6)))), (0, rv z 4)]) (dcN_9 dcg_139 :) (by decide) rfl ?_
  refine AW.iload_n 1 (dcN_10 dcg_139 :) rfl ?_
  refine AW.bipush (dcN_11 dcg_139 :) (by decide) (by decide) ?_
  refine AW.bipush (dcN_12 dcg_139 :) (by decide) (by decide) ?_
  refine AW.callN0 (As := [iv (g 42 (ix (g 4 6))), iv 100, iv 104]) (st := []) X_within_ok ns_X4_87 in_X11 cd_X11_within st_X11_within (by decide) (Nat.le_trans (by decide) hdd) rfl (Nat.le_of_ble_eq_true rfl) (dcN_13 dcg_139 :) rfl ?_
  refine AW.if_ne (tgt := 35) (dcN_14 dcg_139 :) (by decide) (fun c2 => ?_) (fun c2 => ?_)
  · replace h := hF h c2
    refine AW.iload_n 0 (dcN_1 dcg_140 :) rfl ?_
    refine AW.bipush (dcN_2 dcg_140 :) (by decide) (by decide) ?_
    refine AW.icmp_lt (tgt := 47) (dcN_3 dcg_140 :) (by decide) (fun c3 => ?_) (fun c3 => ?_)
    · replace h := hT h c3
      refine AW.aloadr_n 2 (dcN_8 dcg_140 :) rfl ?_
      obtain ⟨r4, e5, h⟩ := hC h
      refine AW.callVv (As := []) (st := []) (Parser_goOn_ok e5) cq_X4_107 cr_4_X4_goOn (Nat.le_trans (by decide) hdd) rfl (dcN_9 dcg_140 :) rfl (Nat.le_of_ble_eq_true rfl) ?_
      refine AW.aloadr_n 2 (dcN_10 dcg_140 :) rfl ?_
      refine AW.getR af_X4_25_4 sr_4_0 (dcN_11 dcg_140 :) ?_
      refine AW.getR af_X4_110_3 sr_3_4 (dcN_12 dcg_140 :) ?_
      refine AW.iload_n 0 (dcN_13 dcg_140 :) rfl ?_
      refine AW.iload_n 1 (dcN_14 dcg_140 :) rfl ?_
      obtain ⟨k6, h⟩ := hK h
      obtain ⟨g7, e8, h⟩ := hBe h
      refine AW.iast kc_31 sk_31 k6 (dcN_15 dcg_140 :) e8 ?_
      refine AW.aloadr_n 2 (dcN_16 dcg_140 :) rfl ?_
      refine AW.getR af_X4_25_4 sr_4_0 (dcN_17 dcg_140 :) ?_
      refine AW.getR af_X4_113_3 sr_3_5 (dcN_0 dcg_141 :) ?_
      refine AW.iload_n 0 (dcN_1 dcg_141 :) rfl ?_
      refine AW.aloadr_n 2 (dcN_2 dcg_141 :) rfl ?_
      refine AW.getR af_X4_25_4 sr_4_0 (dcN_3 dcg_141 :) ?_
      refine AW.getI af_X4_116_3 sr_3_2 (dcN_4 dcg_141 :) ?_
      obtain ⟨g9, e10, h⟩ := hBe h
      refine AW.iast kc_32 sk_32 k6 (dcN_5 dcg_141 :) e10 ?_
      refine AW.iload_n 1 (dcN_6 dcg_141 :) rfl ?_
      refine AW.bipush (dcN_7 dcg_141 :) (by decide) (by decide) ?_
      obtain ⟨r25, e26, h⟩ := hC h
      refine AW.join (tgt := 133) (lv1 := [(0, rv z 4), (1, iv (g 42 (ix (g 4 6)))), (2, iv (g 3 3))]) (st1 := []) (g1 := r25) ?_ (fun J80 => ?_)
      · refine AW.aloadr_n 0 (dcN_2 dcg_143 :) rfl ?_
        refine AW.getR af_X4_25_4 sr_4_0 (dcN_3 dcg_143 :) ?_
        refine AW.getR af_X4_134_3 sr_3_6 (dcN_4 dcg_143 :) ?_
        refine AW.iload_n 2 (dcN_5 dcg_143 :) rfl ?_
        refine AW.aloadr_n 0 (dcN_6 dcg_143 :) rfl ?_
        refine AW.getR af_X4_25_4 sr_4_0 (dcN_7 dcg_143 :) ?_
        refine AW.getI af_X4_116_3 sr_3_2 (dcN_8 dcg_143 :) ?_
        obtain ⟨g27, e28, h⟩ := hBe h
        refine AW.iast kc_33 sk_33 k6 (dcN_9 dcg_143 :) e28 ?_
        refine AW.iload_n 1 (dcN_10 dcg_143 :) rfl ?_
        refine AW.bipush (dcN_11 dcg_143 :) (by decide) (by decide) ?_
        obtain ⟨r37, e38, h⟩ := hC h
        refine AW.join (tgt := 173) (lv1 := [(0, rv z 4), (2, iv (g 3 3))]) (st1 := []) (g1 := r37) ?_ (fun J152 => ?_)
        · refine AW.aloadr_n 0 (dcN_6 dcg_144 :) rfl ?_
          refine AW.getR af_X4_25_4 sr_4_0 (dcN_7 dcg_144 :) ?_
          refine AW.getR af_X4_143_3 sr_3_7 (dcN_8 dcg_144 :) ?_
          refine AW.iload_n 1 (dcN_9 dcg_144 :) rfl ?_
          refine AW.aloadr_n 0 (dcN_10 dcg_144 :) rfl ?_
          refine AW.getR af_X4_25_4 sr_4_0 (dcN_11 dcg_144 :) ?_
          refine AW.getI af_X4_116_3 sr_3_2 (dcN_12 dcg_144 :) ?_
          obtain ⟨g39, e40, h⟩ := hBe h
          refine AW.iast kc_34 sk_34 k6 (dcN_13 dcg_144 :) e40 ?_
          refine AW.aloadr_n 0 (dcN_14 dcg_144 :) rfl ?_
          refine AW.bipush (dcN_15 dcg_144 :) (by decide) (by decide) ?_
          obtain ⟨r41, e42, h⟩ := hC h
          refine AW.callVv (As := [iv 59]) (st := []) (Parser_demand_ok e42) cq_X4_146 cr_4_X4_demand (Nat.le_trans (by decide) hdd) rfl (dcN_0 dcg_145 :) rfl (Nat.le_of_ble_eq_true rfl) ?_
          refine AW.aloadr_n 0 (dcN_1 dcg_145 :) rfl ?_
          refine AW.getR af_X4_25_4 sr_4_0 (dcN_2 dcg_145 :) ?_
          refine AW.duprr (dcN_3 dcg_145 :) ?_
          refine AW.getI af_X4_49_3 sr_3_3 (dcN_4 dcg_145 :) ?_
          refine AW.iconst (dcN_5 dcg_145 :) ?_
          refine AW.iadd (dcN_6 dcg_145 :) ?_
          obtain ⟨g43, e44, h⟩ := hBe h
          refine AW.putI ap_X4_49_3 sr_3_3 (dcN_7 dcg_145 :) e44 ?_
          exact AW.vret1 rfl (dcN_8 dcg_145 :) h rfl
        replace h := e38
        refine AW.icmp_eq (tgt := 173) (dcN_12 dcg_143 :) (by decide) (fun c29 => ?_) (fun c29 => ?_)
        · replace h := hT h c29
          refine AW.sub (lv1 := [(0, rv z 4), (2, iv (g 3 3))]) [0, 2] rfl ?_
          cases h
          exact J152
        · replace h := hF h c29
          refine AW.aloadr_n 0 (dcN_13 dcg_143 :) rfl ?_
          refine AW.bipush (dcN_14 dcg_143 :) (by decide) (by decide) ?_
          obtain ⟨r30, e31, h⟩ := hC h
          refine AW.callVi (As := [iv 107]) (st := []) (Parser_is_ok e31) cq_X4_137 cr_4_X4_is (Nat.le_trans (by decide) hdd) rfl (dcN_15 dcg_143 :) rfl (Nat.le_of_ble_eq_true rfl) ?_
          refine AW.if_eq (tgt := 173) (dcN_0 dcg_144 :) (by decide) (fun c32 => ?_) (fun c32 => ?_)
          · replace h := hT h c32
            refine AW.sub (lv1 := [(0, rv z 4), (2, iv (g 3 3))]) [0, 2] rfl ?_
            cases h
            exact J152
          · replace h := hF h c32
            refine AW.aloadr_n 0 (dcN_1 dcg_144 :) rfl ?_
            obtain ⟨r33, e34, h⟩ := hC h
            refine AW.callVv (As := []) (st := []) (Parser_goOn_ok e34) cq_X4_107 cr_4_X4_goOn (Nat.le_trans (by decide) hdd) rfl (dcN_2 dcg_144 :) rfl (Nat.le_of_ble_eq_true rfl) ?_
            refine AW.aloadr_n 0 (dcN_3 dcg_144 :) rfl ?_
            refine AW.iconst (dcN_4 dcg_144 :) ?_
            obtain ⟨r35, e36, h⟩ := hC h
            refine AW.callVv (As := [iv 0]) (st := []) ((Parser_readEither_ok (n := 12)) e36) cq_X4_140 cr_4_X4_readEither (Nat.le_trans (by decide) hdd) rfl (dcN_5 dcg_144 :) rfl (Nat.le_of_ble_eq_true rfl) ?_
            refine AW.sub (lv1 := [(0, rv z 4), (2, iv (g 3 3))]) [0, 2] rfl ?_
            cases h
            exact J152
      replace h := e26
      refine AW.icmp_ne (tgt := 90) (dcN_8 dcg_141 :) (by decide) (fun c11 => ?_) (fun c11 => ?_)
      · replace h := hF h c11
        refine AW.iload_n 1 (dcN_12 dcg_141 :) rfl ?_
        refine AW.bipush (dcN_13 dcg_141 :) (by decide) (by decide) ?_
        refine AW.icmp_ne (tgt := 129) (dcN_14 dcg_141 :) (by decide) (fun c12 => ?_) (fun c12 => ?_)
        · replace h := hF h c12
          refine AW.aloadr_n 2 (dcN_0 dcg_143 :) rfl ?_
          obtain ⟨r13, e14, h⟩ := hC h
          refine AW.callVv (As := []) (st := []) (Parser_readSum_ok e14) cq_X4_131 cr_4_X4_readSum (Nat.le_trans (by decide) hdd) rfl (dcN_1 dcg_143 :) rfl (Nat.le_of_ble_eq_true rfl) ?_
          refine AW.sub (lv1 := [(0, rv z 4), (1, iv (g 42 (ix (g 4 6)))), (2, iv (g 3 3))]) [2, 1, 0] rfl ?_
          cases h
          exact J80
        · replace h := hT h c12
          refine AW.aloadr_n 2 (dcN_0 dcg_142 :) rfl ?_
          refine AW.getR af_X4_25_4 sr_4_0 (dcN_1 dcg_142 :) ?_
          refine AW.getR af_X4_122_3 sr_3_8 (dcN_2 dcg_142 :) ?_
          refine AW.iload_n 0 (dcN_3 dcg_142 :) rfl ?_
          refine AW.aloadr_n 2 (dcN_4 dcg_142 :) rfl ?_
          refine AW.bipush (dcN_5 dcg_142 :) (by decide) (by decide) ?_
          obtain ⟨r15, e16, h⟩ := hC h
          refine AW.callVi (As := [iv 24]) (st := [iv (g 3 3), rv z 35]) (Parser_numberUpTo_ok e16) cq_X4_125 cr_4_X4_numberUpTo (Nat.le_trans (by decide) hdd) rfl (dcN_6 dcg_142 :) rfl (Nat.le_of_ble_eq_true rfl) ?_
          obtain ⟨g17, e18, h⟩ := hBe h
          refine AW.iast kc_35 sk_35 k6 (dcN_7 dcg_142 :) e18 ?_
          refine AW.aloadr_n 2 (dcN_8 dcg_142 :) rfl ?_
          refine AW.getR af_X4_25_4 sr_4_0 (dcN_9 dcg_142 :) ?_
          refine AW.getR af_X4_128_3 sr_3_9 (dcN_10 dcg_142 :) ?_
          refine AW.iload_n 0 (dcN_11 dcg_142 :) rfl ?_
          refine AW.aloadr_n 2 (dcN_12 dcg_142 :) rfl ?_
          refine AW.bipush (dcN_13 dcg_142 :) (by decide) (by decide) ?_
          obtain ⟨r19, e20, h⟩ := hC h
          refine AW.callVi (As := [iv 24]) (st := [iv (g 3 3), rv z 36]) (Parser_numberUpTo_ok e20) cq_X4_125 cr_4_X4_numberUpTo (Nat.le_trans (by decide) hdd) rfl (dcN_14 dcg_142 :) rfl (Nat.le_of_ble_eq_true rfl) ?_
          obtain ⟨g21, e22, h⟩ := hBe h
          refine AW.iast kc_36 sk_36 k6 (dcN_15 dcg_142 :) e22 ?_
          refine AW.goto (tgt := 133) (dcN_16 dcg_142 :) (by decide) ?_
          refine AW.sub (lv1 := [(0, rv z 4), (1, iv (g 42 (ix (g 4 6)))), (2, iv (g 3 3))]) [2, 1, 0] rfl ?_
          cases h
          exact J80
      · replace h := hT h c11
        refine AW.aloadr_n 2 (dcN_9 dcg_141 :) rfl ?_
        obtain ⟨r23, e24, h⟩ := hC h
        refine AW.callVv (As := []) (st := []) (Parser_readTunnel_ok e24) cq_X4_119 cr_4_X4_readTunnel (Nat.le_trans (by decide) hdd) rfl (dcN_10 dcg_141 :) rfl (Nat.le_of_ble_eq_true rfl) ?_
        refine AW.goto (tgt := 133) (dcN_11 dcg_141 :) (by decide) ?_
        refine AW.sub (lv1 := [(0, rv z 4), (1, iv (g 42 (ix (g 4 6)))), (2, iv (g 3 3))]) [2, 1, 0] rfl ?_
        cases h
        exact J80
    · replace h := hF h c3
      refine AW.aloadr_n 2 (dcN_4 dcg_140 :) rfl ?_
      refine AW.iconst (dcN_5 dcg_140 :) ?_
      obtain ⟨r45, e46, h⟩ := hC h
      refine AW.callVv (As := [iv 3]) (st := []) (Parser_fail_ok e46) cq_X4_103 cr_4_X4_fail (Nat.le_trans (by decide) hdd) rfl (dcN_6 dcg_140 :) rfl (Nat.le_of_ble_eq_true rfl) ?_
      exact AW.vret1 rfl (dcN_7 dcg_140 :) h rfl
  · replace h := hT h c2
    refine AW.aloadr_n 2 (dcN_15 dcg_139 :) rfl ?_
    refine AW.iconst (dcN_16 dcg_139 :) ?_
    obtain ⟨r47, e48, h⟩ := hC h
    refine AW.callVv (As := [iv 1]) (st := []) (Parser_fail_ok e48) cq_X4_103 cr_4_X4_fail (Nat.le_trans (by decide) hdd) rfl (dcN_17 dcg_139 :) rfl (Nat.le_of_ble_eq_true rfl) ?_
    exact AW.vret1 rfl (dcN_0 dcg_140 :) h rfl
set_option synthInstance.maxHeartbeats 2000000 in
theorem Parser_read_b_ok {z : AZ} {d : Nat} (hdd : 42 ≤ d) : ∀ (tag : Nat) (x1 : Int) (g : AG) (r : Int × AG), Parser_read_b tag x1 g = some r → (tag = 1 → AW z (RX4, cX4_read, 2, (some .int)) d (QD (some .int) r) 28 [(0, rv z 4), (1, iv x1)] [] g) ∧ (tag = 2 → AW z (RX4, cX4_read, 2, (some .int)) d (QD (some .int) r) 63 [(0, rv z 4)] [] g) := by
  refine Parser_read_b.partial_correctness (fun tag x1 g r => (tag = 1 → AW z (RX4, cX4_read, 2, (some .int)) d (QD (some .int) r) 28 [(0, rv z 4), (1, iv x1)] [] g) ∧ (tag = 2 → AW z (RX4, cX4_read, 2, (some .int)) d (QD (some .int) r) 63 [(0, rv z 4)] [] g)) ?_
  intro fb9 ih tag x1 g r h
  refine ⟨fun h9 => ?_, fun h9 => ?_⟩
  · subst h9
    replace h := hT h rfl
    refine AW.iload_n 1 (dcN_16 dcg_108 :) rfl ?_
    refine AW.bipush (dcN_17 dcg_108 :) (by decide) (by decide) ?_
    refine AW.icmp_gt (tgt := 63) (dcN_18 dcg_108 :) (by decide) (fun c1 => ?_) (fun c1 => ?_)
    · replace h := hT h c1
      refine AW.sub (lv1 := [(0, rv z 4)]) [0] rfl ?_
      exact (ih _ _ _ _ h).2 rfl
    · replace h := hF h c1
      refine AW.aloadr_n 0 (dcN_0 dcg_109 :) rfl ?_
      refine AW.getI af_X4_32_4 sr_4_7 (dcN_1 dcg_109 :) ?_
      refine AW.if_ne (tgt := 63) (dcN_2 dcg_109 :) (by decide) (fun c2 => ?_) (fun c2 => ?_)
      · replace h := hF h c2
        refine AW.sub (lv1 := [(0, rv z 4)]) [0] rfl ?_
        exact (ih _ _ _ _ h).2 rfl
      · replace h := hT h c2
        refine AW.aloadr_n 0 (dcN_3 dcg_109 :) rfl ?_
        refine AW.getR af_X4_15_4 sr_4_3 (dcN_4 dcg_109 :) ?_
        refine AW.aloadr_n 0 (dcN_5 dcg_109 :) rfl ?_
        refine AW.getI af_X4_35_4 sr_4_6 (dcN_6 dcg_109 :) ?_
        obtain ⟨k3, h⟩ := hK h
        refine AW.iald kc_42 sk_42 k3 (dcN_7 dcg_109 :) ?_
        refine AW.if_eq (tgt := 63) (dcN_8 dcg_109 :) (by decide) (fun c4 => ?_) (fun c4 => ?_)
        · replace h := hT h c4
          refine AW.sub (lv1 := [(0, rv z 4)]) [0] rfl ?_
          exact (ih _ _ _ _ h).2 rfl
        · replace h := hF h c4
          refine AW.aloadr_n 0 (dcN_9 dcg_109 :) rfl ?_
          obtain ⟨r5, e6, h⟩ := hC h
          refine AW.callVv (As := []) (st := []) (Parser_readLine_ok e6) cq_X4_46 cr_4_X4_readLine (Nat.le_trans (by decide) hdd) rfl (dcN_10 dcg_109 :) rfl (Nat.le_of_ble_eq_true rfl) ?_
          refine AW.iinc (lv1 := [(1, iv (x1 + 1)), (0, rv z 4)]) 1 (dcN_11 dcg_109 :) rfl (by decide) rfl ?_
          refine AW.goto (tgt := 28) (dcN_12 dcg_109 :) (by decide) ?_
          refine AW.sub (lv1 := [(0, rv z 4), (1, iv (x1 + 1))]) [1, 0] rfl ?_
          exact (ih _ _ _ _ h).1 rfl
  · subst h9
    replace h := hF h (by decide)
    replace h := hT h rfl
    refine AW.aloadr_n 0 (dcN_13 dcg_109 :) rfl ?_
    refine AW.iconst (dcN_0 dcg_110 :) ?_
    obtain ⟨g1, e2, h⟩ := hBe h
    refine AW.putI ap_X4_29_4 sr_4_2 (dcN_1 dcg_110 :) e2 ?_
    refine AW.aloadr_n 0 (dcN_2 dcg_110 :) rfl ?_
    refine AW.getI af_X4_32_4 sr_4_7 (dcN_3 dcg_110 :) ?_
    obtain ⟨t3, e4, h⟩ := hBe h
    refine AW.join (tgt := 86) (lv1 := [(0, rv z 4)]) (st1 := [iv t3]) (g1 := g1) ?_ (fun J72 => ?_)
    · exact AW.iret1 rfl (dcN_10 dcg_110 :) h rfl
    refine AW.if_ne (tgt := 85) (dcN_4 dcg_110 :) (by decide) (fun c5 => ?_) (fun c5 => ?_)
    · refine AW.iconst (dcN_9 dcg_110 :) ?_
      exact AW.val (e4.trans (if_neg c5)) J72
    · refine AW.aloadr_n 0 (dcN_5 dcg_110 :) rfl ?_
      refine AW.getR af_X4_25_4 sr_4_0 (dcN_6 dcg_110 :) ?_
      refine AW.getI af_X4_49_3 sr_3_3 (dcN_7 dcg_110 :) ?_
      refine AW.goto (tgt := 86) (dcN_8 dcg_110 :) (by decide) ?_
      exact AW.val (e4.trans (if_pos c5)) J72
theorem Parser_read_ok {z : AZ} {g : AG} {r : Int × AG} (h : Parser_read g = some r) : AMf z yX4_read cX4_read 2 (some .int) 42 [rv z 4] g r := by
  intro d hdd
  refine AM.of (by decide +kernel) (Nat.le_of_ble_eq_true rfl) ?_
  show AW z (RX4, cX4_read, 2, (some .int)) d (QD (some .int) r) 0 [(0, rv z 4)] [] g
  unfold Parser_read at h
  refine AW.aloadr_n 0 (dcN_0 dcg_108 :) rfl ?_
  refine AW.iconst (dcN_1 dcg_108 :) ?_
  obtain ⟨g1, e2, h⟩ := hBe h
  refine AW.putI ap_X4_32_4 sr_4_7 (dcN_2 dcg_108 :) e2 ?_
  refine AW.aloadr_n 0 (dcN_3 dcg_108 :) rfl ?_
  refine AW.iconst (dcN_4 dcg_108 :) ?_
  obtain ⟨g3, e4, h⟩ := hBe h
  refine AW.putI ap_X4_21_4 sr_4_8 (dcN_5 dcg_108 :) e4 ?_
  refine AW.aloadr_n 0 (dcN_6 dcg_108 :) rfl ?_
  refine AW.iconst (dcN_7 dcg_108 :) ?_
  obtain ⟨g5, e6, h⟩ := hBe h
  refine AW.putI ap_X4_35_4 sr_4_6 (dcN_8 dcg_108 :) e6 ?_
  refine AW.aloadr_n 0 (dcN_9 dcg_108 :) rfl ?_
  refine AW.getR af_X4_25_4 sr_4_0 (dcN_10 dcg_108 :) ?_
  obtain ⟨r7, e8, h⟩ := hC h
  refine AW.callVv (As := []) (st := []) (Rules_clear_ok e8) cq_X4_38 cr_3_X6_clear (Nat.le_trans (by decide) hdd) rfl (dcN_11 dcg_108 :) rfl (Nat.le_of_ble_eq_true rfl) ?_
  refine AW.aloadr_n 0 (dcN_12 dcg_108 :) rfl ?_
  obtain ⟨r9, e10, h⟩ := hC h
  refine AW.callVv (As := []) (st := []) (Parser_scan_ok e10) cq_X4_43 cr_4_X4_scan (Nat.le_trans (by decide) hdd) rfl (dcN_13 dcg_108 :) rfl (Nat.le_of_ble_eq_true rfl) ?_
  refine AW.iconst (dcN_14 dcg_108 :) ?_
  refine AW.istore_n (lv1 := [(1, iv 0), (0, rv z 4)]) (dcN_15 dcg_108 :) (by decide) rfl ?_
  refine AW.sub (lv1 := [(0, rv z 4), (1, iv 0)]) [1, 0] rfl ?_
  exact (Parser_read_b_ok hdd _ _ _ _ h).1 rfl
