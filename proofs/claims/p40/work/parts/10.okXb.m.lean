section
set_option synthInstance.maxHeartbeats 2000000 in
theorem Parser_scan_b_ok {z : AZ} {d : Nat} (hdd : 7 ≤ d) : ∀ (tag : Nat) (x1 : Int) (x2 : Int) (g : AG) (r : Int × AG), Parser_scan_b tag x1 x2 g = some r → (tag = 1 → AW z (RX4, cX4_scan, 5, none) d (QD none r) 9 [(0, rv z 4), (1, iv x1), (2, iv x2)] [] g) ∧ (tag = 2 → AW z (RX4, cX4_scan, 5, none) d (QD none r) 135 [(0, rv z 4)] [] g) := by
  refine Parser_scan_b.partial_correctness (fun tag x1 x2 g r => (tag = 1 → AW z (RX4, cX4_scan, 5, none) d (QD none r) 9 [(0, rv z 4), (1, iv x1), (2, iv x2)] [] g) ∧ (tag = 2 → AW z (RX4, cX4_scan, 5, none) d (QD none r) 135 [(0, rv z 4)] [] g)) ?_
  intro fb9 ih tag x1 x2 g r h
  refine ⟨fun h9 => ?_, fun h9 => ?_⟩
  · subst h9
    replace h := hT h rfl
    refine AW.iload_n 2 (dcN_7 dcg_111 :) rfl ?_
    refine AW.sipush (dcN_8 dcg_111 :) (by decide) (by decide) ?_
    refine AW.icmp_ge (tgt := 135) (dcN_9 dcg_111 :) (by decide) (fun c1 => ?_) (fun c1 => ?_)
    · replace h := hT h c1
      refine AW.sub (lv1 := [(0, rv z 4)]) [0] rfl ?_
      exact (ih _ _ _ _ _ h).2 rfl
    · replace h := hF h c1
      refine AW.iload_n 1 (dcN_10 dcg_111 :) rfl ?_
      refine AW.aloadr_n 0 (dcN_11 dcg_111 :) rfl ?_
      refine AW.getI af_X4_29_4 sr_4_2 (dcN_12 dcg_111 :) ?_
      refine AW.icmp_ge (tgt := 135) (dcN_13 dcg_111 :) (by decide) (fun c2 => ?_) (fun c2 => ?_)
      · replace h := hT h c2
        refine AW.sub (lv1 := [(0, rv z 4)]) [0] rfl ?_
        exact (ih _ _ _ _ _ h).2 rfl
      · replace h := hF h c2
        refine AW.aloadr_n 0 (dcN_14 dcg_111 :) rfl ?_
        refine AW.getR af_X4_9_4 sr_4_1 (dcN_15 dcg_111 :) ?_
        refine AW.iload_n 1 (dcN_16 dcg_111 :) rfl ?_
        obtain ⟨k3, h⟩ := hK h
        refine AW.iald kc_41 sk_41 k3 (dcN_17 dcg_111 :) ?_
        refine AW.istore_n (lv1 := [(3, iv (g 41 (ix x1))), (0, rv z 4), (1, iv x1), (2, iv x2)]) (dcN_18 dcg_111 :) (by decide) rfl ?_
        refine AW.iload_n 2 (dcN_19 dcg_111 :) rfl ?_
        refine AW.iconst (dcN_0 dcg_112 :) ?_
        refine AW.iadd (dcN_1 dcg_112 :) ?_
        refine AW.istore (lv1 := [(4, iv (x1 + 1)), (3, iv (g 41 (ix x1))), (0, rv z 4), (1, iv x1), (2, iv x2)]) (dcN_2 dcg_112 :) (by decide) rfl ?_
        refine AW.iload_n 1 (dcN_3 dcg_112 :) rfl ?_
        refine AW.callSi (As := [iv (g 41 (ix x1))]) (st := []) Parser_isLetter_ok cq_X4_55 st_X4_isLetter (Nat.le_trans (by decide) hdd) rfl (dcN_4 dcg_112 :) rfl (Nat.le_of_ble_eq_true rfl) ?_
        obtain ⟨r25, e26, h⟩ := hC h
        refine AW.join (tgt := 126) (lv1 := [(0, rv z 4), (2, iv x2), (4, iv r25.1)]) (st1 := []) (g1 := r25.2) ?_ (fun J40 => ?_)
        · refine AW.iload 2 (dcN_15 dcg_114 :) rfl ?_
          refine AW.istore_n (lv1 := [(1, iv r25.1), (0, rv z 4), (2, iv x2), (4, iv r25.1)]) (dcN_0 dcg_115 :) (by decide) rfl ?_
          refine AW.iinc (lv1 := [(2, iv (x2 + 1)), (1, iv r25.1), (0, rv z 4), (4, iv r25.1)]) 2 (dcN_1 dcg_115 :) rfl (by decide) rfl ?_
          refine AW.goto (tgt := 9) (dcN_2 dcg_115 :) (by decide) ?_
          refine AW.sub (lv1 := [(0, rv z 4), (1, iv r25.1), (2, iv (x2 + 1))]) [2, 1, 0] rfl ?_
          exact (ih _ _ _ _ _ h).1 rfl
        replace h := e26
        refine AW.if_eq (tgt := 65) (dcN_5 dcg_112 :) (by decide) (fun c4 => ?_) (fun c4 => ?_)
        · replace h := hT h c4
          refine AW.iload_n 1 (dcN_0 dcg_113 :) rfl ?_
          refine AW.callSi (As := [iv (g 41 (ix x1))]) (st := []) Parser_isDigit_ok cq_X4_71 st_X4_isDigit (Nat.le_trans (by decide) hdd) rfl (dcN_1 dcg_113 :) rfl (Nat.le_of_ble_eq_true rfl) ?_
          refine AW.if_eq (tgt := 94) (dcN_2 dcg_113 :) (by decide) (fun c5 => ?_) (fun c5 => ?_)
          · replace h := hT h c5
            refine AW.iload_n 1 (dcN_15 dcg_113 :) rfl ?_
            refine AW.bipush (dcN_16 dcg_113 :) (by decide) (by decide) ?_
            refine AW.icmp_eq (tgt := 126) (dcN_0 dcg_114 :) (by decide) (fun c6 => ?_) (fun c6 => ?_)
            · replace h := hT h c6
              refine AW.sub (lv1 := [(0, rv z 4), (2, iv x2), (4, iv (x1 + 1))]) [2, 4, 0] rfl ?_
              cases h
              exact J40
            · replace h := hF h c6
              refine AW.iload_n 1 (dcN_1 dcg_114 :) rfl ?_
              refine AW.bipush (dcN_2 dcg_114 :) (by decide) (by decide) ?_
              refine AW.icmp_eq (tgt := 126) (dcN_3 dcg_114 :) (by decide) (fun c7 => ?_) (fun c7 => ?_)
              · replace h := hT h c7
                refine AW.sub (lv1 := [(0, rv z 4), (2, iv x2), (4, iv (x1 + 1))]) [2, 4, 0] rfl ?_
                cases h
                exact J40
              · replace h := hF h c7
                refine AW.aloadr_n 2 (dcN_4 dcg_114 :) rfl ?_
                refine AW.ldcS (dcN_5 dcg_114 :) sw_X4_80 ?_
                refine AW.iload_n 1 (dcN_6 dcg_114 :) rfl ?_
                refine AW.i2c (dcN_7 dcg_114 :) ?_
                refine AW.tIx cq_X4_82 (by decide) (Nat.le_trans (by decide) hdd) (dcN_8 dcg_114 :) (Nat.le_of_ble_eq_true rfl) ?_
                obtain ⟨t8, e9, h⟩ := hBe h
                refine AW.join (tgt := 122) (lv1 := [(4, iv (x1 + 1)), (3, iv (g 41 (ix x1))), (0, rv z 4), (1, iv x1), (2, iv x2)]) (st1 := [iv t8, rv z 4]) (g1 := g) ?_ (fun J114 => ?_)
                · refine AW.iload_n 3 (dcN_13 dcg_114 :) rfl ?_
                  obtain ⟨r10, e11, h⟩ := hC h
                  refine AW.callVv (As := [iv t8, iv x1]) (st := []) (Parser_add_ok e11) cq_X4_67 cr_4_X4_add (Nat.le_trans (by decide) hdd) rfl (dcN_14 dcg_114 :) rfl (Nat.le_of_ble_eq_true rfl) ?_
                  refine AW.sub (lv1 := [(0, rv z 4), (2, iv x2), (4, iv (x1 + 1))]) [2, 4, 0] rfl ?_
                  cases h
                  exact J40
                refine AW.if_lt (tgt := 121) (dcN_9 dcg_114 :) (by decide) (fun c12 => ?_) (fun c12 => ?_)
                · refine AW.iconst (dcN_12 dcg_114 :) ?_
                  exact AW.val (e9.trans (if_pos c12)) J114
                · refine AW.iload_n 1 (dcN_10 dcg_114 :) rfl ?_
                  refine AW.goto (tgt := 122) (dcN_11 dcg_114 :) (by decide) ?_
                  exact AW.val (e9.trans (if_neg c12)) J114
          · replace h := hF h c5
            refine AW.aloadr_n 2 (dcN_3 dcg_113 :) rfl ?_
            refine AW.iload_n 3 (dcN_4 dcg_113 :) rfl ?_
            obtain ⟨r13, e14, h⟩ := hC h
            refine AW.callVi (As := [iv x1]) (st := []) (Parser_endOfDigits_ok e14) cq_X4_74 cr_4_X4_endOfDigits (Nat.le_trans (by decide) hdd) rfl (dcN_5 dcg_113 :) rfl (Nat.le_of_ble_eq_true rfl) ?_
            refine AW.istore (lv1 := [(4, iv r13), (3, iv (g 41 (ix x1))), (0, rv z 4), (1, iv x1), (2, iv x2)]) (dcN_6 dcg_113 :) (by decide) rfl ?_
            refine AW.aloadr_n 2 (dcN_7 dcg_113 :) rfl ?_
            refine AW.aloadr_n 2 (dcN_8 dcg_113 :) rfl ?_
            refine AW.iload_n 3 (dcN_9 dcg_113 :) rfl ?_
            refine AW.iload 0 (dcN_10 dcg_113 :) rfl ?_
            obtain ⟨r15, e16, h⟩ := hC h
            refine AW.callVi (As := [iv x1, iv r13]) (st := [rv z 4]) (Parser_numberOf_ok e16) cq_X4_77 cr_4_X4_numberOf (Nat.le_trans (by decide) hdd) rfl (dcN_11 dcg_113 :) rfl (Nat.le_of_ble_eq_true rfl) ?_
            refine AW.iload_n 3 (dcN_12 dcg_113 :) rfl ?_
            obtain ⟨r17, e18, h⟩ := hC h
            refine AW.callVv (As := [iv r15, iv x1]) (st := []) (Parser_add_ok e18) cq_X4_67 cr_4_X4_add (Nat.le_trans (by decide) hdd) rfl (dcN_13 dcg_113 :) rfl (Nat.le_of_ble_eq_true rfl) ?_
            refine AW.goto (tgt := 126) (dcN_14 dcg_113 :) (by decide) ?_
            refine AW.sub (lv1 := [(0, rv z 4), (2, iv x2), (4, iv r13)]) [2, 4, 0] rfl ?_
            cases h
            exact J40
        · replace h := hF h c4
          refine AW.aloadr_n 2 (dcN_6 dcg_112 :) rfl ?_
          refine AW.iload_n 3 (dcN_7 dcg_112 :) rfl ?_
          obtain ⟨r19, e20, h⟩ := hC h
          refine AW.callVi (As := [iv x1]) (st := []) (Parser_endOfWord_ok e20) cq_X4_59 cr_4_X4_endOfWord (Nat.le_trans (by decide) hdd) rfl (dcN_8 dcg_112 :) rfl (Nat.le_of_ble_eq_true rfl) ?_
          refine AW.istore (lv1 := [(4, iv r19), (3, iv (g 41 (ix x1))), (0, rv z 4), (1, iv x1), (2, iv x2)]) (dcN_9 dcg_112 :) (by decide) rfl ?_
          refine AW.aloadr_n 2 (dcN_10 dcg_112 :) rfl ?_
          refine AW.aloadr_n 2 (dcN_11 dcg_112 :) rfl ?_
          refine AW.iload_n 3 (dcN_12 dcg_112 :) rfl ?_
          refine AW.iload 0 (dcN_13 dcg_112 :) rfl ?_
          obtain ⟨r21, e22, h⟩ := hC h
          refine AW.callVi (As := [iv x1, iv r19]) (st := [rv z 4]) (Parser_wordOf_ok e22) cq_X4_63 cr_4_X4_wordOf (Nat.le_trans (by decide) hdd) rfl (dcN_14 dcg_112 :) rfl (Nat.le_of_ble_eq_true rfl) ?_
          refine AW.iload_n 3 (dcN_15 dcg_112 :) rfl ?_
          obtain ⟨r23, e24, h⟩ := hC h
          refine AW.callVv (As := [iv r21, iv x1]) (st := []) (Parser_add_ok e24) cq_X4_67 cr_4_X4_add (Nat.le_trans (by decide) hdd) rfl (dcN_16 dcg_112 :) rfl (Nat.le_of_ble_eq_true rfl) ?_
          refine AW.goto (tgt := 126) (dcN_17 dcg_112 :) (by decide) ?_
          refine AW.sub (lv1 := [(0, rv z 4), (2, iv x2), (4, iv r19)]) [2, 4, 0] rfl ?_
          cases h
          exact J40
  · subst h9
    replace h := hF h (by decide)
    replace h := hT h rfl
    refine AW.aloadr_n 0 (dcN_3 dcg_115 :) rfl ?_
    refine AW.iconst (dcN_4 dcg_115 :) ?_
    refine AW.aloadr_n 0 (dcN_5 dcg_115 :) rfl ?_
    refine AW.getI af_X4_29_4 sr_4_2 (dcN_6 dcg_115 :) ?_
    obtain ⟨r1, e2, h⟩ := hC h
    refine AW.callVv (As := [iv 0, iv (g 4 2)]) (st := []) (Parser_add_ok e2) cq_X4_67 cr_4_X4_add (Nat.le_trans (by decide) hdd) rfl (dcN_7 dcg_115 :) rfl (Nat.le_of_ble_eq_true rfl) ?_
    exact AW.vret1 rfl (dcN_8 dcg_115 :) h rfl
theorem Parser_scan_ok {z : AZ} {g : AG} {r : Int × AG} (h : Parser_scan g = some r) : AMf z yX4_scan cX4_scan 5 none 7 [rv z 4] g r := by
  intro d hdd
  refine AM.of (by decide +kernel) (Nat.le_of_ble_eq_true rfl) ?_
  show AW z (RX4, cX4_scan, 5, none) d (QD none r) 0 [(0, rv z 4)] [] g
  unfold Parser_scan at h
  refine AW.aloadr_n 0 (dcN_0 dcg_111 :) rfl ?_
  refine AW.iconst (dcN_1 dcg_111 :) ?_
  obtain ⟨g1, e2, h⟩ := hBe h
  refine AW.putI ap_X4_52_4 sr_4_5 (dcN_2 dcg_111 :) e2 ?_
  refine AW.iconst (dcN_3 dcg_111 :) ?_
  refine AW.istore_n (lv1 := [(1, iv 0), (0, rv z 4)]) (dcN_4 dcg_111 :) (by decide) rfl ?_
  refine AW.iconst (dcN_5 dcg_111 :) ?_
  refine AW.istore_n (lv1 := [(2, iv 0), (1, iv 0), (0, rv z 4)]) (dcN_6 dcg_111 :) (by decide) rfl ?_
  refine AW.sub (lv1 := [(0, rv z 4), (1, iv 0), (2, iv 0)]) [2, 1, 0] rfl ?_
  exact (Parser_scan_b_ok hdd _ _ _ _ _ h).1 rfl
theorem Parser_goOn_ok {z : AZ} {g : AG} {r : Int × AG} (h : Parser_goOn g = some r) : AMf z yX4_goOn cX4_goOn 1 none 0 [rv z 4] g r := by
  intro d hdd
  refine AM.of (by decide +kernel) (Nat.le_of_ble_eq_true rfl) ?_
  show AW z (RX4, cX4_goOn, 1, none) d (QD none r) 0 [(0, rv z 4)] [] g
  unfold Parser_goOn at h
  refine AW.aloadr_n 0 (dcN_0 dcg_137 :) rfl ?_
  refine AW.getI af_X4_35_4 sr_4_6 (dcN_1 dcg_137 :) ?_
  refine AW.aloadr_n 0 (dcN_2 dcg_137 :) rfl ?_
  refine AW.getI af_X4_52_4 sr_4_5 (dcN_3 dcg_137 :) ?_
  refine AW.iconst (dcN_4 dcg_137 :) ?_
  refine AW.isub (dcN_5 dcg_137 :) ?_
  obtain ⟨r4, e5, h⟩ := hC h
  refine AW.join (tgt := 23) (lv1 := []) (st1 := []) (g1 := r4) ?_ (fun J10 => ?_)
  · exact AW.vret1 rfl (dcN_1 dcg_138 :) h rfl
  replace h := e5
  refine AW.icmp_ge (tgt := 23) (dcN_6 dcg_137 :) (by decide) (fun c1 => ?_) (fun c1 => ?_)
  · replace h := hT h c1
    refine AW.sub (lv1 := []) [] rfl ?_
    cases h
    exact J10
  · replace h := hF h c1
    refine AW.aloadr_n 0 (dcN_7 dcg_137 :) rfl ?_
    refine AW.duprr (dcN_8 dcg_137 :) ?_
    refine AW.getI af_X4_35_4 sr_4_6 (dcN_9 dcg_137 :) ?_
    refine AW.iconst (dcN_10 dcg_137 :) ?_
    refine AW.iadd (dcN_11 dcg_137 :) ?_
    obtain ⟨g2, e3, h⟩ := hBe h
    refine AW.putI ap_X4_35_4 sr_4_6 (dcN_0 dcg_138 :) e3 ?_
    refine AW.sub (lv1 := []) [] rfl ?_
    cases h
    exact J10
theorem Parser_fail_ok {z : AZ} {x1 : Int} {g : AG} {r : Int × AG} (h : Parser_fail x1 g = some r) : AMf z yX4_fail cX4_fail 2 none 0 [rv z 4, iv x1] g r := by
  intro d hdd
  refine AM.of (by decide +kernel) (Nat.le_of_ble_eq_true rfl) ?_
  show AW z (RX4, cX4_fail, 2, none) d (QD none r) 0 [(0, rv z 4), (1, iv x1)] [] g
  unfold Parser_fail at h
  refine AW.aloadr_n 0 (dcN_0 dcg_133 :) rfl ?_
  refine AW.getI af_X4_32_4 sr_4_7 (dcN_1 dcg_133 :) ?_
  obtain ⟨r7, e8, h⟩ := hC h
  refine AW.join (tgt := 25) (lv1 := []) (st1 := []) (g1 := r7) ?_ (fun J4 => ?_)
  · exact AW.vret1 rfl (dcN_1 dcg_134 :) h rfl
  replace h := e8
  refine AW.if_ne (tgt := 25) (dcN_2 dcg_133 :) (by decide) (fun c1 => ?_) (fun c1 => ?_)
  · replace h := hF h c1
    refine AW.sub (lv1 := []) [] rfl ?_
    cases h
    exact J4
  · replace h := hT h c1
    refine AW.aloadr_n 0 (dcN_3 dcg_133 :) rfl ?_
    refine AW.iload_n 1 (dcN_4 dcg_133 :) rfl ?_
    obtain ⟨g2, e3, h⟩ := hBe h
    refine AW.putI ap_X4_32_4 sr_4_7 (dcN_5 dcg_133 :) e3 ?_
    refine AW.aloadr_n 0 (dcN_6 dcg_133 :) rfl ?_
    refine AW.aloadr_n 0 (dcN_7 dcg_133 :) rfl ?_
    refine AW.getR af_X4_18_4 sr_4_4 (dcN_8 dcg_133 :) ?_
    refine AW.aloadr_n 0 (dcN_9 dcg_133 :) rfl ?_
    refine AW.getI af_X4_35_4 sr_4_6 (dcN_10 dcg_133 :) ?_
    obtain ⟨k4, h⟩ := hK h
    refine AW.iald kc_43 sk_43 k4 (dcN_11 dcg_133 :) ?_
    obtain ⟨g5, e6, h⟩ := hBe h
    refine AW.putI ap_X4_21_4 sr_4_8 (dcN_0 dcg_134 :) e6 ?_
    refine AW.sub (lv1 := []) [] rfl ?_
    cases h
    exact J4
theorem Rules_put_ok {z : AZ} {x1 : Int} {x2 : Int} {g : AG} {r : Int × AG} (h : Rules_put x1 x2 g = some r) : AMf z yX6_put cX6_put 3 none 0 [rv z 3, iv x1, iv x2] g r := by
  intro d hdd
  refine AM.of (by decide +kernel) (Nat.le_of_ble_eq_true rfl) ?_
  show AW z (RX6, cX6_put, 3, none) d (QD none r) 0 [(0, rv z 3), (1, iv x1), (2, iv x2)] [] g
  unfold Rules_put at h
  refine AW.aloadr_n 0 (dcN_0 dcg_196 :) rfl ?_
  refine AW.getI af_X6_48_3 sr_3_2 (dcN_1 dcg_196 :) ?_
  refine AW.sipush (dcN_2 dcg_196 :) (by decide) (by decide) ?_
  obtain ⟨r10, e11, h⟩ := hC h
  refine AW.join (tgt := 40) (lv1 := []) (st1 := []) (g1 := r10) ?_ (fun J7 => ?_)
  · exact AW.vret1 rfl (dcN_10 dcg_197 :) h rfl
  replace h := e11
  refine AW.icmp_ge (tgt := 40) (dcN_3 dcg_196 :) (by decide) (fun c1 => ?_) (fun c1 => ?_)
  · replace h := hT h c1
    refine AW.sub (lv1 := []) [] rfl ?_
    cases h
    exact J7
  · replace h := hF h c1
    refine AW.aloadr_n 0 (dcN_4 dcg_196 :) rfl ?_
    refine AW.getR af_X6_9_3 sr_3_0 (dcN_5 dcg_196 :) ?_
    refine AW.aloadr_n 0 (dcN_6 dcg_196 :) rfl ?_
    refine AW.getI af_X6_48_3 sr_3_2 (dcN_7 dcg_196 :) ?_
    refine AW.iload_n 1 (dcN_8 dcg_196 :) rfl ?_
    obtain ⟨k2, h⟩ := hK h
    obtain ⟨g3, e4, h⟩ := hBe h
    refine AW.iast kc_29 sk_29 k2 (dcN_9 dcg_196 :) e4 ?_
    refine AW.aloadr_n 0 (dcN_10 dcg_196 :) rfl ?_
    refine AW.getR af_X6_15_3 sr_3_1 (dcN_11 dcg_196 :) ?_
    refine AW.aloadr_n 0 (dcN_0 dcg_197 :) rfl ?_
    refine AW.getI af_X6_48_3 sr_3_2 (dcN_1 dcg_197 :) ?_
    refine AW.iload_n 2 (dcN_2 dcg_197 :) rfl ?_
    obtain ⟨k5, h⟩ := hK h
    obtain ⟨g6, e7, h⟩ := hBe h
    refine AW.iast kc_30 sk_30 k5 (dcN_3 dcg_197 :) e7 ?_
    refine AW.aloadr_n 0 (dcN_4 dcg_197 :) rfl ?_
    refine AW.duprr (dcN_5 dcg_197 :) ?_
    refine AW.getI af_X6_48_3 sr_3_2 (dcN_6 dcg_197 :) ?_
    refine AW.iconst (dcN_7 dcg_197 :) ?_
    refine AW.iadd (dcN_8 dcg_197 :) ?_
    obtain ⟨g8, e9, h⟩ := hBe h
    refine AW.putI ap_X6_48_3 sr_3_2 (dcN_9 dcg_197 :) e9 ?_
    refine AW.sub (lv1 := []) [] rfl ?_
    cases h
    exact J7
set_option synthInstance.maxHeartbeats 2000000 in
theorem Parser_readUnit_b_ok {z : AZ} {d : Nat} (hdd : 1 ≤ d) {g : AG} : ∀ (r : Int × AG), Parser_readUnit_b g = some r → AW z (RX4, cX4_readUnit, 2, none) d (QD none r) 73 [(0, rv z 4)] [] g := by
  intro r h
  unfold Parser_readUnit_b at h
  refine AW.aloadr_n 0 (dcN_5 dcg_172 :) rfl ?_
  obtain ⟨r1, e2, h⟩ := hC h
  refine AW.callVv (As := []) (st := []) (Parser_goOn_ok e2) cq_X4_107 cr_4_X4_goOn (Nat.le_trans (by decide) hdd) rfl (dcN_6 dcg_172 :) rfl (Nat.le_of_ble_eq_true rfl) ?_
  exact AW.vret1 rfl (dcN_7 dcg_172 :) h rfl
theorem Parser_readUnit_ok {z : AZ} {g : AG} {r : Int × AG} (h : Parser_readUnit g = some r) : AMf z yX4_readUnit cX4_readUnit 2 none 1 [rv z 4] g r := by
  intro d hdd
  refine AM.of (by decide +kernel) (Nat.le_of_ble_eq_true rfl) ?_
  show AW z (RX4, cX4_readUnit, 2, none) d (QD none r) 0 [(0, rv z 4)] [] g
  unfold Parser_readUnit at h
  refine AW.aloadr_n 0 (dcN_0 dcg_170 :) rfl ?_
  refine AW.getR af_X4_15_4 sr_4_3 (dcN_1 dcg_170 :) ?_
  refine AW.aloadr_n 0 (dcN_2 dcg_170 :) rfl ?_
  refine AW.getI af_X4_35_4 sr_4_6 (dcN_3 dcg_170 :) ?_
  obtain ⟨k1, h⟩ := hK h
  refine AW.iald kc_42 sk_42 k1 (dcN_4 dcg_170 :) ?_
  refine AW.istore_n (lv1 := [(1, iv (g 42 (ix (g 4 6)))), (0, rv z 4)]) (dcN_5 dcg_170 :) (by decide) rfl ?_
  refine AW.aloadr_n 1 (dcN_6 dcg_170 :) rfl ?_
  refine AW.getI af_X4_32_4 sr_4_7 (dcN_7 dcg_170 :) ?_
  refine AW.if_eq (tgt := 18) (dcN_8 dcg_170 :) (by decide) (fun c2 => ?_) (fun c2 => ?_)
  · replace h := hT h c2
    refine AW.iload_n 0 (dcN_10 dcg_170 :) rfl ?_
    refine AW.sipush (dcN_11 dcg_170 :) (by decide) (by decide) ?_
    refine AW.icmp_lt (tgt := 41) (dcN_12 dcg_170 :) (by decide) (fun c3 => ?_) (fun c3 => ?_)
    · replace h := hT h c3
      refine AW.iload_n 0 (dcN_3 dcg_171 :) rfl ?_
      refine AW.bipush (dcN_4 dcg_171 :) (by decide) (by decide) ?_
      refine AW.bipush (dcN_5 dcg_171 :) (by decide) (by decide) ?_
      refine AW.callN0 (As := [iv (g 42 (ix (g 4 6))), iv 111, iv 119]) (st := []) X_within_ok ns_X4_87 in_X11 cd_X11_within st_X11_within (by decide) (Nat.le_trans (by decide) hdd) rfl (Nat.le_of_ble_eq_true rfl) (dcN_6 dcg_171 :) rfl ?_
      refine AW.if_eq (tgt := 67) (dcN_7 dcg_171 :) (by decide) (fun c4 => ?_) (fun c4 => ?_)
      · replace h := hT h c4
        refine AW.aloadr_n 1 (dcN_1 dcg_172 :) rfl ?_
        refine AW.iconst (dcN_2 dcg_172 :) ?_
        obtain ⟨r5, e6, h⟩ := hC h
        refine AW.callVv (As := [iv 1]) (st := []) (Parser_fail_ok e6) cq_X4_103 cr_4_X4_fail (Nat.le_trans (by decide) hdd) rfl (dcN_3 dcg_172 :) rfl (Nat.le_of_ble_eq_true rfl) ?_
        exact AW.vret1 rfl (dcN_4 dcg_172 :) h rfl
      · replace h := hF h c4
        refine AW.aloadr_n 1 (dcN_8 dcg_171 :) rfl ?_
        refine AW.getR af_X4_25_4 sr_4_0 (dcN_9 dcg_171 :) ?_
        refine AW.iconst (dcN_10 dcg_171 :) ?_
        refine AW.iload_n 0 (dcN_11 dcg_171 :) rfl ?_
        refine AW.bipush (dcN_12 dcg_171 :) (by decide) (by decide) ?_
        refine AW.isub (dcN_13 dcg_171 :) ?_
        obtain ⟨r7, e8, h⟩ := hC h
        refine AW.callVv (As := [iv 3, iv ((g 42 (ix (g 4 6))) - 111)]) (st := []) (Rules_put_ok e8) cq_X4_164 cr_3_X6_put (Nat.le_trans (by decide) hdd) rfl (dcN_14 dcg_171 :) rfl (Nat.le_of_ble_eq_true rfl) ?_
        refine AW.goto (tgt := 73) (dcN_0 dcg_172 :) (by decide) ?_
        refine AW.sub (lv1 := [(0, rv z 4)]) [1] rfl ?_
        exact Parser_readUnit_b_ok hdd _ h
    · replace h := hF h c3
      refine AW.aloadr_n 1 (dcN_13 dcg_170 :) rfl ?_
      refine AW.getR af_X4_25_4 sr_4_0 (dcN_14 dcg_170 :) ?_
      refine AW.iconst (dcN_15 dcg_170 :) ?_
      refine AW.iload_n 0 (dcN_16 dcg_170 :) rfl ?_
      refine AW.sipush (dcN_17 dcg_170 :) (by decide) (by decide) ?_
      refine AW.isub (dcN_0 dcg_171 :) ?_
      obtain ⟨r9, e10, h⟩ := hC h
      refine AW.callVv (As := [iv 2, iv ((g 42 (ix (g 4 6))) - 1000)]) (st := []) (Rules_put_ok e10) cq_X4_164 cr_3_X6_put (Nat.le_trans (by decide) hdd) rfl (dcN_1 dcg_171 :) rfl (Nat.le_of_ble_eq_true rfl) ?_
      refine AW.goto (tgt := 73) (dcN_2 dcg_171 :) (by decide) ?_
      refine AW.sub (lv1 := [(0, rv z 4)]) [1] rfl ?_
      exact Parser_readUnit_b_ok hdd _ h
  · replace h := hF h c2
    exact AW.vret1 rfl (dcN_9 dcg_170 :) h rfl
theorem Parser_is_ok {z : AZ} {x1 : Int} {g : AG} {r : Int} (h : Parser_is x1 g = some r) : AMf z yX4_is cX4_is 2 (some .boolean) 0 [rv z 4, iv x1] g (r, g) := by
  intro d hdd
  refine AM.of (by decide +kernel) (Nat.le_of_ble_eq_true rfl) ?_
  show AW z (RX4, cX4_is, 2, (some .boolean)) d (QD (some .boolean) (r, g)) 0 [(0, rv z 4), (1, iv x1)] [] g
  unfold Parser_is at h
  refine AW.aloadr_n 0 (dcN_0 dcg_135 :) rfl ?_
  refine AW.getI af_X4_32_4 sr_4_7 (dcN_1 dcg_135 :) ?_
  obtain ⟨r6, e7, h⟩ := hC h
  refine AW.join (tgt := 25) (lv1 := []) (st1 := [iv r6]) (g1 := g) ?_ (fun J4 => ?_)
  · obtain ⟨k8, h⟩ := hK h
    exact AW.zret2 rfl k8 (dcN_1 dcg_136 :) h rfl
  replace h := e7
  refine AW.if_ne (tgt := 24) (dcN_2 dcg_135 :) (by decide) (fun c1 => ?_) (fun c1 => ?_)
  · replace h := hF h c1
    refine AW.iconst (dcN_0 dcg_136 :) ?_
    refine AW.sub (lv1 := []) [] rfl ?_
    cases h
    exact J4
  · replace h := hT h c1
    refine AW.aloadr_n 0 (dcN_3 dcg_135 :) rfl ?_
    refine AW.getR af_X4_15_4 sr_4_3 (dcN_4 dcg_135 :) ?_
    refine AW.aloadr_n 0 (dcN_5 dcg_135 :) rfl ?_
    refine AW.getI af_X4_35_4 sr_4_6 (dcN_6 dcg_135 :) ?_
    obtain ⟨k2, h⟩ := hK h
    refine AW.iald kc_42 sk_42 k2 (dcN_7 dcg_135 :) ?_
    refine AW.iload_n 1 (dcN_8 dcg_135 :) rfl ?_
    obtain ⟨t3, e4, h⟩ := hBe h
    refine AW.join (tgt := 25) (lv1 := [(0, rv z 4), (1, iv x1)]) (st1 := [iv t3]) (g1 := g) ?_ (fun J17 => ?_)
    · refine AW.sub (lv1 := []) [] rfl ?_
      cases h
      exact J4
    refine AW.icmp_ne (tgt := 24) (dcN_9 dcg_135 :) (by decide) (fun c5 => ?_) (fun c5 => ?_)
    · refine AW.iconst (dcN_0 dcg_136 :) ?_
      exact AW.val (e4.trans (if_neg c5)) J17
    · refine AW.iconst (dcN_10 dcg_135 :) ?_
      refine AW.goto (tgt := 25) (dcN_11 dcg_135 :) (by decide) ?_
      exact AW.val (e4.trans (if_pos c5)) J17
theorem Parser_readPart_ok {z : AZ} {g : AG} {r : Int × AG} (h : Parser_readPart g = some r) : AMf z yX4_readPart cX4_readPart 2 none 1 [rv z 4] g r := by
  intro d hdd
  refine AM.of (by decide +kernel) (Nat.le_of_ble_eq_true rfl) ?_
  show AW z (RX4, cX4_readPart, 2, none) d (QD none r) 0 [(0, rv z 4)] [] g
  unfold Parser_readPart at h
  refine AW.aloadr_n 0 (dcN_0 dcg_173 :) rfl ?_
  refine AW.getR af_X4_15_4 sr_4_3 (dcN_1 dcg_173 :) ?_
  refine AW.aloadr_n 0 (dcN_2 dcg_173 :) rfl ?_
  refine AW.getI af_X4_35_4 sr_4_6 (dcN_3 dcg_173 :) ?_
  obtain ⟨k1, h⟩ := hK h
  refine AW.iald kc_42 sk_42 k1 (dcN_4 dcg_173 :) ?_
  refine AW.sipush (dcN_5 dcg_173 :) (by decide) (by decide) ?_
  refine AW.isub (dcN_6 dcg_173 :) ?_
  refine AW.istore_n (lv1 := [(1, iv ((g 42 (ix (g 4 6))) - 1000)), (0, rv z 4)]) (dcN_7 dcg_173 :) (by decide) rfl ?_
  refine AW.iload_n 0 (dcN_8 dcg_173 :) rfl ?_
  obtain ⟨r12, e13, h⟩ := hC h
  refine AW.join (tgt := 52) (lv1 := []) (st1 := []) (g1 := r12) ?_ (fun J15 => ?_)
  · exact AW.vret1 rfl (dcN_9 dcg_174 :) h rfl
  replace h := e13
  refine AW.if_ge (tgt := 26) (dcN_9 dcg_173 :) (by decide) (fun c2 => ?_) (fun c2 => ?_)
  · replace h := hT h c2
    refine AW.iload_n 0 (dcN_14 dcg_173 :) rfl ?_
    refine AW.if_ne (tgt := 38) (dcN_15 dcg_173 :) (by decide) (fun c3 => ?_) (fun c3 => ?_)
    · replace h := hF h c3
      refine AW.aloadr_n 1 (dcN_2 dcg_174 :) rfl ?_
      refine AW.getR af_X4_25_4 sr_4_0 (dcN_3 dcg_174 :) ?_
      refine AW.bipush (dcN_4 dcg_174 :) (by decide) (by decide) ?_
      refine AW.iload_n 0 (dcN_5 dcg_174 :) rfl ?_
      obtain ⟨r4, e5, h⟩ := hC h
      refine AW.callVv (As := [iv 47, iv ((g 42 (ix (g 4 6))) - 1000)]) (st := []) (Rules_put_ok e5) cq_X4_164 cr_3_X6_put (Nat.le_trans (by decide) hdd) rfl (dcN_6 dcg_174 :) rfl (Nat.le_of_ble_eq_true rfl) ?_
      refine AW.aloadr_n 1 (dcN_7 dcg_174 :) rfl ?_
      obtain ⟨r6, e7, h⟩ := hC h
      refine AW.callVv (As := []) (st := []) (Parser_goOn_ok e7) cq_X4_107 cr_4_X4_goOn (Nat.le_trans (by decide) hdd) rfl (dcN_8 dcg_174 :) rfl (Nat.le_of_ble_eq_true rfl) ?_
      refine AW.sub (lv1 := []) [] rfl ?_
      cases h
      exact J15
    · replace h := hT h c3
      refine AW.aloadr_n 1 (dcN_16 dcg_173 :) rfl ?_
      refine AW.iconst (dcN_17 dcg_173 :) ?_
      obtain ⟨r8, e9, h⟩ := hC h
      refine AW.callVv (As := [iv 2]) (st := []) (Parser_fail_ok e9) cq_X4_103 cr_4_X4_fail (Nat.le_trans (by decide) hdd) rfl (dcN_0 dcg_174 :) rfl (Nat.le_of_ble_eq_true rfl) ?_
      refine AW.goto (tgt := 52) (dcN_1 dcg_174 :) (by decide) ?_
      refine AW.sub (lv1 := []) [] rfl ?_
      cases h
      exact J15
  · replace h := hF h c2
    refine AW.aloadr_n 1 (dcN_10 dcg_173 :) rfl ?_
    refine AW.iconst (dcN_11 dcg_173 :) ?_
    obtain ⟨r10, e11, h⟩ := hC h
    refine AW.callVv (As := [iv 1]) (st := []) (Parser_fail_ok e11) cq_X4_103 cr_4_X4_fail (Nat.le_trans (by decide) hdd) rfl (dcN_12 dcg_173 :) rfl (Nat.le_of_ble_eq_true rfl) ?_
    refine AW.goto (tgt := 52) (dcN_13 dcg_173 :) (by decide) ?_
    refine AW.sub (lv1 := []) [] rfl ?_
    cases h
    exact J15
set_option synthInstance.maxHeartbeats 2000000 in
theorem Parser_readProduct_b_ok {z : AZ} {d : Nat} (hdd : 2 ≤ d) : ∀ (tag : Nat) (x1 : Int) (g : AG) (r : Int × AG), Parser_readProduct_b tag x1 g = some r → (tag = 1 → AW z (RX4, cX4_readProduct, 3, none) d (QD none r) 6 [(0, rv z 4), (1, iv x1)] [] g) ∧ (tag = 2 → AW z (RX4, cX4_readProduct, 3, none) d (QD none r) 31 [(0, rv z 4), (1, iv x1)] [] g) := by
  refine Parser_readProduct_b.partial_correctness (fun tag x1 g r => (tag = 1 → AW z (RX4, cX4_readProduct, 3, none) d (QD none r) 6 [(0, rv z 4), (1, iv x1)] [] g) ∧ (tag = 2 → AW z (RX4, cX4_readProduct, 3, none) d (QD none r) 31 [(0, rv z 4), (1, iv x1)] [] g)) ?_
  intro fb9 ih tag x1 g r h
  refine ⟨fun h9 => ?_, fun h9 => ?_⟩
  · subst h9
    replace h := hT h rfl
    refine AW.iload_n 1 (dcN_4 dcg_167 :) rfl ?_
    refine AW.sipush (dcN_5 dcg_167 :) (by decide) (by decide) ?_
    refine AW.icmp_ge (tgt := 73) (dcN_6 dcg_167 :) (by decide) (fun c1 => ?_) (fun c1 => ?_)
    · replace h := hT h c1
      exact AW.vret1 rfl (dcN_3 dcg_169 :) h rfl
    · replace h := hF h c1
      refine AW.aloadr_n 0 (dcN_7 dcg_167 :) rfl ?_
      refine AW.bipush (dcN_8 dcg_167 :) (by decide) (by decide) ?_
      obtain ⟨r2, e3, h⟩ := hC h
      refine AW.callVi (As := [iv 42]) (st := []) (Parser_is_ok e3) cq_X4_137 cr_4_X4_is (Nat.le_trans (by decide) hdd) rfl (dcN_9 dcg_167 :) rfl (Nat.le_of_ble_eq_true rfl) ?_
      refine AW.if_ne (tgt := 31) (dcN_10 dcg_167 :) (by decide) (fun c4 => ?_) (fun c4 => ?_)
      · replace h := hF h c4
        exact (ih _ _ _ _ h).2 rfl
      · replace h := hT h c4
        refine AW.aloadr_n 0 (dcN_11 dcg_167 :) rfl ?_
        refine AW.bipush (dcN_12 dcg_167 :) (by decide) (by decide) ?_
        obtain ⟨r5, e6, h⟩ := hC h
        refine AW.callVi (As := [iv 47]) (st := []) (Parser_is_ok e6) cq_X4_137 cr_4_X4_is (Nat.le_trans (by decide) hdd) rfl (dcN_13 dcg_167 :) rfl (Nat.le_of_ble_eq_true rfl) ?_
        refine AW.if_eq (tgt := 73) (dcN_14 dcg_167 :) (by decide) (fun c7 => ?_) (fun c7 => ?_)
        · replace h := hT h c7
          exact AW.vret1 rfl (dcN_3 dcg_169 :) h rfl
        · replace h := hF h c7
          exact (ih _ _ _ _ h).2 rfl
  · subst h9
    replace h := hF h (by decide)
    replace h := hT h rfl
    refine AW.aloadr_n 0 (dcN_15 dcg_167 :) rfl ?_
    refine AW.bipush (dcN_0 dcg_168 :) (by decide) (by decide) ?_
    obtain ⟨r1, e2, h⟩ := hC h
    refine AW.callVi (As := [iv 42]) (st := []) (Parser_is_ok e2) cq_X4_137 cr_4_X4_is (Nat.le_trans (by decide) hdd) rfl (dcN_1 dcg_168 :) rfl (Nat.le_of_ble_eq_true rfl) ?_
    refine AW.istore_n (lv1 := [(2, iv r1), (0, rv z 4), (1, iv x1)]) (dcN_2 dcg_168 :) (by decide) rfl ?_
    refine AW.aloadr_n 1 (dcN_3 dcg_168 :) rfl ?_
    obtain ⟨r3, e4, h⟩ := hC h
    refine AW.callVv (As := []) (st := []) (Parser_goOn_ok e4) cq_X4_107 cr_4_X4_goOn (Nat.le_trans (by decide) hdd) rfl (dcN_4 dcg_168 :) rfl (Nat.le_of_ble_eq_true rfl) ?_
    refine AW.iload_n 0 (dcN_5 dcg_168 :) rfl ?_
    obtain ⟨r12, e13, h⟩ := hC h
    refine AW.join (tgt := 67) (lv1 := [(0, rv z 4), (1, iv x1)]) (st1 := []) (g1 := r12) ?_ (fun J43 => ?_)
    · refine AW.iinc (lv1 := [(1, iv (x1 + 1)), (0, rv z 4)]) 1 (dcN_1 dcg_169 :) rfl (by decide) rfl ?_
      refine AW.goto (tgt := 6) (dcN_2 dcg_169 :) (by decide) ?_
      refine AW.sub (lv1 := [(0, rv z 4), (1, iv (x1 + 1))]) [1, 0] rfl ?_
      exact (ih _ _ _ _ h).1 rfl
    replace h := e13
    refine AW.if_eq (tgt := 63) (dcN_6 dcg_168 :) (by decide) (fun c5 => ?_) (fun c5 => ?_)
    · replace h := hT h c5
      refine AW.aloadr_n 1 (dcN_15 dcg_168 :) rfl ?_
      obtain ⟨r6, e7, h⟩ := hC h
      refine AW.callVv (As := []) (st := []) (Parser_readPart_ok e7) cq_X4_182 cr_4_X4_readPart (Nat.le_trans (by decide) hdd) rfl (dcN_0 dcg_169 :) rfl (Nat.le_of_ble_eq_true rfl) ?_
      refine AW.sub (lv1 := [(0, rv z 4), (1, iv x1)]) [1, 2] rfl ?_
      cases h
      exact J43
    · replace h := hF h c5
      refine AW.aloadr_n 1 (dcN_7 dcg_168 :) rfl ?_
      obtain ⟨r8, e9, h⟩ := hC h
      refine AW.callVv (As := []) (st := []) (Parser_readUnit_ok e9) cq_X4_179 cr_4_X4_readUnit (Nat.le_trans (by decide) hdd) rfl (dcN_8 dcg_168 :) rfl (Nat.le_of_ble_eq_true rfl) ?_
      refine AW.aloadr_n 1 (dcN_9 dcg_168 :) rfl ?_
      refine AW.getR af_X4_25_4 sr_4_0 (dcN_10 dcg_168 :) ?_
      refine AW.bipush (dcN_11 dcg_168 :) (by decide) (by decide) ?_
      refine AW.iconst (dcN_12 dcg_168 :) ?_
      obtain ⟨r10, e11, h⟩ := hC h
      refine AW.callVv (As := [iv 42, iv 0]) (st := []) (Rules_put_ok e11) cq_X4_164 cr_3_X6_put (Nat.le_trans (by decide) hdd) rfl (dcN_13 dcg_168 :) rfl (Nat.le_of_ble_eq_true rfl) ?_
      refine AW.goto (tgt := 67) (dcN_14 dcg_168 :) (by decide) ?_
      refine AW.sub (lv1 := [(0, rv z 4), (1, iv x1)]) [1, 2] rfl ?_
      cases h
      exact J43
theorem Parser_readProduct_ok {z : AZ} {g : AG} {r : Int × AG} (h : Parser_readProduct g = some r) : AMf z yX4_readProduct cX4_readProduct 3 none 2 [rv z 4] g r := by
  intro d hdd
  refine AM.of (by decide +kernel) (Nat.le_of_ble_eq_true rfl) ?_
  show AW z (RX4, cX4_readProduct, 3, none) d (QD none r) 0 [(0, rv z 4)] [] g
  unfold Parser_readProduct at h
  refine AW.aloadr_n 0 (dcN_0 dcg_167 :) rfl ?_
  obtain ⟨r1, e2, h⟩ := hC h
  refine AW.callVv (As := []) (st := []) (Parser_readUnit_ok e2) cq_X4_179 cr_4_X4_readUnit (Nat.le_trans (by decide) hdd) rfl (dcN_1 dcg_167 :) rfl (Nat.le_of_ble_eq_true rfl) ?_
  refine AW.iconst (dcN_2 dcg_167 :) ?_
  refine AW.istore_n (lv1 := [(1, iv 0), (0, rv z 4)]) (dcN_3 dcg_167 :) (by decide) rfl ?_
  refine AW.sub (lv1 := [(0, rv z 4), (1, iv 0)]) [1, 0] rfl ?_
  exact (Parser_readProduct_b_ok hdd _ _ _ _ h).1 rfl
set_option synthInstance.maxHeartbeats 2000000 in
theorem Parser_readSum_b_ok {z : AZ} {d : Nat} (hdd : 3 ≤ d) : ∀ (tag : Nat) (x1 : Int) (g : AG) (r : Int × AG), Parser_readSum_b tag x1 g = some r → (tag = 1 → AW z (RX4, cX4_readSum, 3, none) d (QD none r) 6 [(0, rv z 4), (1, iv x1)] [] g) ∧ (tag = 2 → AW z (RX4, cX4_readSum, 3, none) d (QD none r) 31 [(0, rv z 4), (1, iv x1)] [] g) := by
  refine Parser_readSum_b.partial_correctness (fun tag x1 g r => (tag = 1 → AW z (RX4, cX4_readSum, 3, none) d (QD none r) 6 [(0, rv z 4), (1, iv x1)] [] g) ∧ (tag = 2 → AW z (RX4, cX4_readSum, 3, none) d (QD none r) 31 [(0, rv z 4), (1, iv x1)] [] g)) ?_
  intro fb9 ih tag x1 g r h
  refine ⟨fun h9 => ?_, fun h9 => ?_⟩
  · subst h9
    replace h := hT h rfl
    refine AW.iload_n 1 (dcN_4 dcg_164 :) rfl ?_
    refine AW.sipush (dcN_5 dcg_164 :) (by decide) (by decide) ?_
    refine AW.icmp_ge (tgt := 64) (dcN_6 dcg_164 :) (by decide) (fun c1 => ?_) (fun c1 => ?_)
    · replace h := hT h c1
      exact AW.vret1 rfl (dcN_0 dcg_166 :) h rfl
    · replace h := hF h c1
      refine AW.aloadr_n 0 (dcN_7 dcg_164 :) rfl ?_
      refine AW.bipush (dcN_8 dcg_164 :) (by decide) (by decide) ?_
      obtain ⟨r2, e3, h⟩ := hC h
      refine AW.callVi (As := [iv 43]) (st := []) (Parser_is_ok e3) cq_X4_137 cr_4_X4_is (Nat.le_trans (by decide) hdd) rfl (dcN_9 dcg_164 :) rfl (Nat.le_of_ble_eq_true rfl) ?_
      refine AW.if_ne (tgt := 31) (dcN_10 dcg_164 :) (by decide) (fun c4 => ?_) (fun c4 => ?_)
      · replace h := hF h c4
        exact (ih _ _ _ _ h).2 rfl
      · replace h := hT h c4
        refine AW.aloadr_n 0 (dcN_11 dcg_164 :) rfl ?_
        refine AW.bipush (dcN_12 dcg_164 :) (by decide) (by decide) ?_
        obtain ⟨r5, e6, h⟩ := hC h
        refine AW.callVi (As := [iv 45]) (st := []) (Parser_is_ok e6) cq_X4_137 cr_4_X4_is (Nat.le_trans (by decide) hdd) rfl (dcN_13 dcg_164 :) rfl (Nat.le_of_ble_eq_true rfl) ?_
        refine AW.if_eq (tgt := 64) (dcN_14 dcg_164 :) (by decide) (fun c7 => ?_) (fun c7 => ?_)
        · replace h := hT h c7
          exact AW.vret1 rfl (dcN_0 dcg_166 :) h rfl
        · replace h := hF h c7
          exact (ih _ _ _ _ h).2 rfl
  · subst h9
    replace h := hF h (by decide)
    replace h := hT h rfl
    refine AW.aloadr_n 0 (dcN_15 dcg_164 :) rfl ?_
    refine AW.getR af_X4_15_4 sr_4_3 (dcN_0 dcg_165 :) ?_
    refine AW.aloadr_n 0 (dcN_1 dcg_165 :) rfl ?_
    refine AW.getI af_X4_35_4 sr_4_6 (dcN_2 dcg_165 :) ?_
    obtain ⟨k1, h⟩ := hK h
    refine AW.iald kc_42 sk_42 k1 (dcN_3 dcg_165 :) ?_
    refine AW.istore_n (lv1 := [(2, iv (g 42 (ix (g 4 6)))), (0, rv z 4), (1, iv x1)]) (dcN_4 dcg_165 :) (by decide) rfl ?_
    refine AW.aloadr_n 1 (dcN_5 dcg_165 :) rfl ?_
    obtain ⟨r2, e3, h⟩ := hC h
    refine AW.callVv (As := []) (st := []) (Parser_goOn_ok e3) cq_X4_107 cr_4_X4_goOn (Nat.le_trans (by decide) hdd) rfl (dcN_6 dcg_165 :) rfl (Nat.le_of_ble_eq_true rfl) ?_
    refine AW.aloadr_n 1 (dcN_7 dcg_165 :) rfl ?_
    obtain ⟨r4, e5, h⟩ := hC h
    refine AW.callVv (As := []) (st := []) (Parser_readProduct_ok e5) cq_X4_176 cr_4_X4_readProduct (Nat.le_trans (by decide) hdd) rfl (dcN_8 dcg_165 :) rfl (Nat.le_of_ble_eq_true rfl) ?_
    refine AW.aloadr_n 1 (dcN_9 dcg_165 :) rfl ?_
    refine AW.getR af_X4_25_4 sr_4_0 (dcN_10 dcg_165 :) ?_
    refine AW.iload_n 0 (dcN_11 dcg_165 :) rfl ?_
    refine AW.iconst (dcN_12 dcg_165 :) ?_
    obtain ⟨r6, e7, h⟩ := hC h
    refine AW.callVv (As := [iv (g 42 (ix (g 4 6))), iv 0]) (st := []) (Rules_put_ok e7) cq_X4_164 cr_3_X6_put (Nat.le_trans (by decide) hdd) rfl (dcN_13 dcg_165 :) rfl (Nat.le_of_ble_eq_true rfl) ?_
    refine AW.iinc (lv1 := [(1, iv (x1 + 1)), (2, iv (g 42 (ix (g 4 6)))), (0, rv z 4)]) 2 (dcN_14 dcg_165 :) rfl (by decide) rfl ?_
    refine AW.goto (tgt := 6) (dcN_15 dcg_165 :) (by decide) ?_
    refine AW.sub (lv1 := [(0, rv z 4), (1, iv (x1 + 1))]) [2, 0] rfl ?_
    exact (ih _ _ _ _ h).1 rfl
theorem Parser_readSum_ok {z : AZ} {g : AG} {r : Int × AG} (h : Parser_readSum g = some r) : AMf z yX4_readSum cX4_readSum 3 none 3 [rv z 4] g r := by
  intro d hdd
  refine AM.of (by decide +kernel) (Nat.le_of_ble_eq_true rfl) ?_
  show AW z (RX4, cX4_readSum, 3, none) d (QD none r) 0 [(0, rv z 4)] [] g
  unfold Parser_readSum at h
  refine AW.aloadr_n 0 (dcN_0 dcg_164 :) rfl ?_
  obtain ⟨r1, e2, h⟩ := hC h
  refine AW.callVv (As := []) (st := []) (Parser_readProduct_ok e2) cq_X4_176 cr_4_X4_readProduct (Nat.le_trans (by decide) hdd) rfl (dcN_1 dcg_164 :) rfl (Nat.le_of_ble_eq_true rfl) ?_
  refine AW.iconst (dcN_2 dcg_164 :) ?_
  refine AW.istore_n (lv1 := [(1, iv 0), (0, rv z 4)]) (dcN_3 dcg_164 :) (by decide) rfl ?_
  refine AW.sub (lv1 := [(0, rv z 4), (1, iv 0)]) [1, 0] rfl ?_
  exact (Parser_readSum_b_ok hdd _ _ _ _ h).1 rfl
theorem Parser_numberUpTo_ok {z : AZ} {x1 : Int} {g : AG} {r : Int × AG} (h : Parser_numberUpTo x1 g = some r) : AMf z yX4_numberUpTo cX4_numberUpTo 3 (some .int) 1 [rv z 4, iv x1] g r := by
  intro d hdd
  refine AM.of (by decide +kernel) (Nat.le_of_ble_eq_true rfl) ?_
  show AW z (RX4, cX4_numberUpTo, 3, (some .int)) d (QD (some .int) r) 0 [(0, rv z 4), (1, iv x1)] [] g
  unfold Parser_numberUpTo at h
  refine AW.aloadr_n 0 (dcN_0 dcg_150 :) rfl ?_
  refine AW.getR af_X4_15_4 sr_4_3 (dcN_1 dcg_150 :) ?_
  refine AW.aloadr_n 0 (dcN_2 dcg_150 :) rfl ?_
  refine AW.getI af_X4_35_4 sr_4_6 (dcN_3 dcg_150 :) ?_
  obtain ⟨k1, h⟩ := hK h
  refine AW.iald kc_42 sk_42 k1 (dcN_4 dcg_150 :) ?_
  refine AW.sipush (dcN_5 dcg_150 :) (by decide) (by decide) ?_
  refine AW.isub (dcN_6 dcg_150 :) ?_
  refine AW.istore_n (lv1 := [(2, iv ((g 42 (ix (g 4 6))) - 1000)), (0, rv z 4), (1, iv x1)]) (dcN_7 dcg_150 :) (by decide) rfl ?_
  refine AW.iload_n 0 (dcN_8 dcg_150 :) rfl ?_
  obtain ⟨r8, e9, h⟩ := hC h
  refine AW.join (tgt := 36) (lv1 := [(0, rv z 4), (2, iv ((g 42 (ix (g 4 6))) - 1000))]) (st1 := []) (g1 := r8) ?_ (fun J15 => ?_)
  · refine AW.aloadr_n 0 (dcN_2 dcg_151 :) rfl ?_
    refine AW.getI af_X4_32_4 sr_4_7 (dcN_3 dcg_151 :) ?_
    refine AW.if_eq (tgt := 45) (dcN_4 dcg_151 :) (by decide) (fun c10 => ?_) (fun c10 => ?_)
    · replace h := hT h c10
      refine AW.aloadr_n 0 (dcN_7 dcg_151 :) rfl ?_
      obtain ⟨r11, e12, h⟩ := hC h
      refine AW.callVv (As := []) (st := []) (Parser_goOn_ok e12) cq_X4_107 cr_4_X4_goOn (Nat.le_trans (by decide) hdd) rfl (dcN_8 dcg_151 :) rfl (Nat.le_of_ble_eq_true rfl) ?_
      refine AW.iload_n 1 (dcN_9 dcg_151 :) rfl ?_
      exact AW.iret1 rfl (dcN_10 dcg_151 :) h rfl
    · replace h := hF h c10
      refine AW.iconst (dcN_5 dcg_151 :) ?_
      exact AW.iret1 rfl (dcN_6 dcg_151 :) h rfl
  replace h := e9
  refine AW.if_ge (tgt := 26) (dcN_9 dcg_150 :) (by decide) (fun c2 => ?_) (fun c2 => ?_)
  · replace h := hT h c2
    refine AW.iload_n 0 (dcN_14 dcg_150 :) rfl ?_
    refine AW.iload_n 2 (dcN_15 dcg_150 :) rfl ?_
    refine AW.icmp_le (tgt := 36) (dcN_16 dcg_150 :) (by decide) (fun c3 => ?_) (fun c3 => ?_)
    · replace h := hT h c3
      refine AW.sub (lv1 := [(0, rv z 4), (2, iv ((g 42 (ix (g 4 6))) - 1000))]) [1, 0] rfl ?_
      cases h
      exact J15
    · replace h := hF h c3
      refine AW.aloadr_n 1 (dcN_17 dcg_150 :) rfl ?_
      refine AW.iconst (dcN_0 dcg_151 :) ?_
      obtain ⟨r4, e5, h⟩ := hC h
      refine AW.callVv (As := [iv 2]) (st := []) (Parser_fail_ok e5) cq_X4_103 cr_4_X4_fail (Nat.le_trans (by decide) hdd) rfl (dcN_1 dcg_151 :) rfl (Nat.le_of_ble_eq_true rfl) ?_
      refine AW.sub (lv1 := [(0, rv z 4), (2, iv ((g 42 (ix (g 4 6))) - 1000))]) [1, 0] rfl ?_
      cases h
      exact J15
  · replace h := hF h c2
    refine AW.aloadr_n 1 (dcN_10 dcg_150 :) rfl ?_
    refine AW.iconst (dcN_11 dcg_150 :) ?_
    obtain ⟨r6, e7, h⟩ := hC h
    refine AW.callVv (As := [iv 1]) (st := []) (Parser_fail_ok e7) cq_X4_103 cr_4_X4_fail (Nat.le_trans (by decide) hdd) rfl (dcN_12 dcg_150 :) rfl (Nat.le_of_ble_eq_true rfl) ?_
    refine AW.goto (tgt := 36) (dcN_13 dcg_150 :) (by decide) ?_
    refine AW.sub (lv1 := [(0, rv z 4), (2, iv ((g 42 (ix (g 4 6))) - 1000))]) [1, 0] rfl ?_
    cases h
    exact J15
theorem Rules_hasTunnel_3_ok {z : AZ} {x1 : Int} {g : AG} : AMf z yX6_hasTunnel cX6_hasTunnel 2 (some .boolean) 0 [rv z 3, iv x1] g ((Rules_hasTunnel_3 x1 g), g) := by
  intro d hdd
  refine AM.of (by decide +kernel) (Nat.le_of_ble_eq_true rfl) ?_
  show AW z (RX6, cX6_hasTunnel, 2, (some .boolean)) d (QD (some .boolean) ((Rules_hasTunnel_3 x1 g), g)) 0 [(0, rv z 3), (1, iv x1)] [] g
  refine AW.aloadr_n 0 (dcN_0 dcg_198 :) rfl ?_
  refine AW.getI af_X6_55_3 sr_3_10 (dcN_1 dcg_198 :) ?_
  refine AW.iload_n 1 (dcN_2 dcg_198 :) rfl ?_
  refine AW.ishr (dcN_3 dcg_198 :) ?_
  refine AW.iconst (dcN_4 dcg_198 :) ?_
  refine AW.iand (dcN_5 dcg_198 :) ?_
  refine AW.join (tgt := 16) (lv1 := [(0, rv z 3), (1, iv x1)]) (st1 := [iv (if nw (andI (shrI (g 3 10) x1) 1) = 0 then 0 else 1)]) (g1 := g) ?_ (fun J8 => ?_)
  · exact AW.zret rfl (by (repeat' split) <;> first | exact Or.inl rfl | exact Or.inr rfl) (dcN_10 dcg_198 :) ⟨congrArg (fun v => some (iv v)) (show Rules_hasTunnel_3 x1 g = (if nw (andI (shrI (g 3 10) x1) 1) = 0 then 0 else 1) from rfl).symm, rfl⟩
  refine AW.if_eq (tgt := 15) (dcN_6 dcg_198 :) (by decide) (fun c1 => ?_) (fun c1 => ?_)
  · refine AW.iconst (dcN_9 dcg_198 :) ?_
    exact AW.val (if_pos c1) J8
  · refine AW.iconst (dcN_7 dcg_198 :) ?_
    refine AW.goto (tgt := 16) (dcN_8 dcg_198 :) (by decide) ?_
    exact AW.val (if_neg c1) J8
set_option synthInstance.maxHeartbeats 2000000 in
theorem Parser_readTunnel_b_ok {z : AZ} {d : Nat} (hdd : 2 ≤ d) {x1 : Int} {g : AG} : ∀ (r : Int × AG), Parser_readTunnel_b x1 g = some r → AW z (RX4, cX4_readTunnel, 3, none) d (QD none r) 31 [(0, rv z 4), (1, iv x1)] [] g := by
  intro r h
  unfold Parser_readTunnel_b at h
  refine AW.aloadr_n 0 (dcN_16 dcg_146 :) rfl ?_
  refine AW.bipush (dcN_0 dcg_147 :) (by decide) (by decide) ?_
  obtain ⟨r1, e2, h⟩ := hC h
  refine AW.callVi (As := [iv 105]) (st := []) (Parser_is_ok e2) cq_X4_137 cr_4_X4_is (Nat.le_trans (by decide) hdd) rfl (dcN_1 dcg_147 :) rfl (Nat.le_of_ble_eq_true rfl) ?_
  obtain ⟨t3, e4, h⟩ := hBe h
  refine AW.join (tgt := 48) (lv1 := [(0, rv z 4), (1, iv x1)]) (st1 := [iv t3]) (g1 := g) ?_ (fun J37 => ?_)
  · refine AW.istore_n (lv1 := [(2, iv t3), (0, rv z 4), (1, iv x1)]) (dcN_8 dcg_147 :) (by decide) rfl ?_
    refine AW.aloadr_n 1 (dcN_9 dcg_147 :) rfl ?_
    refine AW.getR af_X4_25_4 sr_4_0 (dcN_10 dcg_147 :) ?_
    refine AW.iload_n 0 (dcN_11 dcg_147 :) rfl ?_
    refine AW.callVi (As := [iv t3]) (st := []) Rules_hasTunnel_3_ok cq_X4_149 cr_3_X6_hasTunnel (Nat.le_trans (by decide) hdd) rfl (dcN_12 dcg_147 :) rfl (Nat.le_of_ble_eq_true rfl) ?_
    refine AW.if_eq (tgt := 66) (dcN_13 dcg_147 :) (by decide) (fun c5 => ?_) (fun c5 => ?_)
    · replace h := hT h c5
      refine AW.aloadr_n 1 (dcN_1 dcg_148 :) rfl ?_
      obtain ⟨r6, e7, h⟩ := hC h
      refine AW.callVv (As := []) (st := []) (Parser_goOn_ok e7) cq_X4_107 cr_4_X4_goOn (Nat.le_trans (by decide) hdd) rfl (dcN_2 dcg_148 :) rfl (Nat.le_of_ble_eq_true rfl) ?_
      refine AW.aloadr_n 1 (dcN_3 dcg_148 :) rfl ?_
      refine AW.getR af_X4_25_4 sr_4_0 (dcN_4 dcg_148 :) ?_
      refine AW.duprr (dcN_5 dcg_148 :) ?_
      refine AW.getI af_X4_152_3 sr_3_10 (dcN_6 dcg_148 :) ?_
      refine AW.iconst (dcN_7 dcg_148 :) ?_
      refine AW.iload_n 0 (dcN_8 dcg_148 :) rfl ?_
      refine AW.ishl (dcN_9 dcg_148 :) ?_
      refine AW.ior (dcN_10 dcg_148 :) ?_
      obtain ⟨g8, e9, h⟩ := hBe h
      refine AW.putI ap_X4_152_3 sr_3_10 (dcN_11 dcg_148 :) e9 ?_
      refine AW.aloadr_n 1 (dcN_12 dcg_148 :) rfl ?_
      refine AW.getR af_X4_25_4 sr_4_0 (dcN_13 dcg_148 :) ?_
      refine AW.getR af_X4_155_3 sr_3_11 (dcN_14 dcg_148 :) ?_
      refine AW.iload_n 0 (dcN_15 dcg_148 :) rfl ?_
      refine AW.aloadr_n 1 (dcN_16 dcg_148 :) rfl ?_
      refine AW.bipush (dcN_17 dcg_148 :) (by decide) (by decide) ?_
      obtain ⟨r10, e11, h⟩ := hC h
      refine AW.callVi (As := [iv 24]) (st := [iv t3, rv z 37]) (Parser_numberUpTo_ok e11) cq_X4_125 cr_4_X4_numberUpTo (Nat.le_trans (by decide) hdd) rfl (dcN_0 dcg_149 :) rfl (Nat.le_of_ble_eq_true rfl) ?_
      obtain ⟨k12, h⟩ := hK h
      obtain ⟨g13, e14, h⟩ := hBe h
      refine AW.iast kc_37 sk_37 k12 (dcN_1 dcg_149 :) e14 ?_
      refine AW.aloadr_n 1 (dcN_2 dcg_149 :) rfl ?_
      refine AW.getR af_X4_25_4 sr_4_0 (dcN_3 dcg_149 :) ?_
      refine AW.getR af_X4_158_3 sr_3_12 (dcN_4 dcg_149 :) ?_
      refine AW.iload_n 0 (dcN_5 dcg_149 :) rfl ?_
      refine AW.aloadr_n 1 (dcN_6 dcg_149 :) rfl ?_
      refine AW.bipush (dcN_7 dcg_149 :) (by decide) (by decide) ?_
      obtain ⟨r15, e16, h⟩ := hC h
      refine AW.callVi (As := [iv 24]) (st := [iv t3, rv z 38]) (Parser_numberUpTo_ok e16) cq_X4_125 cr_4_X4_numberUpTo (Nat.le_trans (by decide) hdd) rfl (dcN_8 dcg_149 :) rfl (Nat.le_of_ble_eq_true rfl) ?_
      obtain ⟨g17, e18, h⟩ := hBe h
      refine AW.iast kc_38 sk_38 k12 (dcN_9 dcg_149 :) e18 ?_
      exact AW.vret1 rfl (dcN_10 dcg_149 :) h rfl
    · replace h := hF h c5
      refine AW.aloadr_n 1 (dcN_14 dcg_147 :) rfl ?_
      refine AW.iconst (dcN_15 dcg_147 :) ?_
      obtain ⟨r19, e20, h⟩ := hC h
      refine AW.callVv (As := [iv 3]) (st := []) (Parser_fail_ok e20) cq_X4_103 cr_4_X4_fail (Nat.le_trans (by decide) hdd) rfl (dcN_16 dcg_147 :) rfl (Nat.le_of_ble_eq_true rfl) ?_
      exact AW.vret1 rfl (dcN_0 dcg_148 :) h rfl
  refine AW.if_eq (tgt := 44) (dcN_2 dcg_147 :) (by decide) (fun c21 => ?_) (fun c21 => ?_)
  · refine AW.bipush (dcN_5 dcg_147 :) (by decide) (by decide) ?_
    refine AW.iload_n 1 (dcN_6 dcg_147 :) rfl ?_
    refine AW.iadd (dcN_7 dcg_147 :) ?_
    exact AW.val (e4.trans (if_pos c21)) J37
  · refine AW.iload_n 1 (dcN_3 dcg_147 :) rfl ?_
    refine AW.goto (tgt := 48) (dcN_4 dcg_147 :) (by decide) ?_
    exact AW.val (e4.trans (if_neg c21)) J37
theorem Parser_readTunnel_ok {z : AZ} {g : AG} {r : Int × AG} (h : Parser_readTunnel g = some r) : AMf z yX4_readTunnel cX4_readTunnel 3 none 2 [rv z 4] g r := by
  intro d hdd
  refine AM.of (by decide +kernel) (Nat.le_of_ble_eq_true rfl) ?_
  show AW z (RX4, cX4_readTunnel, 3, none) d (QD none r) 0 [(0, rv z 4)] [] g
  unfold Parser_readTunnel at h
  refine AW.aloadr_n 0 (dcN_0 dcg_146 :) rfl ?_
  refine AW.bipush (dcN_1 dcg_146 :) (by decide) (by decide) ?_
  obtain ⟨r1, e2, h⟩ := hC h
  refine AW.callVi (As := [iv 14]) (st := []) (Parser_numberUpTo_ok e2) cq_X4_125 cr_4_X4_numberUpTo (Nat.le_trans (by decide) hdd) rfl (dcN_2 dcg_146 :) rfl (Nat.le_of_ble_eq_true rfl) ?_
  refine AW.istore_n (lv1 := [(1, iv r1.1), (0, rv z 4)]) (dcN_3 dcg_146 :) (by decide) rfl ?_
  refine AW.aloadr_n 1 (dcN_4 dcg_146 :) rfl ?_
  refine AW.bipush (dcN_5 dcg_146 :) (by decide) (by decide) ?_
  obtain ⟨r3, e4, h⟩ := hC h
  refine AW.callVi (As := [iv 105]) (st := []) (Parser_is_ok e4) cq_X4_137 cr_4_X4_is (Nat.le_trans (by decide) hdd) rfl (dcN_6 dcg_146 :) rfl (Nat.le_of_ble_eq_true rfl) ?_
  refine AW.if_ne (tgt := 31) (dcN_7 dcg_146 :) (by decide) (fun c5 => ?_) (fun c5 => ?_)
  · replace h := hF h c5
    refine AW.sub (lv1 := [(0, rv z 4), (1, iv r1.1)]) [1, 0] rfl ?_
    exact Parser_readTunnel_b_ok hdd _ h
  · replace h := hT h c5
    refine AW.aloadr_n 1 (dcN_8 dcg_146 :) rfl ?_
    refine AW.bipush (dcN_9 dcg_146 :) (by decide) (by decide) ?_
    obtain ⟨r6, e7, h⟩ := hC h
    refine AW.callVi (As := [iv 106]) (st := []) (Parser_is_ok e7) cq_X4_137 cr_4_X4_is (Nat.le_trans (by decide) hdd) rfl (dcN_10 dcg_146 :) rfl (Nat.le_of_ble_eq_true rfl) ?_
    refine AW.if_ne (tgt := 31) (dcN_11 dcg_146 :) (by decide) (fun c8 => ?_) (fun c8 => ?_)
    · replace h := hF h c8
      refine AW.sub (lv1 := [(0, rv z 4), (1, iv r1.1)]) [1, 0] rfl ?_
      exact Parser_readTunnel_b_ok hdd _ h
    · replace h := hT h c8
      refine AW.aloadr_n 1 (dcN_12 dcg_146 :) rfl ?_
      refine AW.iconst (dcN_13 dcg_146 :) ?_
      obtain ⟨r9, e10, h⟩ := hC h
      refine AW.callVv (As := [iv 1]) (st := []) (Parser_fail_ok e10) cq_X4_103 cr_4_X4_fail (Nat.le_trans (by decide) hdd) rfl (dcN_14 dcg_146 :) rfl (Nat.le_of_ble_eq_true rfl) ?_
      exact AW.vret1 rfl (dcN_15 dcg_146 :) h rfl
theorem Parser_openOneMore_ok {z : AZ} {x1 : Int} {g : AG} {r : Int × AG} (h : Parser_openOneMore x1 g = some r) : AMf z yX4_openOneMore cX4_openOneMore 2 none 1 [rv z 4, iv x1] g r := by
  intro d hdd
  refine AM.of (by decide +kernel) (Nat.le_of_ble_eq_true rfl) ?_
  show AW z (RX4, cX4_openOneMore, 2, none) d (QD none r) 0 [(0, rv z 4), (1, iv x1)] [] g
  unfold Parser_openOneMore at h
  refine AW.iload_n 1 (dcN_0 dcg_161 :) rfl ?_
  refine AW.bipush (dcN_1 dcg_161 :) (by decide) (by decide) ?_
  obtain ⟨r6, e7, h⟩ := hC h
  refine AW.join (tgt := 18) (lv1 := []) (st1 := []) (g1 := r6) ?_ (fun J3 => ?_)
  · exact AW.vret1 rfl (dcN_9 dcg_161 :) h rfl
  replace h := e7
  refine AW.icmp_lt (tgt := 14) (dcN_2 dcg_161 :) (by decide) (fun c1 => ?_) (fun c1 => ?_)
  · replace h := hT h c1
    refine AW.aloadr_n 0 (dcN_7 dcg_161 :) rfl ?_
    obtain ⟨r2, e3, h⟩ := hC h
    refine AW.callVv (As := []) (st := []) (Parser_goOn_ok e3) cq_X4_107 cr_4_X4_goOn (Nat.le_trans (by decide) hdd) rfl (dcN_8 dcg_161 :) rfl (Nat.le_of_ble_eq_true rfl) ?_
    refine AW.sub (lv1 := []) [] rfl ?_
    cases h
    exact J3
  · replace h := hF h c1
    refine AW.aloadr_n 0 (dcN_3 dcg_161 :) rfl ?_
    refine AW.iconst (dcN_4 dcg_161 :) ?_
    obtain ⟨r4, e5, h⟩ := hC h
    refine AW.callVv (As := [iv 3]) (st := []) (Parser_fail_ok e5) cq_X4_103 cr_4_X4_fail (Nat.le_trans (by decide) hdd) rfl (dcN_5 dcg_161 :) rfl (Nat.le_of_ble_eq_true rfl) ?_
    refine AW.goto (tgt := 18) (dcN_6 dcg_161 :) (by decide) ?_
    refine AW.sub (lv1 := []) [] rfl ?_
    cases h
    exact J3
theorem Parser_demandComparing_ok {z : AZ} {g : AG} {r : Int × AG} (h : Parser_demandComparing g = some r) : AMf z yX4_demandComparing cX4_demandComparing 1 none 1 [rv z 4] g r := by
  intro d hdd
  refine AM.of (by decide +kernel) (Nat.le_of_ble_eq_true rfl) ?_
  show AW z (RX4, cX4_demandComparing, 1, none) d (QD none r) 0 [(0, rv z 4)] [] g
  unfold Parser_demandComparing at h
  refine AW.aloadr_n 0 (dcN_0 dcg_162 :) rfl ?_
  refine AW.bipush (dcN_1 dcg_162 :) (by decide) (by decide) ?_
  obtain ⟨r1, e2, h⟩ := hC h
  refine AW.callVi (As := [iv 60]) (st := []) (Parser_is_ok e2) cq_X4_137 cr_4_X4_is (Nat.le_trans (by decide) hdd) rfl (dcN_2 dcg_162 :) rfl (Nat.le_of_ble_eq_true rfl) ?_
  obtain ⟨r18, e19, h⟩ := hC h
  refine AW.join (tgt := 39) (lv1 := []) (st1 := []) (g1 := r18) ?_ (fun J6 => ?_)
  · exact AW.vret1 rfl (dcN_6 dcg_163 :) h rfl
  replace h := e19
  refine AW.if_ne (tgt := 27) (dcN_3 dcg_162 :) (by decide) (fun c3 => ?_) (fun c3 => ?_)
  · replace h := hF h c3
    refine AW.aloadr_n 0 (dcN_0 dcg_163 :) rfl ?_
    obtain ⟨r4, e5, h⟩ := hC h
    refine AW.callVv (As := []) (st := []) (Parser_goOn_ok e5) cq_X4_107 cr_4_X4_goOn (Nat.le_trans (by decide) hdd) rfl (dcN_1 dcg_163 :) rfl (Nat.le_of_ble_eq_true rfl) ?_
    refine AW.goto (tgt := 39) (dcN_2 dcg_163 :) (by decide) ?_
    refine AW.sub (lv1 := []) [] rfl ?_
    cases h
    exact J6
  · replace h := hT h c3
    refine AW.aloadr_n 0 (dcN_4 dcg_162 :) rfl ?_
    refine AW.bipush (dcN_5 dcg_162 :) (by decide) (by decide) ?_
    obtain ⟨r6, e7, h⟩ := hC h
    refine AW.callVi (As := [iv 61]) (st := []) (Parser_is_ok e7) cq_X4_137 cr_4_X4_is (Nat.le_trans (by decide) hdd) rfl (dcN_6 dcg_162 :) rfl (Nat.le_of_ble_eq_true rfl) ?_
    refine AW.if_ne (tgt := 27) (dcN_7 dcg_162 :) (by decide) (fun c8 => ?_) (fun c8 => ?_)
    · replace h := hF h c8
      refine AW.aloadr_n 0 (dcN_0 dcg_163 :) rfl ?_
      obtain ⟨r9, e10, h⟩ := hC h
      refine AW.callVv (As := []) (st := []) (Parser_goOn_ok e10) cq_X4_107 cr_4_X4_goOn (Nat.le_trans (by decide) hdd) rfl (dcN_1 dcg_163 :) rfl (Nat.le_of_ble_eq_true rfl) ?_
      refine AW.goto (tgt := 39) (dcN_2 dcg_163 :) (by decide) ?_
      refine AW.sub (lv1 := []) [] rfl ?_
      cases h
      exact J6
    · replace h := hT h c8
      refine AW.aloadr_n 0 (dcN_8 dcg_162 :) rfl ?_
      refine AW.bipush (dcN_9 dcg_162 :) (by decide) (by decide) ?_
      obtain ⟨r11, e12, h⟩ := hC h
      refine AW.callVi (As := [iv 62]) (st := []) (Parser_is_ok e12) cq_X4_137 cr_4_X4_is (Nat.le_trans (by decide) hdd) rfl (dcN_10 dcg_162 :) rfl (Nat.le_of_ble_eq_true rfl) ?_
      refine AW.if_eq (tgt := 34) (dcN_11 dcg_162 :) (by decide) (fun c13 => ?_) (fun c13 => ?_)
      · replace h := hT h c13
        refine AW.aloadr_n 0 (dcN_3 dcg_163 :) rfl ?_
        refine AW.iconst (dcN_4 dcg_163 :) ?_
        obtain ⟨r14, e15, h⟩ := hC h
        refine AW.callVv (As := [iv 1]) (st := []) (Parser_fail_ok e15) cq_X4_103 cr_4_X4_fail (Nat.le_trans (by decide) hdd) rfl (dcN_5 dcg_163 :) rfl (Nat.le_of_ble_eq_true rfl) ?_
        refine AW.sub (lv1 := []) [] rfl ?_
        cases h
        exact J6
      · replace h := hF h c13
        refine AW.aloadr_n 0 (dcN_0 dcg_163 :) rfl ?_
        obtain ⟨r16, e17, h⟩ := hC h
        refine AW.callVv (As := []) (st := []) (Parser_goOn_ok e17) cq_X4_107 cr_4_X4_goOn (Nat.le_trans (by decide) hdd) rfl (dcN_1 dcg_163 :) rfl (Nat.le_of_ble_eq_true rfl) ?_
        refine AW.goto (tgt := 39) (dcN_2 dcg_163 :) (by decide) ?_
        refine AW.sub (lv1 := []) [] rfl ?_
        cases h
        exact J6
theorem Parser_demand_ok {z : AZ} {x1 : Int} {g : AG} {r : Int × AG} (h : Parser_demand x1 g = some r) : AMf z yX4_demand cX4_demand 2 none 1 [rv z 4, iv x1] g r := by
  intro d hdd
  refine AM.of (by decide +kernel) (Nat.le_of_ble_eq_true rfl) ?_
  show AW z (RX4, cX4_demand, 2, none) d (QD none r) 0 [(0, rv z 4), (1, iv x1)] [] g
  unfold Parser_demand at h
  refine AW.aloadr_n 0 (dcN_0 dcg_152 :) rfl ?_
  refine AW.iload_n 1 (dcN_1 dcg_152 :) rfl ?_
  obtain ⟨r1, e2, h⟩ := hC h
  refine AW.callVi (As := [iv x1]) (st := []) (Parser_is_ok e2) cq_X4_137 cr_4_X4_is (Nat.le_trans (by decide) hdd) rfl (dcN_2 dcg_152 :) rfl (Nat.le_of_ble_eq_true rfl) ?_
  obtain ⟨r8, e9, h⟩ := hC h
  refine AW.join (tgt := 20) (lv1 := []) (st1 := []) (g1 := r8) ?_ (fun J5 => ?_)
  · exact AW.vret1 rfl (dcN_10 dcg_152 :) h rfl
  replace h := e9
  refine AW.if_eq (tgt := 15) (dcN_3 dcg_152 :) (by decide) (fun c3 => ?_) (fun c3 => ?_)
  · replace h := hT h c3
    refine AW.aloadr_n 0 (dcN_7 dcg_152 :) rfl ?_
    refine AW.iconst (dcN_8 dcg_152 :) ?_
    obtain ⟨r4, e5, h⟩ := hC h
    refine AW.callVv (As := [iv 1]) (st := []) (Parser_fail_ok e5) cq_X4_103 cr_4_X4_fail (Nat.le_trans (by decide) hdd) rfl (dcN_9 dcg_152 :) rfl (Nat.le_of_ble_eq_true rfl) ?_
    refine AW.sub (lv1 := []) [] rfl ?_
    cases h
    exact J5
  · replace h := hF h c3
    refine AW.aloadr_n 0 (dcN_4 dcg_152 :) rfl ?_
    obtain ⟨r6, e7, h⟩ := hC h
    refine AW.callVv (As := []) (st := []) (Parser_goOn_ok e7) cq_X4_107 cr_4_X4_goOn (Nat.le_trans (by decide) hdd) rfl (dcN_5 dcg_152 :) rfl (Nat.le_of_ble_eq_true rfl) ?_
    refine AW.goto (tgt := 20) (dcN_6 dcg_152 :) (by decide) ?_
    refine AW.sub (lv1 := []) [] rfl ?_
    cases h
    exact J5
set_option synthInstance.maxHeartbeats 2000000 in
theorem Parser_readOne_b_ok {z : AZ} {rec : Int → AG → Option (Int × AG)} {Dr : Nat} (hC9 : 4 ≤ Dr) (hrec : ∀ (x1 : Int) (g : AG) (r : Int × AG), rec x1 g = some r → AMf z yX4_readEither cX4_readEither 3 none Dr [rv z 4, iv x1] g r) {d : Nat} (hdd : Dr + 1 ≤ d) {x1 : Int} : ∀ (tag : Nat) (x2 : Int) (x3 : Int) (g : AG) (r : Int × AG), Parser_readOne_b rec x1 tag x2 x3 g = some r → (tag = 1 → AW z (RX4, cX4_readOne, 4, none) d (QD none r) 4 [(0, rv z 4), (1, iv x1), (2, iv x2), (3, iv x3)] [] g) ∧ (tag = 2 → AW z (RX4, cX4_readOne, 4, none) d (QD none r) 34 [(0, rv z 4), (1, iv x1), (2, iv x2)] [] g) ∧ (tag = 3 → AW z (RX4, cX4_readOne, 4, none) d (QD none r) 97 [(0, rv z 4), (2, iv x2), (3, iv x3)] [] g) := by
  refine Parser_readOne_b.partial_correctness rec x1 (fun tag x2 x3 g r => (tag = 1 → AW z (RX4, cX4_readOne, 4, none) d (QD none r) 4 [(0, rv z 4), (1, iv x1), (2, iv x2), (3, iv x3)] [] g) ∧ (tag = 2 → AW z (RX4, cX4_readOne, 4, none) d (QD none r) 34 [(0, rv z 4), (1, iv x1), (2, iv x2)] [] g) ∧ (tag = 3 → AW z (RX4, cX4_readOne, 4, none) d (QD none r) 97 [(0, rv z 4), (2, iv x2), (3, iv x3)] [] g)) ?_
  intro fb9 ih tag x2 x3 g r h
  refine ⟨fun h9 => ?_, fun h9 => ?_, fun h9 => ?_⟩
  · subst h9
    replace h := hT h rfl
    refine AW.iload_n 3 (dcN_4 dcg_157 :) rfl ?_
    refine AW.sipush (dcN_5 dcg_157 :) (by decide) (by decide) ?_
    refine AW.icmp_ge (tgt := 34) (dcN_6 dcg_157 :) (by decide) (fun c1 => ?_) (fun c1 => ?_)
    · replace h := hT h c1
      refine AW.sub (lv1 := [(0, rv z 4), (1, iv x1), (2, iv x2)]) [0, 1, 2] rfl ?_
      exact (ih _ _ _ _ _ h).2.1 rfl
    · replace h := hF h c1
      refine AW.aloadr_n 0 (dcN_7 dcg_157 :) rfl ?_
      refine AW.bipush (dcN_8 dcg_157 :) (by decide) (by decide) ?_
      obtain ⟨r2, e3, h⟩ := hC h
      refine AW.callVi (As := [iv 110]) (st := []) (Parser_is_ok e3) cq_X4_137 cr_4_X4_is (by omega) rfl (dcN_9 dcg_157 :) rfl (Nat.le_of_ble_eq_true rfl) ?_
      refine AW.if_eq (tgt := 34) (dcN_10 dcg_157 :) (by decide) (fun c4 => ?_) (fun c4 => ?_)
      · replace h := hT h c4
        refine AW.sub (lv1 := [(0, rv z 4), (1, iv x1), (2, iv x2)]) [0, 1, 2] rfl ?_
        exact (ih _ _ _ _ _ h).2.1 rfl
      · replace h := hF h c4
        refine AW.aloadr_n 0 (dcN_11 dcg_157 :) rfl ?_
        refine AW.iload_n 2 (dcN_12 dcg_157 :) rfl ?_
        obtain ⟨r5, e6, h⟩ := hC h
        refine AW.callVv (As := [iv x2]) (st := []) (Parser_openOneMore_ok e6) cq_X4_170 cr_4_X4_openOneMore (by omega) rfl (dcN_13 dcg_157 :) rfl (Nat.le_of_ble_eq_true rfl) ?_
        refine AW.iinc (lv1 := [(2, iv (x2 + 1)), (0, rv z 4), (1, iv x1), (3, iv x3)]) 2 (dcN_14 dcg_157 :) rfl (by decide) rfl ?_
        refine AW.iinc (lv1 := [(3, iv (x3 + 1)), (2, iv (x2 + 1)), (0, rv z 4), (1, iv x1)]) 3 (dcN_15 dcg_157 :) rfl (by decide) rfl ?_
        refine AW.goto (tgt := 4) (dcN_16 dcg_157 :) (by decide) ?_
        refine AW.sub (lv1 := [(0, rv z 4), (1, iv x1), (2, iv (x2 + 1)), (3, iv (x3 + 1))]) [2, 3, 1, 0] rfl ?_
        exact (ih _ _ _ _ _ h).1 rfl
  · subst h9
    replace h := hF h (by decide)
    replace h := hT h rfl
    refine AW.aloadr_n 0 (dcN_0 dcg_158 :) rfl ?_
    refine AW.bipush (dcN_1 dcg_158 :) (by decide) (by decide) ?_
    obtain ⟨r1, e2, h⟩ := hC h
    refine AW.callVi (As := [iv 40]) (st := []) (Parser_is_ok e2) cq_X4_137 cr_4_X4_is (by omega) rfl (dcN_2 dcg_158 :) rfl (Nat.le_of_ble_eq_true rfl) ?_
    obtain ⟨r19, e20, h⟩ := hC h
    refine AW.join (tgt := 95) (lv1 := [(0, rv z 4), (1, iv x1), (2, iv x2)]) (st1 := []) (g1 := r19) ?_ (fun J40 => ?_)
    · refine AW.iload_n 1 (dcN_17 dcg_159 :) rfl ?_
      refine AW.istore_n (lv1 := [(3, iv x1), (0, rv z 4), (1, iv x1), (2, iv x2)]) (dcN_0 dcg_160 :) (by decide) rfl ?_
      refine AW.sub (lv1 := [(0, rv z 4), (2, iv x2), (3, iv x1)]) [1, 3, 0] rfl ?_
      exact (ih _ _ _ _ _ h).2.2 rfl
    replace h := e20
    refine AW.if_eq (tgt := 64) (dcN_3 dcg_158 :) (by decide) (fun c3 => ?_) (fun c3 => ?_)
    · replace h := hT h c3
      refine AW.aloadr_n 0 (dcN_0 dcg_159 :) rfl ?_
      obtain ⟨r4, e5, h⟩ := hC h
      refine AW.callVv (As := []) (st := []) (Parser_readSum_ok e5) cq_X4_131 cr_4_X4_readSum (by omega) rfl (dcN_1 dcg_159 :) rfl (Nat.le_of_ble_eq_true rfl) ?_
      refine AW.aloadr_n 0 (dcN_2 dcg_159 :) rfl ?_
      refine AW.getR af_X4_15_4 sr_4_3 (dcN_3 dcg_159 :) ?_
      refine AW.aloadr_n 0 (dcN_4 dcg_159 :) rfl ?_
      refine AW.getI af_X4_35_4 sr_4_6 (dcN_5 dcg_159 :) ?_
      obtain ⟨k6, h⟩ := hK h
      refine AW.iald kc_42 sk_42 k6 (dcN_6 dcg_159 :) ?_
      refine AW.istore_n (lv1 := [(3, iv (r4.2 42 (ix (r4.2 4 6)))), (0, rv z 4), (1, iv x1), (2, iv x2)]) (dcN_7 dcg_159 :) (by decide) rfl ?_
      refine AW.aloadr_n 1 (dcN_8 dcg_159 :) rfl ?_
      obtain ⟨r7, e8, h⟩ := hC h
      refine AW.callVv (As := []) (st := []) (Parser_demandComparing_ok e8) cq_X4_173 cr_4_X4_demandComparing (by omega) rfl (dcN_9 dcg_159 :) rfl (Nat.le_of_ble_eq_true rfl) ?_
      refine AW.aloadr_n 1 (dcN_10 dcg_159 :) rfl ?_
      obtain ⟨r9, e10, h⟩ := hC h
      refine AW.callVv (As := []) (st := []) (Parser_readSum_ok e10) cq_X4_131 cr_4_X4_readSum (by omega) rfl (dcN_11 dcg_159 :) rfl (Nat.le_of_ble_eq_true rfl) ?_
      refine AW.aloadr_n 1 (dcN_12 dcg_159 :) rfl ?_
      refine AW.getR af_X4_25_4 sr_4_0 (dcN_13 dcg_159 :) ?_
      refine AW.iload_n 0 (dcN_14 dcg_159 :) rfl ?_
      refine AW.iconst (dcN_15 dcg_159 :) ?_
      obtain ⟨r11, e12, h⟩ := hC h
      refine AW.callVv (As := [iv (r4.2 42 (ix (r4.2 4 6))), iv 0]) (st := []) (Rules_put_ok e12) cq_X4_164 cr_3_X6_put (by omega) rfl (dcN_16 dcg_159 :) rfl (Nat.le_of_ble_eq_true rfl) ?_
      refine AW.sub (lv1 := [(0, rv z 4), (1, iv x1), (2, iv x2)]) [1, 2, 3] rfl ?_
      cases h
      exact J40
    · replace h := hF h c3
      refine AW.aloadr_n 0 (dcN_4 dcg_158 :) rfl ?_
      refine AW.iload_n 2 (dcN_5 dcg_158 :) rfl ?_
      obtain ⟨r13, e14, h⟩ := hC h
      refine AW.callVv (As := [iv x2]) (st := []) (Parser_openOneMore_ok e14) cq_X4_170 cr_4_X4_openOneMore (by omega) rfl (dcN_6 dcg_158 :) rfl (Nat.le_of_ble_eq_true rfl) ?_
      refine AW.aloadr_n 0 (dcN_7 dcg_158 :) rfl ?_
      refine AW.iload_n 2 (dcN_8 dcg_158 :) rfl ?_
      refine AW.iconst (dcN_9 dcg_158 :) ?_
      refine AW.iadd (dcN_10 dcg_158 :) ?_
      obtain ⟨r15, e16, h⟩ := hC h
      refine AW.callVv (As := [iv (x2 + 1)]) (st := []) (hrec _ _ _ e16) cq_X4_140 cr_4_X4_readEither (by omega) rfl (dcN_11 dcg_158 :) rfl (Nat.le_of_ble_eq_true rfl) ?_
      refine AW.aloadr_n 0 (dcN_12 dcg_158 :) rfl ?_
      refine AW.bipush (dcN_13 dcg_158 :) (by decide) (by decide) ?_
      obtain ⟨r17, e18, h⟩ := hC h
      refine AW.callVv (As := [iv 41]) (st := []) (Parser_demand_ok e18) cq_X4_146 cr_4_X4_demand (by omega) rfl (dcN_14 dcg_158 :) rfl (Nat.le_of_ble_eq_true rfl) ?_
      refine AW.goto (tgt := 95) (dcN_15 dcg_158 :) (by decide) ?_
      cases h
      exact J40
  · subst h9
    replace h := hF h (by decide)
    replace h := hF h (by decide)
    replace h := hT h rfl
    refine AW.iload_n 2 (dcN_1 dcg_160 :) rfl ?_
    refine AW.iload_n 1 (dcN_2 dcg_160 :) rfl ?_
    refine AW.icmp_ge (tgt := 118) (dcN_3 dcg_160 :) (by decide) (fun c1 => ?_) (fun c1 => ?_)
    · replace h := hT h c1
      exact AW.vret1 rfl (dcN_11 dcg_160 :) h rfl
    · replace h := hF h c1
      refine AW.aloadr_n 0 (dcN_4 dcg_160 :) rfl ?_
      refine AW.getR af_X4_25_4 sr_4_0 (dcN_5 dcg_160 :) ?_
      refine AW.bipush (dcN_6 dcg_160 :) (by decide) (by decide) ?_
      refine AW.iconst (dcN_7 dcg_160 :) ?_
      obtain ⟨r2, e3, h⟩ := hC h
      refine AW.callVv (As := [iv 110, iv 0]) (st := []) (Rules_put_ok e3) cq_X4_164 cr_3_X6_put (by omega) rfl (dcN_8 dcg_160 :) rfl (Nat.le_of_ble_eq_true rfl) ?_
      refine AW.iinc (lv1 := [(3, iv (x3 + 1)), (0, rv z 4), (2, iv x2)]) 2 (dcN_9 dcg_160 :) rfl (by decide) rfl ?_
      refine AW.goto (tgt := 97) (dcN_10 dcg_160 :) (by decide) ?_
      refine AW.sub (lv1 := [(0, rv z 4), (2, iv x2), (3, iv (x3 + 1))]) [1, 2, 0] rfl ?_
      exact (ih _ _ _ _ _ h).2.2 rfl
theorem Parser_readOne_ok {z : AZ} {rec : Int → AG → Option (Int × AG)} {Dr : Nat} (hC9 : 4 ≤ Dr) (hrec : ∀ (x1 : Int) (g : AG) (r : Int × AG), rec x1 g = some r → AMf z yX4_readEither cX4_readEither 3 none Dr [rv z 4, iv x1] g r) {x1 : Int} {g : AG} {r : Int × AG} (h : Parser_readOne rec x1 g = some r) : AMf z yX4_readOne cX4_readOne 4 none (Dr + 1) [rv z 4, iv x1] g r := by
  intro d hdd
  refine AM.of (by decide +kernel) (Nat.le_of_ble_eq_true rfl) ?_
  show AW z (RX4, cX4_readOne, 4, none) d (QD none r) 0 [(0, rv z 4), (1, iv x1)] [] g
  unfold Parser_readOne at h
  refine AW.iload_n 1 (dcN_0 dcg_157 :) rfl ?_
  refine AW.istore_n (lv1 := [(2, iv x1), (0, rv z 4), (1, iv x1)]) (dcN_1 dcg_157 :) (by decide) rfl ?_
  refine AW.iconst (dcN_2 dcg_157 :) ?_
  refine AW.istore_n (lv1 := [(3, iv 0), (2, iv x1), (0, rv z 4), (1, iv x1)]) (dcN_3 dcg_157 :) (by decide) rfl ?_
  refine AW.sub (lv1 := [(0, rv z 4), (1, iv x1), (2, iv x1), (3, iv 0)]) [2, 3, 1, 0] rfl ?_
  exact (Parser_readOne_b_ok hC9 hrec hdd _ _ _ _ _ h).1 rfl
set_option synthInstance.maxHeartbeats 2000000 in
theorem Parser_readAll_b_ok {z : AZ} {rec : Int → AG → Option (Int × AG)} {Dr : Nat} (hC9 : 4 ≤ Dr) (hrec : ∀ (x1 : Int) (g : AG) (r : Int × AG), rec x1 g = some r → AMf z yX4_readEither cX4_readEither 3 none Dr [rv z 4, iv x1] g r) {d : Nat} (hdd : Dr + 2 ≤ d) {x1 : Int} : ∀ (x2 : Int) (g : AG) (r : Int × AG), Parser_readAll_b rec x1 x2 g = some r → AW z (RX4, cX4_readAll, 3, none) d (QD none r) 7 [(0, rv z 4), (1, iv x1), (2, iv x2)] [] g := by
  refine Parser_readAll_b.partial_correctness rec x1 (fun x2 g r => AW z (RX4, cX4_readAll, 3, none) d (QD none r) 7 [(0, rv z 4), (1, iv x1), (2, iv x2)] [] g) ?_
  intro fb9 ih x2 g r h
  refine AW.iload_n 2 (dcN_5 dcg_155 :) rfl ?_
  refine AW.sipush (dcN_6 dcg_155 :) (by decide) (by decide) ?_
  refine AW.icmp_ge (tgt := 48) (dcN_7 dcg_155 :) (by decide) (fun c1 => ?_) (fun c1 => ?_)
  · replace h := hT h c1
    exact AW.vret1 rfl (dcN_7 dcg_156 :) h rfl
  · replace h := hF h c1
    refine AW.aloadr_n 0 (dcN_8 dcg_155 :) rfl ?_
    refine AW.bipush (dcN_9 dcg_155 :) (by decide) (by decide) ?_
    obtain ⟨r2, e3, h⟩ := hC h
    refine AW.callVi (As := [iv 109]) (st := []) (Parser_is_ok e3) cq_X4_137 cr_4_X4_is (by omega) rfl (dcN_10 dcg_155 :) rfl (Nat.le_of_ble_eq_true rfl) ?_
    refine AW.if_eq (tgt := 48) (dcN_11 dcg_155 :) (by decide) (fun c4 => ?_) (fun c4 => ?_)
    · replace h := hT h c4
      exact AW.vret1 rfl (dcN_7 dcg_156 :) h rfl
    · replace h := hF h c4
      refine AW.aloadr_n 0 (dcN_12 dcg_155 :) rfl ?_
      obtain ⟨r5, e6, h⟩ := hC h
      refine AW.callVv (As := []) (st := []) (Parser_goOn_ok e6) cq_X4_107 cr_4_X4_goOn (by omega) rfl (dcN_13 dcg_155 :) rfl (Nat.le_of_ble_eq_true rfl) ?_
      refine AW.aloadr_n 0 (dcN_14 dcg_155 :) rfl ?_
      refine AW.iload_n 1 (dcN_15 dcg_155 :) rfl ?_
      obtain ⟨r7, e8, h⟩ := hC h
      refine AW.callVv (As := [iv x1]) (st := []) (Parser_readOne_ok (Nat.le_trans (by decide) hC9) hrec e8) cq_X4_167 cr_4_X4_readOne (by omega) rfl (dcN_16 dcg_155 :) rfl (Nat.le_of_ble_eq_true rfl) ?_
      refine AW.aloadr_n 0 (dcN_0 dcg_156 :) rfl ?_
      refine AW.getR af_X4_25_4 sr_4_0 (dcN_1 dcg_156 :) ?_
      refine AW.bipush (dcN_2 dcg_156 :) (by decide) (by decide) ?_
      refine AW.iconst (dcN_3 dcg_156 :) ?_
      obtain ⟨r9, e10, h⟩ := hC h
      refine AW.callVv (As := [iv 109, iv 0]) (st := []) (Rules_put_ok e10) cq_X4_164 cr_3_X6_put (by omega) rfl (dcN_4 dcg_156 :) rfl (Nat.le_of_ble_eq_true rfl) ?_
      refine AW.iinc (lv1 := [(2, iv (x2 + 1)), (0, rv z 4), (1, iv x1)]) 2 (dcN_5 dcg_156 :) rfl (by decide) rfl ?_
      refine AW.goto (tgt := 7) (dcN_6 dcg_156 :) (by decide) ?_
      refine AW.sub (lv1 := [(0, rv z 4), (1, iv x1), (2, iv (x2 + 1))]) [1, 2, 0] rfl ?_
      exact ih _ _ _ h
theorem Parser_readAll_ok {z : AZ} {rec : Int → AG → Option (Int × AG)} {Dr : Nat} (hC9 : 4 ≤ Dr) (hrec : ∀ (x1 : Int) (g : AG) (r : Int × AG), rec x1 g = some r → AMf z yX4_readEither cX4_readEither 3 none Dr [rv z 4, iv x1] g r) {x1 : Int} {g : AG} {r : Int × AG} (h : Parser_readAll rec x1 g = some r) : AMf z yX4_readAll cX4_readAll 3 none (Dr + 2) [rv z 4, iv x1] g r := by
  intro d hdd
  refine AM.of (by decide +kernel) (Nat.le_of_ble_eq_true rfl) ?_
  show AW z (RX4, cX4_readAll, 3, none) d (QD none r) 0 [(0, rv z 4), (1, iv x1)] [] g
  unfold Parser_readAll at h
  refine AW.aloadr_n 0 (dcN_0 dcg_155 :) rfl ?_
  refine AW.iload_n 1 (dcN_1 dcg_155 :) rfl ?_
  obtain ⟨r1, e2, h⟩ := hC h
  refine AW.callVv (As := [iv x1]) (st := []) (Parser_readOne_ok (Nat.le_trans (by decide) hC9) hrec e2) cq_X4_167 cr_4_X4_readOne (by omega) rfl (dcN_2 dcg_155 :) rfl (Nat.le_of_ble_eq_true rfl) ?_
  refine AW.iconst (dcN_3 dcg_155 :) ?_
  refine AW.istore_n (lv1 := [(2, iv 0), (0, rv z 4), (1, iv x1)]) (dcN_4 dcg_155 :) (by decide) rfl ?_
  refine AW.sub (lv1 := [(0, rv z 4), (1, iv x1), (2, iv 0)]) [1, 2, 0] rfl ?_
  exact Parser_readAll_b_ok hC9 hrec hdd _ _ _ h
set_option synthInstance.maxHeartbeats 2000000 in
theorem Parser_readEither_b_ok {z : AZ} {rec : Int → AG → Option (Int × AG)} {Dr : Nat} (hC9 : 4 ≤ Dr) (hrec : ∀ (x1 : Int) (g : AG) (r : Int × AG), rec x1 g = some r → AMf z yX4_readEither cX4_readEither 3 none Dr [rv z 4, iv x1] g r) {d : Nat} (hdd : Dr + 3 ≤ d) {x1 : Int} : ∀ (x2 : Int) (g : AG) (r : Int × AG), Parser_readEither_b rec x1 x2 g = some r → AW z (RX4, cX4_readEither, 3, none) d (QD none r) 14 [(0, rv z 4), (1, iv x1), (2, iv x2)] [] g := by
  refine Parser_readEither_b.partial_correctness rec x1 (fun x2 g r => AW z (RX4, cX4_readEither, 3, none) d (QD none r) 14 [(0, rv z 4), (1, iv x1), (2, iv x2)] [] g) ?_
  intro fb9 ih x2 g r h
  refine AW.iload_n 2 (dcN_9 dcg_153 :) rfl ?_
  refine AW.sipush (dcN_10 dcg_153 :) (by decide) (by decide) ?_
  refine AW.icmp_ge (tgt := 55) (dcN_11 dcg_153 :) (by decide) (fun c1 => ?_) (fun c1 => ?_)
  · replace h := hT h c1
    exact AW.vret1 rfl (dcN_10 dcg_154 :) h rfl
  · replace h := hF h c1
    refine AW.aloadr_n 0 (dcN_12 dcg_153 :) rfl ?_
    refine AW.bipush (dcN_13 dcg_153 :) (by decide) (by decide) ?_
    obtain ⟨r2, e3, h⟩ := hC h
    refine AW.callVi (As := [iv 108]) (st := []) (Parser_is_ok e3) cq_X4_137 cr_4_X4_is (by omega) rfl (dcN_14 dcg_153 :) rfl (Nat.le_of_ble_eq_true rfl) ?_
    refine AW.if_eq (tgt := 55) (dcN_15 dcg_153 :) (by decide) (fun c4 => ?_) (fun c4 => ?_)
    · replace h := hT h c4
      exact AW.vret1 rfl (dcN_10 dcg_154 :) h rfl
    · replace h := hF h c4
      refine AW.aloadr_n 0 (dcN_16 dcg_153 :) rfl ?_
      obtain ⟨r5, e6, h⟩ := hC h
      refine AW.callVv (As := []) (st := []) (Parser_goOn_ok e6) cq_X4_107 cr_4_X4_goOn (by omega) rfl (dcN_17 dcg_153 :) rfl (Nat.le_of_ble_eq_true rfl) ?_
      refine AW.aloadr_n 0 (dcN_0 dcg_154 :) rfl ?_
      refine AW.iload_n 1 (dcN_1 dcg_154 :) rfl ?_
      obtain ⟨r7, e8, h⟩ := hC h
      refine AW.callVv (As := [iv x1]) (st := []) (Parser_readAll_ok (Nat.le_trans (by decide) hC9) hrec e8) cq_X4_161 cr_4_X4_readAll (by omega) rfl (dcN_2 dcg_154 :) rfl (Nat.le_of_ble_eq_true rfl) ?_
      refine AW.aloadr_n 0 (dcN_3 dcg_154 :) rfl ?_
      refine AW.getR af_X4_25_4 sr_4_0 (dcN_4 dcg_154 :) ?_
      refine AW.bipush (dcN_5 dcg_154 :) (by decide) (by decide) ?_
      refine AW.iconst (dcN_6 dcg_154 :) ?_
      obtain ⟨r9, e10, h⟩ := hC h
      refine AW.callVv (As := [iv 108, iv 0]) (st := []) (Rules_put_ok e10) cq_X4_164 cr_3_X6_put (by omega) rfl (dcN_7 dcg_154 :) rfl (Nat.le_of_ble_eq_true rfl) ?_
      refine AW.iinc (lv1 := [(2, iv (x2 + 1)), (0, rv z 4), (1, iv x1)]) 2 (dcN_8 dcg_154 :) rfl (by decide) rfl ?_
      refine AW.goto (tgt := 14) (dcN_9 dcg_154 :) (by decide) ?_
      refine AW.sub (lv1 := [(0, rv z 4), (1, iv x1), (2, iv (x2 + 1))]) [1, 2, 0] rfl ?_
      exact ih _ _ _ h
theorem Parser_readEither_s_ok {z : AZ} {rec : Int → AG → Option (Int × AG)} {Dr : Nat} (hC9 : 4 ≤ Dr) (hrec : ∀ (x1 : Int) (g : AG) (r : Int × AG), rec x1 g = some r → AMf z yX4_readEither cX4_readEither 3 none Dr [rv z 4, iv x1] g r) {x1 : Int} {g : AG} {r : Int × AG} (h : Parser_readEither_s rec x1 g = some r) : AMf z yX4_readEither cX4_readEither 3 none (Dr + 3) [rv z 4, iv x1] g r := by
  intro d hdd
  refine AM.of (by decide +kernel) (Nat.le_of_ble_eq_true rfl) ?_
  show AW z (RX4, cX4_readEither, 3, none) d (QD none r) 0 [(0, rv z 4), (1, iv x1)] [] g
  unfold Parser_readEither_s at h
  refine AW.iload_n 1 (dcN_0 dcg_153 :) rfl ?_
  refine AW.bipush (dcN_1 dcg_153 :) (by decide) (by decide) ?_
  refine AW.icmp_le (tgt := 7) (dcN_2 dcg_153 :) (by decide) (fun c1 => ?_) (fun c1 => ?_)
  · replace h := hT h c1
    refine AW.aloadr_n 0 (dcN_4 dcg_153 :) rfl ?_
    refine AW.iload_n 1 (dcN_5 dcg_153 :) rfl ?_
    obtain ⟨r2, e3, h⟩ := hC h
    refine AW.callVv (As := [iv x1]) (st := []) (Parser_readAll_ok (Nat.le_trans (by decide) hC9) hrec e3) cq_X4_161 cr_4_X4_readAll (by omega) rfl (dcN_6 dcg_153 :) rfl (Nat.le_of_ble_eq_true rfl) ?_
    refine AW.iconst (dcN_7 dcg_153 :) ?_
    refine AW.istore_n (lv1 := [(2, iv 0), (0, rv z 4), (1, iv x1)]) (dcN_8 dcg_153 :) (by decide) rfl ?_
    refine AW.sub (lv1 := [(0, rv z 4), (1, iv x1), (2, iv 0)]) [1, 2, 0] rfl ?_
    exact Parser_readEither_b_ok hC9 hrec hdd _ _ _ h
  · replace h := hF h c1
    exact AW.vret1 rfl (dcN_3 dcg_153 :) h rfl
theorem Parser_readEither_ok {z : AZ} {n : Nat} {x1 : Int} {g : AG} {r : Int × AG} (h : Parser_readEither n x1 g = some r) : AMf z yX4_readEither cX4_readEither 3 none (4 + n * 3) [rv z 4, iv x1] g r := by
  induction n generalizing x1 g r with
  | zero => cases h
  | succ n ih =>
    have q := Parser_readEither_s_ok (z := z) (Dr := 4 + n * 3) (Nat.le_add_right _ _) (fun x1 g r h9 => ih h9) h
    rw [show 4 + (n + 1) * 3 = 4 + n * 3 + 3 by rw [Nat.add_mul]; omega]
    exact q
theorem Parser_readLine_ok {z : AZ} {g : AG} {r : Int × AG} (h : Parser_readLine g = some r) : AMf z yX4_readLine cX4_readLine 3 none 41 [rv z 4] g r := by
  intro d hdd
  refine AM.of (by decide +kernel) (Nat.le_of_ble_eq_true rfl) ?_
  show AW z (RX4, cX4_readLine, 3, none) d (QD none r) 0 [(0, rv z 4)] [] g
  unfold Parser_readLine at h
  refine AW.aloadr_n 0 (dcN_0 dcg_139 :) rfl ?_
  refine AW.getR af_X4_15_4 sr_4_3 (dcN_1 dcg_139 :) ?_
  refine AW.aloadr_n 0 (dcN_2 dcg_139 :) rfl ?_
  refine AW.getI af_X4_35_4 sr_4_6 (dcN_3 dcg_139 :) ?_
  obtain ⟨k1, h⟩ := hK h
  refine AW.iald kc_42 sk_42 k1 (dcN_4 dcg_139 :) ?_
  refine AW.istore_n (lv1 := [(1, iv (g 42 (ix (g 4 6)))), (0, rv z 4)]) (dcN_5 dcg_139 :) (by decide) rfl ?_
  refine AW.aloadr_n 1 (dcN_6 dcg_139 :) rfl ?_
  refine AW.getR af_X4_25_4 sr_4_0 (dcN_7 dcg_139 :) ?_
  refine AW.getI af_X4_49_3 sr_3_3 (dcN_8 dcg_139 :) ?_
  refine AW.istore_n (lv1 := [(2, iv (g 3 3)), (1, iv (g 42 (ix (g 4 6)))), (0, rv z 4)]) (dcN_9 dcg_139 :) (by decide) rfl ?_
  refine AW.iload_n 1 (dcN_10 dcg_139 :) rfl ?_
  refine AW.bipush (dcN_11 dcg_139 :) (by decide) (by decide) ?_
  refine AW.bipush (dcN_12 dcg_139 :) (by decide) (by decide) ?_
  refine AW.callN0 (As := [iv (g 42 (ix (g 4 6))), iv 100, iv 104]) (st := []) X_within_ok ns_X4_87 in_X11 cd_X11_within st_X11_within (by decide) (Nat.le_trans (by decide) hdd) rfl (Nat.le_of_ble_eq_true rfl) (dcN_13 dcg_139 :) rfl ?_
  refine AW.if_ne (tgt := 35) (dcN_14 dcg_139 :) (by decide) (fun c2 => ?_) (fun c2 => ?_)
  · replace h := hF h c2
    refine AW.iload_n 0 (dcN_1 dcg_140 :) rfl ?_
    refine AW.bipush (dcN_2 dcg_140 :) (by decide) (by decide) ?_
    refine AW.icmp_lt (tgt := 47) (dcN_3 dcg_140 :) (by decide) (fun c3 => ?_) (fun c3 => ?_)
    · replace h := hT h c3
      refine AW.aloadr_n 2 (dcN_8 dcg_140 :) rfl ?_
      obtain ⟨r4, e5, h⟩ := hC h
      refine AW.callVv (As := []) (st := []) (Parser_goOn_ok e5) cq_X4_107 cr_4_X4_goOn (Nat.le_trans (by decide) hdd) rfl (dcN_9 dcg_140 :) rfl (Nat.le_of_ble_eq_true rfl) ?_
      refine AW.aloadr_n 2 (dcN_10 dcg_140 :) rfl ?_
      refine AW.getR af_X4_25_4 sr_4_0 (dcN_11 dcg_140 :) ?_
      refine AW.getR af_X4_110_3 sr_3_4 (dcN_12 dcg_140 :) ?_
      refine AW.iload_n 0 (dcN_13 dcg_140 :) rfl ?_
      refine AW.iload_n 1 (dcN_14 dcg_140 :) rfl ?_
      obtain ⟨k6, h⟩ := hK h
      obtain ⟨g7, e8, h⟩ := hBe h
      refine AW.iast kc_31 sk_31 k6 (dcN_15 dcg_140 :) e8 ?_
      refine AW.aloadr_n 2 (dcN_16 dcg_140 :) rfl ?_
      refine AW.getR af_X4_25_4 sr_4_0 (dcN_17 dcg_140 :) ?_
      refine AW.getR af_X4_113_3 sr_3_5 (dcN_0 dcg_141 :) ?_
      refine AW.iload_n 0 (dcN_1 dcg_141 :) rfl ?_
      refine AW.aloadr_n 2 (dcN_2 dcg_141 :) rfl ?_
      refine AW.getR af_X4_25_4 sr_4_0 (dcN_3 dcg_141 :) ?_
      refine AW.getI af_X4_116_3 sr_3_2 (dcN_4 dcg_141 :) ?_
      obtain ⟨g9, e10, h⟩ := hBe h
      refine AW.iast kc_32 sk_32 k6 (dcN_5 dcg_141 :) e10 ?_
      refine AW.iload_n 1 (dcN_6 dcg_141 :) rfl ?_
      refine AW.bipush (dcN_7 dcg_141 :) (by decide) (by decide) ?_
      obtain ⟨r25, e26, h⟩ := hC h
      refine AW.join (tgt := 133) (lv1 := [(0, rv z 4), (1, iv (g 42 (ix (g 4 6)))), (2, iv (g 3 3))]) (st1 := []) (g1 := r25) ?_ (fun J80 => ?_)
      · refine AW.aloadr_n 0 (dcN_2 dcg_143 :) rfl ?_
        refine AW.getR af_X4_25_4 sr_4_0 (dcN_3 dcg_143 :) ?_
        refine AW.getR af_X4_134_3 sr_3_6 (dcN_4 dcg_143 :) ?_
        refine AW.iload_n 2 (dcN_5 dcg_143 :) rfl ?_
        refine AW.aloadr_n 0 (dcN_6 dcg_143 :) rfl ?_
        refine AW.getR af_X4_25_4 sr_4_0 (dcN_7 dcg_143 :) ?_
        refine AW.getI af_X4_116_3 sr_3_2 (dcN_8 dcg_143 :) ?_
        obtain ⟨g27, e28, h⟩ := hBe h
        refine AW.iast kc_33 sk_33 k6 (dcN_9 dcg_143 :) e28 ?_
        refine AW.iload_n 1 (dcN_10 dcg_143 :) rfl ?_
        refine AW.bipush (dcN_11 dcg_143 :) (by decide) (by decide) ?_
        obtain ⟨r37, e38, h⟩ := hC h
        refine AW.join (tgt := 173) (lv1 := [(0, rv z 4), (2, iv (g 3 3))]) (st1 := []) (g1 := r37) ?_ (fun J152 => ?_)
        · refine AW.aloadr_n 0 (dcN_6 dcg_144 :) rfl ?_
          refine AW.getR af_X4_25_4 sr_4_0 (dcN_7 dcg_144 :) ?_
          refine AW.getR af_X4_143_3 sr_3_7 (dcN_8 dcg_144 :) ?_
          refine AW.iload_n 1 (dcN_9 dcg_144 :) rfl ?_
          refine AW.aloadr_n 0 (dcN_10 dcg_144 :) rfl ?_
          refine AW.getR af_X4_25_4 sr_4_0 (dcN_11 dcg_144 :) ?_
          refine AW.getI af_X4_116_3 sr_3_2 (dcN_12 dcg_144 :) ?_
          obtain ⟨g39, e40, h⟩ := hBe h
          refine AW.iast kc_34 sk_34 k6 (dcN_13 dcg_144 :) e40 ?_
          refine AW.aloadr_n 0 (dcN_14 dcg_144 :) rfl ?_
          refine AW.bipush (dcN_15 dcg_144 :) (by decide) (by decide) ?_
          obtain ⟨r41, e42, h⟩ := hC h
          refine AW.callVv (As := [iv 59]) (st := []) (Parser_demand_ok e42) cq_X4_146 cr_4_X4_demand (Nat.le_trans (by decide) hdd) rfl (dcN_0 dcg_145 :) rfl (Nat.le_of_ble_eq_true rfl) ?_
          refine AW.aloadr_n 0 (dcN_1 dcg_145 :) rfl ?_
          refine AW.getR af_X4_25_4 sr_4_0 (dcN_2 dcg_145 :) ?_
          refine AW.duprr (dcN_3 dcg_145 :) ?_
          refine AW.getI af_X4_49_3 sr_3_3 (dcN_4 dcg_145 :) ?_
          refine AW.iconst (dcN_5 dcg_145 :) ?_
          refine AW.iadd (dcN_6 dcg_145 :) ?_
          obtain ⟨g43, e44, h⟩ := hBe h
          refine AW.putI ap_X4_49_3 sr_3_3 (dcN_7 dcg_145 :) e44 ?_
          exact AW.vret1 rfl (dcN_8 dcg_145 :) h rfl
        replace h := e38
        refine AW.icmp_eq (tgt := 173) (dcN_12 dcg_143 :) (by decide) (fun c29 => ?_) (fun c29 => ?_)
        · replace h := hT h c29
          refine AW.sub (lv1 := [(0, rv z 4), (2, iv (g 3 3))]) [0, 2] rfl ?_
          cases h
          exact J152
        · replace h := hF h c29
          refine AW.aloadr_n 0 (dcN_13 dcg_143 :) rfl ?_
          refine AW.bipush (dcN_14 dcg_143 :) (by decide) (by decide) ?_
          obtain ⟨r30, e31, h⟩ := hC h
          refine AW.callVi (As := [iv 107]) (st := []) (Parser_is_ok e31) cq_X4_137 cr_4_X4_is (Nat.le_trans (by decide) hdd) rfl (dcN_15 dcg_143 :) rfl (Nat.le_of_ble_eq_true rfl) ?_
          refine AW.if_eq (tgt := 173) (dcN_0 dcg_144 :) (by decide) (fun c32 => ?_) (fun c32 => ?_)
          · replace h := hT h c32
            refine AW.sub (lv1 := [(0, rv z 4), (2, iv (g 3 3))]) [0, 2] rfl ?_
            cases h
            exact J152
          · replace h := hF h c32
            refine AW.aloadr_n 0 (dcN_1 dcg_144 :) rfl ?_
            obtain ⟨r33, e34, h⟩ := hC h
            refine AW.callVv (As := []) (st := []) (Parser_goOn_ok e34) cq_X4_107 cr_4_X4_goOn (Nat.le_trans (by decide) hdd) rfl (dcN_2 dcg_144 :) rfl (Nat.le_of_ble_eq_true rfl) ?_
            refine AW.aloadr_n 0 (dcN_3 dcg_144 :) rfl ?_
            refine AW.iconst (dcN_4 dcg_144 :) ?_
            obtain ⟨r35, e36, h⟩ := hC h
            refine AW.callVv (As := [iv 0]) (st := []) ((Parser_readEither_ok (n := 12)) e36) cq_X4_140 cr_4_X4_readEither (Nat.le_trans (by decide) hdd) rfl (dcN_5 dcg_144 :) rfl (Nat.le_of_ble_eq_true rfl) ?_
            refine AW.sub (lv1 := [(0, rv z 4), (2, iv (g 3 3))]) [0, 2] rfl ?_
            cases h
            exact J152
      replace h := e26
      refine AW.icmp_ne (tgt := 90) (dcN_8 dcg_141 :) (by decide) (fun c11 => ?_) (fun c11 => ?_)
      · replace h := hF h c11
        refine AW.iload_n 1 (dcN_12 dcg_141 :) rfl ?_
        refine AW.bipush (dcN_13 dcg_141 :) (by decide) (by decide) ?_
        refine AW.icmp_ne (tgt := 129) (dcN_14 dcg_141 :) (by decide) (fun c12 => ?_) (fun c12 => ?_)
        · replace h := hF h c12
          refine AW.aloadr_n 2 (dcN_0 dcg_143 :) rfl ?_
          obtain ⟨r13, e14, h⟩ := hC h
          refine AW.callVv (As := []) (st := []) (Parser_readSum_ok e14) cq_X4_131 cr_4_X4_readSum (Nat.le_trans (by decide) hdd) rfl (dcN_1 dcg_143 :) rfl (Nat.le_of_ble_eq_true rfl) ?_
          refine AW.sub (lv1 := [(0, rv z 4), (1, iv (g 42 (ix (g 4 6)))), (2, iv (g 3 3))]) [2, 1, 0] rfl ?_
          cases h
          exact J80
        · replace h := hT h c12
          refine AW.aloadr_n 2 (dcN_0 dcg_142 :) rfl ?_
          refine AW.getR af_X4_25_4 sr_4_0 (dcN_1 dcg_142 :) ?_
          refine AW.getR af_X4_122_3 sr_3_8 (dcN_2 dcg_142 :) ?_
          refine AW.iload_n 0 (dcN_3 dcg_142 :) rfl ?_
          refine AW.aloadr_n 2 (dcN_4 dcg_142 :) rfl ?_
          refine AW.bipush (dcN_5 dcg_142 :) (by decide) (by decide) ?_
          obtain ⟨r15, e16, h⟩ := hC h
          refine AW.callVi (As := [iv 24]) (st := [iv (g 3 3), rv z 35]) (Parser_numberUpTo_ok e16) cq_X4_125 cr_4_X4_numberUpTo (Nat.le_trans (by decide) hdd) rfl (dcN_6 dcg_142 :) rfl (Nat.le_of_ble_eq_true rfl) ?_
          obtain ⟨g17, e18, h⟩ := hBe h
          refine AW.iast kc_35 sk_35 k6 (dcN_7 dcg_142 :) e18 ?_
          refine AW.aloadr_n 2 (dcN_8 dcg_142 :) rfl ?_
          refine AW.getR af_X4_25_4 sr_4_0 (dcN_9 dcg_142 :) ?_
          refine AW.getR af_X4_128_3 sr_3_9 (dcN_10 dcg_142 :) ?_
          refine AW.iload_n 0 (dcN_11 dcg_142 :) rfl ?_
          refine AW.aloadr_n 2 (dcN_12 dcg_142 :) rfl ?_
          refine AW.bipush (dcN_13 dcg_142 :) (by decide) (by decide) ?_
          obtain ⟨r19, e20, h⟩ := hC h
          refine AW.callVi (As := [iv 24]) (st := [iv (g 3 3), rv z 36]) (Parser_numberUpTo_ok e20) cq_X4_125 cr_4_X4_numberUpTo (Nat.le_trans (by decide) hdd) rfl (dcN_14 dcg_142 :) rfl (Nat.le_of_ble_eq_true rfl) ?_
          obtain ⟨g21, e22, h⟩ := hBe h
          refine AW.iast kc_36 sk_36 k6 (dcN_15 dcg_142 :) e22 ?_
          refine AW.goto (tgt := 133) (dcN_16 dcg_142 :) (by decide) ?_
          refine AW.sub (lv1 := [(0, rv z 4), (1, iv (g 42 (ix (g 4 6)))), (2, iv (g 3 3))]) [2, 1, 0] rfl ?_
          cases h
          exact J80
      · replace h := hT h c11
        refine AW.aloadr_n 2 (dcN_9 dcg_141 :) rfl ?_
        obtain ⟨r23, e24, h⟩ := hC h
        refine AW.callVv (As := []) (st := []) (Parser_readTunnel_ok e24) cq_X4_119 cr_4_X4_readTunnel (Nat.le_trans (by decide) hdd) rfl (dcN_10 dcg_141 :) rfl (Nat.le_of_ble_eq_true rfl) ?_
        refine AW.goto (tgt := 133) (dcN_11 dcg_141 :) (by decide) ?_
        refine AW.sub (lv1 := [(0, rv z 4), (1, iv (g 42 (ix (g 4 6)))), (2, iv (g 3 3))]) [2, 1, 0] rfl ?_
        cases h
        exact J80
    · replace h := hF h c3
      refine AW.aloadr_n 2 (dcN_4 dcg_140 :) rfl ?_
      refine AW.iconst (dcN_5 dcg_140 :) ?_
      obtain ⟨r45, e46, h⟩ := hC h
      refine AW.callVv (As := [iv 3]) (st := []) (Parser_fail_ok e46) cq_X4_103 cr_4_X4_fail (Nat.le_trans (by decide) hdd) rfl (dcN_6 dcg_140 :) rfl (Nat.le_of_ble_eq_true rfl) ?_
      exact AW.vret1 rfl (dcN_7 dcg_140 :) h rfl
  · replace h := hT h c2
    refine AW.aloadr_n 2 (dcN_15 dcg_139 :) rfl ?_
    refine AW.iconst (dcN_16 dcg_139 :) ?_
    obtain ⟨r47, e48, h⟩ := hC h
    refine AW.callVv (As := [iv 1]) (st := []) (Parser_fail_ok e48) cq_X4_103 cr_4_X4_fail (Nat.le_trans (by decide) hdd) rfl (dcN_17 dcg_139 :) rfl (Nat.le_of_ble_eq_true rfl) ?_
    exact AW.vret1 rfl (dcN_0 dcg_140 :) h rfl
set_option synthInstance.maxHeartbeats 2000000 in
theorem Parser_read_b_ok {z : AZ} {d : Nat} (hdd : 42 ≤ d) : ∀ (tag : Nat) (x1 : Int) (g : AG) (r : Int × AG), Parser_read_b tag x1 g = some r → (tag = 1 → AW z (RX4, cX4_read, 2, (some .int)) d (QD (some .int) r) 28 [(0, rv z 4), (1, iv x1)] [] g) ∧ (tag = 2 → AW z (RX4, cX4_read, 2, (some .int)) d (QD (some .int) r) 63 [(0, rv z 4)] [] g) := by
  refine Parser_read_b.partial_correctness (fun tag x1 g r => (tag = 1 → AW z (RX4, cX4_read, 2, (some .int)) d (QD (some .int) r) 28 [(0, rv z 4), (1, iv x1)] [] g) ∧ (tag = 2 → AW z (RX4, cX4_read, 2, (some .int)) d (QD (some .int) r) 63 [(0, rv z 4)] [] g)) ?_
  intro fb9 ih tag x1 g r h
  refine ⟨fun h9 => ?_, fun h9 => ?_⟩
  · subst h9
    replace h := hT h rfl
    refine AW.iload_n 1 (dcN_16 dcg_108 :) rfl ?_
    refine AW.bipush (dcN_17 dcg_108 :) (by decide) (by decide) ?_
    refine AW.icmp_gt (tgt := 63) (dcN_18 dcg_108 :) (by decide) (fun c1 => ?_) (fun c1 => ?_)
    · replace h := hT h c1
      refine AW.sub (lv1 := [(0, rv z 4)]) [0] rfl ?_
      exact (ih _ _ _ _ h).2 rfl
    · replace h := hF h c1
      refine AW.aloadr_n 0 (dcN_0 dcg_109 :) rfl ?_
      refine AW.getI af_X4_32_4 sr_4_7 (dcN_1 dcg_109 :) ?_
      refine AW.if_ne (tgt := 63) (dcN_2 dcg_109 :) (by decide) (fun c2 => ?_) (fun c2 => ?_)
      · replace h := hF h c2
        refine AW.sub (lv1 := [(0, rv z 4)]) [0] rfl ?_
        exact (ih _ _ _ _ h).2 rfl
      · replace h := hT h c2
        refine AW.aloadr_n 0 (dcN_3 dcg_109 :) rfl ?_
        refine AW.getR af_X4_15_4 sr_4_3 (dcN_4 dcg_109 :) ?_
        refine AW.aloadr_n 0 (dcN_5 dcg_109 :) rfl ?_
        refine AW.getI af_X4_35_4 sr_4_6 (dcN_6 dcg_109 :) ?_
        obtain ⟨k3, h⟩ := hK h
        refine AW.iald kc_42 sk_42 k3 (dcN_7 dcg_109 :) ?_
        refine AW.if_eq (tgt := 63) (dcN_8 dcg_109 :) (by decide) (fun c4 => ?_) (fun c4 => ?_)
        · replace h := hT h c4
          refine AW.sub (lv1 := [(0, rv z 4)]) [0] rfl ?_
          exact (ih _ _ _ _ h).2 rfl
        · replace h := hF h c4
          refine AW.aloadr_n 0 (dcN_9 dcg_109 :) rfl ?_
          obtain ⟨r5, e6, h⟩ := hC h
          refine AW.callVv (As := []) (st := []) (Parser_readLine_ok e6) cq_X4_46 cr_4_X4_readLine (Nat.le_trans (by decide) hdd) rfl (dcN_10 dcg_109 :) rfl (Nat.le_of_ble_eq_true rfl) ?_
          refine AW.iinc (lv1 := [(1, iv (x1 + 1)), (0, rv z 4)]) 1 (dcN_11 dcg_109 :) rfl (by decide) rfl ?_
          refine AW.goto (tgt := 28) (dcN_12 dcg_109 :) (by decide) ?_
          refine AW.sub (lv1 := [(0, rv z 4), (1, iv (x1 + 1))]) [1, 0] rfl ?_
          exact (ih _ _ _ _ h).1 rfl
  · subst h9
    replace h := hF h (by decide)
    replace h := hT h rfl
    refine AW.aloadr_n 0 (dcN_13 dcg_109 :) rfl ?_
    refine AW.iconst (dcN_0 dcg_110 :) ?_
    obtain ⟨g1, e2, h⟩ := hBe h
    refine AW.putI ap_X4_29_4 sr_4_2 (dcN_1 dcg_110 :) e2 ?_
    refine AW.aloadr_n 0 (dcN_2 dcg_110 :) rfl ?_
    refine AW.getI af_X4_32_4 sr_4_7 (dcN_3 dcg_110 :) ?_
    obtain ⟨t3, e4, h⟩ := hBe h
    refine AW.join (tgt := 86) (lv1 := [(0, rv z 4)]) (st1 := [iv t3]) (g1 := g1) ?_ (fun J72 => ?_)
    · exact AW.iret1 rfl (dcN_10 dcg_110 :) h rfl
    refine AW.if_ne (tgt := 85) (dcN_4 dcg_110 :) (by decide) (fun c5 => ?_) (fun c5 => ?_)
    · refine AW.iconst (dcN_9 dcg_110 :) ?_
      exact AW.val (e4.trans (if_neg c5)) J72
    · refine AW.aloadr_n 0 (dcN_5 dcg_110 :) rfl ?_
      refine AW.getR af_X4_25_4 sr_4_0 (dcN_6 dcg_110 :) ?_
      refine AW.getI af_X4_49_3 sr_3_3 (dcN_7 dcg_110 :) ?_
      refine AW.goto (tgt := 86) (dcN_8 dcg_110 :) (by decide) ?_
      exact AW.val (e4.trans (if_pos c5)) J72
theorem Parser_read_ok {z : AZ} {g : AG} {r : Int × AG} (h : Parser_read g = some r) : AMf z yX4_read cX4_read 2 (some .int) 42 [rv z 4] g r := by
  intro d hdd
  refine AM.of (by decide +kernel) (Nat.le_of_ble_eq_true rfl) ?_
  show AW z (RX4, cX4_read, 2, (some .int)) d (QD (some .int) r) 0 [(0, rv z 4)] [] g
  unfold Parser_read at h
  refine AW.aloadr_n 0 (dcN_0 dcg_108 :) rfl ?_
  refine AW.iconst (dcN_1 dcg_108 :) ?_
  obtain ⟨g1, e2, h⟩ := hBe h
  refine AW.putI ap_X4_32_4 sr_4_7 (dcN_2 dcg_108 :) e2 ?_
  refine AW.aloadr_n 0 (dcN_3 dcg_108 :) rfl ?_
  refine AW.iconst (dcN_4 dcg_108 :) ?_
  obtain ⟨g3, e4, h⟩ := hBe h
  refine AW.putI ap_X4_21_4 sr_4_8 (dcN_5 dcg_108 :) e4 ?_
  refine AW.aloadr_n 0 (dcN_6 dcg_108 :) rfl ?_
  refine AW.iconst (dcN_7 dcg_108 :) ?_
  obtain ⟨g5, e6, h⟩ := hBe h
  refine AW.putI ap_X4_35_4 sr_4_6 (dcN_8 dcg_108 :) e6 ?_
  refine AW.aloadr_n 0 (dcN_9 dcg_108 :) rfl ?_
  refine AW.getR af_X4_25_4 sr_4_0 (dcN_10 dcg_108 :) ?_
  obtain ⟨r7, e8, h⟩ := hC h
  refine AW.callVv (As := []) (st := []) (Rules_clear_ok e8) cq_X4_38 cr_3_X6_clear (Nat.le_trans (by decide) hdd) rfl (dcN_11 dcg_108 :) rfl (Nat.le_of_ble_eq_true rfl) ?_
  refine AW.aloadr_n 0 (dcN_12 dcg_108 :) rfl ?_
  obtain ⟨r9, e10, h⟩ := hC h
  refine AW.callVv (As := []) (st := []) (Parser_scan_ok e10) cq_X4_43 cr_4_X4_scan (Nat.le_trans (by decide) hdd) rfl (dcN_13 dcg_108 :) rfl (Nat.le_of_ble_eq_true rfl) ?_
  refine AW.iconst (dcN_14 dcg_108 :) ?_
  refine AW.istore_n (lv1 := [(1, iv 0), (0, rv z 4)]) (dcN_15 dcg_108 :) (by decide) rfl ?_
  refine AW.sub (lv1 := [(0, rv z 4), (1, iv 0)]) [1, 0] rfl ?_
  exact (Parser_read_b_ok hdd _ _ _ _ h).1 rfl
end
section
theorem Rules_takeOver_ok {z : AZ} {g : AG} {r : Int × AG} (h : Rules_takeOver g = some r) : AMf z yX6_takeOver cX6_takeOver 2 none 1 [rv z 2, rv z 3] g r := by
  intro d hdd
  refine AM.of (by decide +kernel) (Nat.le_of_ble_eq_true rfl) ?_
  show AW z (RX6, cX6_takeOver, 2, none) d (QD none r) 0 [(0, rv z 2), (1, rv z 3)] [] g
  unfold Rules_takeOver at h
  refine AW.aloadr_n 0 (dcN_0 dcg_190 :) rfl ?_
  refine AW.aloadr_n 1 (dcN_1 dcg_190 :) rfl ?_
  refine AW.getI af_X6_48_3 sr_3_2 (dcN_2 dcg_190 :) ?_
  obtain ⟨g1, e2, h⟩ := hBe h
  refine AW.putI ap_X6_48_2 sr_2_2 (dcN_3 dcg_190 :) e2 ?_
  refine AW.aloadr_n 0 (dcN_4 dcg_190 :) rfl ?_
  refine AW.aloadr_n 1 (dcN_5 dcg_190 :) rfl ?_
  refine AW.getI af_X6_52_3 sr_3_3 (dcN_6 dcg_190 :) ?_
  obtain ⟨g3, e4, h⟩ := hBe h
  refine AW.putI ap_X6_52_2 sr_2_3 (dcN_7 dcg_190 :) e4 ?_
  refine AW.aloadr_n 0 (dcN_8 dcg_190 :) rfl ?_
  refine AW.aloadr_n 1 (dcN_9 dcg_190 :) rfl ?_
  refine AW.getI af_X6_55_3 sr_3_10 (dcN_10 dcg_190 :) ?_
  obtain ⟨g5, e6, h⟩ := hBe h
  refine AW.putI ap_X6_55_2 sr_2_10 (dcN_11 dcg_190 :) e6 ?_
  refine AW.aloadr_n 1 (dcN_12 dcg_190 :) rfl ?_
  refine AW.getR af_X6_9_3 sr_3_0 (dcN_13 dcg_190 :) ?_
  refine AW.iconst (dcN_14 dcg_190 :) ?_
  refine AW.aloadr_n 0 (dcN_15 dcg_190 :) rfl ?_
  refine AW.getR af_X6_9_2 sr_2_0 (dcN_16 dcg_190 :) ?_
  refine AW.iconst (dcN_0 dcg_191 :) ?_
  refine AW.sipush (dcN_1 dcg_191 :) (by decide) (by decide) ?_
  obtain ⟨g8, e9, h⟩ := hBe h
  refine AW.copyi cc_X6_64 ac_n ac_s ac_i kc_29 sk_29 kc_17 sk_17 (by decide) (Nat.le_of_ble_eq_true rfl) (Nat.le_trans (by decide) hdd) (dcN_2 dcg_191 :) e9 ?_
  refine AW.aloadr_n 1 (dcN_3 dcg_191 :) rfl ?_
  refine AW.getR af_X6_15_3 sr_3_1 (dcN_4 dcg_191 :) ?_
  refine AW.iconst (dcN_5 dcg_191 :) ?_
  refine AW.aloadr_n 0 (dcN_6 dcg_191 :) rfl ?_
  refine AW.getR af_X6_15_2 sr_2_1 (dcN_7 dcg_191 :) ?_
  refine AW.iconst (dcN_8 dcg_191 :) ?_
  refine AW.sipush (dcN_9 dcg_191 :) (by decide) (by decide) ?_
  obtain ⟨g11, e12, h⟩ := hBe h
  refine AW.copyi cc_X6_64 ac_n ac_s ac_i kc_30 sk_30 kc_18 sk_18 (by decide) (Nat.le_of_ble_eq_true rfl) (Nat.le_trans (by decide) hdd) (dcN_10 dcg_191 :) e12 ?_
  refine AW.aloadr_n 1 (dcN_11 dcg_191 :) rfl ?_
  refine AW.getR af_X6_18_3 sr_3_4 (dcN_12 dcg_191 :) ?_
  refine AW.iconst (dcN_13 dcg_191 :) ?_
  refine AW.aloadr_n 0 (dcN_14 dcg_191 :) rfl ?_
  refine AW.getR af_X6_18_2 sr_2_4 (dcN_15 dcg_191 :) ?_
  refine AW.iconst (dcN_0 dcg_192 :) ?_
  refine AW.bipush (dcN_1 dcg_192 :) (by decide) (by decide) ?_
  obtain ⟨g14, e15, h⟩ := hBe h
  refine AW.copyi cc_X6_64 ac_n ac_s ac_i kc_31 sk_31 kc_19 sk_19 (by decide) (Nat.le_of_ble_eq_true rfl) (Nat.le_trans (by decide) hdd) (dcN_2 dcg_192 :) e15 ?_
  refine AW.aloadr_n 1 (dcN_3 dcg_192 :) rfl ?_
  refine AW.getR af_X6_21_3 sr_3_5 (dcN_4 dcg_192 :) ?_
  refine AW.iconst (dcN_5 dcg_192 :) ?_
  refine AW.aloadr_n 0 (dcN_6 dcg_192 :) rfl ?_
  refine AW.getR af_X6_21_2 sr_2_5 (dcN_7 dcg_192 :) ?_
  refine AW.iconst (dcN_8 dcg_192 :) ?_
  refine AW.bipush (dcN_9 dcg_192 :) (by decide) (by decide) ?_
  obtain ⟨g17, e18, h⟩ := hBe h
  refine AW.copyi cc_X6_64 ac_n ac_s ac_i kc_32 sk_32 kc_20 sk_20 (by decide) (Nat.le_of_ble_eq_true rfl) (Nat.le_trans (by decide) hdd) (dcN_10 dcg_192 :) e18 ?_
  refine AW.aloadr_n 1 (dcN_11 dcg_192 :) rfl ?_
  refine AW.getR af_X6_24_3 sr_3_6 (dcN_12 dcg_192 :) ?_
  refine AW.iconst (dcN_13 dcg_192 :) ?_
  refine AW.aloadr_n 0 (dcN_14 dcg_192 :) rfl ?_
  refine AW.getR af_X6_24_2 sr_2_6 (dcN_15 dcg_192 :) ?_
  refine AW.iconst (dcN_16 dcg_192 :) ?_
  refine AW.bipush (dcN_0 dcg_193 :) (by decide) (by decide) ?_
  obtain ⟨g20, e21, h⟩ := hBe h
  refine AW.copyi cc_X6_64 ac_n ac_s ac_i kc_33 sk_33 kc_21 sk_21 (by decide) (Nat.le_of_ble_eq_true rfl) (Nat.le_trans (by decide) hdd) (dcN_1 dcg_193 :) e21 ?_
  refine AW.aloadr_n 1 (dcN_2 dcg_193 :) rfl ?_
  refine AW.getR af_X6_27_3 sr_3_7 (dcN_3 dcg_193 :) ?_
  refine AW.iconst (dcN_4 dcg_193 :) ?_
  refine AW.aloadr_n 0 (dcN_5 dcg_193 :) rfl ?_
  refine AW.getR af_X6_27_2 sr_2_7 (dcN_6 dcg_193 :) ?_
  refine AW.iconst (dcN_7 dcg_193 :) ?_
  refine AW.bipush (dcN_8 dcg_193 :) (by decide) (by decide) ?_
  obtain ⟨g23, e24, h⟩ := hBe h
  refine AW.copyi cc_X6_64 ac_n ac_s ac_i kc_34 sk_34 kc_22 sk_22 (by decide) (Nat.le_of_ble_eq_true rfl) (Nat.le_trans (by decide) hdd) (dcN_9 dcg_193 :) e24 ?_
  refine AW.aloadr_n 1 (dcN_10 dcg_193 :) rfl ?_
  refine AW.getR af_X6_30_3 sr_3_8 (dcN_11 dcg_193 :) ?_
  refine AW.iconst (dcN_12 dcg_193 :) ?_
  refine AW.aloadr_n 0 (dcN_13 dcg_193 :) rfl ?_
  refine AW.getR af_X6_30_2 sr_2_8 (dcN_14 dcg_193 :) ?_
  refine AW.iconst (dcN_15 dcg_193 :) ?_
  refine AW.bipush (dcN_16 dcg_193 :) (by decide) (by decide) ?_
  obtain ⟨g26, e27, h⟩ := hBe h
  refine AW.copyi cc_X6_64 ac_n ac_s ac_i kc_35 sk_35 kc_23 sk_23 (by decide) (Nat.le_of_ble_eq_true rfl) (Nat.le_trans (by decide) hdd) (dcN_0 dcg_194 :) e27 ?_
  refine AW.aloadr_n 1 (dcN_1 dcg_194 :) rfl ?_
  refine AW.getR af_X6_33_3 sr_3_9 (dcN_2 dcg_194 :) ?_
  refine AW.iconst (dcN_3 dcg_194 :) ?_
  refine AW.aloadr_n 0 (dcN_4 dcg_194 :) rfl ?_
  refine AW.getR af_X6_33_2 sr_2_9 (dcN_5 dcg_194 :) ?_
  refine AW.iconst (dcN_6 dcg_194 :) ?_
  refine AW.bipush (dcN_7 dcg_194 :) (by decide) (by decide) ?_
  obtain ⟨g29, e30, h⟩ := hBe h
  refine AW.copyi cc_X6_64 ac_n ac_s ac_i kc_36 sk_36 kc_24 sk_24 (by decide) (Nat.le_of_ble_eq_true rfl) (Nat.le_trans (by decide) hdd) (dcN_8 dcg_194 :) e30 ?_
  refine AW.aloadr_n 1 (dcN_9 dcg_194 :) rfl ?_
  refine AW.getR af_X6_36_3 sr_3_11 (dcN_10 dcg_194 :) ?_
  refine AW.iconst (dcN_11 dcg_194 :) ?_
  refine AW.aloadr_n 0 (dcN_12 dcg_194 :) rfl ?_
  refine AW.getR af_X6_36_2 sr_2_11 (dcN_13 dcg_194 :) ?_
  refine AW.iconst (dcN_14 dcg_194 :) ?_
  refine AW.bipush (dcN_15 dcg_194 :) (by decide) (by decide) ?_
  obtain ⟨g32, e33, h⟩ := hBe h
  refine AW.copyi cc_X6_64 ac_n ac_s ac_i kc_37 sk_37 kc_25 sk_25 (by decide) (Nat.le_of_ble_eq_true rfl) (Nat.le_trans (by decide) hdd) (dcN_16 dcg_194 :) e33 ?_
  refine AW.aloadr_n 1 (dcN_0 dcg_195 :) rfl ?_
  refine AW.getR af_X6_39_3 sr_3_12 (dcN_1 dcg_195 :) ?_
  refine AW.iconst (dcN_2 dcg_195 :) ?_
  refine AW.aloadr_n 0 (dcN_3 dcg_195 :) rfl ?_
  refine AW.getR af_X6_39_2 sr_2_12 (dcN_4 dcg_195 :) ?_
  refine AW.iconst (dcN_5 dcg_195 :) ?_
  refine AW.bipush (dcN_6 dcg_195 :) (by decide) (by decide) ?_
  obtain ⟨g35, e36, h⟩ := hBe h
  refine AW.copyi cc_X6_64 ac_n ac_s ac_i kc_38 sk_38 kc_26 sk_26 (by decide) (Nat.le_of_ble_eq_true rfl) (Nat.le_trans (by decide) hdd) (dcN_7 dcg_195 :) e36 ?_
  exact AW.vret1 rfl (dcN_8 dcg_195 :) h rfl
theorem X_rules_ok {z : AZ} {g : AG} {r : Int × AG} (h : X_rules g = some r) : AMf z yX11_rules cX11_rules 2 (some .int) 43 [rv z 0] g r := by
  intro d hdd
  refine AM.of (by decide +kernel) (Nat.le_of_ble_eq_true rfl) ?_
  show AW z (RX11, cX11_rules, 2, (some .int)) d (QD (some .int) r) 0 [(0, rv z 0)] [] g
  unfold X_rules at h
  refine AW.aloadr_n 0 (dcN_0 dcg_368 :) rfl ?_
  refine AW.getR af_X11_31_0 sr_0_3 (dcN_1 dcg_368 :) ?_
  obtain ⟨r1, e2, h⟩ := hC h
  refine AW.callVi (As := []) (st := []) (Parser_read_ok e2) cq_X11_157 cr_4_X4_read (Nat.le_trans (by decide) hdd) rfl (dcN_2 dcg_368 :) rfl (Nat.le_of_ble_eq_true rfl) ?_
  refine AW.istore_n (lv1 := [(1, iv r1.1), (0, rv z 0)]) (dcN_3 dcg_368 :) (by decide) rfl ?_
  refine AW.iload_n 0 (dcN_4 dcg_368 :) rfl ?_
  refine AW.iconst (dcN_5 dcg_368 :) ?_
  refine AW.icmp_ne (tgt := 15) (dcN_6 dcg_368 :) (by decide) (fun c3 => ?_) (fun c3 => ?_)
  · replace h := hF h c3
    refine AW.aloadr_n 1 (dcN_9 dcg_368 :) rfl ?_
    refine AW.getR af_X11_19_0 sr_0_1 (dcN_10 dcg_368 :) ?_
    refine AW.aloadr_n 1 (dcN_11 dcg_368 :) rfl ?_
    refine AW.getR af_X11_23_0 sr_0_2 (dcN_0 dcg_369 :) ?_
    obtain ⟨r4, e5, h⟩ := hC h
    refine AW.callVv (As := [rv z 3]) (st := []) (Rules_takeOver_ok e5) cq_X11_161 cr_2_X6_takeOver (Nat.le_trans (by decide) hdd) rfl (dcN_1 dcg_369 :) rfl (Nat.le_of_ble_eq_true rfl) ?_
    refine AW.aloadr_n 1 (dcN_2 dcg_369 :) rfl ?_
    refine AW.getR af_X11_40_0 sr_0_4 (dcN_3 dcg_369 :) ?_
    obtain ⟨r6, e7, h⟩ := hC h
    refine AW.callVv (As := []) (st := []) (Voyage_learnHours_ok e7) cq_X11_130 cr_5_X9_learnHours (Nat.le_trans (by decide) hdd) rfl (dcN_4 dcg_369 :) rfl (Nat.le_of_ble_eq_true rfl) ?_
    refine AW.iload_n 0 (dcN_5 dcg_369 :) rfl ?_
    exact AW.iret1 rfl (dcN_6 dcg_369 :) h rfl
  · replace h := hT h c3
    refine AW.iconst (dcN_7 dcg_368 :) ?_
    exact AW.iret1 rfl (dcN_8 dcg_368 :) h rfl
theorem X_fault_ok {z : AZ} {x1 : Int} {g : AG} : AMf z yX11_fault cX11_fault 2 (some .int) 0 [rv z 0, iv x1] g ((X_fault x1 g), g) := by
  intro d hdd
  refine AM.of (by decide +kernel) (Nat.le_of_ble_eq_true rfl) ?_
  show AW z (RX11, cX11_fault, 2, (some .int)) d (QD (some .int) ((X_fault x1 g), g)) 0 [(0, rv z 0), (1, iv x1)] [] g
  refine AW.iload_n 1 (dcN_0 dcg_370 :) rfl ?_
  refine AW.if_ne (tgt := 12) (dcN_1 dcg_370 :) (by decide) (fun c1 => ?_) (fun c1 => ?_)
  · refine AW.iload_n 1 (dcN_6 dcg_370 :) rfl ?_
    refine AW.iconst (dcN_7 dcg_370 :) ?_
    refine AW.join (tgt := 28) (lv1 := [(0, rv z 0), (1, iv x1)]) (st1 := [iv (if nw x1 = 1 then (g 4 8) else (-1))]) (g1 := g) ?_ (fun J14 => ?_)
    · exact AW.iret rfl (dcN_2 dcg_371 :) ⟨congrArg (fun v => some (iv v)) (show X_fault x1 g = (if nw x1 = 1 then (g 4 8) else (-1)) from ((if_neg c1))).symm, rfl⟩
    refine AW.icmp_ne (tgt := 27) (dcN_8 dcg_370 :) (by decide) (fun c2 => ?_) (fun c2 => ?_)
    · refine AW.iconst (dcN_1 dcg_371 :) ?_
      exact AW.val (if_neg c2) J14
    · refine AW.aloadr_n 0 (dcN_9 dcg_370 :) rfl ?_
      refine AW.getR af_X11_31_0 sr_0_3 (dcN_10 dcg_370 :) ?_
      refine AW.getI af_X11_167_4 sr_4_8 (dcN_11 dcg_370 :) ?_
      refine AW.goto (tgt := 28) (dcN_0 dcg_371 :) (by decide) ?_
      exact AW.val (if_pos c2) J14
  · refine AW.aloadr_n 0 (dcN_2 dcg_370 :) rfl ?_
    refine AW.getR af_X11_31_0 sr_0_3 (dcN_3 dcg_370 :) ?_
    refine AW.getI af_X11_164_4 sr_4_7 (dcN_4 dcg_370 :) ?_
    exact AW.iret rfl (dcN_5 dcg_370 :) ⟨congrArg (fun v => some (iv v)) (show X_fault x1 g = (g 4 7) from ((if_pos c1))).symm, rfl⟩
theorem X_open_ok {z : AZ} {x1 : Int} {x2 : Int} {g : AG} {r : Int} (h : X_open x1 x2 g = some r) : AMf z yX11_open cX11_open 3 (some .int) 1 [rv z 0, iv x1, iv x2] g (r, g) := by
  intro d hdd
  refine AM.of (by decide +kernel) (Nat.le_of_ble_eq_true rfl) ?_
  show AW z (RX11, cX11_open, 3, (some .int)) d (QD (some .int) (r, g)) 0 [(0, rv z 0), (1, iv x1), (2, iv x2)] [] g
  unfold X_open at h
  refine AW.iload_n 1 (dcN_0 dcg_372 :) rfl ?_
  refine AW.iconst (dcN_1 dcg_372 :) ?_
  refine AW.bipush (dcN_2 dcg_372 :) (by decide) (by decide) ?_
  refine AW.callSi (As := [iv x1, iv 0, iv 13]) (st := []) X_within_ok cq_X11_99 st_X11_within (Nat.le_trans (by decide) hdd) rfl (dcN_3 dcg_372 :) rfl (Nat.le_of_ble_eq_true rfl) ?_
  refine AW.if_ne (tgt := 12) (dcN_4 dcg_372 :) (by decide) (fun c1 => ?_) (fun c1 => ?_)
  · replace h := hF h c1
    refine AW.iload_n 2 (dcN_7 dcg_372 :) rfl ?_
    refine AW.if_ne (tgt := 26) (dcN_8 dcg_372 :) (by decide) (fun c2 => ?_) (fun c2 => ?_)
    · replace h := hF h c2
      refine AW.iload_n 2 (dcN_3 dcg_373 :) rfl ?_
      refine AW.iconst (dcN_4 dcg_373 :) ?_
      obtain ⟨r5, e6, h⟩ := hC h
      refine AW.join (tgt := 44) (lv1 := []) (st1 := [iv r5]) (g1 := g) ?_ (fun J28 => ?_)
      · exact AW.iret2 rfl (dcN_1 dcg_374 :) h rfl
      replace h := e6
      refine AW.icmp_ne (tgt := 43) (dcN_5 dcg_373 :) (by decide) (fun c3 => ?_) (fun c3 => ?_)
      · replace h := hF h c3
        refine AW.iconst (dcN_0 dcg_374 :) ?_
        refine AW.sub (lv1 := []) [] rfl ?_
        cases h
        exact J28
      · replace h := hT h c3
        refine AW.aloadr_n 0 (dcN_6 dcg_373 :) rfl ?_
        refine AW.getR af_X11_40_0 sr_0_4 (dcN_7 dcg_373 :) ?_
        refine AW.getR af_X11_173_5 sr_5_3 (dcN_8 dcg_373 :) ?_
        refine AW.iload_n 1 (dcN_9 dcg_373 :) rfl ?_
        obtain ⟨k4, h⟩ := hK h
        refine AW.iald kc_45 sk_45 k4 (dcN_10 dcg_373 :) ?_
        refine AW.goto (tgt := 44) (dcN_11 dcg_373 :) (by decide) ?_
        refine AW.sub (lv1 := []) [] rfl ?_
        cases h
        exact J28
    · replace h := hT h c2
      refine AW.aloadr_n 0 (dcN_9 dcg_372 :) rfl ?_
      refine AW.getR af_X11_40_0 sr_0_4 (dcN_10 dcg_372 :) ?_
      refine AW.getR af_X11_170_5 sr_5_2 (dcN_11 dcg_372 :) ?_
      refine AW.iload_n 1 (dcN_0 dcg_373 :) rfl ?_
      obtain ⟨k7, h⟩ := hK h
      refine AW.iald kc_44 sk_44 k7 (dcN_1 dcg_373 :) ?_
      exact AW.iret2 rfl (dcN_2 dcg_373 :) h rfl
  · replace h := hT h c1
    refine AW.iconst (dcN_5 dcg_372 :) ?_
    exact AW.iret2 rfl (dcN_6 dcg_372 :) h rfl
theorem X_isBoat_ok {z : AZ} {x1 : Int} {g : AG} : AMf z yX11_isBoat cX11_isBoat 2 (some .boolean) 1 [rv z 0, iv x1] g ((X_isBoat x1 g), g) := by
  intro d hdd
  refine AM.of (by decide +kernel) (Nat.le_of_ble_eq_true rfl) ?_
  show AW z (RX11, cX11_isBoat, 2, (some .boolean)) d (QD (some .boolean) ((X_isBoat x1 g), g)) 0 [(0, rv z 0), (1, iv x1)] [] g
  refine AW.iload_n 1 (dcN_0 dcg_350 :) rfl ?_
  refine AW.iconst (dcN_1 dcg_350 :) ?_
  refine AW.aloadr_n 0 (dcN_2 dcg_350 :) rfl ?_
  refine AW.getR af_X11_49_0 sr_0_5 (dcN_3 dcg_350 :) ?_
  refine AW.getI af_X11_103_6 sr_6_7 (dcN_4 dcg_350 :) ?_
  refine AW.iconst (dcN_5 dcg_350 :) ?_
  refine AW.isub (dcN_6 dcg_350 :) ?_
  refine AW.callSi (As := [iv x1, iv 0, iv ((g 6 7) - 1)]) (st := []) X_within_ok cq_X11_99 st_X11_within (Nat.le_trans (by decide) hdd) rfl (dcN_7 dcg_350 :) rfl (Nat.le_of_ble_eq_true rfl) ?_
  exact AW.zret rfl X_within_01 (dcN_8 dcg_350 :) ⟨congrArg (fun v => some (iv v)) (show X_isBoat x1 g = (X_within x1 0 ((g 6 7) - 1)) from rfl).symm, rfl⟩
theorem X_isTime_ok {z : AZ} {x0 : Int} {g : AG} : AMf z yX11_isTime cX11_isTime 1 (some .boolean) 1 [iv x0] g ((X_isTime x0), g) := by
  intro d hdd
  refine AM.of (by decide +kernel) (Nat.le_of_ble_eq_true rfl) ?_
  show AW z (RX11, cX11_isTime, 1, (some .boolean)) d (QD (some .boolean) ((X_isTime x0), g)) 0 [(0, iv x0)] [] g
  refine AW.iload_n 0 (dcN_0 dcg_347 :) rfl ?_
  refine AW.iconst (dcN_1 dcg_347 :) ?_
  refine AW.sipush (dcN_2 dcg_347 :) (by decide) (by decide) ?_
  refine AW.callSi (As := [iv x0, iv 0, iv 20159]) (st := []) X_within_ok cq_X11_99 st_X11_within (Nat.le_trans (by decide) hdd) rfl (dcN_3 dcg_347 :) rfl (Nat.le_of_ble_eq_true rfl) ?_
  exact AW.zret rfl X_within_01 (dcN_4 dcg_347 :) ⟨congrArg (fun v => some (iv v)) (show X_isTime x0  = (X_within x0 0 20159) from rfl).symm, rfl⟩
theorem X_isWay_ok {z : AZ} {x1 : Int} {x2 : Int} {x3 : Int} {x4 : Int} {g : AG} : AMf z yX11_isWay cX11_isWay 5 (some .boolean) 2 [rv z 0, iv x1, iv x2, iv x3, iv x4] g ((X_isWay x1 x2 x3 x4 g), g) := by
  intro d hdd
  refine AM.of (by decide +kernel) (Nat.le_of_ble_eq_true rfl) ?_
  show AW z (RX11, cX11_isWay, 5, (some .boolean)) d (QD (some .boolean) ((X_isWay x1 x2 x3 x4 g), g)) 0 [(0, rv z 0), (1, iv x1), (2, iv x2), (3, iv x3), (4, iv x4)] [] g
  refine AW.aloadr_n 0 (dcN_0 dcg_351 :) rfl ?_
  refine AW.iload_n 1 (dcN_1 dcg_351 :) rfl ?_
  refine AW.callVi (As := [iv x1]) (st := []) X_isBoat_ok cq_X11_107 cr_0_X11_isBoat (Nat.le_trans (by decide) hdd) rfl (dcN_2 dcg_351 :) rfl (Nat.le_of_ble_eq_true rfl) ?_
  refine AW.join (tgt := 35) (lv1 := [(0, rv z 0), (1, iv x1), (2, iv x2), (3, iv x3), (4, iv x4)]) (st1 := [iv (if nw (X_isBoat x1 g) = 0 then 0 else (if nw (X_isPoint x2) = 0 then 0 else (if nw (X_isPoint x3) = 0 then 0 else (if nw (X_isTime x4) = 0 then 0 else 1))))]) (g1 := g) ?_ (fun J5 => ?_)
  · exact AW.zret rfl (by (repeat' split) <;> first | exact Or.inl rfl | exact Or.inr rfl) (dcN_4 dcg_352 :) ⟨congrArg (fun v => some (iv v)) (show X_isWay x1 x2 x3 x4 g = (if nw (X_isBoat x1 g) = 0 then 0 else (if nw (X_isPoint x2) = 0 then 0 else (if nw (X_isPoint x3) = 0 then 0 else (if nw (X_isTime x4) = 0 then 0 else 1)))) from rfl).symm, rfl⟩
  refine AW.if_eq (tgt := 34) (dcN_3 dcg_351 :) (by decide) (fun c1 => ?_) (fun c1 => ?_)
  · refine AW.iconst (dcN_3 dcg_352 :) ?_
    exact AW.val (if_pos c1) J5
  · refine AW.iload_n 2 (dcN_4 dcg_351 :) rfl ?_
    refine AW.callSi (As := [iv x2]) (st := []) X_isPoint_ok cq_X11_111 st_X11_isPoint (Nat.le_trans (by decide) hdd) rfl (dcN_5 dcg_351 :) rfl (Nat.le_of_ble_eq_true rfl) ?_
    refine AW.if_eq (tgt := 34) (dcN_6 dcg_351 :) (by decide) (fun c2 => ?_) (fun c2 => ?_)
    · refine AW.iconst (dcN_3 dcg_352 :) ?_
      exact AW.val ((if_neg c1).trans (if_pos c2)) J5
    · refine AW.iload_n 3 (dcN_7 dcg_351 :) rfl ?_
      refine AW.callSi (As := [iv x3]) (st := []) X_isPoint_ok cq_X11_111 st_X11_isPoint (Nat.le_trans (by decide) hdd) rfl (dcN_8 dcg_351 :) rfl (Nat.le_of_ble_eq_true rfl) ?_
      refine AW.if_eq (tgt := 34) (dcN_9 dcg_351 :) (by decide) (fun c3 => ?_) (fun c3 => ?_)
      · refine AW.iconst (dcN_3 dcg_352 :) ?_
        exact AW.val ((if_neg c1).trans ((if_neg c2).trans (if_pos c3))) J5
      · refine AW.iload 4 (dcN_10 dcg_351 :) rfl ?_
        refine AW.callSi (As := [iv x4]) (st := []) X_isTime_ok cq_X11_114 st_X11_isTime (Nat.le_trans (by decide) hdd) rfl (dcN_11 dcg_351 :) rfl (Nat.le_of_ble_eq_true rfl) ?_
        refine AW.if_eq (tgt := 34) (dcN_0 dcg_352 :) (by decide) (fun c4 => ?_) (fun c4 => ?_)
        · refine AW.iconst (dcN_3 dcg_352 :) ?_
          exact AW.val ((if_neg c1).trans ((if_neg c2).trans ((if_neg c3).trans (if_pos c4)))) J5
        · refine AW.iconst (dcN_1 dcg_352 :) ?_
          refine AW.goto (tgt := 35) (dcN_2 dcg_352 :) (by decide) ?_
          exact AW.val ((if_neg c1).trans ((if_neg c2).trans ((if_neg c3).trans (if_neg c4)))) J5
theorem Voyage_setOut_ok {z : AZ} {x1 : Int} {x2 : Int} {g : AG} {r : Int × AG} (h : Voyage_setOut x1 x2 g = some r) : AMf z yX9_setOut cX9_setOut 3 none 1 [rv z 5, iv x1, iv x2] g r := by
  intro d hdd
  refine AM.of (by decide +kernel) (Nat.le_of_ble_eq_true rfl) ?_
  show AW z (RX9, cX9_setOut, 3, none) d (QD none r) 0 [(0, rv z 5), (1, iv x1), (2, iv x2)] [] g
  unfold Voyage_setOut at h
  refine AW.aloadr_n 0 (dcN_0 dcg_275 :) rfl ?_
  refine AW.bipush (dcN_1 dcg_275 :) (by decide) (by decide) ?_
  refine AW.bipush (dcN_2 dcg_275 :) (by decide) (by decide) ?_
  refine AW.iload_n 1 (dcN_3 dcg_275 :) rfl ?_
  refine AW.isub (dcN_4 dcg_275 :) ?_
  refine AW.bipush (dcN_5 dcg_275 :) (by decide) (by decide) ?_
  refine AW.idiv (dcN_6 dcg_275 :) (by decide) ?_
  refine AW.iadd (dcN_7 dcg_275 :) ?_
  obtain ⟨g1, e2, h⟩ := hBe h
  refine AW.putI ap_X9_60_5 sr_5_6 (dcN_8 dcg_275 :) e2 ?_
  refine AW.aloadr_n 0 (dcN_9 dcg_275 :) rfl ?_
  refine AW.iload_n 2 (dcN_10 dcg_275 :) rfl ?_
  obtain ⟨k3, h⟩ := hK h
  obtain ⟨g4, e5, h⟩ := hBe h
  refine AW.putZ ap_X9_63_5 sr_5_7 k3 (dcN_11 dcg_275 :) e5 ?_
  refine AW.aloadr_n 0 (dcN_0 dcg_276 :) rfl ?_
  refine AW.getR af_X9_21_5 sr_5_5 (dcN_1 dcg_276 :) ?_
  refine AW.iconst (dcN_2 dcg_276 :) ?_
  obtain ⟨g6, e7, h⟩ := hBe h
  refine AW.callSv (st := []) (fill_ok kc_47 sk_47 (by decide)) cf_X9_32 st_fill (Nat.le_trans (by decide) hdd) rfl (dcN_3 dcg_276 :) rfl (Nat.le_of_ble_eq_true rfl) ?_
  rw [← e7]
  exact AW.vret1 rfl (dcN_4 dcg_276 :) h rfl
theorem Rules_hasTunnel_2_ok {z : AZ} {x1 : Int} {g : AG} : AMf z yX6_hasTunnel cX6_hasTunnel 2 (some .boolean) 0 [rv z 2, iv x1] g ((Rules_hasTunnel_2 x1 g), g) := by
  intro d hdd
  refine AM.of (by decide +kernel) (Nat.le_of_ble_eq_true rfl) ?_
  show AW z (RX6, cX6_hasTunnel, 2, (some .boolean)) d (QD (some .boolean) ((Rules_hasTunnel_2 x1 g), g)) 0 [(0, rv z 2), (1, iv x1)] [] g
  refine AW.aloadr_n 0 (dcN_0 dcg_198 :) rfl ?_
  refine AW.getI af_X6_55_2 sr_2_10 (dcN_1 dcg_198 :) ?_
  refine AW.iload_n 1 (dcN_2 dcg_198 :) rfl ?_
  refine AW.ishr (dcN_3 dcg_198 :) ?_
  refine AW.iconst (dcN_4 dcg_198 :) ?_
  refine AW.iand (dcN_5 dcg_198 :) ?_
  refine AW.join (tgt := 16) (lv1 := [(0, rv z 2), (1, iv x1)]) (st1 := [iv (if nw (andI (shrI (g 2 10) x1) 1) = 0 then 0 else 1)]) (g1 := g) ?_ (fun J8 => ?_)
  · exact AW.zret rfl (by (repeat' split) <;> first | exact Or.inl rfl | exact Or.inr rfl) (dcN_10 dcg_198 :) ⟨congrArg (fun v => some (iv v)) (show Rules_hasTunnel_2 x1 g = (if nw (andI (shrI (g 2 10) x1) 1) = 0 then 0 else 1) from rfl).symm, rfl⟩
  refine AW.if_eq (tgt := 15) (dcN_6 dcg_198 :) (by decide) (fun c1 => ?_) (fun c1 => ?_)
  · refine AW.iconst (dcN_9 dcg_198 :) ?_
    exact AW.val (if_pos c1) J8
  · refine AW.iconst (dcN_7 dcg_198 :) ?_
    refine AW.goto (tgt := 16) (dcN_8 dcg_198 :) (by decide) ?_
    exact AW.val (if_neg c1) J8
theorem Rules_isTunnel_ok {z : AZ} {x1 : Int} {g : AG} : AMf z yX6_isTunnel cX6_isTunnel 2 (some .boolean) 1 [rv z 2, iv x1] g ((Rules_isTunnel x1 g), g) := by
  intro d hdd
  refine AM.of (by decide +kernel) (Nat.le_of_ble_eq_true rfl) ?_
  show AW z (RX6, cX6_isTunnel, 2, (some .boolean)) d (QD (some .boolean) ((Rules_isTunnel x1 g), g)) 0 [(0, rv z 2), (1, iv x1)] [] g
  refine AW.aloadr_n 0 (dcN_0 dcg_199 :) rfl ?_
  refine AW.iload_n 1 (dcN_1 dcg_199 :) rfl ?_
  refine AW.callVi (As := [iv x1]) (st := []) Rules_hasTunnel_2_ok cq_X6_70 cr_2_X6_hasTunnel (Nat.le_trans (by decide) hdd) rfl (dcN_2 dcg_199 :) rfl (Nat.le_of_ble_eq_true rfl) ?_
  refine AW.join (tgt := 24) (lv1 := [(0, rv z 2), (1, iv x1)]) (st1 := [iv (if nw (Rules_hasTunnel_2 x1 g) = 0 then (if nw (Rules_hasTunnel_2 (15 + x1) g) = 0 then 0 else 1) else 1)]) (g1 := g) ?_ (fun J5 => ?_)
  · exact AW.zret rfl (by (repeat' split) <;> first | exact Or.inl rfl | exact Or.inr rfl) (dcN_1 dcg_200 :) ⟨congrArg (fun v => some (iv v)) (show Rules_isTunnel x1 g = (if nw (Rules_hasTunnel_2 x1 g) = 0 then (if nw (Rules_hasTunnel_2 (15 + x1) g) = 0 then 0 else 1) else 1) from rfl).symm, rfl⟩
  refine AW.if_ne (tgt := 19) (dcN_3 dcg_199 :) (by decide) (fun c1 => ?_) (fun c1 => ?_)
  · refine AW.iconst (dcN_10 dcg_199 :) ?_
    refine AW.goto (tgt := 24) (dcN_11 dcg_199 :) (by decide) ?_
    exact AW.val (if_neg c1) J5
  · refine AW.aloadr_n 0 (dcN_4 dcg_199 :) rfl ?_
    refine AW.bipush (dcN_5 dcg_199 :) (by decide) (by decide) ?_
    refine AW.iload_n 1 (dcN_6 dcg_199 :) rfl ?_
    refine AW.iadd (dcN_7 dcg_199 :) ?_
    refine AW.callVi (As := [iv (15 + x1)]) (st := []) Rules_hasTunnel_2_ok cq_X6_70 cr_2_X6_hasTunnel (Nat.le_trans (by decide) hdd) rfl (dcN_8 dcg_199 :) rfl (Nat.le_of_ble_eq_true rfl) ?_
    refine AW.if_eq (tgt := 23) (dcN_9 dcg_199 :) (by decide) (fun c2 => ?_) (fun c2 => ?_)
    · refine AW.iconst (dcN_0 dcg_200 :) ?_
      exact AW.val ((if_pos c1).trans (if_pos c2)) J5
    · refine AW.iconst (dcN_10 dcg_199 :) ?_
      refine AW.goto (tgt := 24) (dcN_11 dcg_199 :) (by decide) ?_
      exact AW.val ((if_pos c1).trans (if_neg c2)) J5
theorem Voyage_firstHour_ok {z : AZ} {x1 : Int} {x2 : Int} {x3 : Int} {g : AG} {r : Int} (h : Voyage_firstHour x1 x2 x3 g = some r) : AMf z yX9_firstHour cX9_firstHour 4 (some .int) 0 [rv z 5, iv x1, iv x2, iv x3] g (r, g) := by
  intro d hdd
  refine AM.of (by decide +kernel) (Nat.le_of_ble_eq_true rfl) ?_
  show AW z (RX9, cX9_firstHour, 4, (some .int)) d (QD (some .int) (r, g)) 0 [(0, rv z 5), (1, iv x1), (2, iv x2), (3, iv x3)] [] g
  unfold Voyage_firstHour at h
  refine AW.iload_n 2 (dcN_0 dcg_301 :) rfl ?_
  by_cases c1 : nw x2 = 1
  · replace h := hT h c1
    refine AW.tsIn (tgt := 28) 1 dX9_firstHour_1 c1 (by decide) (by decide) (by rfl) (by decide) ?_
    refine AW.aloadr_n 0 (dcN_1 dcg_301 :) rfl ?_
    refine AW.getR af_X9_9_5 sr_5_2 (dcN_2 dcg_301 :) ?_
    refine AW.iload_n 3 (dcN_0 dcg_302 :) rfl ?_
    obtain ⟨k2, h⟩ := hK h
    refine AW.iald kc_44 sk_44 k2 (dcN_1 dcg_302 :) ?_
    exact AW.iret2 rfl (dcN_2 dcg_302 :) h rfl
  · replace h := hF h c1
    by_cases c3 : nw x2 = 2
    · replace h := hT h c3
      refine AW.tsIn (tgt := 35) 2 dX9_firstHour_1 c3 (by decide) (by decide) (by rfl) (by decide) ?_
      refine AW.aloadr_n 0 (dcN_3 dcg_302 :) rfl ?_
      refine AW.getR af_X9_28_5 sr_5_1 (dcN_4 dcg_302 :) ?_
      refine AW.getR af_X9_118_2 sr_2_11 (dcN_5 dcg_302 :) ?_
      refine AW.iload_n 1 (dcN_6 dcg_302 :) rfl ?_
      obtain ⟨k4, h⟩ := hK h
      refine AW.iald kc_25 sk_25 k4 (dcN_7 dcg_302 :) ?_
      exact AW.iret2 rfl (dcN_8 dcg_302 :) h rfl
    · replace h := hF h c3
      by_cases c5 : nw x2 = 3
      · replace h := hT h c5
        refine AW.tsIn (tgt := 45) 3 dX9_firstHour_1 c5 (by decide) (by decide) (by rfl) (by decide) ?_
        refine AW.aloadr_n 0 (dcN_9 dcg_302 :) rfl ?_
        refine AW.getR af_X9_28_5 sr_5_1 (dcN_10 dcg_302 :) ?_
        refine AW.getR af_X9_118_2 sr_2_11 (dcN_11 dcg_302 :) ?_
        refine AW.bipush (dcN_12 dcg_302 :) (by decide) (by decide) ?_
        refine AW.iload_n 1 (dcN_13 dcg_302 :) rfl ?_
        refine AW.iadd (dcN_14 dcg_302 :) ?_
        obtain ⟨k6, h⟩ := hK h
        refine AW.iald kc_25 sk_25 k6 (dcN_15 dcg_302 :) ?_
        exact AW.iret2 rfl (dcN_16 dcg_302 :) h rfl
      · replace h := hF h c5
        refine AW.tsOut (tgt := 58) dX9_firstHour_1 (by omega) (by decide) ?_
        refine AW.iconst (dcN_17 dcg_302 :) ?_
        exact AW.iret2 rfl (dcN_18 dcg_302 :) h rfl
theorem Voyage_hourBehind_ok {z : AZ} {x1 : Int} {x2 : Int} {x3 : Int} {g : AG} {r : Int} (h : Voyage_hourBehind x1 x2 x3 g = some r) : AMf z yX9_hourBehind cX9_hourBehind 4 (some .int) 0 [rv z 5, iv x1, iv x2, iv x3] g (r, g) := by
  intro d hdd
  refine AM.of (by decide +kernel) (Nat.le_of_ble_eq_true rfl) ?_
  show AW z (RX9, cX9_hourBehind, 4, (some .int)) d (QD (some .int) (r, g)) 0 [(0, rv z 5), (1, iv x1), (2, iv x2), (3, iv x3)] [] g
  unfold Voyage_hourBehind at h
  refine AW.iload_n 2 (dcN_0 dcg_303 :) rfl ?_
  by_cases c1 : nw x2 = 1
  · replace h := hT h c1
    refine AW.tsIn (tgt := 28) 1 dX9_hourBehind_1 c1 (by decide) (by decide) (by rfl) (by decide) ?_
    refine AW.aloadr_n 0 (dcN_1 dcg_303 :) rfl ?_
    refine AW.getR af_X9_15_5 sr_5_3 (dcN_2 dcg_303 :) ?_
    refine AW.iload_n 3 (dcN_0 dcg_304 :) rfl ?_
    obtain ⟨k2, h⟩ := hK h
    refine AW.iald kc_45 sk_45 k2 (dcN_1 dcg_304 :) ?_
    exact AW.iret2 rfl (dcN_2 dcg_304 :) h rfl
  · replace h := hF h c1
    by_cases c3 : nw x2 = 2
    · replace h := hT h c3
      refine AW.tsIn (tgt := 35) 2 dX9_hourBehind_1 c3 (by decide) (by decide) (by rfl) (by decide) ?_
      refine AW.aloadr_n 0 (dcN_3 dcg_304 :) rfl ?_
      refine AW.getR af_X9_28_5 sr_5_1 (dcN_4 dcg_304 :) ?_
      refine AW.getR af_X9_121_2 sr_2_12 (dcN_5 dcg_304 :) ?_
      refine AW.iload_n 1 (dcN_6 dcg_304 :) rfl ?_
      obtain ⟨k4, h⟩ := hK h
      refine AW.iald kc_26 sk_26 k4 (dcN_7 dcg_304 :) ?_
      exact AW.iret2 rfl (dcN_8 dcg_304 :) h rfl
    · replace h := hF h c3
      by_cases c5 : nw x2 = 3
      · replace h := hT h c5
        refine AW.tsIn (tgt := 45) 3 dX9_hourBehind_1 c5 (by decide) (by decide) (by rfl) (by decide) ?_
        refine AW.aloadr_n 0 (dcN_9 dcg_304 :) rfl ?_
        refine AW.getR af_X9_28_5 sr_5_1 (dcN_10 dcg_304 :) ?_
        refine AW.getR af_X9_121_2 sr_2_12 (dcN_11 dcg_304 :) ?_
        refine AW.bipush (dcN_12 dcg_304 :) (by decide) (by decide) ?_
        refine AW.iload_n 1 (dcN_13 dcg_304 :) rfl ?_
        refine AW.iadd (dcN_14 dcg_304 :) ?_
        obtain ⟨k6, h⟩ := hK h
        refine AW.iald kc_26 sk_26 k6 (dcN_15 dcg_304 :) ?_
        exact AW.iret2 rfl (dcN_16 dcg_304 :) h rfl
      · replace h := hF h c5
        refine AW.tsOut (tgt := 58) dX9_hourBehind_1 (by omega) (by decide) ?_
        refine AW.bipush (dcN_17 dcg_304 :) (by decide) (by decide) ?_
        exact AW.iret2 rfl (dcN_18 dcg_304 :) h rfl
theorem Voyage_isStopped_ok {z : AZ} {x1 : Int} {x2 : Int} {g : AG} {r : Int} (h : Voyage_isStopped x1 x2 g = some r) : AMf z yX9_isStopped cX9_isStopped 3 (some .boolean) 0 [rv z 5, iv x1, iv x2] g (r, g) := by
  intro d hdd
  refine AM.of (by decide +kernel) (Nat.le_of_ble_eq_true rfl) ?_
  show AW z (RX9, cX9_isStopped, 3, (some .boolean)) d (QD (some .boolean) (r, g)) 0 [(0, rv z 5), (1, iv x1), (2, iv x2)] [] g
  unfold Voyage_isStopped at h
  refine AW.aloadr_n 0 (dcN_0 dcg_299 :) rfl ?_
  refine AW.getI af_X9_63_5 sr_5_7 (dcN_1 dcg_299 :) ?_
  obtain ⟨r6, e7, h⟩ := hC h
  refine AW.join (tgt := 28) (lv1 := []) (st1 := [iv r6]) (g1 := g) ?_ (fun J4 => ?_)
  · obtain ⟨k8, h⟩ := hK h
    exact AW.zret2 rfl k8 (dcN_4 dcg_300 :) h rfl
  replace h := e7
  refine AW.if_eq (tgt := 27) (dcN_2 dcg_299 :) (by decide) (fun c1 => ?_) (fun c1 => ?_)
  · replace h := hT h c1
    refine AW.iconst (dcN_3 dcg_300 :) ?_
    refine AW.sub (lv1 := []) [] rfl ?_
    cases h
    exact J4
  · replace h := hF h c1
    refine AW.aloadr_n 0 (dcN_3 dcg_299 :) rfl ?_
    refine AW.getR af_X9_24_5 sr_5_0 (dcN_4 dcg_299 :) ?_
    refine AW.getR af_X9_115_1 sr_1_3 (dcN_5 dcg_299 :) ?_
    refine AW.iload_n 1 (dcN_6 dcg_299 :) rfl ?_
    obtain ⟨k2, h⟩ := hK h
    refine AW.iald kc_16 sk_16 k2 (dcN_7 dcg_299 :) ?_
    refine AW.iload_n 2 (dcN_8 dcg_299 :) rfl ?_
    refine AW.ishr (dcN_9 dcg_299 :) ?_
    refine AW.iconst (dcN_10 dcg_299 :) ?_
    refine AW.iand (dcN_11 dcg_299 :) ?_
    obtain ⟨t3, e4, h⟩ := hBe h
    refine AW.join (tgt := 28) (lv1 := [(0, rv z 5), (1, iv x1), (2, iv x2)]) (st1 := [iv t3]) (g1 := g) ?_ (fun J20 => ?_)
    · refine AW.sub (lv1 := []) [] rfl ?_
      cases h
      exact J4
    refine AW.if_eq (tgt := 27) (dcN_0 dcg_300 :) (by decide) (fun c5 => ?_) (fun c5 => ?_)
    · refine AW.iconst (dcN_3 dcg_300 :) ?_
      exact AW.val (e4.trans (if_pos c5)) J20
    · refine AW.iconst (dcN_1 dcg_300 :) ?_
      refine AW.goto (tgt := 28) (dcN_2 dcg_300 :) (by decide) ?_
      exact AW.val (e4.trans (if_neg c5)) J20
set_option synthInstance.maxHeartbeats 2000000 in
theorem Voyage_begins_b_ok {z : AZ} {d : Nat} (hdd : 1 ≤ d) {x1 : Int} {x2 : Int} {x3 : Int} {g : AG} : ∀ (tag : Nat) (x4 : Int) (r : Int), Voyage_begins_b x1 x2 x3 g tag x4 = some r → (tag = 1 → AW z (RX9, cX9_begins, 8, (some .int)) d (QD (some .int) (r, g)) 13 [(0, rv z 5), (1, iv x1), (2, iv x2), (3, iv x3), (4, iv x4)] [] g) ∧ (tag = 2 → AW z (RX9, cX9_begins, 8, (some .int)) d (QD (some .int) (r, g)) 98 [(0, rv z 5), (1, iv x1), (2, iv x2), (3, iv x3), (4, iv x4)] [] g) := by
  refine Voyage_begins_b.partial_correctness x1 x2 x3 g (fun tag x4 r => (tag = 1 → AW z (RX9, cX9_begins, 8, (some .int)) d (QD (some .int) (r, g)) 13 [(0, rv z 5), (1, iv x1), (2, iv x2), (3, iv x3), (4, iv x4)] [] g) ∧ (tag = 2 → AW z (RX9, cX9_begins, 8, (some .int)) d (QD (some .int) (r, g)) 98 [(0, rv z 5), (1, iv x1), (2, iv x2), (3, iv x3), (4, iv x4)] [] g)) ?_
  intro fb9 ih tag x4 r h
  refine ⟨fun h9 => ?_, fun h9 => ?_⟩
  · subst h9
    replace h := hT h rfl
    refine AW.iload 4 (dcN_8 dcg_295 :) rfl ?_
    refine AW.bipush (dcN_9 dcg_295 :) (by decide) (by decide) ?_
    refine AW.icmp_ge (tgt := 104) (dcN_10 dcg_295 :) (by decide) (fun c1 => ?_) (fun c1 => ?_)
    · replace h := hT h c1
      refine AW.iconst (dcN_3 dcg_298 :) ?_
      exact AW.iret2 rfl (dcN_4 dcg_298 :) h rfl
    · replace h := hF h c1
      refine AW.bipush (dcN_11 dcg_295 :) (by decide) (by decide) ?_
      refine AW.aloadr_n 0 (dcN_12 dcg_295 :) rfl ?_
      refine AW.iload_n 1 (dcN_13 dcg_295 :) rfl ?_
      refine AW.iload_n 2 (dcN_14 dcg_295 :) rfl ?_
      refine AW.iload 4 (dcN_15 dcg_295 :) rfl ?_
      obtain ⟨r2, e3, h⟩ := hC h
      refine AW.callVi (As := [iv x1, iv x2, iv x4]) (st := [iv 8]) (Voyage_firstHour_ok e3) cq_X9_96 cr_5_X9_firstHour (Nat.le_trans (by decide) hdd) rfl (dcN_16 dcg_295 :) rfl (Nat.le_of_ble_eq_true rfl) ?_
      refine AW.mmax (st := []) cm_X9_99 mst_max mini mcd_max (Nat.le_trans (by decide) hdd) (Nat.le_of_ble_eq_true rfl) (dcN_17 dcg_295 :) ?_
      refine AW.istore (lv1 := [(5, iv (mxI 8 r2)), (0, rv z 5), (1, iv x1), (2, iv x2), (3, iv x3), (4, iv x4)]) (dcN_0 dcg_296 :) (by decide) rfl ?_
      refine AW.bipush (dcN_1 dcg_296 :) (by decide) (by decide) ?_
      refine AW.aloadr_n 1 (dcN_2 dcg_296 :) rfl ?_
      refine AW.iload_n 2 (dcN_3 dcg_296 :) rfl ?_
      refine AW.iload_n 3 (dcN_4 dcg_296 :) rfl ?_
      refine AW.iload 5 (dcN_5 dcg_296 :) rfl ?_
      obtain ⟨r4, e5, h⟩ := hC h
      refine AW.callVi (As := [iv x1, iv x2, iv x4]) (st := [iv 20]) (Voyage_hourBehind_ok e5) cq_X9_105 cr_5_X9_hourBehind (Nat.le_trans (by decide) hdd) rfl (dcN_6 dcg_296 :) rfl (Nat.le_of_ble_eq_true rfl) ?_
      refine AW.mmin (st := []) cm_X9_108 mst_min mini mcd_min (Nat.le_trans (by decide) hdd) (Nat.le_of_ble_eq_true rfl) (dcN_7 dcg_296 :) ?_
      refine AW.istore (lv1 := [(6, iv (mnI 20 r4)), (5, iv (mxI 8 r2)), (0, rv z 5), (1, iv x1), (2, iv x2), (3, iv x3), (4, iv x4)]) (dcN_8 dcg_296 :) (by decide) rfl ?_
      refine AW.iload_n 5 (dcN_9 dcg_296 :) rfl ?_
      refine AW.iload 6 (dcN_10 dcg_296 :) rfl ?_
      refine AW.sipush (dcN_11 dcg_296 :) (by decide) (by decide) ?_
      refine AW.imul (dcN_12 dcg_296 :) ?_
      refine AW.iload 1 (dcN_13 dcg_296 :) rfl ?_
      refine AW.bipush (dcN_14 dcg_296 :) (by decide) (by decide) ?_
      refine AW.imul (dcN_15 dcg_296 :) ?_
      refine AW.iadd (dcN_16 dcg_296 :) ?_
      refine AW.mmax (st := []) cm_X9_99 mst_max mini mcd_max (Nat.le_trans (by decide) hdd) (Nat.le_of_ble_eq_true rfl) (dcN_17 dcg_296 :) ?_
      refine AW.istore (lv1 := [(7, iv (mxI x3 ((x4 * 1440) + ((mxI 8 r2) * 60)))), (6, iv (mnI 20 r4)), (5, iv (mxI 8 r2)), (0, rv z 5), (1, iv x1), (2, iv x2), (3, iv x3), (4, iv x4)]) (dcN_0 dcg_297 :) (by decide) rfl ?_
      refine AW.iload 0 (dcN_1 dcg_297 :) rfl ?_
      refine AW.iload 7 (dcN_2 dcg_297 :) rfl ?_
      refine AW.sipush (dcN_3 dcg_297 :) (by decide) (by decide) ?_
      refine AW.imul (dcN_4 dcg_297 :) ?_
      refine AW.iload 1 (dcN_5 dcg_297 :) rfl ?_
      refine AW.bipush (dcN_6 dcg_297 :) (by decide) (by decide) ?_
      refine AW.imul (dcN_7 dcg_297 :) ?_
      refine AW.iadd (dcN_8 dcg_297 :) ?_
      refine AW.icmp_ge (tgt := 98) (dcN_9 dcg_297 :) (by decide) (fun c6 => ?_) (fun c6 => ?_)
      · replace h := hT h c6
        refine AW.sub (lv1 := [(0, rv z 5), (1, iv x1), (2, iv x2), (3, iv x3), (4, iv x4)]) [3, 4, 5, 6, 7] rfl ?_
        exact (ih _ _ _ h).2 rfl
      · replace h := hF h c6
        refine AW.aloadr_n 3 (dcN_10 dcg_297 :) rfl ?_
        refine AW.iload_n 4 (dcN_11 dcg_297 :) rfl ?_
        refine AW.iload 7 (dcN_12 dcg_297 :) rfl ?_
        obtain ⟨r7, e8, h⟩ := hC h
        refine AW.callVi (As := [iv x1, iv x4]) (st := []) (Voyage_isStopped_ok e8) cq_X9_111 cr_5_X9_isStopped (Nat.le_trans (by decide) hdd) rfl (dcN_13 dcg_297 :) rfl (Nat.le_of_ble_eq_true rfl) ?_
        refine AW.if_ne (tgt := 98) (dcN_14 dcg_297 :) (by decide) (fun c9 => ?_) (fun c9 => ?_)
        · replace h := hF h c9
          refine AW.sub (lv1 := [(0, rv z 5), (1, iv x1), (2, iv x2), (3, iv x3), (4, iv x4)]) [3, 4, 5, 6, 7] rfl ?_
          exact (ih _ _ _ h).2 rfl
        · replace h := hT h c9
          refine AW.iload 0 (dcN_15 dcg_297 :) rfl ?_
          exact AW.iret2 rfl (dcN_0 dcg_298 :) h rfl
  · subst h9
    replace h := hF h (by decide)
    replace h := hT h rfl
    refine AW.iinc (lv1 := [(4, iv (x4 + 1)), (0, rv z 5), (1, iv x1), (2, iv x2), (3, iv x3)]) 4 (dcN_1 dcg_298 :) rfl (by decide) rfl ?_
    refine AW.goto (tgt := 13) (dcN_2 dcg_298 :) (by decide) ?_
    refine AW.sub (lv1 := [(0, rv z 5), (1, iv x1), (2, iv x2), (3, iv x3), (4, iv (x4 + 1))]) [1, 2, 3, 4, 0] rfl ?_
    exact (ih _ _ _ h).1 rfl
theorem Voyage_begins_ok {z : AZ} {x1 : Int} {x2 : Int} {x3 : Int} {g : AG} {r : Int} (h : Voyage_begins x1 x2 x3 g = some r) : AMf z yX9_begins cX9_begins 8 (some .int) 1 [rv z 5, iv x1, iv x2, iv x3] g (r, g) := by
  intro d hdd
  refine AM.of (by decide +kernel) (Nat.le_of_ble_eq_true rfl) ?_
  show AW z (RX9, cX9_begins, 8, (some .int)) d (QD (some .int) (r, g)) 0 [(0, rv z 5), (1, iv x1), (2, iv x2), (3, iv x3)] [] g
  unfold Voyage_begins at h
  refine AW.iload_n 3 (dcN_0 dcg_295 :) rfl ?_
  refine AW.if_ge (tgt := 6) (dcN_1 dcg_295 :) (by decide) (fun c1 => ?_) (fun c1 => ?_)
  · replace h := hT h c1
    refine AW.iload_n 3 (dcN_4 dcg_295 :) rfl ?_
    refine AW.sipush (dcN_5 dcg_295 :) (by decide) (by decide) ?_
    refine AW.idiv (dcN_6 dcg_295 :) (by decide) ?_
    refine AW.istore (lv1 := [(4, iv ((nw x3).tdiv 1440)), (0, rv z 5), (1, iv x1), (2, iv x2), (3, iv x3)]) (dcN_7 dcg_295 :) (by decide) rfl ?_
    refine AW.sub (lv1 := [(0, rv z 5), (1, iv x1), (2, iv x2), (3, iv x3), (4, iv ((nw x3).tdiv 1440))]) [1, 2, 3, 4, 0] rfl ?_
    exact (Voyage_begins_b_ok hdd _ _ _ h).1 rfl
  · replace h := hF h c1
    refine AW.iconst (dcN_2 dcg_295 :) ?_
    exact AW.iret2 rfl (dcN_3 dcg_295 :) h rfl
theorem Voyage_step_ok {z : AZ} {x1 : Int} {x2 : Int} {x3 : Int} {x4 : Int} {g : AG} {r : Int × AG} (h : Voyage_step x1 x2 x3 x4 g = some r) : AMf z yX9_step cX9_step 6 (some .int) 2 [rv z 5, iv x1, iv x2, iv x3, iv x4] g r := by
  intro d hdd
  refine AM.of (by decide +kernel) (Nat.le_of_ble_eq_true rfl) ?_
  show AW z (RX9, cX9_step, 6, (some .int)) d (QD (some .int) r) 0 [(0, rv z 5), (1, iv x1), (2, iv x2), (3, iv x3), (4, iv x4)] [] g
  unfold Voyage_step at h
  refine AW.aloadr_n 0 (dcN_0 dcg_293 :) rfl ?_
  refine AW.iload_n 1 (dcN_1 dcg_293 :) rfl ?_
  refine AW.iload_n 2 (dcN_2 dcg_293 :) rfl ?_
  refine AW.iload_n 3 (dcN_3 dcg_293 :) rfl ?_
  obtain ⟨r1, e2, h⟩ := hC h
  refine AW.callVi (As := [iv x1, iv x2, iv x3]) (st := []) (Voyage_begins_ok e2) cq_X9_92 cr_5_X9_begins (Nat.le_trans (by decide) hdd) rfl (dcN_4 dcg_293 :) rfl (Nat.le_of_ble_eq_true rfl) ?_
  refine AW.istore (lv1 := [(5, iv r1), (0, rv z 5), (1, iv x1), (2, iv x2), (3, iv x3), (4, iv x4)]) (dcN_5 dcg_293 :) (by decide) rfl ?_
  refine AW.iload 0 (dcN_6 dcg_293 :) rfl ?_
  refine AW.iconst (dcN_7 dcg_293 :) ?_
  refine AW.icmp_eq (tgt := 26) (dcN_8 dcg_293 :) (by decide) (fun c3 => ?_) (fun c3 => ?_)
  · replace h := hT h c3
    refine AW.iconst (dcN_14 dcg_293 :) ?_
    exact AW.iret1 rfl (dcN_15 dcg_293 :) h rfl
  · replace h := hF h c3
    refine AW.iload 0 (dcN_9 dcg_293 :) rfl ?_
    refine AW.iload 5 (dcN_10 dcg_293 :) rfl ?_
    refine AW.iadd (dcN_11 dcg_293 :) ?_
    refine AW.sipush (dcN_12 dcg_293 :) (by decide) (by decide) ?_
    refine AW.icmp_lt (tgt := 28) (dcN_13 dcg_293 :) (by decide) (fun c4 => ?_) (fun c4 => ?_)
    · replace h := hT h c4
      refine AW.iload_n 3 (dcN_16 dcg_293 :) rfl ?_
      refine AW.iconst (dcN_17 dcg_293 :) ?_
      obtain ⟨r9, e10, h⟩ := hC h
      refine AW.join (tgt := 48) (lv1 := [(4, iv x4), (5, iv r1)]) (st1 := []) (g1 := r9) ?_ (fun J30 => ?_)
      · refine AW.iload 1 (dcN_10 dcg_294 :) rfl ?_
        refine AW.iload 0 (dcN_11 dcg_294 :) rfl ?_
        refine AW.iadd (dcN_12 dcg_294 :) ?_
        exact AW.iret1 rfl (dcN_13 dcg_294 :) h rfl
      replace h := e10
      refine AW.icmp_ne (tgt := 48) (dcN_18 dcg_293 :) (by decide) (fun c5 => ?_) (fun c5 => ?_)
      · replace h := hF h c5
        refine AW.sub (lv1 := [(4, iv x4), (5, iv r1)]) [5, 0] rfl ?_
        cases h
        exact J30
      · replace h := hT h c5
        refine AW.aloadr_n 1 (dcN_0 dcg_294 :) rfl ?_
        refine AW.getR af_X9_21_5 sr_5_5 (dcN_1 dcg_294 :) ?_
        refine AW.iload 0 (dcN_2 dcg_294 :) rfl ?_
        refine AW.sipush (dcN_3 dcg_294 :) (by decide) (by decide) ?_
        refine AW.idiv (dcN_4 dcg_294 :) (by decide) ?_
        refine AW.dup2r (dcN_5 dcg_294 :) ?_
        obtain ⟨k6, h⟩ := hK h
        refine AW.iald kc_47 sk_47 k6 (dcN_6 dcg_294 :) ?_
        refine AW.iconst (dcN_7 dcg_294 :) ?_
        refine AW.iadd (dcN_8 dcg_294 :) ?_
        obtain ⟨g7, e8, h⟩ := hBe h
        refine AW.iast kc_47 sk_47 k6 (dcN_9 dcg_294 :) e8 ?_
        refine AW.sub (lv1 := [(4, iv x4), (5, iv r1)]) [5, 0] rfl ?_
        cases h
        exact J30
    · replace h := hF h c4
      refine AW.iconst (dcN_14 dcg_293 :) ?_
      exact AW.iret1 rfl (dcN_15 dcg_293 :) h rfl
set_option synthInstance.maxHeartbeats 2000000 in
theorem Voyage_pass_b_ok {z : AZ} {d : Nat} (hdd : 3 ≤ d) {x1 : Int} {x4 : Int} : ∀ (tag : Nat) (x5 : Int) (x6 : Int) (g : AG) (r : Int × AG), Voyage_pass_b x1 x4 tag x5 x6 g = some r → (tag = 1 → AW z (RX9, cX9_pass, 7, (some .int)) d (QD (some .int) r) 28 [(0, rv z 5), (1, iv x1), (4, iv x4), (5, iv x5), (6, iv x6)] [] g) ∧ (tag = 2 → AW z (RX9, cX9_pass, 7, (some .int)) d (QD (some .int) r) 84 [(0, rv z 5), (1, iv x1), (5, iv x5)] [] g) ∧ (tag = 3 → AW z (RX9, cX9_pass, 7, (some .int)) d (QD (some .int) r) 87 [(0, rv z 5), (1, iv x1), (5, iv x5), (6, iv x6)] [] g) := by
  refine Voyage_pass_b.partial_correctness x1 x4 (fun tag x5 x6 g r => (tag = 1 → AW z (RX9, cX9_pass, 7, (some .int)) d (QD (some .int) r) 28 [(0, rv z 5), (1, iv x1), (4, iv x4), (5, iv x5), (6, iv x6)] [] g) ∧ (tag = 2 → AW z (RX9, cX9_pass, 7, (some .int)) d (QD (some .int) r) 84 [(0, rv z 5), (1, iv x1), (5, iv x5)] [] g) ∧ (tag = 3 → AW z (RX9, cX9_pass, 7, (some .int)) d (QD (some .int) r) 87 [(0, rv z 5), (1, iv x1), (5, iv x5), (6, iv x6)] [] g)) ?_
  intro fb9 ih tag x5 x6 g r h
  refine ⟨fun h9 => ?_, fun h9 => ?_, fun h9 => ?_⟩
  · subst h9
    replace h := hT h rfl
    refine AW.iload 4 (dcN_15 dcg_289 :) rfl ?_
    refine AW.iload 2 (dcN_16 dcg_289 :) rfl ?_
    refine AW.icmp_ge (tgt := 53) (dcN_0 dcg_290 :) (by decide) (fun c1 => ?_) (fun c1 => ?_)
    · replace h := hT h c1
      refine AW.goto (tgt := 84) (dcN_10 dcg_290 :) (by decide) ?_
      refine AW.sub (lv1 := [(0, rv z 5), (1, iv x1), (5, iv x5)]) [0, 1, 3] rfl ?_
      exact (ih _ _ _ _ _ h).2.1 rfl
    · replace h := hF h c1
      refine AW.aloadr_n 0 (dcN_1 dcg_290 :) rfl ?_
      refine AW.iload_n 1 (dcN_2 dcg_290 :) rfl ?_
      refine AW.iconst (dcN_3 dcg_290 :) ?_
      refine AW.iload 3 (dcN_4 dcg_290 :) rfl ?_
      refine AW.bipush (dcN_5 dcg_290 :) (by decide) (by decide) ?_
      obtain ⟨r2, e3, h⟩ := hC h
      refine AW.callVi (As := [iv x1, iv 0, iv x5, iv 20]) (st := []) (Voyage_step_ok e3) cq_X9_85 cr_5_X9_step (Nat.le_trans (by decide) hdd) rfl (dcN_6 dcg_290 :) rfl (Nat.le_of_ble_eq_true rfl) ?_
      refine AW.istore (lv1 := [(5, iv r2.1), (0, rv z 5), (1, iv x1), (4, iv x4), (6, iv x6)]) (dcN_7 dcg_290 :) (by decide) rfl ?_
      refine AW.iinc (lv1 := [(6, iv (x6 + 1)), (5, iv r2.1), (0, rv z 5), (1, iv x1), (4, iv x4)]) 4 (dcN_8 dcg_290 :) rfl (by decide) rfl ?_
      refine AW.goto (tgt := 28) (dcN_9 dcg_290 :) (by decide) ?_
      refine AW.sub (lv1 := [(0, rv z 5), (1, iv x1), (4, iv x4), (5, iv r2.1), (6, iv (x6 + 1))]) [2, 3, 4, 1, 0] rfl ?_
      exact (ih _ _ _ _ _ h).1 rfl
  · subst h9
    replace h := hF h (by decide)
    replace h := hT h rfl
    refine AW.iconst (dcN_10 dcg_291 :) ?_
    refine AW.istore (lv1 := [(6, iv 0), (0, rv z 5), (1, iv x1), (5, iv x5)]) (dcN_11 dcg_291 :) (by decide) rfl ?_
    refine AW.sub (lv1 := [(0, rv z 5), (1, iv x1), (5, iv x5), (6, iv 0)]) [1, 2, 3, 0] rfl ?_
    exact (ih _ _ _ _ _ h).2.2 rfl
  · subst h9
    replace h := hF h (by decide)
    replace h := hF h (by decide)
    replace h := hT h rfl
    refine AW.iload 3 (dcN_12 dcg_291 :) rfl ?_
    refine AW.aloadr_n 0 (dcN_13 dcg_291 :) rfl ?_
    refine AW.getR af_X9_24_5 sr_5_0 (dcN_14 dcg_291 :) ?_
    refine AW.getR af_X9_89_1 sr_1_1 (dcN_15 dcg_291 :) ?_
    refine AW.iload_n 1 (dcN_0 dcg_292 :) rfl ?_
    obtain ⟨k1, h⟩ := hK h
    refine AW.iald kc_14 sk_14 k1 (dcN_1 dcg_292 :) ?_
    refine AW.icmp_ge (tgt := 121) (dcN_2 dcg_292 :) (by decide) (fun c2 => ?_) (fun c2 => ?_)
    · replace h := hT h c2
      refine AW.iload 2 (dcN_13 dcg_292 :) rfl ?_
      exact AW.iret1 rfl (dcN_14 dcg_292 :) h rfl
    · replace h := hF h c2
      refine AW.aloadr_n 0 (dcN_3 dcg_292 :) rfl ?_
      refine AW.iload_n 1 (dcN_4 dcg_292 :) rfl ?_
      refine AW.iconst (dcN_5 dcg_292 :) ?_
      refine AW.iload 2 (dcN_6 dcg_292 :) rfl ?_
      refine AW.aloadr_n 0 (dcN_7 dcg_292 :) rfl ?_
      refine AW.getI af_X9_60_5 sr_5_6 (dcN_8 dcg_292 :) ?_
      obtain ⟨r3, e4, h⟩ := hC h
      refine AW.callVi (As := [iv x1, iv 1, iv x5, iv (g 5 6)]) (st := []) (Voyage_step_ok e4) cq_X9_85 cr_5_X9_step (Nat.le_trans (by decide) hdd) rfl (dcN_9 dcg_292 :) rfl (Nat.le_of_ble_eq_true rfl) ?_
      refine AW.istore (lv1 := [(5, iv r3.1), (0, rv z 5), (1, iv x1), (6, iv x6)]) (dcN_10 dcg_292 :) (by decide) rfl ?_
      refine AW.iinc (lv1 := [(6, iv (x6 + 1)), (5, iv r3.1), (0, rv z 5), (1, iv x1)]) 3 (dcN_11 dcg_292 :) rfl (by decide) rfl ?_
      refine AW.goto (tgt := 87) (dcN_12 dcg_292 :) (by decide) ?_
      refine AW.sub (lv1 := [(0, rv z 5), (1, iv x1), (5, iv r3.1), (6, iv (x6 + 1))]) [2, 3, 1, 0] rfl ?_
      exact (ih _ _ _ _ _ h).2.2 rfl
theorem Voyage_pass_ok {z : AZ} {x1 : Int} {x2 : Int} {x3 : Int} {g : AG} {r : Int × AG} (h : Voyage_pass x1 x2 x3 g = some r) : AMf z yX9_pass cX9_pass 7 (some .int) 3 [rv z 5, iv x1, iv x2, iv x3] g r := by
  intro d hdd
  refine AM.of (by decide +kernel) (Nat.le_of_ble_eq_true rfl) ?_
  show AW z (RX9, cX9_pass, 7, (some .int)) d (QD (some .int) r) 0 [(0, rv z 5), (1, iv x1), (2, iv x2), (3, iv x3)] [] g
  unfold Voyage_pass at h
  refine AW.aloadr_n 0 (dcN_0 dcg_289 :) rfl ?_
  refine AW.getR af_X9_24_5 sr_5_0 (dcN_1 dcg_289 :) ?_
  refine AW.getR af_X9_78_1 sr_1_0 (dcN_2 dcg_289 :) ?_
  refine AW.iload_n 1 (dcN_3 dcg_289 :) rfl ?_
  obtain ⟨k1, h⟩ := hK h
  refine AW.iald kc_13 sk_13 k1 (dcN_4 dcg_289 :) ?_
  refine AW.istore (lv1 := [(4, iv (g 13 (ix x1))), (0, rv z 5), (1, iv x1), (2, iv x2), (3, iv x3)]) (dcN_5 dcg_289 :) (by decide) rfl ?_
  refine AW.iload_n 4 (dcN_6 dcg_289 :) rfl ?_
  refine AW.istore (lv1 := [(5, iv x3), (4, iv (g 13 (ix x1))), (0, rv z 5), (1, iv x1), (2, iv x2), (3, iv x3)]) (dcN_7 dcg_289 :) (by decide) rfl ?_
  refine AW.aloadr_n 2 (dcN_8 dcg_289 :) rfl ?_
  refine AW.getR af_X9_28_5 sr_5_1 (dcN_9 dcg_289 :) ?_
  refine AW.iload_n 3 (dcN_10 dcg_289 :) rfl ?_
  refine AW.callVi (As := [iv x1]) (st := []) Rules_isTunnel_ok cq_X9_81 cr_2_X6_isTunnel (Nat.le_trans (by decide) hdd) rfl (dcN_11 dcg_289 :) rfl (Nat.le_of_ble_eq_true rfl) ?_
  refine AW.if_ne (tgt := 56) (dcN_12 dcg_289 :) (by decide) (fun c2 => ?_) (fun c2 => ?_)
  · replace h := hF h c2
    refine AW.iload 1 (dcN_11 dcg_290 :) rfl ?_
    obtain ⟨r9, e10, h⟩ := hC h
    refine AW.join (tgt := 84) (lv1 := [(0, rv z 5), (1, iv x1), (5, iv r9.1)]) (st1 := []) (g1 := r9.2) ?_ (fun J58 => ?_)
    · refine AW.iconst (dcN_10 dcg_291 :) ?_
      refine AW.istore (lv1 := [(6, iv 0), (0, rv z 5), (1, iv x1), (5, iv r9.1)]) (dcN_11 dcg_291 :) (by decide) rfl ?_
      refine AW.sub (lv1 := [(0, rv z 5), (1, iv x1), (5, iv r9.1), (6, iv 0)]) [1, 2, 3, 0] rfl ?_
      exact (Voyage_pass_b_ok hdd _ _ _ _ _ h).2.2 rfl
    replace h := e10
    refine AW.if_le (tgt := 84) (dcN_12 dcg_290 :) (by decide) (fun c3 => ?_) (fun c3 => ?_)
    · replace h := hT h c3
      refine AW.sub (lv1 := [(0, rv z 5), (1, iv x1), (5, iv x3)]) [2, 3, 0] rfl ?_
      cases h
      exact J58
    · replace h := hF h c3
      refine AW.aloadr_n 2 (dcN_13 dcg_290 :) rfl ?_
      refine AW.iload_n 3 (dcN_14 dcg_290 :) rfl ?_
      refine AW.iload_n 4 (dcN_15 dcg_290 :) rfl ?_
      obtain ⟨t4, e5, h⟩ := hBe h
      refine AW.join (tgt := 72) (lv1 := [(5, iv x3), (4, iv (g 13 (ix x1))), (0, rv z 5), (1, iv x1), (2, iv x2), (3, iv x3)]) (st1 := [iv t4, iv x1, rv z 5]) (g1 := g) ?_ (fun J64 => ?_)
      · refine AW.iload 0 (dcN_4 dcg_291 :) rfl ?_
        refine AW.bipush (dcN_5 dcg_291 :) (by decide) (by decide) ?_
        refine AW.iload 1 (dcN_6 dcg_291 :) rfl ?_
        refine AW.imul (dcN_7 dcg_291 :) ?_
        obtain ⟨r6, e7, h⟩ := hC h
        refine AW.callVi (As := [iv x1, iv t4, iv x3, iv (20 * (g 13 (ix x1)))]) (st := []) (Voyage_step_ok e7) cq_X9_85 cr_5_X9_step (Nat.le_trans (by decide) hdd) rfl (dcN_8 dcg_291 :) rfl (Nat.le_of_ble_eq_true rfl) ?_
        refine AW.istore (lv1 := [(5, iv r6.1), (4, iv (g 13 (ix x1))), (0, rv z 5), (1, iv x1), (2, iv x2), (3, iv x3)]) (dcN_9 dcg_291 :) (by decide) rfl ?_
        refine AW.sub (lv1 := [(0, rv z 5), (1, iv x1), (5, iv r6.1)]) [2, 3, 0] rfl ?_
        cases h
        exact J58
      refine AW.if_eq (tgt := 71) (dcN_0 dcg_291 :) (by decide) (fun c8 => ?_) (fun c8 => ?_)
      · refine AW.iconst (dcN_3 dcg_291 :) ?_
        exact AW.val (e5.trans (if_pos c8)) J64
      · refine AW.iconst (dcN_1 dcg_291 :) ?_
        refine AW.goto (tgt := 72) (dcN_2 dcg_291 :) (by decide) ?_
        exact AW.val (e5.trans (if_neg c8)) J64
  · replace h := hT h c2
    refine AW.iconst (dcN_13 dcg_289 :) ?_
    refine AW.istore (lv1 := [(6, iv 0), (5, iv x3), (4, iv (g 13 (ix x1))), (0, rv z 5), (1, iv x1), (2, iv x2), (3, iv x3)]) (dcN_14 dcg_289 :) (by decide) rfl ?_
    refine AW.sub (lv1 := [(0, rv z 5), (1, iv x1), (4, iv (g 13 (ix x1))), (5, iv x3), (6, iv 0)]) [3, 4, 2, 1, 0] rfl ?_
    exact (Voyage_pass_b_ok hdd _ _ _ _ _ h).1 rfl
set_option synthInstance.maxHeartbeats 2000000 in
theorem Voyage_comesTo_b_ok {z : AZ} {d : Nat} (hdd : 4 ≤ d) {x2 : Int} {x3 : Int} : ∀ (tag : Nat) (x6 : Int) (x7 : Int) (g : AG) (r : Int × AG), Voyage_comesTo_b x2 x3 tag x6 x7 g = some r → (tag = 1 → AW z (RX9, cX9_comesTo, 8, (some .int)) d (QD (some .int) r) 14 [(0, rv z 5), (2, iv x2), (3, iv x3), (6, iv x6), (7, iv x7)] [] g) ∧ (tag = 2 → AW z (RX9, cX9_comesTo, 8, (some .int)) d (QD (some .int) r) 40 [(0, rv z 5), (3, iv x3), (6, iv x6), (7, iv x7)] [] g) := by
  refine Voyage_comesTo_b.partial_correctness x2 x3 (fun tag x6 x7 g r => (tag = 1 → AW z (RX9, cX9_comesTo, 8, (some .int)) d (QD (some .int) r) 14 [(0, rv z 5), (2, iv x2), (3, iv x3), (6, iv x6), (7, iv x7)] [] g) ∧ (tag = 2 → AW z (RX9, cX9_comesTo, 8, (some .int)) d (QD (some .int) r) 40 [(0, rv z 5), (3, iv x3), (6, iv x6), (7, iv x7)] [] g)) ?_
  intro fb9 ih tag x6 x7 g r h
  refine ⟨fun h9 => ?_, fun h9 => ?_⟩
  · subst h9
    replace h := hT h rfl
    refine AW.iload 4 (dcN_8 dcg_277 :) rfl ?_
    refine AW.iload_n 2 (dcN_9 dcg_277 :) rfl ?_
    refine AW.icmp_ge (tgt := 37) (dcN_10 dcg_277 :) (by decide) (fun c1 => ?_) (fun c1 => ?_)
    · replace h := hT h c1
      refine AW.iload_n 1 (dcN_1 dcg_278 :) rfl ?_
      refine AW.istore (lv1 := [(7, iv x2), (0, rv z 5), (2, iv x2), (3, iv x3), (6, iv x6)]) (dcN_2 dcg_278 :) (by decide) rfl ?_
      refine AW.sub (lv1 := [(0, rv z 5), (3, iv x3), (6, iv x6), (7, iv x2)]) [1, 3, 4, 0] rfl ?_
      exact (ih _ _ _ _ _ h).2 rfl
    · replace h := hF h c1
      refine AW.aloadr_n 0 (dcN_11 dcg_277 :) rfl ?_
      refine AW.iload 4 (dcN_12 dcg_277 :) rfl ?_
      refine AW.iconst (dcN_13 dcg_277 :) ?_
      refine AW.iload 3 (dcN_14 dcg_277 :) rfl ?_
      obtain ⟨r2, e3, h⟩ := hC h
      refine AW.callVi (As := [iv x7, iv 1, iv x6]) (st := []) (Voyage_pass_ok e3) cq_X9_71 cr_5_X9_pass (Nat.le_trans (by decide) hdd) rfl (dcN_15 dcg_277 :) rfl (Nat.le_of_ble_eq_true rfl) ?_
      refine AW.istore (lv1 := [(6, iv r2.1), (0, rv z 5), (2, iv x2), (3, iv x3), (7, iv x7)]) (dcN_16 dcg_277 :) (by decide) rfl ?_
      refine AW.iinc (lv1 := [(7, iv (x7 + 1)), (6, iv r2.1), (0, rv z 5), (2, iv x2), (3, iv x3)]) 4 (dcN_17 dcg_277 :) rfl (by decide) rfl ?_
      refine AW.goto (tgt := 14) (dcN_0 dcg_278 :) (by decide) ?_
      refine AW.sub (lv1 := [(0, rv z 5), (2, iv x2), (3, iv x3), (6, iv r2.1), (7, iv (x7 + 1))]) [2, 3, 4, 1, 0] rfl ?_
      exact (ih _ _ _ _ _ h).1 rfl
  · subst h9
    replace h := hF h (by decide)
    replace h := hT h rfl
    refine AW.iload 3 (dcN_3 dcg_278 :) rfl ?_
    refine AW.iload_n 1 (dcN_4 dcg_278 :) rfl ?_
    refine AW.icmp_le (tgt := 65) (dcN_5 dcg_278 :) (by decide) (fun c1 => ?_) (fun c1 => ?_)
    · replace h := hT h c1
      refine AW.iload 2 (dcN_0 dcg_279 :) rfl ?_
      exact AW.iret1 rfl (dcN_1 dcg_279 :) h rfl
    · replace h := hF h c1
      refine AW.aloadr_n 0 (dcN_6 dcg_278 :) rfl ?_
      refine AW.iload 3 (dcN_7 dcg_278 :) rfl ?_
      refine AW.iconst (dcN_8 dcg_278 :) ?_
      refine AW.isub (dcN_9 dcg_278 :) ?_
      refine AW.iconst (dcN_10 dcg_278 :) ?_
      refine AW.iload 2 (dcN_11 dcg_278 :) rfl ?_
      obtain ⟨r2, e3, h⟩ := hC h
      refine AW.callVi (As := [iv (x7 - 1), iv 0, iv x6]) (st := []) (Voyage_pass_ok e3) cq_X9_71 cr_5_X9_pass (Nat.le_trans (by decide) hdd) rfl (dcN_12 dcg_278 :) rfl (Nat.le_of_ble_eq_true rfl) ?_
      refine AW.istore (lv1 := [(6, iv r2.1), (0, rv z 5), (3, iv x3), (7, iv x7)]) (dcN_13 dcg_278 :) (by decide) rfl ?_
      refine AW.iinc (lv1 := [(7, iv (x7 + (-1))), (6, iv r2.1), (0, rv z 5), (3, iv x3)]) 3 (dcN_14 dcg_278 :) rfl (by decide) rfl ?_
      refine AW.goto (tgt := 40) (dcN_15 dcg_278 :) (by decide) ?_
      refine AW.sub (lv1 := [(0, rv z 5), (3, iv x3), (6, iv r2.1), (7, iv (x7 + (-1)))]) [2, 3, 1, 0] rfl ?_
      exact (ih _ _ _ _ _ h).2 rfl
theorem Voyage_comesTo_ok {z : AZ} {x1 : Int} {x2 : Int} {x3 : Int} {x4 : Int} {x5 : Int} {g : AG} {r : Int × AG} (h : Voyage_comesTo x1 x2 x3 x4 x5 g = some r) : AMf z yX9_comesTo cX9_comesTo 8 (some .int) 4 [rv z 5, iv x1, iv x2, iv x3, iv x4, iv x5] g r := by
  intro d hdd
  refine AM.of (by decide +kernel) (Nat.le_of_ble_eq_true rfl) ?_
  show AW z (RX9, cX9_comesTo, 8, (some .int)) d (QD (some .int) r) 0 [(0, rv z 5), (1, iv x1), (2, iv x2), (3, iv x3), (4, iv x4), (5, iv x5)] [] g
  unfold Voyage_comesTo at h
  refine AW.aloadr_n 0 (dcN_0 dcg_277 :) rfl ?_
  refine AW.iload_n 1 (dcN_1 dcg_277 :) rfl ?_
  refine AW.iload 5 (dcN_2 dcg_277 :) rfl ?_
  obtain ⟨r1, e2, h⟩ := hC h
  refine AW.callVv (As := [iv x1, iv x5]) (st := []) (Voyage_setOut_ok e2) cq_X9_67 cr_5_X9_setOut (Nat.le_trans (by decide) hdd) rfl (dcN_3 dcg_277 :) rfl (Nat.le_of_ble_eq_true rfl) ?_
  refine AW.iload 4 (dcN_4 dcg_277 :) rfl ?_
  refine AW.istore (lv1 := [(6, iv x4), (0, rv z 5), (1, iv x1), (2, iv x2), (3, iv x3), (4, iv x4), (5, iv x5)]) (dcN_5 dcg_277 :) (by decide) rfl ?_
  refine AW.iload_n 3 (dcN_6 dcg_277 :) rfl ?_
  refine AW.istore (lv1 := [(7, iv x2), (6, iv x4), (0, rv z 5), (1, iv x1), (2, iv x2), (3, iv x3), (4, iv x4), (5, iv x5)]) (dcN_7 dcg_277 :) (by decide) rfl ?_
  refine AW.sub (lv1 := [(0, rv z 5), (2, iv x2), (3, iv x3), (6, iv x4), (7, iv x2)]) [2, 4, 5, 1, 0] rfl ?_
  exact (Voyage_comesTo_b_ok hdd _ _ _ _ _ h).1 rfl
theorem X_comes_ok {z : AZ} {x1 : Int} {x2 : Int} {x3 : Int} {x4 : Int} {g : AG} {r : Int × AG} (h : X_comes x1 x2 x3 x4 g = some r) : AMf z yX11_comes cX11_comes 5 (some .int) 5 [rv z 0, iv x1, iv x2, iv x3, iv x4] g r := by
  intro d hdd
  refine AM.of (by decide +kernel) (Nat.le_of_ble_eq_true rfl) ?_
  show AW z (RX11, cX11_comes, 5, (some .int)) d (QD (some .int) r) 0 [(0, rv z 0), (1, iv x1), (2, iv x2), (3, iv x3), (4, iv x4)] [] g
  unfold X_comes at h
  refine AW.aloadr_n 0 (dcN_0 dcg_375 :) rfl ?_
  refine AW.iload_n 1 (dcN_1 dcg_375 :) rfl ?_
  refine AW.iload_n 2 (dcN_2 dcg_375 :) rfl ?_
  refine AW.iload_n 3 (dcN_3 dcg_375 :) rfl ?_
  refine AW.iload 4 (dcN_4 dcg_375 :) rfl ?_
  refine AW.callVi (As := [iv x1, iv x2, iv x3, iv x4]) (st := []) X_isWay_ok cq_X11_176 cr_0_X11_isWay (Nat.le_trans (by decide) hdd) rfl (dcN_5 dcg_375 :) rfl (Nat.le_of_ble_eq_true rfl) ?_
  refine AW.if_ne (tgt := 14) (dcN_6 dcg_375 :) (by decide) (fun c1 => ?_) (fun c1 => ?_)
  · replace h := hF h c1
    refine AW.aloadr_n 0 (dcN_9 dcg_375 :) rfl ?_
    refine AW.getR af_X11_40_0 sr_0_4 (dcN_10 dcg_375 :) ?_
    refine AW.aloadr_n 0 (dcN_11 dcg_375 :) rfl ?_
    refine AW.getR af_X11_49_0 sr_0_5 (dcN_0 dcg_376 :) ?_
    refine AW.getR af_X11_180_6 sr_6_6 (dcN_1 dcg_376 :) ?_
    refine AW.iload_n 1 (dcN_2 dcg_376 :) rfl ?_
    obtain ⟨k2, h⟩ := hK h
    refine AW.iald kc_51 sk_51 k2 (dcN_3 dcg_376 :) ?_
    refine AW.iload_n 2 (dcN_4 dcg_376 :) rfl ?_
    refine AW.iload_n 3 (dcN_5 dcg_376 :) rfl ?_
    refine AW.iload 4 (dcN_6 dcg_376 :) rfl ?_
    refine AW.iconst (dcN_7 dcg_376 :) ?_
    obtain ⟨r3, e4, h⟩ := hC h
    refine AW.callVi (As := [iv (g 51 (ix x1)), iv x2, iv x3, iv x4, iv 1]) (st := []) (Voyage_comesTo_ok e4) cq_X11_183 cr_5_X9_comesTo (Nat.le_trans (by decide) hdd) rfl (dcN_8 dcg_376 :) rfl (Nat.le_of_ble_eq_true rfl) ?_
    exact AW.iret1 rfl (dcN_9 dcg_376 :) h rfl
  · replace h := hT h c1
    refine AW.iconst (dcN_7 dcg_375 :) ?_
    exact AW.iret1 rfl (dcN_8 dcg_375 :) h rfl
set_option synthInstance.maxHeartbeats 2000000 in
theorem Voyage_reach_b_ok {z : AZ} {d : Nat} (hdd : 4 ≤ d) {x2 : Int} : ∀ (tag : Nat) (x4 : Int) (g : AG) (r : Int × AG), Voyage_reach_b x2 tag x4 g = some r → (tag = 1 → AW z (RX9, cX9_reach, 5, none) d (QD none r) 16 [(0, rv z 5), (2, iv x2), (4, iv x4)] [] g) ∧ (tag = 2 → AW z (RX9, cX9_reach, 5, none) d (QD none r) 55 [(0, rv z 5), (4, iv x4)] [] g) := by
  refine Voyage_reach_b.partial_correctness x2 (fun tag x4 g r => (tag = 1 → AW z (RX9, cX9_reach, 5, none) d (QD none r) 16 [(0, rv z 5), (2, iv x2), (4, iv x4)] [] g) ∧ (tag = 2 → AW z (RX9, cX9_reach, 5, none) d (QD none r) 55 [(0, rv z 5), (4, iv x4)] [] g)) ?_
  intro fb9 ih tag x4 g r h
  refine ⟨fun h9 => ?_, fun h9 => ?_⟩
  · subst h9
    replace h := hT h rfl
    refine AW.iload 2 (dcN_11 dcg_280 :) rfl ?_
    refine AW.bipush (dcN_12 dcg_280 :) (by decide) (by decide) ?_
    refine AW.icmp_ge (tgt := 52) (dcN_13 dcg_280 :) (by decide) (fun c1 => ?_) (fun c1 => ?_)
    · replace h := hT h c1
      refine AW.iload_n 1 (dcN_10 dcg_281 :) rfl ?_
      refine AW.istore (lv1 := [(4, iv x2), (0, rv z 5), (2, iv x2)]) (dcN_11 dcg_281 :) (by decide) rfl ?_
      refine AW.sub (lv1 := [(0, rv z 5), (4, iv x2)]) [1, 0] rfl ?_
      exact (ih _ _ _ _ h).2 rfl
    · replace h := hF h c1
      refine AW.aloadr_n 0 (dcN_14 dcg_280 :) rfl ?_
      refine AW.getR af_X9_18_5 sr_5_4 (dcN_15 dcg_280 :) ?_
      refine AW.iload 2 (dcN_16 dcg_280 :) rfl ?_
      refine AW.iconst (dcN_17 dcg_280 :) ?_
      refine AW.iadd (dcN_18 dcg_280 :) ?_
      refine AW.aloadr_n 0 (dcN_19 dcg_280 :) rfl ?_
      refine AW.iload 2 (dcN_0 dcg_281 :) rfl ?_
      refine AW.iconst (dcN_1 dcg_281 :) ?_
      refine AW.aloadr_n 0 (dcN_2 dcg_281 :) rfl ?_
      refine AW.getR af_X9_18_5 sr_5_4 (dcN_3 dcg_281 :) ?_
      refine AW.iload 2 (dcN_4 dcg_281 :) rfl ?_
      obtain ⟨k2, h⟩ := hK h
      refine AW.iald kc_46 sk_46 k2 (dcN_5 dcg_281 :) ?_
      obtain ⟨r3, e4, h⟩ := hC h
      refine AW.callVi (As := [iv x4, iv 1, iv (g 46 (ix x4))]) (st := [iv (x4 + 1), rv z 46]) (Voyage_pass_ok e4) cq_X9_71 cr_5_X9_pass (Nat.le_trans (by decide) hdd) rfl (dcN_6 dcg_281 :) rfl (Nat.le_of_ble_eq_true rfl) ?_
      obtain ⟨k5, h⟩ := hK h
      obtain ⟨g6, e7, h⟩ := hBe h
      refine AW.iast kc_46 sk_46 k5 (dcN_7 dcg_281 :) e7 ?_
      refine AW.iinc (lv1 := [(4, iv (x4 + 1)), (0, rv z 5), (2, iv x2)]) 2 (dcN_8 dcg_281 :) rfl (by decide) rfl ?_
      refine AW.goto (tgt := 16) (dcN_9 dcg_281 :) (by decide) ?_
      refine AW.sub (lv1 := [(0, rv z 5), (2, iv x2), (4, iv (x4 + 1))]) [1, 2, 0] rfl ?_
      exact (ih _ _ _ _ h).1 rfl
  · subst h9
    replace h := hF h (by decide)
    replace h := hT h rfl
    refine AW.iload 1 (dcN_12 dcg_281 :) rfl ?_
    refine AW.if_le (tgt := 91) (dcN_13 dcg_281 :) (by decide) (fun c1 => ?_) (fun c1 => ?_)
    · replace h := hT h c1
      exact AW.vret1 rfl (dcN_16 dcg_282 :) h rfl
    · replace h := hF h c1
      refine AW.aloadr_n 0 (dcN_14 dcg_281 :) rfl ?_
      refine AW.getR af_X9_18_5 sr_5_4 (dcN_15 dcg_281 :) ?_
      refine AW.iload 1 (dcN_0 dcg_282 :) rfl ?_
      refine AW.iconst (dcN_1 dcg_282 :) ?_
      refine AW.isub (dcN_2 dcg_282 :) ?_
      refine AW.aloadr_n 0 (dcN_3 dcg_282 :) rfl ?_
      refine AW.iload 1 (dcN_4 dcg_282 :) rfl ?_
      refine AW.iconst (dcN_5 dcg_282 :) ?_
      refine AW.isub (dcN_6 dcg_282 :) ?_
      refine AW.iconst (dcN_7 dcg_282 :) ?_
      refine AW.aloadr_n 0 (dcN_8 dcg_282 :) rfl ?_
      refine AW.getR af_X9_18_5 sr_5_4 (dcN_9 dcg_282 :) ?_
      refine AW.iload 1 (dcN_10 dcg_282 :) rfl ?_
      obtain ⟨k2, h⟩ := hK h
      refine AW.iald kc_46 sk_46 k2 (dcN_11 dcg_282 :) ?_
      obtain ⟨r3, e4, h⟩ := hC h
      refine AW.callVi (As := [iv (x4 - 1), iv 0, iv (g 46 (ix x4))]) (st := [iv (x4 - 1), rv z 46]) (Voyage_pass_ok e4) cq_X9_71 cr_5_X9_pass (Nat.le_trans (by decide) hdd) rfl (dcN_12 dcg_282 :) rfl (Nat.le_of_ble_eq_true rfl) ?_
      obtain ⟨k5, h⟩ := hK h
      obtain ⟨g6, e7, h⟩ := hBe h
      refine AW.iast kc_46 sk_46 k5 (dcN_13 dcg_282 :) e7 ?_
      refine AW.iinc (lv1 := [(4, iv (x4 + (-1))), (0, rv z 5)]) 1 (dcN_14 dcg_282 :) rfl (by decide) rfl ?_
      refine AW.goto (tgt := 55) (dcN_15 dcg_282 :) (by decide) ?_
      refine AW.sub (lv1 := [(0, rv z 5), (4, iv (x4 + (-1)))]) [1, 0] rfl ?_
      exact (ih _ _ _ _ h).2 rfl
theorem Voyage_reach_ok {z : AZ} {x1 : Int} {x2 : Int} {x3 : Int} {g : AG} {r : Int × AG} (h : Voyage_reach x1 x2 x3 g = some r) : AMf z yX9_reach cX9_reach 5 none 4 [rv z 5, iv x1, iv x2, iv x3] g r := by
  intro d hdd
  refine AM.of (by decide +kernel) (Nat.le_of_ble_eq_true rfl) ?_
  show AW z (RX9, cX9_reach, 5, none) d (QD none r) 0 [(0, rv z 5), (1, iv x1), (2, iv x2), (3, iv x3)] [] g
  unfold Voyage_reach at h
  refine AW.aloadr_n 0 (dcN_0 dcg_280 :) rfl ?_
  refine AW.iload_n 1 (dcN_1 dcg_280 :) rfl ?_
  refine AW.iconst (dcN_2 dcg_280 :) ?_
  obtain ⟨r1, e2, h⟩ := hC h
  refine AW.callVv (As := [iv x1, iv 1]) (st := []) (Voyage_setOut_ok e2) cq_X9_67 cr_5_X9_setOut (Nat.le_trans (by decide) hdd) rfl (dcN_3 dcg_280 :) rfl (Nat.le_of_ble_eq_true rfl) ?_
  refine AW.aloadr_n 0 (dcN_4 dcg_280 :) rfl ?_
  refine AW.getR af_X9_18_5 sr_5_4 (dcN_5 dcg_280 :) ?_
  refine AW.iload_n 2 (dcN_6 dcg_280 :) rfl ?_
  refine AW.iload_n 3 (dcN_7 dcg_280 :) rfl ?_
  obtain ⟨k3, h⟩ := hK h
  obtain ⟨g4, e5, h⟩ := hBe h
  refine AW.iast kc_46 sk_46 k3 (dcN_8 dcg_280 :) e5 ?_
  refine AW.iload_n 2 (dcN_9 dcg_280 :) rfl ?_
  refine AW.istore (lv1 := [(4, iv x2), (0, rv z 5), (1, iv x1), (2, iv x2), (3, iv x3)]) (dcN_10 dcg_280 :) (by decide) rfl ?_
  refine AW.sub (lv1 := [(0, rv z 5), (2, iv x2), (4, iv x2)]) [1, 3, 0] rfl ?_
  exact (Voyage_reach_b_ok hdd _ _ _ _ h).1 rfl
set_option synthInstance.maxHeartbeats 2000000 in
theorem Voyage_reached_b_ok {z : AZ} {d : Nat} (hdd : 0 ≤ d) {x1 : Int} {g : AG} : ∀ (x2 : Int) (x3 : Int) (r : Int), Voyage_reached_b x1 g x2 x3 = some r → AW z (RX9, cX9_reached, 4, (some .int)) d (QD (some .int) (r, g)) 4 [(0, rv z 5), (1, iv x1), (2, iv x2), (3, iv x3)] [] g := by
  refine Voyage_reached_b.partial_correctness x1 g (fun x2 x3 r => AW z (RX9, cX9_reached, 4, (some .int)) d (QD (some .int) (r, g)) 4 [(0, rv z 5), (1, iv x1), (2, iv x2), (3, iv x3)] [] g) ?_
  intro fb9 ih x2 x3 r h
  refine AW.iload_n 3 (dcN_4 dcg_283 :) rfl ?_
  refine AW.bipush (dcN_5 dcg_283 :) (by decide) (by decide) ?_
  refine AW.icmp_ge (tgt := 42) (dcN_6 dcg_283 :) (by decide) (fun c1 => ?_) (fun c1 => ?_)
  · replace h := hT h c1
    refine AW.iload_n 2 (dcN_3 dcg_285 :) rfl ?_
    exact AW.iret2 rfl (dcN_4 dcg_285 :) h rfl
  · replace h := hF h c1
    refine AW.aloadr_n 0 (dcN_7 dcg_283 :) rfl ?_
    refine AW.getR af_X9_18_5 sr_5_4 (dcN_8 dcg_283 :) ?_
    refine AW.iload_n 3 (dcN_9 dcg_283 :) rfl ?_
    obtain ⟨k2, h⟩ := hK h
    refine AW.iald kc_46 sk_46 k2 (dcN_10 dcg_283 :) ?_
    refine AW.iconst (dcN_11 dcg_283 :) ?_
    obtain ⟨r5, e6, h⟩ := hC h
    refine AW.join (tgt := 36) (lv1 := [(0, rv z 5), (1, iv x1), (2, iv r5), (3, iv x3)]) (st1 := []) (g1 := g) ?_ (fun J17 => ?_)
    · refine AW.iinc (lv1 := [(3, iv (x3 + 1)), (0, rv z 5), (1, iv x1), (2, iv r5)]) 3 (dcN_1 dcg_285 :) rfl (by decide) rfl ?_
      refine AW.goto (tgt := 4) (dcN_2 dcg_285 :) (by decide) ?_
      refine AW.sub (lv1 := [(0, rv z 5), (1, iv x1), (2, iv r5), (3, iv (x3 + 1))]) [1, 2, 3, 0] rfl ?_
      exact ih _ _ _ h
    replace h := e6
    refine AW.icmp_eq (tgt := 36) (dcN_0 dcg_284 :) (by decide) (fun c3 => ?_) (fun c3 => ?_)
    · replace h := hT h c3
      cases h
      exact J17
    · replace h := hF h c3
      refine AW.aloadr_n 0 (dcN_1 dcg_284 :) rfl ?_
      refine AW.getR af_X9_18_5 sr_5_4 (dcN_2 dcg_284 :) ?_
      refine AW.iload_n 3 (dcN_3 dcg_284 :) rfl ?_
      refine AW.iald kc_46 sk_46 k2 (dcN_4 dcg_284 :) ?_
      refine AW.iload_n 1 (dcN_5 dcg_284 :) rfl ?_
      refine AW.icmp_gt (tgt := 36) (dcN_6 dcg_284 :) (by decide) (fun c4 => ?_) (fun c4 => ?_)
      · replace h := hT h c4
        cases h
        exact J17
      · replace h := hF h c4
        refine AW.iload_n 2 (dcN_7 dcg_284 :) rfl ?_
        refine AW.iconst (dcN_8 dcg_284 :) ?_
        refine AW.iload_n 3 (dcN_9 dcg_284 :) rfl ?_
        refine AW.ishl (dcN_10 dcg_284 :) ?_
        refine AW.ior (dcN_11 dcg_284 :) ?_
        refine AW.istore_n (lv1 := [(2, iv (orI x2 (shlI 1 x3))), (0, rv z 5), (1, iv x1), (3, iv x3)]) (dcN_0 dcg_285 :) (by decide) rfl ?_
        refine AW.sub (lv1 := [(0, rv z 5), (1, iv x1), (2, iv (orI x2 (shlI 1 x3))), (3, iv x3)]) [1, 2, 0, 3] rfl ?_
        cases h
        exact J17
theorem Voyage_reached_ok {z : AZ} {x1 : Int} {g : AG} {r : Int} (h : Voyage_reached x1 g = some r) : AMf z yX9_reached cX9_reached 4 (some .int) 0 [rv z 5, iv x1] g (r, g) := by
  intro d hdd
  refine AM.of (by decide +kernel) (Nat.le_of_ble_eq_true rfl) ?_
  show AW z (RX9, cX9_reached, 4, (some .int)) d (QD (some .int) (r, g)) 0 [(0, rv z 5), (1, iv x1)] [] g
  unfold Voyage_reached at h
  refine AW.iconst (dcN_0 dcg_283 :) ?_
  refine AW.istore_n (lv1 := [(2, iv 0), (0, rv z 5), (1, iv x1)]) (dcN_1 dcg_283 :) (by decide) rfl ?_
  refine AW.iconst (dcN_2 dcg_283 :) ?_
  refine AW.istore_n (lv1 := [(3, iv 0), (2, iv 0), (0, rv z 5), (1, iv x1)]) (dcN_3 dcg_283 :) (by decide) rfl ?_
  refine AW.sub (lv1 := [(0, rv z 5), (1, iv x1), (2, iv 0), (3, iv 0)]) [2, 3, 1, 0] rfl ?_
  exact Voyage_reached_b_ok hdd _ _ _ h
theorem X_maybe_ok {z : AZ} {x1 : Int} {x2 : Int} {x3 : Int} {x4 : Int} {g : AG} {r : Int × AG} (h : X_maybe x1 x2 x3 x4 g = some r) : AMf z yX11_maybe cX11_maybe 5 (some .int) 5 [rv z 0, iv x1, iv x2, iv x3, iv x4] g r := by
  intro d hdd
  refine AM.of (by decide +kernel) (Nat.le_of_ble_eq_true rfl) ?_
  show AW z (RX11, cX11_maybe, 5, (some .int)) d (QD (some .int) r) 0 [(0, rv z 0), (1, iv x1), (2, iv x2), (3, iv x3), (4, iv x4)] [] g
  unfold X_maybe at h
  refine AW.aloadr_n 0 (dcN_0 dcg_377 :) rfl ?_
  refine AW.iload_n 1 (dcN_1 dcg_377 :) rfl ?_
  refine AW.iload_n 2 (dcN_2 dcg_377 :) rfl ?_
  refine AW.iload_n 2 (dcN_3 dcg_377 :) rfl ?_
  refine AW.iload_n 3 (dcN_4 dcg_377 :) rfl ?_
  refine AW.callVi (As := [iv x1, iv x2, iv x2, iv x3]) (st := []) X_isWay_ok cq_X11_176 cr_0_X11_isWay (Nat.le_trans (by decide) hdd) rfl (dcN_5 dcg_377 :) rfl (Nat.le_of_ble_eq_true rfl) ?_
  refine AW.if_eq (tgt := 25) (dcN_6 dcg_377 :) (by decide) (fun c1 => ?_) (fun c1 => ?_)
  · replace h := hT h c1
    refine AW.iconst (dcN_13 dcg_377 :) ?_
    exact AW.iret1 rfl (dcN_14 dcg_377 :) h rfl
  · replace h := hF h c1
    refine AW.iload 4 (dcN_7 dcg_377 :) rfl ?_
    refine AW.callSi (As := [iv x4]) (st := []) X_isTime_ok cq_X11_114 st_X11_isTime (Nat.le_trans (by decide) hdd) rfl (dcN_8 dcg_377 :) rfl (Nat.le_of_ble_eq_true rfl) ?_
    refine AW.if_eq (tgt := 25) (dcN_9 dcg_377 :) (by decide) (fun c2 => ?_) (fun c2 => ?_)
    · replace h := hT h c2
      refine AW.iconst (dcN_13 dcg_377 :) ?_
      exact AW.iret1 rfl (dcN_14 dcg_377 :) h rfl
    · replace h := hF h c2
      refine AW.iload_n 3 (dcN_10 dcg_377 :) rfl ?_
      refine AW.iload 4 (dcN_11 dcg_377 :) rfl ?_
      refine AW.icmp_le (tgt := 27) (dcN_12 dcg_377 :) (by decide) (fun c3 => ?_) (fun c3 => ?_)
      · replace h := hT h c3
        refine AW.aloadr_n 0 (dcN_15 dcg_377 :) rfl ?_
        refine AW.getR af_X11_40_0 sr_0_4 (dcN_16 dcg_377 :) ?_
        refine AW.aloadr_n 0 (dcN_17 dcg_377 :) rfl ?_
        refine AW.getR af_X11_49_0 sr_0_5 (dcN_0 dcg_378 :) ?_
        refine AW.getR af_X11_180_6 sr_6_6 (dcN_1 dcg_378 :) ?_
        refine AW.iload_n 1 (dcN_2 dcg_378 :) rfl ?_
        obtain ⟨k4, h⟩ := hK h
        refine AW.iald kc_51 sk_51 k4 (dcN_3 dcg_378 :) ?_
        refine AW.iload_n 2 (dcN_4 dcg_378 :) rfl ?_
        refine AW.iload_n 3 (dcN_5 dcg_378 :) rfl ?_
        obtain ⟨r5, e6, h⟩ := hC h
        refine AW.callVv (As := [iv (g 51 (ix x1)), iv x2, iv x3]) (st := []) (Voyage_reach_ok e6) cq_X11_187 cr_5_X9_reach (Nat.le_trans (by decide) hdd) rfl (dcN_6 dcg_378 :) rfl (Nat.le_of_ble_eq_true rfl) ?_
        refine AW.aloadr_n 0 (dcN_7 dcg_378 :) rfl ?_
        refine AW.getR af_X11_40_0 sr_0_4 (dcN_8 dcg_378 :) ?_
        refine AW.iload 4 (dcN_9 dcg_378 :) rfl ?_
        obtain ⟨r7, e8, h⟩ := hC h
        refine AW.callVi (As := [iv x4]) (st := []) (Voyage_reached_ok e8) cq_X11_190 cr_5_X9_reached (Nat.le_trans (by decide) hdd) rfl (dcN_10 dcg_378 :) rfl (Nat.le_of_ble_eq_true rfl) ?_
        exact AW.iret1 rfl (dcN_11 dcg_378 :) h rfl
      · replace h := hF h c3
        refine AW.iconst (dcN_13 dcg_377 :) ?_
        exact AW.iret1 rfl (dcN_14 dcg_377 :) h rfl
theorem Rules_valueOf_ok {z : AZ} {x1 : Int} {g : AG} {r : Int × AG} (h : Rules_valueOf x1 g = some r) : AMf z yX6_valueOf cX6_valueOf 2 (some .int) 3 [rv z 2, iv x1] g r := by
  intro d hdd
  refine AM.of (by decide +kernel) (Nat.le_of_ble_eq_true rfl) ?_
  show AW z (RX6, cX6_valueOf, 2, (some .int)) d (QD (some .int) r) 0 [(0, rv z 2), (1, iv x1)] [] g
  unfold Rules_valueOf at h
  refine AW.iload_n 1 (dcN_0 dcg_206 :) rfl ?_
  refine AW.iconst (dcN_1 dcg_206 :) ?_
  refine AW.aloadr_n 0 (dcN_2 dcg_206 :) rfl ?_
  refine AW.getI af_X6_52_2 sr_2_3 (dcN_3 dcg_206 :) ?_
  refine AW.iconst (dcN_4 dcg_206 :) ?_
  refine AW.isub (dcN_5 dcg_206 :) ?_
  refine AW.callN0 (As := [iv x1, iv 0, iv ((g 2 3) - 1)]) (st := []) X_within_ok ns_X6_78 in_X11 cd_X11_within st_X11_within (by decide) (Nat.le_trans (by decide) hdd) rfl (Nat.le_of_ble_eq_true rfl) (dcN_6 dcg_206 :) rfl ?_
  obtain ⟨r5, e6, h⟩ := hC h
  refine AW.join (tgt := 34) (lv1 := []) (st1 := [iv r5.1]) (g1 := r5.2) ?_ (fun J11 => ?_)
  · exact AW.iret1 rfl (dcN_8 dcg_207 :) h rfl
  replace h := e6
  refine AW.if_eq (tgt := 33) (dcN_7 dcg_206 :) (by decide) (fun c1 => ?_) (fun c1 => ?_)
  · replace h := hT h c1
    refine AW.iconst (dcN_7 dcg_207 :) ?_
    refine AW.sub (lv1 := []) [] rfl ?_
    cases h
    exact J11
  · replace h := hF h c1
    refine AW.aloadr_n 0 (dcN_8 dcg_206 :) rfl ?_
    refine AW.aloadr_n 0 (dcN_9 dcg_206 :) rfl ?_
    refine AW.getR af_X6_21_2 sr_2_5 (dcN_10 dcg_206 :) ?_
    refine AW.iload_n 1 (dcN_11 dcg_206 :) rfl ?_
    obtain ⟨k2, h⟩ := hK h
    refine AW.iald kc_20 sk_20 k2 (dcN_0 dcg_207 :) ?_
    refine AW.aloadr_n 0 (dcN_1 dcg_207 :) rfl ?_
    refine AW.getR af_X6_24_2 sr_2_6 (dcN_2 dcg_207 :) ?_
    refine AW.iload_n 1 (dcN_3 dcg_207 :) rfl ?_
    refine AW.iald kc_21 sk_21 k2 (dcN_4 dcg_207 :) ?_
    obtain ⟨r3, e4, h⟩ := hC h
    refine AW.callVi (As := [iv (g 20 (ix x1)), iv (g 21 (ix x1))]) (st := []) (Rules_run_ok e4) cq_X6_74 cr_2_X6_run (Nat.le_trans (by decide) hdd) rfl (dcN_5 dcg_207 :) rfl (Nat.le_of_ble_eq_true rfl) ?_
    refine AW.goto (tgt := 34) (dcN_6 dcg_207 :) (by decide) ?_
    refine AW.sub (lv1 := []) [] rfl ?_
    cases h
    exact J11
theorem Boats_harmOfLock_ok {z : AZ} {x1 : Int} {x2 : Int} {g : AG} {r : Int × AG} (h : Boats_harmOfLock x1 x2 g = some r) : AMf z yX0_harmOfLock cX0_harmOfLock 4 (some .int) 4 [rv z 6, iv x1, iv x2] g r := by
  intro d hdd
  refine AM.of (by decide +kernel) (Nat.le_of_ble_eq_true rfl) ?_
  show AW z (RX0, cX0_harmOfLock, 4, (some .int)) d (QD (some .int) r) 0 [(0, rv z 6), (1, iv x1), (2, iv x2)] [] g
  unfold Boats_harmOfLock at h
  refine AW.aloadr_n 0 (dcN_0 dcg_29 :) rfl ?_
  refine AW.getR af_X0_42_6 sr_6_1 (dcN_1 dcg_29 :) ?_
  refine AW.iload_n 2 (dcN_2 dcg_29 :) rfl ?_
  refine AW.aloadr_n 0 (dcN_3 dcg_29 :) rfl ?_
  refine AW.getR af_X0_38_6 sr_6_0 (dcN_4 dcg_29 :) ?_
  refine AW.getI af_X0_104_1 sr_1_5 (dcN_5 dcg_29 :) ?_
  obtain ⟨r1, e2, h⟩ := hC h
  refine AW.callVv (As := [iv x2, iv (g 1 5)]) (st := []) (Rules_askDay_ok e2) cq_X0_109 cr_2_X6_askDay (Nat.le_trans (by decide) hdd) rfl (dcN_6 dcg_29 :) rfl (Nat.le_of_ble_eq_true rfl) ?_
  refine AW.aloadr_n 0 (dcN_7 dcg_29 :) rfl ?_
  refine AW.getR af_X0_42_6 sr_6_1 (dcN_8 dcg_29 :) ?_
  refine AW.getR af_X0_115_2 sr_2_13 (dcN_9 dcg_29 :) ?_
  refine AW.iconst (dcN_10 dcg_29 :) ?_
  refine AW.aloadr_n 0 (dcN_11 dcg_29 :) rfl ?_
  refine AW.getR af_X0_9_6 sr_6_3 (dcN_12 dcg_29 :) ?_
  refine AW.iload_n 1 (dcN_13 dcg_29 :) rfl ?_
  obtain ⟨k3, h⟩ := hK h
  refine AW.iald kc_48 sk_48 k3 (dcN_14 dcg_29 :) ?_
  obtain ⟨g4, e5, h⟩ := hBe h
  refine AW.iast kc_27 sk_27 (by decide) (dcN_15 dcg_29 :) e5 ?_
  refine AW.aloadr_n 0 (dcN_16 dcg_29 :) rfl ?_
  refine AW.getR af_X0_42_6 sr_6_1 (dcN_17 dcg_29 :) ?_
  refine AW.getR af_X0_115_2 sr_2_13 (dcN_0 dcg_30 :) ?_
  refine AW.iconst (dcN_1 dcg_30 :) ?_
  refine AW.aloadr_n 0 (dcN_2 dcg_30 :) rfl ?_
  refine AW.getR af_X0_15_6 sr_6_4 (dcN_3 dcg_30 :) ?_
  refine AW.iload_n 1 (dcN_4 dcg_30 :) rfl ?_
  refine AW.iald kc_49 sk_49 k3 (dcN_5 dcg_30 :) ?_
  obtain ⟨g6, e7, h⟩ := hBe h
  refine AW.iast kc_27 sk_27 (by decide) (dcN_6 dcg_30 :) e7 ?_
  refine AW.aloadr_n 0 (dcN_7 dcg_30 :) rfl ?_
  refine AW.getR af_X0_42_6 sr_6_1 (dcN_8 dcg_30 :) ?_
  refine AW.getR af_X0_115_2 sr_2_13 (dcN_9 dcg_30 :) ?_
  refine AW.bipush (dcN_10 dcg_30 :) (by decide) (by decide) ?_
  refine AW.aloadr_n 0 (dcN_11 dcg_30 :) rfl ?_
  refine AW.getR af_X0_21_6 sr_6_6 (dcN_12 dcg_30 :) ?_
  refine AW.iload_n 1 (dcN_13 dcg_30 :) rfl ?_
  refine AW.iald kc_51 sk_51 k3 (dcN_14 dcg_30 :) ?_
  obtain ⟨g8, e9, h⟩ := hBe h
  refine AW.iast kc_27 sk_27 (by decide) (dcN_15 dcg_30 :) e9 ?_
  refine AW.aloadr_n 0 (dcN_16 dcg_30 :) rfl ?_
  refine AW.getR af_X0_42_6 sr_6_1 (dcN_17 dcg_30 :) ?_
  refine AW.bipush (dcN_0 dcg_31 :) (by decide) (by decide) ?_
  obtain ⟨r10, e11, h⟩ := hC h
  refine AW.callVi (As := [iv 104]) (st := []) (Rules_serving_ok e11) cq_X0_118 cr_2_X6_serving (Nat.le_trans (by decide) hdd) rfl (dcN_1 dcg_31 :) rfl (Nat.le_of_ble_eq_true rfl) ?_
  refine AW.istore_n (lv1 := [(3, iv r10.1), (0, rv z 6), (1, iv x1), (2, iv x2)]) (dcN_2 dcg_31 :) (by decide) rfl ?_
  refine AW.iload_n 0 (dcN_3 dcg_31 :) rfl ?_
  refine AW.iconst (dcN_4 dcg_31 :) ?_
  obtain ⟨r15, e16, h⟩ := hC h
  refine AW.join (tgt := 98) (lv1 := []) (st1 := [iv r15.1]) (g1 := r15.2) ?_ (fun J73 => ?_)
  · exact AW.iret1 rfl (dcN_0 dcg_32 :) h rfl
  replace h := e16
  refine AW.icmp_ne (tgt := 80) (dcN_5 dcg_31 :) (by decide) (fun c12 => ?_) (fun c12 => ?_)
  · replace h := hF h c12
    refine AW.iconst (dcN_8 dcg_31 :) ?_
    refine AW.sipush (dcN_9 dcg_31 :) (by decide) (by decide) ?_
    refine AW.aloadr_n 1 (dcN_10 dcg_31 :) rfl ?_
    refine AW.getR af_X0_42_6 sr_6_1 (dcN_11 dcg_31 :) ?_
    refine AW.iload_n 0 (dcN_12 dcg_31 :) rfl ?_
    obtain ⟨r13, e14, h⟩ := hC h
    refine AW.callVi (As := [iv r10.1]) (st := [iv 999, iv 0]) (Rules_valueOf_ok e14) cq_X0_121 cr_2_X6_valueOf (Nat.le_trans (by decide) hdd) rfl (dcN_13 dcg_31 :) rfl (Nat.le_of_ble_eq_true rfl) ?_
    refine AW.mmin (st := [iv 0]) cm_X0_124 mst_min mini mcd_min (Nat.le_trans (by decide) hdd) (Nat.le_of_ble_eq_true rfl) (dcN_14 dcg_31 :) ?_
    refine AW.mmax (st := []) cm_X0_71 mst_max mini mcd_max (Nat.le_trans (by decide) hdd) (Nat.le_of_ble_eq_true rfl) (dcN_15 dcg_31 :) ?_
    refine AW.sub (lv1 := []) [] rfl ?_
    cases h
    exact J73
  · replace h := hT h c12
    refine AW.iconst (dcN_6 dcg_31 :) ?_
    refine AW.goto (tgt := 98) (dcN_7 dcg_31 :) (by decide) ?_
    refine AW.sub (lv1 := []) [] rfl ?_
    cases h
    exact J73
set_option synthInstance.maxHeartbeats 2000000 in
theorem Boats_harmOfLatestWay_b_ok {z : AZ} {d : Nat} (hdd : 5 ≤ d) {x1 : Int} : ∀ (x2 : Int) (x3 : Int) (g : AG) (r : Int × AG), Boats_harmOfLatestWay_b x1 x2 x3 g = some r → AW z (RX0, cX0_harmOfLatestWay, 4, (some .int)) d (QD (some .int) r) 4 [(0, rv z 6), (1, iv x1), (2, iv x2), (3, iv x3)] [] g := by
  refine Boats_harmOfLatestWay_b.partial_correctness x1 (fun x2 x3 g r => AW z (RX0, cX0_harmOfLatestWay, 4, (some .int)) d (QD (some .int) r) 4 [(0, rv z 6), (1, iv x1), (2, iv x2), (3, iv x3)] [] g) ?_
  intro fb9 ih x2 x3 g r h
  refine AW.iload_n 3 (dcN_4 dcg_27 :) rfl ?_
  refine AW.bipush (dcN_5 dcg_27 :) (by decide) (by decide) ?_
  refine AW.icmp_ge (tgt := 47) (dcN_6 dcg_27 :) (by decide) (fun c1 => ?_) (fun c1 => ?_)
  · replace h := hT h c1
    refine AW.iload_n 2 (dcN_9 dcg_28 :) rfl ?_
    exact AW.iret1 rfl (dcN_10 dcg_28 :) h rfl
  · replace h := hF h c1
    refine AW.aloadr_n 0 (dcN_7 dcg_27 :) rfl ?_
    refine AW.getR af_X0_46_6 sr_6_2 (dcN_8 dcg_27 :) ?_
    refine AW.getR af_X0_98_5 sr_5_5 (dcN_9 dcg_27 :) ?_
    refine AW.iload_n 3 (dcN_10 dcg_27 :) rfl ?_
    obtain ⟨k2, h⟩ := hK h
    refine AW.iald kc_47 sk_47 k2 (dcN_11 dcg_27 :) ?_
    obtain ⟨r6, e7, h⟩ := hC h
    refine AW.join (tgt := 41) (lv1 := [(0, rv z 6), (1, iv x1), (2, iv r6.1), (3, iv x3)]) (st1 := []) (g1 := r6.2) ?_ (fun J19 => ?_)
    · refine AW.iinc (lv1 := [(3, iv (x3 + 1)), (0, rv z 6), (1, iv x1), (2, iv r6.1)]) 3 (dcN_7 dcg_28 :) rfl (by decide) rfl ?_
      refine AW.goto (tgt := 4) (dcN_8 dcg_28 :) (by decide) ?_
      refine AW.sub (lv1 := [(0, rv z 6), (1, iv x1), (2, iv r6.1), (3, iv (x3 + 1))]) [1, 2, 3, 0] rfl ?_
      exact ih _ _ _ _ h
    replace h := e7
    refine AW.if_le (tgt := 41) (dcN_12 dcg_27 :) (by decide) (fun c3 => ?_) (fun c3 => ?_)
    · replace h := hT h c3
      cases h
      exact J19
    · replace h := hF h c3
      refine AW.iload_n 2 (dcN_13 dcg_27 :) rfl ?_
      refine AW.aloadr_n 0 (dcN_14 dcg_27 :) rfl ?_
      refine AW.getR af_X0_46_6 sr_6_2 (dcN_15 dcg_27 :) ?_
      refine AW.getR af_X0_98_5 sr_5_5 (dcN_16 dcg_27 :) ?_
      refine AW.iload_n 3 (dcN_17 dcg_27 :) rfl ?_
      refine AW.iald kc_47 sk_47 k2 (dcN_18 dcg_27 :) ?_
      refine AW.aloadr_n 0 (dcN_0 dcg_28 :) rfl ?_
      refine AW.iload_n 1 (dcN_1 dcg_28 :) rfl ?_
      refine AW.iload_n 3 (dcN_2 dcg_28 :) rfl ?_
      obtain ⟨r4, e5, h⟩ := hC h
      refine AW.callVi (As := [iv x1, iv x3]) (st := [iv (g 47 (ix x3)), iv x2]) (Boats_harmOfLock_ok e5) cq_X0_101 cr_6_X0_harmOfLock (Nat.le_trans (by decide) hdd) rfl (dcN_3 dcg_28 :) rfl (Nat.le_of_ble_eq_true rfl) ?_
      refine AW.imul (dcN_4 dcg_28 :) ?_
      refine AW.iadd (dcN_5 dcg_28 :) ?_
      refine AW.istore_n (lv1 := [(2, iv (x2 + ((g 47 (ix x3)) * r4.1))), (0, rv z 6), (1, iv x1), (3, iv x3)]) (dcN_6 dcg_28 :) (by decide) rfl ?_
      refine AW.sub (lv1 := [(0, rv z 6), (1, iv x1), (2, iv (x2 + ((g 47 (ix x3)) * r4.1))), (3, iv x3)]) [1, 2, 0, 3] rfl ?_
      cases h
      exact J19
theorem Boats_harmOfLatestWay_ok {z : AZ} {x1 : Int} {g : AG} {r : Int × AG} (h : Boats_harmOfLatestWay x1 g = some r) : AMf z yX0_harmOfLatestWay cX0_harmOfLatestWay 4 (some .int) 5 [rv z 6, iv x1] g r := by
  intro d hdd
  refine AM.of (by decide +kernel) (Nat.le_of_ble_eq_true rfl) ?_
  show AW z (RX0, cX0_harmOfLatestWay, 4, (some .int)) d (QD (some .int) r) 0 [(0, rv z 6), (1, iv x1)] [] g
  unfold Boats_harmOfLatestWay at h
  refine AW.iconst (dcN_0 dcg_27 :) ?_
  refine AW.istore_n (lv1 := [(2, iv 0), (0, rv z 6), (1, iv x1)]) (dcN_1 dcg_27 :) (by decide) rfl ?_
  refine AW.iconst (dcN_2 dcg_27 :) ?_
  refine AW.istore_n (lv1 := [(3, iv 0), (2, iv 0), (0, rv z 6), (1, iv x1)]) (dcN_3 dcg_27 :) (by decide) rfl ?_
  refine AW.sub (lv1 := [(0, rv z 6), (1, iv x1), (2, iv 0), (3, iv 0)]) [2, 3, 1, 0] rfl ?_
  exact Boats_harmOfLatestWay_b_ok hdd _ _ _ _ h
theorem X_harm_ok {z : AZ} {x1 : Int} {x2 : Int} {x3 : Int} {x4 : Int} {g : AG} {r : Int × AG} (h : X_harm x1 x2 x3 x4 g = some r) : AMf z yX11_harm cX11_harm 6 (some .int) 6 [rv z 0, iv x1, iv x2, iv x3, iv x4] g r := by
  intro d hdd
  refine AM.of (by decide +kernel) (Nat.le_of_ble_eq_true rfl) ?_
  show AW z (RX11, cX11_harm, 6, (some .int)) d (QD (some .int) r) 0 [(0, rv z 0), (1, iv x1), (2, iv x2), (3, iv x3), (4, iv x4)] [] g
  unfold X_harm at h
  refine AW.aloadr_n 0 (dcN_0 dcg_379 :) rfl ?_
  refine AW.iload_n 1 (dcN_1 dcg_379 :) rfl ?_
  refine AW.iload_n 2 (dcN_2 dcg_379 :) rfl ?_
  refine AW.iload_n 3 (dcN_3 dcg_379 :) rfl ?_
  refine AW.iload 4 (dcN_4 dcg_379 :) rfl ?_
  refine AW.callVi (As := [iv x1, iv x2, iv x3, iv x4]) (st := []) X_isWay_ok cq_X11_176 cr_0_X11_isWay (Nat.le_trans (by decide) hdd) rfl (dcN_5 dcg_379 :) rfl (Nat.le_of_ble_eq_true rfl) ?_
  refine AW.if_ne (tgt := 14) (dcN_6 dcg_379 :) (by decide) (fun c1 => ?_) (fun c1 => ?_)
  · replace h := hF h c1
    refine AW.aloadr_n 0 (dcN_9 dcg_379 :) rfl ?_
    refine AW.getR af_X11_40_0 sr_0_4 (dcN_10 dcg_379 :) ?_
    refine AW.aloadr_n 0 (dcN_11 dcg_379 :) rfl ?_
    refine AW.getR af_X11_49_0 sr_0_5 (dcN_12 dcg_379 :) ?_
    refine AW.getR af_X11_180_6 sr_6_6 (dcN_13 dcg_379 :) ?_
    refine AW.iload_n 1 (dcN_14 dcg_379 :) rfl ?_
    obtain ⟨k2, h⟩ := hK h
    refine AW.iald kc_51 sk_51 k2 (dcN_15 dcg_379 :) ?_
    refine AW.iload_n 2 (dcN_16 dcg_379 :) rfl ?_
    refine AW.iload_n 3 (dcN_17 dcg_379 :) rfl ?_
    refine AW.iload 4 (dcN_18 dcg_379 :) rfl ?_
    refine AW.iconst (dcN_19 dcg_379 :) ?_
    obtain ⟨r3, e4, h⟩ := hC h
    refine AW.callVi (As := [iv (g 51 (ix x1)), iv x2, iv x3, iv x4, iv 1]) (st := []) (Voyage_comesTo_ok e4) cq_X11_183 cr_5_X9_comesTo (Nat.le_trans (by decide) hdd) rfl (dcN_0 dcg_380 :) rfl (Nat.le_of_ble_eq_true rfl) ?_
    refine AW.istore (lv1 := [(5, iv r3.1), (0, rv z 0), (1, iv x1), (2, iv x2), (3, iv x3), (4, iv x4)]) (dcN_1 dcg_380 :) (by decide) rfl ?_
    refine AW.iload 0 (dcN_2 dcg_380 :) rfl ?_
    refine AW.iconst (dcN_3 dcg_380 :) ?_
    obtain ⟨r8, e9, h⟩ := hC h
    refine AW.join (tgt := 55) (lv1 := []) (st1 := [iv r8.1]) (g1 := r8.2) ?_ (fun J40 => ?_)
    · exact AW.iret1 rfl (dcN_11 dcg_380 :) h rfl
    replace h := e9
    refine AW.icmp_ne (tgt := 47) (dcN_4 dcg_380 :) (by decide) (fun c5 => ?_) (fun c5 => ?_)
    · replace h := hF h c5
      refine AW.aloadr_n 1 (dcN_7 dcg_380 :) rfl ?_
      refine AW.getR af_X11_49_0 sr_0_5 (dcN_8 dcg_380 :) ?_
      refine AW.iload_n 2 (dcN_9 dcg_380 :) rfl ?_
      obtain ⟨r6, e7, h⟩ := hC h
      refine AW.callVi (As := [iv x1]) (st := []) (Boats_harmOfLatestWay_ok e7) cq_X11_194 cr_6_X0_harmOfLatestWay (Nat.le_trans (by decide) hdd) rfl (dcN_10 dcg_380 :) rfl (Nat.le_of_ble_eq_true rfl) ?_
      refine AW.sub (lv1 := []) [] rfl ?_
      cases h
      exact J40
    · replace h := hT h c5
      refine AW.iconst (dcN_5 dcg_380 :) ?_
      refine AW.goto (tgt := 55) (dcN_6 dcg_380 :) (by decide) ?_
      refine AW.sub (lv1 := []) [] rfl ?_
      cases h
      exact J40
  · replace h := hT h c1
    refine AW.iconst (dcN_7 dcg_379 :) ?_
    exact AW.iret1 rfl (dcN_8 dcg_379 :) h rfl
theorem Trips_lateBy_ok {z : AZ} {x1 : Int} {x2 : Int} {g : AG} {r : Int × AG} (h : Trips_lateBy x1 x2 g = some r) : AMf z yX7_lateBy cX7_lateBy 4 (some .int) 5 [rv z 7, iv x1, iv x2] g r := by
  intro d hdd
  refine AM.of (by decide +kernel) (Nat.le_of_ble_eq_true rfl) ?_
  show AW z (RX7, cX7_lateBy, 4, (some .int)) d (QD (some .int) r) 0 [(0, rv z 7), (1, iv x1), (2, iv x2)] [] g
  unfold Trips_lateBy at h
  refine AW.aloadr_n 0 (dcN_0 dcg_226 :) rfl ?_
  refine AW.getR af_X7_35_7 sr_7_2 (dcN_1 dcg_226 :) ?_
  refine AW.aloadr_n 0 (dcN_2 dcg_226 :) rfl ?_
  refine AW.getR af_X7_27_7 sr_7_0 (dcN_3 dcg_226 :) ?_
  refine AW.getR af_X7_43_6 sr_6_6 (dcN_4 dcg_226 :) ?_
  refine AW.aloadr_n 0 (dcN_5 dcg_226 :) rfl ?_
  refine AW.getR af_X7_9_7 sr_7_3 (dcN_6 dcg_226 :) ?_
  refine AW.iload_n 1 (dcN_7 dcg_226 :) rfl ?_
  obtain ⟨k1, h⟩ := hK h
  refine AW.iald kc_76 sk_76 k1 (dcN_8 dcg_226 :) ?_
  obtain ⟨k2, h⟩ := hK h
  refine AW.iald kc_51 sk_51 k2 (dcN_9 dcg_226 :) ?_
  refine AW.aloadr_n 0 (dcN_10 dcg_226 :) rfl ?_
  refine AW.getR af_X7_15_7 sr_7_4 (dcN_11 dcg_226 :) ?_
  refine AW.iload_n 1 (dcN_12 dcg_226 :) rfl ?_
  refine AW.iald kc_77 sk_77 k1 (dcN_13 dcg_226 :) ?_
  refine AW.aloadr_n 0 (dcN_14 dcg_226 :) rfl ?_
  refine AW.getR af_X7_18_7 sr_7_5 (dcN_15 dcg_226 :) ?_
  refine AW.iload_n 1 (dcN_16 dcg_226 :) rfl ?_
  refine AW.iald kc_78 sk_78 k1 (dcN_17 dcg_226 :) ?_
  refine AW.aloadr_n 0 (dcN_18 dcg_226 :) rfl ?_
  refine AW.getR af_X7_21_7 sr_7_6 (dcN_19 dcg_226 :) ?_
  refine AW.iload_n 1 (dcN_0 dcg_227 :) rfl ?_
  refine AW.iald kc_79 sk_79 k1 (dcN_1 dcg_227 :) ?_
  refine AW.iload_n 2 (dcN_2 dcg_227 :) rfl ?_
  obtain ⟨r3, e4, h⟩ := hC h
  refine AW.callVi (As := [iv (g 51 (ix (g 76 (ix x1)))), iv (g 77 (ix x1)), iv (g 78 (ix x1)), iv (g 79 (ix x1)), iv x2]) (st := []) (Voyage_comesTo_ok e4) cq_X7_48 cr_5_X9_comesTo (Nat.le_trans (by decide) hdd) rfl (dcN_3 dcg_227 :) rfl (Nat.le_of_ble_eq_true rfl) ?_
  refine AW.istore_n (lv1 := [(3, iv r3.1), (0, rv z 7), (1, iv x1), (2, iv x2)]) (dcN_4 dcg_227 :) (by decide) rfl ?_
  refine AW.iload_n 0 (dcN_5 dcg_227 :) rfl ?_
  refine AW.iconst (dcN_6 dcg_227 :) ?_
  obtain ⟨r6, e7, h⟩ := hC h
  refine AW.join (tgt := 64) (lv1 := []) (st1 := [iv r6.1]) (g1 := r6.2) ?_ (fun J43 => ?_)
  · exact AW.iret1 rfl (dcN_0 dcg_228 :) h rfl
  replace h := e7
  refine AW.icmp_ne (tgt := 52) (dcN_7 dcg_227 :) (by decide) (fun c5 => ?_) (fun c5 => ?_)
  · replace h := hF h c5
    refine AW.iconst (dcN_10 dcg_227 :) ?_
    refine AW.iload_n 0 (dcN_11 dcg_227 :) rfl ?_
    refine AW.aloadr_n 1 (dcN_12 dcg_227 :) rfl ?_
    refine AW.getR af_X7_24_7 sr_7_7 (dcN_13 dcg_227 :) ?_
    refine AW.iload_n 2 (dcN_14 dcg_227 :) rfl ?_
    refine AW.iald kc_80 sk_80 k1 (dcN_15 dcg_227 :) ?_
    refine AW.isub (dcN_16 dcg_227 :) ?_
    refine AW.mmax (st := []) cm_X7_54 mst_max mini mcd_max (Nat.le_trans (by decide) hdd) (Nat.le_of_ble_eq_true rfl) (dcN_17 dcg_227 :) ?_
    refine AW.sub (lv1 := []) [] rfl ?_
    cases h
    exact J43
  · replace h := hT h c5
    refine AW.sipush (dcN_8 dcg_227 :) (by decide) (by decide) ?_
    refine AW.goto (tgt := 64) (dcN_9 dcg_227 :) (by decide) ?_
    refine AW.sub (lv1 := []) [] rfl ?_
    cases h
    exact J43
theorem Rules_askWeek_ok {z : AZ} {x1 : Int} {g : AG} {r : Int × AG} (h : Rules_askWeek x1 g = some r) : AMf z yX6_askWeek cX6_askWeek 2 none 1 [rv z 2, iv x1] g r := by
  intro d hdd
  refine AM.of (by decide +kernel) (Nat.le_of_ble_eq_true rfl) ?_
  show AW z (RX6, cX6_askWeek, 2, none) d (QD none r) 0 [(0, rv z 2), (1, iv x1)] [] g
  unfold Rules_askWeek at h
  refine AW.aloadr_n 0 (dcN_0 dcg_203 :) rfl ?_
  refine AW.getR af_X6_42_2 sr_2_13 (dcN_1 dcg_203 :) ?_
  refine AW.iconst (dcN_2 dcg_203 :) ?_
  obtain ⟨g1, e2, h⟩ := hBe h
  refine AW.callSv (st := []) (fill_ok kc_27 sk_27 (by decide)) cf_X6_58 st_fill (Nat.le_trans (by decide) hdd) rfl (dcN_3 dcg_203 :) rfl (Nat.le_of_ble_eq_true rfl) ?_
  rw [← e2]
  refine AW.aloadr_n 0 (dcN_4 dcg_203 :) rfl ?_
  refine AW.getR af_X6_42_2 sr_2_13 (dcN_5 dcg_203 :) ?_
  refine AW.iconst (dcN_6 dcg_203 :) ?_
  refine AW.iload_n 1 (dcN_7 dcg_203 :) rfl ?_
  obtain ⟨g3, e4, h⟩ := hBe h
  refine AW.iast kc_27 sk_27 (by decide) (dcN_8 dcg_203 :) e4 ?_
  exact AW.vret1 rfl (dcN_9 dcg_203 :) h rfl
theorem Boats_priceLine_ok {z : AZ} {x1 : Int} {x2 : Int} {x3 : Int} {g : AG} {r : Int × AG} (h : Boats_priceLine x1 x2 x3 g = some r) : AMf z yX0_priceLine cX0_priceLine 4 (some .int) 4 [rv z 6, iv x1, iv x2, iv x3] g r := by
  intro d hdd
  refine AM.of (by decide +kernel) (Nat.le_of_ble_eq_true rfl) ?_
  show AW z (RX0, cX0_priceLine, 4, (some .int)) d (QD (some .int) r) 0 [(0, rv z 6), (1, iv x1), (2, iv x2), (3, iv x3)] [] g
  unfold Boats_priceLine at h
  refine AW.aloadr_n 0 (dcN_0 dcg_33 :) rfl ?_
  refine AW.getR af_X0_42_6 sr_6_1 (dcN_1 dcg_33 :) ?_
  refine AW.iload_n 2 (dcN_2 dcg_33 :) rfl ?_
  obtain ⟨r1, e2, h⟩ := hC h
  refine AW.callVv (As := [iv x2]) (st := []) (Rules_askWeek_ok e2) cq_X0_127 cr_2_X6_askWeek (Nat.le_trans (by decide) hdd) rfl (dcN_3 dcg_33 :) rfl (Nat.le_of_ble_eq_true rfl) ?_
  refine AW.aloadr_n 0 (dcN_4 dcg_33 :) rfl ?_
  refine AW.getR af_X0_42_6 sr_6_1 (dcN_5 dcg_33 :) ?_
  refine AW.getR af_X0_115_2 sr_2_13 (dcN_6 dcg_33 :) ?_
  refine AW.iconst (dcN_7 dcg_33 :) ?_
  refine AW.aloadr_n 0 (dcN_8 dcg_33 :) rfl ?_
  refine AW.getR af_X0_9_6 sr_6_3 (dcN_9 dcg_33 :) ?_
  refine AW.iload_n 1 (dcN_10 dcg_33 :) rfl ?_
  obtain ⟨k3, h⟩ := hK h
  refine AW.iald kc_48 sk_48 k3 (dcN_11 dcg_33 :) ?_
  obtain ⟨g4, e5, h⟩ := hBe h
  refine AW.iast kc_27 sk_27 (by decide) (dcN_12 dcg_33 :) e5 ?_
  refine AW.aloadr_n 0 (dcN_13 dcg_33 :) rfl ?_
  refine AW.getR af_X0_42_6 sr_6_1 (dcN_14 dcg_33 :) ?_
  refine AW.getR af_X0_115_2 sr_2_13 (dcN_15 dcg_33 :) ?_
  refine AW.iconst (dcN_16 dcg_33 :) ?_
  refine AW.iload_n 3 (dcN_17 dcg_33 :) rfl ?_
  obtain ⟨t6, e7, h⟩ := hBe h
  refine AW.join (tgt := 40) (lv1 := [(0, rv z 6), (1, iv x1), (2, iv x2), (3, iv x3)]) (st1 := [iv t6, iv 4, rv z 27]) (g1 := g4) ?_ (fun J32 => ?_)
  · obtain ⟨g8, e9, h⟩ := hBe h
    refine AW.iast kc_27 sk_27 (by decide) (dcN_4 dcg_34 :) e9 ?_
    refine AW.aloadr_n 0 (dcN_5 dcg_34 :) rfl ?_
    refine AW.getR af_X0_42_6 sr_6_1 (dcN_6 dcg_34 :) ?_
    refine AW.getR af_X0_115_2 sr_2_13 (dcN_7 dcg_34 :) ?_
    refine AW.iconst (dcN_8 dcg_34 :) ?_
    refine AW.aloadr_n 0 (dcN_9 dcg_34 :) rfl ?_
    refine AW.getR af_X0_15_6 sr_6_4 (dcN_10 dcg_34 :) ?_
    refine AW.iload_n 1 (dcN_11 dcg_34 :) rfl ?_
    refine AW.iald kc_49 sk_49 k3 (dcN_12 dcg_34 :) ?_
    obtain ⟨g10, e11, h⟩ := hBe h
    refine AW.iast kc_27 sk_27 (by decide) (dcN_13 dcg_34 :) e11 ?_
    refine AW.aloadr_n 0 (dcN_14 dcg_34 :) rfl ?_
    refine AW.getR af_X0_42_6 sr_6_1 (dcN_15 dcg_34 :) ?_
    refine AW.bipush (dcN_16 dcg_34 :) (by decide) (by decide) ?_
    obtain ⟨r12, e13, h⟩ := hC h
    refine AW.callVi (As := [iv 102]) (st := []) (Rules_serving_ok e13) cq_X0_118 cr_2_X6_serving (Nat.le_trans (by decide) hdd) rfl (dcN_17 dcg_34 :) rfl (Nat.le_of_ble_eq_true rfl) ?_
    exact AW.iret1 rfl (dcN_0 dcg_35 :) h rfl
  refine AW.if_eq (tgt := 39) (dcN_0 dcg_34 :) (by decide) (fun c14 => ?_) (fun c14 => ?_)
  · refine AW.iconst (dcN_3 dcg_34 :) ?_
    exact AW.val (e7.trans (if_pos c14)) J32
  · refine AW.iconst (dcN_1 dcg_34 :) ?_
    refine AW.goto (tgt := 40) (dcN_2 dcg_34 :) (by decide) ?_
    exact AW.val (e7.trans (if_neg c14)) J32
end
