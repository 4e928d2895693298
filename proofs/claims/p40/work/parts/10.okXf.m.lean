section
theorem Bookings_canHave_ok {z : AZ} {x1 : Int} {x2 : Int} {g : AG} {r : Int} (h : Bookings_canHave x1 x2 g = some r) : AMf z yX1_canHave cX1_canHave 3 (some .boolean) 0 [rv z 9, iv x1, iv x2] g (r, g) := by
  intro d hdd
  refine AM.of (by decide +kernel) (Nat.le_of_ble_eq_true rfl) ?_
  show AW z (RX1, cX1_canHave, 3, (some .boolean)) d (QD (some .boolean) (r, g)) 0 [(0, rv z 9), (1, iv x1), (2, iv x2)] [] g
  unfold Bookings_canHave at h
  refine AW.aloadr_n 0 (dcN_0 dcg_67 :) rfl ?_
  refine AW.getR af_X1_27_9 sr_9_6 (dcN_1 dcg_67 :) ?_
  refine AW.iload_n 1 (dcN_2 dcg_67 :) rfl ?_
  obtain ⟨k1, h⟩ := hK h
  refine AW.iald kc_90 sk_90 k1 (dcN_3 dcg_67 :) ?_
  refine AW.aloadr_n 0 (dcN_4 dcg_67 :) rfl ?_
  refine AW.getR af_X1_21_9 sr_9_3 (dcN_5 dcg_67 :) ?_
  refine AW.iload_n 2 (dcN_6 dcg_67 :) rfl ?_
  obtain ⟨k2, h⟩ := hK h
  refine AW.iald kc_88 sk_88 k2 (dcN_7 dcg_67 :) ?_
  obtain ⟨r8, e9, h⟩ := hC h
  refine AW.join (tgt := 50) (lv1 := []) (st1 := [iv r8]) (g1 := g) ?_ (fun J12 => ?_)
  · obtain ⟨k10, h⟩ := hK h
    exact AW.zret2 rfl k10 (dcN_10 dcg_68 :) h rfl
  replace h := e9
  refine AW.icmp_lt (tgt := 49) (dcN_8 dcg_67 :) (by decide) (fun c3 => ?_) (fun c3 => ?_)
  · replace h := hT h c3
    refine AW.iconst (dcN_9 dcg_68 :) ?_
    refine AW.sub (lv1 := []) [] rfl ?_
    cases h
    exact J12
  · replace h := hF h c3
    refine AW.aloadr_n 0 (dcN_9 dcg_67 :) rfl ?_
    refine AW.getR af_X1_33_9 sr_9_8 (dcN_10 dcg_67 :) ?_
    refine AW.iload_n 1 (dcN_11 dcg_67 :) rfl ?_
    refine AW.iald kc_92 sk_92 k1 (dcN_12 dcg_67 :) ?_
    refine AW.aloadr_n 0 (dcN_13 dcg_67 :) rfl ?_
    refine AW.getR af_X1_9_9 sr_9_0 (dcN_14 dcg_67 :) ?_
    refine AW.iload_n 2 (dcN_15 dcg_67 :) rfl ?_
    refine AW.iald kc_85 sk_85 k2 (dcN_16 dcg_67 :) ?_
    refine AW.icmp_ne (tgt := 49) (dcN_17 dcg_67 :) (by decide) (fun c4 => ?_) (fun c4 => ?_)
    · replace h := hF h c4
      refine AW.iconst (dcN_9 dcg_68 :) ?_
      refine AW.sub (lv1 := []) [] rfl ?_
      cases h
      exact J12
    · replace h := hT h c4
      refine AW.aloadr_n 0 (dcN_18 dcg_67 :) rfl ?_
      refine AW.getR af_X1_36_9 sr_9_9 (dcN_19 dcg_67 :) ?_
      refine AW.iload_n 1 (dcN_0 dcg_68 :) rfl ?_
      refine AW.iald kc_93 sk_93 k1 (dcN_1 dcg_68 :) ?_
      refine AW.aloadr_n 0 (dcN_2 dcg_68 :) rfl ?_
      refine AW.getR af_X1_18_9 sr_9_2 (dcN_3 dcg_68 :) ?_
      refine AW.iload_n 2 (dcN_4 dcg_68 :) rfl ?_
      refine AW.iald kc_87 sk_87 k2 (dcN_5 dcg_68 :) ?_
      obtain ⟨t5, e6, h⟩ := hBe h
      refine AW.join (tgt := 50) (lv1 := [(0, rv z 9), (1, iv x1), (2, iv x2)]) (st1 := [iv t5]) (g1 := g) ?_ (fun J42 => ?_)
      · refine AW.sub (lv1 := []) [] rfl ?_
        cases h
        exact J12
      refine AW.icmp_ge (tgt := 49) (dcN_6 dcg_68 :) (by decide) (fun c7 => ?_) (fun c7 => ?_)
      · refine AW.iconst (dcN_9 dcg_68 :) ?_
        exact AW.val (e6.trans (if_pos c7)) J42
      · refine AW.iconst (dcN_7 dcg_68 :) ?_
        refine AW.goto (tgt := 50) (dcN_8 dcg_68 :) (by decide) ?_
        exact AW.val (e6.trans (if_neg c7)) J42
set_option synthInstance.maxHeartbeats 2000000 in
theorem Bookings_giveNext_b_ok {z : AZ} {rec : Int → Int → AG → Option (Int × AG)} {Dr : Nat} (hC9 : 2 ≤ Dr) (hrec : ∀ (x1 : Int) (x2 : Int) (g : AG) (r : Int × AG), rec x1 x2 g = some r → AMf z yX1_giveNext cX1_giveNext 8 none Dr [rv z 9, iv x1, iv x2] g r) {d : Nat} (hdd : Dr + 1 ≤ d) {x1 : Int} {x2 : Int} : ∀ (tag : Nat) (x4 : Int) (x5 : Int) (g : AG) (r : Int × AG), Bookings_giveNext_b rec x1 x2 tag x4 x5 g = some r → (tag = 1 → AW z (RX1, cX1_giveNext, 8, none) d (QD none r) 37 [(0, rv z 9), (1, iv x1), (2, iv x2)] [] g) ∧ (tag = 2 → AW z (RX1, cX1_giveNext, 8, none) d (QD none r) 62 [(0, rv z 9), (1, iv x1), (2, iv x2), (4, iv x4), (5, iv x5)] [] g) := by
  refine Bookings_giveNext_b.partial_correctness rec x1 x2 (fun tag x4 x5 g r => (tag = 1 → AW z (RX1, cX1_giveNext, 8, none) d (QD none r) 37 [(0, rv z 9), (1, iv x1), (2, iv x2)] [] g) ∧ (tag = 2 → AW z (RX1, cX1_giveNext, 8, none) d (QD none r) 62 [(0, rv z 9), (1, iv x1), (2, iv x2), (4, iv x4), (5, iv x5)] [] g)) ?_
  intro fb9 ih tag x4 x5 g r h
  refine ⟨fun h9 => ?_, fun h9 => ?_⟩
  · subst h9
    replace h := hT h rfl
    refine AW.iload_n 1 (dcN_2 dcg_62 :) rfl ?_
    refine AW.aloadr_n 0 (dcN_3 dcg_62 :) rfl ?_
    refine AW.getI af_X1_48_9 sr_9_4 (dcN_4 dcg_62 :) ?_
    refine AW.icmp_lt (tgt := 51) (dcN_5 dcg_62 :) (by decide) (fun c1 => ?_) (fun c1 => ?_)
    · replace h := hT h c1
      refine AW.aloadr_n 0 (dcN_10 dcg_62 :) rfl ?_
      refine AW.getR af_X1_24_9 sr_9_5 (dcN_11 dcg_62 :) ?_
      refine AW.iload_n 1 (dcN_12 dcg_62 :) rfl ?_
      obtain ⟨k2, h⟩ := hK h
      refine AW.iald kc_89 sk_89 k2 (dcN_13 dcg_62 :) ?_
      refine AW.istore (lv1 := [(4, iv (g 89 (ix x1))), (0, rv z 9), (1, iv x1), (2, iv x2)]) (dcN_14 dcg_62 :) (by decide) rfl ?_
      refine AW.iconst (dcN_15 dcg_62 :) ?_
      refine AW.istore (lv1 := [(5, iv 0), (4, iv (g 89 (ix x1))), (0, rv z 9), (1, iv x1), (2, iv x2)]) (dcN_16 dcg_62 :) (by decide) rfl ?_
      refine AW.sub (lv1 := [(0, rv z 9), (1, iv x1), (2, iv x2), (4, iv (g 89 (ix x1))), (5, iv 0)]) [2, 3, 4, 1, 0] rfl ?_
      exact (ih _ _ _ _ _ h).2 rfl
    · replace h := hF h c1
      refine AW.aloadr_n 0 (dcN_6 dcg_62 :) rfl ?_
      refine AW.iload_n 2 (dcN_7 dcg_62 :) rfl ?_
      obtain ⟨r3, e4, h⟩ := hC h
      refine AW.callVv (As := [iv x2]) (st := []) (Bookings_compare_ok e4) cq_X1_85 cr_9_X1_compare (by omega) rfl (dcN_8 dcg_62 :) rfl (Nat.le_of_ble_eq_true rfl) ?_
      exact AW.vret1 rfl (dcN_9 dcg_62 :) h rfl
  · subst h9
    replace h := hF h (by decide)
    replace h := hT h rfl
    refine AW.iload 4 (dcN_17 dcg_62 :) rfl ?_
    refine AW.aloadr_n 0 (dcN_0 dcg_63 :) rfl ?_
    refine AW.getI af_X1_64_9 sr_9_10 (dcN_1 dcg_63 :) ?_
    refine AW.icmp_ge (tgt := 171) (dcN_2 dcg_63 :) (by decide) (fun c1 => ?_) (fun c1 => ?_)
    · replace h := hT h c1
      refine AW.aloadr_n 0 (dcN_5 dcg_66 :) rfl ?_
      refine AW.getR af_X1_42_9 sr_9_13 (dcN_6 dcg_66 :) ?_
      refine AW.iload 3 (dcN_7 dcg_66 :) rfl ?_
      refine AW.iconst (dcN_8 dcg_66 :) ?_
      obtain ⟨k2, h⟩ := hK h
      obtain ⟨g3, e4, h⟩ := hBe h
      refine AW.iast kc_95 sk_95 k2 (dcN_9 dcg_66 :) e4 ?_
      refine AW.aloadr_n 0 (dcN_10 dcg_66 :) rfl ?_
      refine AW.iload_n 1 (dcN_11 dcg_66 :) rfl ?_
      refine AW.iconst (dcN_12 dcg_66 :) ?_
      refine AW.iadd (dcN_13 dcg_66 :) ?_
      refine AW.iload_n 2 (dcN_14 dcg_66 :) rfl ?_
      obtain ⟨r5, e6, h⟩ := hC h
      refine AW.callSv (As := [rv z 9, iv (x1 + 1), iv x2]) (st := []) (hrec _ _ _ _ e6) cq_X1_77 st_X1_giveNext (by omega) rfl (dcN_15 dcg_66 :) rfl (Nat.le_of_ble_eq_true rfl) ?_
      exact AW.vret1 rfl (dcN_16 dcg_66 :) h rfl
    · replace h := hF h c1
      refine AW.aloadr_n 0 (dcN_3 dcg_63 :) rfl ?_
      refine AW.iload 4 (dcN_4 dcg_63 :) rfl ?_
      refine AW.iload 3 (dcN_5 dcg_63 :) rfl ?_
      obtain ⟨r7, e8, h⟩ := hC h
      refine AW.callVi (As := [iv x5, iv x4]) (st := []) (Bookings_canHave_ok e8) cq_X1_89 cr_9_X1_canHave (by omega) rfl (dcN_6 dcg_63 :) rfl (Nat.le_of_ble_eq_true rfl) ?_
      obtain ⟨r24, e25, h⟩ := hC h
      refine AW.join (tgt := 165) (lv1 := [(0, rv z 9), (1, iv x1), (2, iv x2), (4, iv x4), (5, iv x5)]) (st1 := []) (g1 := r24) ?_ (fun J79 => ?_)
      · refine AW.iinc (lv1 := [(5, iv (x5 + 1)), (0, rv z 9), (1, iv x1), (2, iv x2), (4, iv x4)]) 4 (dcN_3 dcg_66 :) rfl (by decide) rfl ?_
        refine AW.goto (tgt := 62) (dcN_4 dcg_66 :) (by decide) ?_
        refine AW.sub (lv1 := [(0, rv z 9), (1, iv x1), (2, iv x2), (4, iv x4), (5, iv (x5 + 1))]) [1, 2, 3, 4, 0] rfl ?_
        exact (ih _ _ _ _ _ h).2 rfl
      replace h := e25
      refine AW.if_eq (tgt := 165) (dcN_7 dcg_63 :) (by decide) (fun c9 => ?_) (fun c9 => ?_)
      · replace h := hT h c9
        cases h
        exact J79
      · replace h := hF h c9
        refine AW.aloadr_n 0 (dcN_8 dcg_63 :) rfl ?_
        refine AW.getR af_X1_33_9 sr_9_8 (dcN_9 dcg_63 :) ?_
        refine AW.iload 4 (dcN_10 dcg_63 :) rfl ?_
        obtain ⟨k10, h⟩ := hK h
        refine AW.iald kc_92 sk_92 k10 (dcN_11 dcg_63 :) ?_
        refine AW.istore (lv1 := [(6, iv (g 92 (ix x5))), (0, rv z 9), (1, iv x1), (2, iv x2), (4, iv x4), (5, iv x5)]) (dcN_12 dcg_63 :) (by decide) rfl ?_
        refine AW.aloadr_n 1 (dcN_13 dcg_63 :) rfl ?_
        refine AW.getR af_X1_36_9 sr_9_9 (dcN_14 dcg_63 :) ?_
        refine AW.iload 5 (dcN_15 dcg_63 :) rfl ?_
        refine AW.iald kc_93 sk_93 k10 (dcN_0 dcg_64 :) ?_
        refine AW.istore (lv1 := [(7, iv (g 93 (ix x5))), (6, iv (g 92 (ix x5))), (0, rv z 9), (1, iv x1), (2, iv x2), (4, iv x4), (5, iv x5)]) (dcN_1 dcg_64 :) (by decide) rfl ?_
        refine AW.aloadr_n 2 (dcN_2 dcg_64 :) rfl ?_
        refine AW.getR af_X1_42_9 sr_9_13 (dcN_3 dcg_64 :) ?_
        refine AW.iload 5 (dcN_4 dcg_64 :) rfl ?_
        refine AW.iload 6 (dcN_5 dcg_64 :) rfl ?_
        obtain ⟨k11, h⟩ := hK h
        obtain ⟨g12, e13, h⟩ := hBe h
        refine AW.iast kc_95 sk_95 k11 (dcN_6 dcg_64 :) e13 ?_
        refine AW.aloadr_n 2 (dcN_7 dcg_64 :) rfl ?_
        refine AW.getR af_X1_33_9 sr_9_8 (dcN_8 dcg_64 :) ?_
        refine AW.iload 6 (dcN_9 dcg_64 :) rfl ?_
        refine AW.aloadr_n 2 (dcN_10 dcg_64 :) rfl ?_
        refine AW.getR af_X1_15_9 sr_9_1 (dcN_11 dcg_64 :) ?_
        refine AW.iload 5 (dcN_12 dcg_64 :) rfl ?_
        refine AW.iald kc_86 sk_86 k11 (dcN_13 dcg_64 :) ?_
        obtain ⟨g14, e15, h⟩ := hBe h
        refine AW.iast kc_92 sk_92 k10 (dcN_14 dcg_64 :) e15 ?_
        refine AW.aloadr_n 2 (dcN_15 dcg_64 :) rfl ?_
        refine AW.getR af_X1_36_9 sr_9_9 (dcN_16 dcg_64 :) ?_
        refine AW.iload 6 (dcN_17 dcg_64 :) rfl ?_
        refine AW.aloadr_n 2 (dcN_0 dcg_65 :) rfl ?_
        refine AW.getR af_X1_18_9 sr_9_2 (dcN_1 dcg_65 :) ?_
        refine AW.iload 5 (dcN_2 dcg_65 :) rfl ?_
        refine AW.iald kc_87 sk_87 k11 (dcN_3 dcg_65 :) ?_
        obtain ⟨g16, e17, h⟩ := hBe h
        refine AW.iast kc_93 sk_93 k10 (dcN_4 dcg_65 :) e17 ?_
        refine AW.aloadr_n 2 (dcN_5 dcg_65 :) rfl ?_
        refine AW.iload_n 3 (dcN_6 dcg_65 :) rfl ?_
        refine AW.iconst (dcN_7 dcg_65 :) ?_
        refine AW.iadd (dcN_8 dcg_65 :) ?_
        refine AW.iload_n 4 (dcN_9 dcg_65 :) rfl ?_
        refine AW.iconst (dcN_10 dcg_65 :) ?_
        refine AW.iadd (dcN_11 dcg_65 :) ?_
        obtain ⟨r18, e19, h⟩ := hC h
        refine AW.callSv (As := [rv z 9, iv (x1 + 1), iv (x2 + 1)]) (st := []) (hrec _ _ _ _ e19) cq_X1_77 st_X1_giveNext (by omega) rfl (dcN_12 dcg_65 :) rfl (Nat.le_of_ble_eq_true rfl) ?_
        refine AW.aloadr_n 2 (dcN_13 dcg_65 :) rfl ?_
        refine AW.getR af_X1_33_9 sr_9_8 (dcN_14 dcg_65 :) ?_
        refine AW.iload 6 (dcN_15 dcg_65 :) rfl ?_
        refine AW.iload 1 (dcN_16 dcg_65 :) rfl ?_
        obtain ⟨g20, e21, h⟩ := hBe h
        refine AW.iast kc_92 sk_92 k10 (dcN_17 dcg_65 :) e21 ?_
        refine AW.aloadr_n 2 (dcN_18 dcg_65 :) rfl ?_
        refine AW.getR af_X1_36_9 sr_9_9 (dcN_19 dcg_65 :) ?_
        refine AW.iload 6 (dcN_0 dcg_66 :) rfl ?_
        refine AW.iload 0 (dcN_1 dcg_66 :) rfl ?_
        obtain ⟨g22, e23, h⟩ := hBe h
        refine AW.iast kc_93 sk_93 k10 (dcN_2 dcg_66 :) e23 ?_
        refine AW.sub (lv1 := [(0, rv z 9), (1, iv x1), (2, iv x2), (4, iv x4), (5, iv x5)]) [2, 3, 4, 5, 6] rfl ?_
        cases h
        exact J79
theorem Bookings_giveNext_s_ok {z : AZ} {rec : Int → Int → AG → Option (Int × AG)} {Dr : Nat} (hC9 : 2 ≤ Dr) (hrec : ∀ (x1 : Int) (x2 : Int) (g : AG) (r : Int × AG), rec x1 x2 g = some r → AMf z yX1_giveNext cX1_giveNext 8 none Dr [rv z 9, iv x1, iv x2] g r) {x1 : Int} {x2 : Int} {g : AG} {r : Int × AG} (h : Bookings_giveNext_s rec x1 x2 g = some r) : AMf z yX1_giveNext cX1_giveNext 8 none (Dr + 1) [rv z 9, iv x1, iv x2] g r := by
  intro d hdd
  refine AM.of (by decide +kernel) (Nat.le_of_ble_eq_true rfl) ?_
  show AW z (RX1, cX1_giveNext, 8, none) d (QD none r) 0 [(0, rv z 9), (1, iv x1), (2, iv x2)] [] g
  unfold Bookings_giveNext_s at h
  refine AW.iload_n 2 (dcN_0 dcg_61 :) rfl ?_
  refine AW.aloadr_n 0 (dcN_1 dcg_61 :) rfl ?_
  refine AW.getR af_X1_39_9 sr_9_12 (dcN_2 dcg_61 :) ?_
  refine AW.iload_n 1 (dcN_3 dcg_61 :) rfl ?_
  obtain ⟨k1, h⟩ := hK h
  refine AW.iald kc_94 sk_94 k1 (dcN_4 dcg_61 :) ?_
  refine AW.iadd (dcN_5 dcg_61 :) ?_
  refine AW.istore_n (lv1 := [(3, iv (x2 + (g 94 (ix x1)))), (0, rv z 9), (1, iv x1), (2, iv x2)]) (dcN_6 dcg_61 :) (by decide) rfl ?_
  refine AW.iload_n 0 (dcN_7 dcg_61 :) rfl ?_
  refine AW.aloadr_n 1 (dcN_8 dcg_61 :) rfl ?_
  refine AW.getI af_X1_67_9 sr_9_15 (dcN_9 dcg_61 :) ?_
  refine AW.icmp_lt (tgt := 36) (dcN_10 dcg_61 :) (by decide) (fun c2 => ?_) (fun c2 => ?_)
  · replace h := hT h c2
    exact AW.vret1 rfl (dcN_1 dcg_62 :) h rfl
  · replace h := hF h c2
    refine AW.iload_n 0 (dcN_11 dcg_61 :) rfl ?_
    refine AW.aloadr_n 1 (dcN_12 dcg_61 :) rfl ?_
    refine AW.getI af_X1_67_9 sr_9_15 (dcN_13 dcg_61 :) ?_
    refine AW.icmp_ne (tgt := 37) (dcN_14 dcg_61 :) (by decide) (fun c3 => ?_) (fun c3 => ?_)
    · replace h := hF h c3
      refine AW.sub (lv1 := [(0, rv z 9), (1, iv x1), (2, iv x2)]) [1, 2, 3] rfl ?_
      exact (Bookings_giveNext_b_ok hC9 hrec hdd _ _ _ _ _ h).1 rfl
    · replace h := hT h c3
      refine AW.aloadr_n 1 (dcN_15 dcg_61 :) rfl ?_
      refine AW.getI af_X1_70_9 sr_9_16 (dcN_16 dcg_61 :) ?_
      refine AW.aloadr_n 1 (dcN_17 dcg_61 :) rfl ?_
      refine AW.getI af_X1_64_9 sr_9_10 (dcN_18 dcg_61 :) ?_
      refine AW.icmp_lt (tgt := 37) (dcN_0 dcg_62 :) (by decide) (fun c4 => ?_) (fun c4 => ?_)
      · replace h := hT h c4
        refine AW.sub (lv1 := [(0, rv z 9), (1, iv x1), (2, iv x2)]) [1, 2, 3] rfl ?_
        exact (Bookings_giveNext_b_ok hC9 hrec hdd _ _ _ _ _ h).1 rfl
      · replace h := hF h c4
        exact AW.vret1 rfl (dcN_1 dcg_62 :) h rfl
theorem Bookings_giveNext_ok {z : AZ} {n : Nat} {x1 : Int} {x2 : Int} {g : AG} {r : Int × AG} (h : Bookings_giveNext n x1 x2 g = some r) : AMf z yX1_giveNext cX1_giveNext 8 none (2 + n * 1) [rv z 9, iv x1, iv x2] g r := by
  induction n generalizing x1 x2 g r with
  | zero => cases h
  | succ n ih =>
    have q := Bookings_giveNext_s_ok (z := z) (Dr := 2 + n * 1) (Nat.le_add_right _ _) (fun x1 x2 g r h9 => ih h9) h
    rw [show 2 + (n + 1) * 1 = 2 + n * 1 + 1 by rw [Nat.add_mul]; omega]
    exact q
set_option synthInstance.maxHeartbeats 2000000 in
theorem Bookings_giveBest_b_ok {z : AZ} {d : Nat} (hdd : 13 ≤ d) : ∀ (tag : Nat) (x2 : Int) (g : AG) (r : Int × AG), Bookings_giveBest_b tag x2 g = some r → (tag = 1 → AW z (RX1, cX1_giveBest, 3, none) d (QD none r) 35 [(0, rv z 9), (2, iv x2)] [] g) ∧ (tag = 2 → AW z (RX1, cX1_giveBest, 3, none) d (QD none r) 85 [(0, rv z 9), (2, iv x2)] [] g) := by
  refine Bookings_giveBest_b.partial_correctness (fun tag x2 g r => (tag = 1 → AW z (RX1, cX1_giveBest, 3, none) d (QD none r) 35 [(0, rv z 9), (2, iv x2)] [] g) ∧ (tag = 2 → AW z (RX1, cX1_giveBest, 3, none) d (QD none r) 85 [(0, rv z 9), (2, iv x2)] [] g)) ?_
  intro fb9 ih tag x2 g r h
  refine ⟨fun h9 => ?_, fun h9 => ?_⟩
  · subst h9
    replace h := hT h rfl
    refine AW.iload_n 1 (dcN_2 dcg_51 :) rfl ?_
    refine AW.aloadr_n 0 (dcN_3 dcg_51 :) rfl ?_
    refine AW.getI af_X1_64_9 sr_9_10 (dcN_4 dcg_51 :) ?_
    refine AW.icmp_ge (tgt := 68) (dcN_5 dcg_51 :) (by decide) (fun c1 => ?_) (fun c1 => ?_)
    · replace h := hT h c1
      refine AW.aloadr_n 0 (dcN_1 dcg_52 :) rfl ?_
      refine AW.getR af_X1_39_9 sr_9_12 (dcN_2 dcg_52 :) ?_
      refine AW.aloadr_n 0 (dcN_3 dcg_52 :) rfl ?_
      refine AW.getI af_X1_48_9 sr_9_4 (dcN_4 dcg_52 :) ?_
      refine AW.iconst (dcN_5 dcg_52 :) ?_
      obtain ⟨k2, h⟩ := hK h
      obtain ⟨g3, e4, h⟩ := hBe h
      refine AW.iast kc_94 sk_94 k2 (dcN_6 dcg_52 :) e4 ?_
      refine AW.aloadr_n 0 (dcN_7 dcg_52 :) rfl ?_
      refine AW.getI af_X1_48_9 sr_9_4 (dcN_8 dcg_52 :) ?_
      refine AW.iconst (dcN_9 dcg_52 :) ?_
      refine AW.isub (dcN_10 dcg_52 :) ?_
      refine AW.istore_n (lv1 := [(2, iv ((g3 9 4) - 1)), (0, rv z 9)]) (dcN_11 dcg_52 :) (by decide) rfl ?_
      refine AW.sub (lv1 := [(0, rv z 9), (2, iv ((g3 9 4) - 1))]) [1, 0] rfl ?_
      exact (ih _ _ _ _ h).2 rfl
    · replace h := hF h c1
      refine AW.aloadr_n 0 (dcN_6 dcg_51 :) rfl ?_
      refine AW.getR af_X1_33_9 sr_9_8 (dcN_7 dcg_51 :) ?_
      refine AW.iload_n 1 (dcN_8 dcg_51 :) rfl ?_
      refine AW.aloadr_n 0 (dcN_9 dcg_51 :) rfl ?_
      refine AW.getR af_X1_30_9 sr_9_7 (dcN_10 dcg_51 :) ?_
      refine AW.iload_n 1 (dcN_11 dcg_51 :) rfl ?_
      obtain ⟨k5, h⟩ := hK h
      refine AW.iald kc_91 sk_91 k5 (dcN_12 dcg_51 :) ?_
      obtain ⟨g6, e7, h⟩ := hBe h
      refine AW.iast kc_92 sk_92 k5 (dcN_13 dcg_51 :) e7 ?_
      refine AW.aloadr_n 0 (dcN_14 dcg_51 :) rfl ?_
      refine AW.getR af_X1_36_9 sr_9_9 (dcN_15 dcg_51 :) ?_
      refine AW.iload_n 1 (dcN_16 dcg_51 :) rfl ?_
      refine AW.iconst (dcN_17 dcg_51 :) ?_
      obtain ⟨g8, e9, h⟩ := hBe h
      refine AW.iast kc_93 sk_93 k5 (dcN_18 dcg_51 :) e9 ?_
      refine AW.iinc (lv1 := [(2, iv (x2 + 1)), (0, rv z 9)]) 1 (dcN_19 dcg_51 :) rfl (by decide) rfl ?_
      refine AW.goto (tgt := 35) (dcN_0 dcg_52 :) (by decide) ?_
      refine AW.sub (lv1 := [(0, rv z 9), (2, iv (x2 + 1))]) [1, 0] rfl ?_
      exact (ih _ _ _ _ h).1 rfl
  · subst h9
    replace h := hF h (by decide)
    replace h := hT h rfl
    refine AW.iload_n 1 (dcN_12 dcg_52 :) rfl ?_
    refine AW.if_lt (tgt := 128) (dcN_13 dcg_52 :) (by decide) (fun c1 => ?_) (fun c1 => ?_)
    · replace h := hT h c1
      refine AW.aloadr_n 0 (dcN_0 dcg_54 :) rfl ?_
      refine AW.iconst (dcN_1 dcg_54 :) ?_
      refine AW.iconst (dcN_2 dcg_54 :) ?_
      obtain ⟨r2, e3, h⟩ := hC h
      refine AW.callSv (As := [rv z 9, iv 0, iv 0]) (st := []) ((Bookings_giveNext_ok (n := 10)) e3) cq_X1_77 st_X1_giveNext (Nat.le_trans (by decide) hdd) rfl (dcN_3 dcg_54 :) rfl (Nat.le_of_ble_eq_true rfl) ?_
      exact AW.vret1 rfl (dcN_4 dcg_54 :) h rfl
    · replace h := hF h c1
      refine AW.aloadr_n 0 (dcN_14 dcg_52 :) rfl ?_
      refine AW.getR af_X1_39_9 sr_9_12 (dcN_15 dcg_52 :) ?_
      refine AW.iload_n 1 (dcN_16 dcg_52 :) rfl ?_
      refine AW.aloadr_n 0 (dcN_17 dcg_52 :) rfl ?_
      refine AW.getR af_X1_39_9 sr_9_12 (dcN_18 dcg_52 :) ?_
      refine AW.iload_n 1 (dcN_0 dcg_53 :) rfl ?_
      refine AW.iconst (dcN_1 dcg_53 :) ?_
      refine AW.iadd (dcN_2 dcg_53 :) ?_
      obtain ⟨k4, h⟩ := hK h
      refine AW.iald kc_94 sk_94 k4 (dcN_3 dcg_53 :) ?_
      refine AW.aloadr_n 0 (dcN_4 dcg_53 :) rfl ?_
      refine AW.aloadr_n 0 (dcN_5 dcg_53 :) rfl ?_
      refine AW.getR af_X1_24_9 sr_9_5 (dcN_6 dcg_53 :) ?_
      refine AW.iload_n 1 (dcN_7 dcg_53 :) rfl ?_
      obtain ⟨k5, h⟩ := hK h
      refine AW.iald kc_89 sk_89 k5 (dcN_8 dcg_53 :) ?_
      obtain ⟨r6, e7, h⟩ := hC h
      refine AW.callVi (As := [iv (g 89 (ix x2))]) (st := [iv (g 94 (ix (x2 + 1))), iv x2, rv z 94]) (Bookings_canEverBeGiven_ok e7) cq_X1_73 cr_9_X1_canEverBeGiven (Nat.le_trans (by decide) hdd) rfl (dcN_9 dcg_53 :) rfl (Nat.le_of_ble_eq_true rfl) ?_
      obtain ⟨t8, e9, h⟩ := hBe h
      refine AW.join (tgt := 120) (lv1 := [(0, rv z 9), (2, iv x2)]) (st1 := [iv t8, iv (g 94 (ix (x2 + 1))), iv x2, rv z 94]) (g1 := g) ?_ (fun J112 => ?_)
      · refine AW.iadd (dcN_14 dcg_53 :) ?_
        obtain ⟨k10, h⟩ := hK h
        obtain ⟨g11, e12, h⟩ := hBe h
        refine AW.iast kc_94 sk_94 k10 (dcN_15 dcg_53 :) e12 ?_
        refine AW.iinc (lv1 := [(2, iv (x2 + (-1))), (0, rv z 9)]) 1 (dcN_16 dcg_53 :) rfl (by decide) rfl ?_
        refine AW.goto (tgt := 85) (dcN_17 dcg_53 :) (by decide) ?_
        refine AW.sub (lv1 := [(0, rv z 9), (2, iv (x2 + (-1)))]) [1, 0] rfl ?_
        exact (ih _ _ _ _ h).2 rfl
      refine AW.if_eq (tgt := 119) (dcN_10 dcg_53 :) (by decide) (fun c13 => ?_) (fun c13 => ?_)
      · refine AW.iconst (dcN_13 dcg_53 :) ?_
        exact AW.val (e9.trans (if_pos c13)) J112
      · refine AW.iconst (dcN_11 dcg_53 :) ?_
        refine AW.goto (tgt := 120) (dcN_12 dcg_53 :) (by decide) ?_
        exact AW.val (e9.trans (if_neg c13)) J112
theorem Bookings_giveBest_ok {z : AZ} {x1 : Int} {g : AG} {r : Int × AG} (h : Bookings_giveBest x1 g = some r) : AMf z yX1_giveBest cX1_giveBest 3 none 13 [rv z 9, iv x1] g r := by
  intro d hdd
  refine AM.of (by decide +kernel) (Nat.le_of_ble_eq_true rfl) ?_
  show AW z (RX1, cX1_giveBest, 3, none) d (QD none r) 0 [(0, rv z 9), (1, iv x1)] [] g
  unfold Bookings_giveBest at h
  refine AW.iload_n 1 (dcN_0 dcg_50 :) rfl ?_
  refine AW.aloadr_n 0 (dcN_1 dcg_50 :) rfl ?_
  refine AW.getI af_X1_52_9 sr_9_11 (dcN_2 dcg_50 :) ?_
  refine AW.icmp_ne (tgt := 9) (dcN_3 dcg_50 :) (by decide) (fun c1 => ?_) (fun c1 => ?_)
  · replace h := hF h c1
    refine AW.aloadr_n 0 (dcN_5 dcg_50 :) rfl ?_
    refine AW.iload_n 1 (dcN_6 dcg_50 :) rfl ?_
    refine AW.iconst (dcN_7 dcg_50 :) ?_
    refine AW.mmin (st := [rv z 9]) cm_X1_58 mst_min mini mcd_min (Nat.le_trans (by decide) hdd) (Nat.le_of_ble_eq_true rfl) (dcN_8 dcg_50 :) ?_
    obtain ⟨g2, e3, h⟩ := hBe h
    refine AW.putI ap_X1_64_9 sr_9_10 (dcN_9 dcg_50 :) e3 ?_
    refine AW.aloadr_n 0 (dcN_10 dcg_50 :) rfl ?_
    refine AW.iload_n 1 (dcN_11 dcg_50 :) rfl ?_
    obtain ⟨g4, e5, h⟩ := hBe h
    refine AW.putI ap_X1_52_9 sr_9_11 (dcN_12 dcg_50 :) e5 ?_
    refine AW.aloadr_n 0 (dcN_13 dcg_50 :) rfl ?_
    refine AW.iconst (dcN_14 dcg_50 :) ?_
    obtain ⟨g6, e7, h⟩ := hBe h
    refine AW.putI ap_X1_67_9 sr_9_15 (dcN_15 dcg_50 :) e7 ?_
    refine AW.aloadr_n 0 (dcN_16 dcg_50 :) rfl ?_
    refine AW.iconst (dcN_17 dcg_50 :) ?_
    obtain ⟨g8, e9, h⟩ := hBe h
    refine AW.putI ap_X1_70_9 sr_9_16 (dcN_18 dcg_50 :) e9 ?_
    refine AW.iconst (dcN_0 dcg_51 :) ?_
    refine AW.istore_n (lv1 := [(2, iv 0), (0, rv z 9), (1, iv x1)]) (dcN_1 dcg_51 :) (by decide) rfl ?_
    refine AW.sub (lv1 := [(0, rv z 9), (2, iv 0)]) [1, 0] rfl ?_
    exact (Bookings_giveBest_b_ok hdd _ _ _ _ h).1 rfl
  · replace h := hT h c1
    exact AW.vret1 rfl (dcN_4 dcg_50 :) h rfl
theorem X_given_ok {z : AZ} {x1 : Int} {x2 : Int} {g : AG} {r : Int × AG} (h : X_given x1 x2 g = some r) : AMf z yX11_given cX11_given 3 (some .int) 14 [rv z 0, iv x1, iv x2] g r := by
  intro d hdd
  refine AM.of (by decide +kernel) (Nat.le_of_ble_eq_true rfl) ?_
  show AW z (RX11, cX11_given, 3, (some .int)) d (QD (some .int) r) 0 [(0, rv z 0), (1, iv x1), (2, iv x2)] [] g
  unfold X_given at h
  refine AW.iload_n 1 (dcN_0 dcg_417 :) rfl ?_
  refine AW.iconst (dcN_1 dcg_417 :) ?_
  refine AW.iconst (dcN_2 dcg_417 :) ?_
  refine AW.callSi (As := [iv x1, iv 1, iv 4]) (st := []) X_within_ok cq_X11_99 st_X11_within (Nat.le_trans (by decide) hdd) rfl (dcN_3 dcg_417 :) rfl (Nat.le_of_ble_eq_true rfl) ?_
  refine AW.if_eq (tgt := 20) (dcN_4 dcg_417 :) (by decide) (fun c1 => ?_) (fun c1 => ?_)
  · replace h := hT h c1
    refine AW.iconst (dcN_10 dcg_417 :) ?_
    exact AW.iret1 rfl (dcN_11 dcg_417 :) h rfl
  · replace h := hF h c1
    refine AW.iload_n 1 (dcN_5 dcg_417 :) rfl ?_
    refine AW.aloadr_n 0 (dcN_6 dcg_417 :) rfl ?_
    refine AW.getR af_X11_49_0 sr_0_5 (dcN_7 dcg_417 :) ?_
    refine AW.getI af_X11_103_6 sr_6_7 (dcN_8 dcg_417 :) ?_
    refine AW.icmp_le (tgt := 22) (dcN_9 dcg_417 :) (by decide) (fun c2 => ?_) (fun c2 => ?_)
    · replace h := hT h c2
      refine AW.aloadr_n 0 (dcN_12 dcg_417 :) rfl ?_
      refine AW.iload_n 1 (dcN_13 dcg_417 :) rfl ?_
      obtain ⟨r3, e4, h⟩ := hC h
      refine AW.callVv (As := [iv x1]) (st := []) (X_hireFirst_ok e4) cq_X11_271 cr_0_X11_hireFirst (Nat.le_trans (by decide) hdd) rfl (dcN_14 dcg_417 :) rfl (Nat.le_of_ble_eq_true rfl) ?_
      refine AW.aloadr_n 0 (dcN_15 dcg_417 :) rfl ?_
      refine AW.getR af_X11_72_0 sr_0_8 (dcN_16 dcg_417 :) ?_
      refine AW.iload_n 1 (dcN_17 dcg_417 :) rfl ?_
      obtain ⟨r5, e6, h⟩ := hC h
      refine AW.callVv (As := [iv x1]) (st := []) (Bookings_giveBest_ok e6) cq_X11_274 cr_9_X1_giveBest (Nat.le_trans (by decide) hdd) rfl (dcN_0 dcg_418 :) rfl (Nat.le_of_ble_eq_true rfl) ?_
      refine AW.iload_n 2 (dcN_1 dcg_418 :) rfl ?_
      refine AW.if_ne (tgt := 47) (dcN_2 dcg_418 :) (by decide) (fun c7 => ?_) (fun c7 => ?_)
      · replace h := hF h c7
        refine AW.iload_n 2 (dcN_7 dcg_418 :) rfl ?_
        refine AW.iconst (dcN_8 dcg_418 :) ?_
        refine AW.icmp_ne (tgt := 60) (dcN_9 dcg_418 :) (by decide) (fun c8 => ?_) (fun c8 => ?_)
        · replace h := hF h c8
          refine AW.iload_n 2 (dcN_14 dcg_418 :) rfl ?_
          refine AW.bipush (dcN_15 dcg_418 :) (by decide) (by decide) ?_
          refine AW.icmp_lt (tgt := 80) (dcN_16 dcg_418 :) (by decide) (fun c9 => ?_) (fun c9 => ?_)
          · replace h := hT h c9
            refine AW.iconst (dcN_7 dcg_419 :) ?_
            exact AW.iret1 rfl (dcN_8 dcg_419 :) h rfl
          · replace h := hF h c9
            refine AW.iload_n 2 (dcN_0 dcg_419 :) rfl ?_
            refine AW.bipush (dcN_1 dcg_419 :) (by decide) (by decide) ?_
            refine AW.isub (dcN_2 dcg_419 :) ?_
            refine AW.aloadr_n 0 (dcN_3 dcg_419 :) rfl ?_
            refine AW.getR af_X11_72_0 sr_0_8 (dcN_4 dcg_419 :) ?_
            refine AW.getI af_X11_283_9 sr_9_4 (dcN_5 dcg_419 :) ?_
            refine AW.icmp_lt (tgt := 82) (dcN_6 dcg_419 :) (by decide) (fun c10 => ?_) (fun c10 => ?_)
            · replace h := hT h c10
              refine AW.aloadr_n 0 (dcN_9 dcg_419 :) rfl ?_
              refine AW.getR af_X11_72_0 sr_0_8 (dcN_10 dcg_419 :) ?_
              refine AW.getR af_X11_284_9 sr_9_14 (dcN_11 dcg_419 :) ?_
              refine AW.iload_n 2 (dcN_12 dcg_419 :) rfl ?_
              refine AW.bipush (dcN_13 dcg_419 :) (by decide) (by decide) ?_
              refine AW.isub (dcN_14 dcg_419 :) ?_
              obtain ⟨k11, h⟩ := hK h
              refine AW.iald kc_96 sk_96 k11 (dcN_15 dcg_419 :) ?_
              exact AW.iret1 rfl (dcN_16 dcg_419 :) h rfl
            · replace h := hF h c10
              refine AW.iconst (dcN_7 dcg_419 :) ?_
              exact AW.iret1 rfl (dcN_8 dcg_419 :) h rfl
        · replace h := hT h c8
          refine AW.aloadr_n 0 (dcN_10 dcg_418 :) rfl ?_
          refine AW.getR af_X11_72_0 sr_0_8 (dcN_11 dcg_418 :) ?_
          refine AW.getI af_X11_280_9 sr_9_16 (dcN_12 dcg_418 :) ?_
          exact AW.iret1 rfl (dcN_13 dcg_418 :) h rfl
      · replace h := hT h c7
        refine AW.aloadr_n 0 (dcN_3 dcg_418 :) rfl ?_
        refine AW.getR af_X11_72_0 sr_0_8 (dcN_4 dcg_418 :) ?_
        refine AW.getI af_X11_277_9 sr_9_15 (dcN_5 dcg_418 :) ?_
        exact AW.iret1 rfl (dcN_6 dcg_418 :) h rfl
    · replace h := hF h c2
      refine AW.iconst (dcN_10 dcg_417 :) ?_
      exact AW.iret1 rfl (dcN_11 dcg_417 :) h rfl
theorem X_more_ok {z : AZ} {x1 : Int} {x2 : Int} {x3 : Int} {g : AG} {r : Int × AG} (h : X_more x1 x2 x3 g = some r) : AMf z yX11_more cX11_more 5 (some .int) 14 [rv z 0, iv x1, iv x2, iv x3] g r := by
  intro d hdd
  refine AM.of (by decide +kernel) (Nat.le_of_ble_eq_true rfl) ?_
  show AW z (RX11, cX11_more, 5, (some .int)) d (QD (some .int) r) 0 [(0, rv z 0), (1, iv x1), (2, iv x2), (3, iv x3)] [] g
  unfold X_more at h
  refine AW.iload_n 1 (dcN_0 dcg_422 :) rfl ?_
  refine AW.iconst (dcN_1 dcg_422 :) ?_
  refine AW.iconst (dcN_2 dcg_422 :) ?_
  refine AW.callSi (As := [iv x1, iv 1, iv 3]) (st := []) X_within_ok cq_X11_99 st_X11_within (Nat.le_trans (by decide) hdd) rfl (dcN_3 dcg_422 :) rfl (Nat.le_of_ble_eq_true rfl) ?_
  refine AW.if_eq (tgt := 20) (dcN_4 dcg_422 :) (by decide) (fun c1 => ?_) (fun c1 => ?_)
  · replace h := hT h c1
    refine AW.iconst (dcN_10 dcg_422 :) ?_
    exact AW.iret1 rfl (dcN_11 dcg_422 :) h rfl
  · replace h := hF h c1
    refine AW.iload_n 1 (dcN_5 dcg_422 :) rfl ?_
    refine AW.aloadr_n 0 (dcN_6 dcg_422 :) rfl ?_
    refine AW.getR af_X11_49_0 sr_0_5 (dcN_7 dcg_422 :) ?_
    refine AW.getI af_X11_103_6 sr_6_7 (dcN_8 dcg_422 :) ?_
    refine AW.icmp_le (tgt := 22) (dcN_9 dcg_422 :) (by decide) (fun c2 => ?_) (fun c2 => ?_)
    · replace h := hT h c2
      refine AW.iload_n 2 (dcN_12 dcg_422 :) rfl ?_
      refine AW.callSi (As := [iv x2]) (st := []) X_isBerths_ok cq_X11_143 st_X11_isBerths (Nat.le_trans (by decide) hdd) rfl (dcN_13 dcg_422 :) rfl (Nat.le_of_ble_eq_true rfl) ?_
      refine AW.if_eq (tgt := 36) (dcN_14 dcg_422 :) (by decide) (fun c3 => ?_) (fun c3 => ?_)
      · replace h := hT h c3
        refine AW.iconst (dcN_1 dcg_423 :) ?_
        exact AW.iret1 rfl (dcN_2 dcg_423 :) h rfl
      · replace h := hF h c3
        refine AW.iload_n 3 (dcN_15 dcg_422 :) rfl ?_
        refine AW.callSi (As := [iv x3]) (st := []) X_isPoint_ok cq_X11_111 st_X11_isPoint (Nat.le_trans (by decide) hdd) rfl (dcN_16 dcg_422 :) rfl (Nat.le_of_ble_eq_true rfl) ?_
        refine AW.if_ne (tgt := 38) (dcN_0 dcg_423 :) (by decide) (fun c4 => ?_) (fun c4 => ?_)
        · replace h := hF h c4
          refine AW.aloadr_n 0 (dcN_3 dcg_423 :) rfl ?_
          refine AW.iload_n 1 (dcN_4 dcg_423 :) rfl ?_
          obtain ⟨r5, e6, h⟩ := hC h
          refine AW.callVv (As := [iv x1]) (st := []) (X_hireFirst_ok e6) cq_X11_271 cr_0_X11_hireFirst (Nat.le_trans (by decide) hdd) rfl (dcN_5 dcg_423 :) rfl (Nat.le_of_ble_eq_true rfl) ?_
          refine AW.aloadr_n 0 (dcN_6 dcg_423 :) rfl ?_
          refine AW.getR af_X11_72_0 sr_0_8 (dcN_7 dcg_423 :) ?_
          refine AW.iload_n 1 (dcN_8 dcg_423 :) rfl ?_
          refine AW.iload_n 2 (dcN_9 dcg_423 :) rfl ?_
          refine AW.iload_n 3 (dcN_10 dcg_423 :) rfl ?_
          obtain ⟨r7, e8, h⟩ := hC h
          refine AW.callVv (As := [iv x1, iv x2, iv x3]) (st := []) (Bookings_hire_ok e8) cq_X11_293 cr_9_X1_hire (Nat.le_trans (by decide) hdd) rfl (dcN_11 dcg_423 :) rfl (Nat.le_of_ble_eq_true rfl) ?_
          refine AW.aloadr_n 0 (dcN_12 dcg_423 :) rfl ?_
          refine AW.getR af_X11_72_0 sr_0_8 (dcN_13 dcg_423 :) ?_
          refine AW.iload_n 1 (dcN_14 dcg_423 :) rfl ?_
          obtain ⟨r9, e10, h⟩ := hC h
          refine AW.callVv (As := [iv x1]) (st := []) (Bookings_giveBest_ok e10) cq_X11_274 cr_9_X1_giveBest (Nat.le_trans (by decide) hdd) rfl (dcN_15 dcg_423 :) rfl (Nat.le_of_ble_eq_true rfl) ?_
          refine AW.aloadr_n 0 (dcN_16 dcg_423 :) rfl ?_
          refine AW.getR af_X11_72_0 sr_0_8 (dcN_17 dcg_423 :) ?_
          refine AW.getI af_X11_277_9 sr_9_15 (dcN_0 dcg_424 :) ?_
          refine AW.istore (lv1 := [(4, iv (r9.2 9 15)), (0, rv z 0), (1, iv x1), (2, iv x2), (3, iv x3)]) (dcN_1 dcg_424 :) (by decide) rfl ?_
          refine AW.aloadr_n 1 (dcN_2 dcg_424 :) rfl ?_
          refine AW.getR af_X11_72_0 sr_0_8 (dcN_3 dcg_424 :) ?_
          refine AW.iload_n 2 (dcN_4 dcg_424 :) rfl ?_
          refine AW.iconst (dcN_5 dcg_424 :) ?_
          refine AW.iadd (dcN_6 dcg_424 :) ?_
          obtain ⟨r11, e12, h⟩ := hC h
          refine AW.callVv (As := [iv (x1 + 1)]) (st := []) (Bookings_giveBest_ok e12) cq_X11_274 cr_9_X1_giveBest (Nat.le_trans (by decide) hdd) rfl (dcN_7 dcg_424 :) rfl (Nat.le_of_ble_eq_true rfl) ?_
          refine AW.aloadr_n 1 (dcN_8 dcg_424 :) rfl ?_
          refine AW.getR af_X11_72_0 sr_0_8 (dcN_9 dcg_424 :) ?_
          refine AW.getI af_X11_277_9 sr_9_15 (dcN_10 dcg_424 :) ?_
          refine AW.iload 0 (dcN_11 dcg_424 :) rfl ?_
          refine AW.isub (dcN_12 dcg_424 :) ?_
          exact AW.iret1 rfl (dcN_13 dcg_424 :) h rfl
        · replace h := hT h c4
          refine AW.iconst (dcN_1 dcg_423 :) ?_
          exact AW.iret1 rfl (dcN_2 dcg_423 :) h rfl
    · replace h := hF h c2
      refine AW.iconst (dcN_10 dcg_422 :) ?_
      exact AW.iret1 rfl (dcN_11 dcg_422 :) h rfl
set_option synthInstance.maxHeartbeats 2000000 in
theorem Yard_othersInDock_b_ok {z : AZ} {d : Nat} (hdd : 0 ≤ d) {x1 : Int} {g : AG} : ∀ (x2 : Int) (x3 : Int) (r : Int), Yard_othersInDock_b x1 g x2 x3 = some r → AW z (RX10, cX10_othersInDock, 4, (some .int)) d (QD (some .int) (r, g)) 4 [(0, rv z 10), (1, iv x1), (2, iv x2), (3, iv x3)] [] g := by
  refine Yard_othersInDock_b.partial_correctness x1 g (fun x2 x3 r => AW z (RX10, cX10_othersInDock, 4, (some .int)) d (QD (some .int) (r, g)) 4 [(0, rv z 10), (1, iv x1), (2, iv x2), (3, iv x3)] [] g) ?_
  intro fb9 ih x2 x3 r h
  refine AW.iload_n 3 (dcN_4 dcg_310 :) rfl ?_
  refine AW.bipush (dcN_5 dcg_310 :) (by decide) (by decide) ?_
  refine AW.icmp_ge (tgt := 38) (dcN_6 dcg_310 :) (by decide) (fun c1 => ?_) (fun c1 => ?_)
  · replace h := hT h c1
    refine AW.iload_n 2 (dcN_11 dcg_311 :) rfl ?_
    exact AW.iret2 rfl dX10_othersInDock_39 h rfl
  · replace h := hF h c1
    refine AW.iload_n 2 (dcN_7 dcg_310 :) rfl ?_
    refine AW.iload_n 3 (dcN_8 dcg_310 :) rfl ?_
    refine AW.iload_n 1 (dcN_9 dcg_310 :) rfl ?_
    obtain ⟨r7, e8, h⟩ := hC h
    refine AW.join (tgt := 30) (lv1 := [(0, rv z 10), (1, iv x1), (3, iv x3)]) (st1 := [iv r7, iv x2]) (g1 := g) ?_ (fun J13 => ?_)
    · refine AW.iadd (dcN_7 dcg_311 :) ?_
      refine AW.istore_n (lv1 := [(2, iv (x2 + r7)), (0, rv z 10), (1, iv x1), (3, iv x3)]) (dcN_8 dcg_311 :) (by decide) rfl ?_
      refine AW.iinc (lv1 := [(3, iv (x3 + 1)), (2, iv (x2 + r7)), (0, rv z 10), (1, iv x1)]) 3 (dcN_9 dcg_311 :) rfl (by decide) rfl ?_
      refine AW.goto (tgt := 4) (dcN_10 dcg_311 :) (by decide) ?_
      refine AW.sub (lv1 := [(0, rv z 10), (1, iv x1), (2, iv (x2 + r7)), (3, iv (x3 + 1))]) [2, 3, 1, 0] rfl ?_
      exact ih _ _ _ h
    replace h := e8
    refine AW.icmp_eq (tgt := 29) (dcN_10 dcg_310 :) (by decide) (fun c2 => ?_) (fun c2 => ?_)
    · replace h := hT h c2
      refine AW.iconst (dcN_6 dcg_311 :) ?_
      refine AW.sub (lv1 := [(0, rv z 10), (1, iv x1), (3, iv x3)]) [0, 1, 3] rfl ?_
      cases h
      exact J13
    · replace h := hF h c2
      refine AW.aloadr_n 0 (dcN_11 dcg_310 :) rfl ?_
      refine AW.getR af_X10_15_10 sr_10_1 (dcN_0 dcg_311 :) ?_
      refine AW.iload_n 3 (dcN_1 dcg_311 :) rfl ?_
      obtain ⟨k3, h⟩ := hK h
      refine AW.iald kc_98 sk_98 k3 (dcN_2 dcg_311 :) ?_
      obtain ⟨t4, e5, h⟩ := hBe h
      refine AW.join (tgt := 30) (lv1 := [(0, rv z 10), (1, iv x1), (2, iv x2), (3, iv x3)]) (st1 := [iv t4, iv x2]) (g1 := g) ?_ (fun J22 => ?_)
      · refine AW.sub (lv1 := [(0, rv z 10), (1, iv x1), (3, iv x3)]) [0, 1, 3] rfl ?_
        cases h
        exact J13
      refine AW.if_le (tgt := 29) (dcN_3 dcg_311 :) (by decide) (fun c6 => ?_) (fun c6 => ?_)
      · refine AW.iconst (dcN_6 dcg_311 :) ?_
        exact AW.val (e5.trans (if_pos c6)) J22
      · refine AW.iconst (dcN_4 dcg_311 :) ?_
        refine AW.goto (tgt := 30) (dcN_5 dcg_311 :) (by decide) ?_
        exact AW.val (e5.trans (if_neg c6)) J22
theorem Yard_othersInDock_ok {z : AZ} {x1 : Int} {g : AG} {r : Int} (h : Yard_othersInDock x1 g = some r) : AMf z yX10_othersInDock cX10_othersInDock 4 (some .int) 0 [rv z 10, iv x1] g (r, g) := by
  intro d hdd
  refine AM.of (by decide +kernel) (Nat.le_of_ble_eq_true rfl) ?_
  show AW z (RX10, cX10_othersInDock, 4, (some .int)) d (QD (some .int) (r, g)) 0 [(0, rv z 10), (1, iv x1)] [] g
  unfold Yard_othersInDock at h
  refine AW.iconst (dcN_0 dcg_310 :) ?_
  refine AW.istore_n (lv1 := [(2, iv 0), (0, rv z 10), (1, iv x1)]) (dcN_1 dcg_310 :) (by decide) rfl ?_
  refine AW.iconst (dcN_2 dcg_310 :) ?_
  refine AW.istore_n (lv1 := [(3, iv 0), (2, iv 0), (0, rv z 10), (1, iv x1)]) (dcN_3 dcg_310 :) (by decide) rfl ?_
  refine AW.sub (lv1 := [(0, rv z 10), (1, iv x1), (2, iv 0), (3, iv 0)]) [2, 3, 1, 0] rfl ?_
  exact Yard_othersInDock_b_ok hdd _ _ _ h
theorem Yard_tellDock_ok {z : AZ} {x1 : Int} {x2 : Int} {x3 : Int} {g : AG} {r : Int × AG} (h : Yard_tellDock x1 x2 x3 g = some r) : AMf z yX10_tellDock cX10_tellDock 4 (some .boolean) 1 [rv z 10, iv x1, iv x2, iv x3] g r := by
  intro d hdd
  refine AM.of (by decide +kernel) (Nat.le_of_ble_eq_true rfl) ?_
  show AW z (RX10, cX10_tellDock, 4, (some .boolean)) d (QD (some .boolean) r) 0 [(0, rv z 10), (1, iv x1), (2, iv x2), (3, iv x3)] [] g
  unfold Yard_tellDock at h
  refine AW.aloadr_n 0 (dcN_0 dcg_308 :) rfl ?_
  refine AW.iload_n 1 (dcN_1 dcg_308 :) rfl ?_
  obtain ⟨r1, e2, h⟩ := hC h
  refine AW.callVi (As := [iv x1]) (st := []) (Yard_othersInDock_ok e2) cq_X10_42 cr_10_X10_othersInDock (Nat.le_trans (by decide) hdd) rfl (dcN_2 dcg_308 :) rfl (Nat.le_of_ble_eq_true rfl) ?_
  refine AW.bipush (dcN_3 dcg_308 :) (by decide) (by decide) ?_
  refine AW.icmp_lt (tgt := 12) (dcN_4 dcg_308 :) (by decide) (fun c3 => ?_) (fun c3 => ?_)
  · replace h := hT h c3
    refine AW.aloadr_n 0 (dcN_7 dcg_308 :) rfl ?_
    refine AW.getR af_X10_9_10 sr_10_0 (dcN_8 dcg_308 :) ?_
    refine AW.iload_n 1 (dcN_9 dcg_308 :) rfl ?_
    refine AW.iload_n 2 (dcN_10 dcg_308 :) rfl ?_
    obtain ⟨k4, h⟩ := hK h
    obtain ⟨g5, e6, h⟩ := hBe h
    refine AW.iast kc_97 sk_97 k4 (dcN_11 dcg_308 :) e6 ?_
    refine AW.aloadr_n 0 (dcN_0 dcg_309 :) rfl ?_
    refine AW.getR af_X10_15_10 sr_10_1 (dcN_1 dcg_309 :) ?_
    refine AW.iload_n 1 (dcN_2 dcg_309 :) rfl ?_
    refine AW.iload_n 3 (dcN_3 dcg_309 :) rfl ?_
    obtain ⟨g7, e8, h⟩ := hBe h
    refine AW.iast kc_98 sk_98 k4 (dcN_4 dcg_309 :) e8 ?_
    refine AW.iconst (dcN_5 dcg_309 :) ?_
    exact AW.zret1 rfl (Or.inr rfl) (dcN_6 dcg_309 :) h rfl
  · replace h := hF h c3
    refine AW.iconst (dcN_5 dcg_308 :) ?_
    exact AW.zret1 rfl (Or.inl rfl) (dcN_6 dcg_308 :) h rfl
theorem X_gas_ok {z : AZ} {x1 : Int} {x2 : Int} {x3 : Int} {g : AG} {r : Int × AG} (h : X_gas x1 x2 x3 g = some r) : AMf z yX11_gas cX11_gas 4 (some .boolean) 2 [rv z 0, iv x1, iv x2, iv x3] g r := by
  intro d hdd
  refine AM.of (by decide +kernel) (Nat.le_of_ble_eq_true rfl) ?_
  show AW z (RX11, cX11_gas, 4, (some .boolean)) d (QD (some .boolean) r) 0 [(0, rv z 0), (1, iv x1), (2, iv x2), (3, iv x3)] [] g
  unfold X_gas at h
  refine AW.aloadr_n 0 (dcN_0 dcg_425 :) rfl ?_
  refine AW.iload_n 1 (dcN_1 dcg_425 :) rfl ?_
  refine AW.callVi (As := [iv x1]) (st := []) X_isBoat_ok cq_X11_107 cr_0_X11_isBoat (Nat.le_trans (by decide) hdd) rfl (dcN_2 dcg_425 :) rfl (Nat.le_of_ble_eq_true rfl) ?_
  refine AW.if_eq (tgt := 29) (dcN_3 dcg_425 :) (by decide) (fun c1 => ?_) (fun c1 => ?_)
  · replace h := hT h c1
    refine AW.iconst (dcN_2 dcg_426 :) ?_
    exact AW.zret1 rfl (Or.inl rfl) (dcN_3 dcg_426 :) h rfl
  · replace h := hF h c1
    refine AW.iload_n 2 (dcN_4 dcg_425 :) rfl ?_
    refine AW.iconst (dcN_5 dcg_425 :) ?_
    refine AW.sipush (dcN_6 dcg_425 :) (by decide) (by decide) ?_
    refine AW.callSi (As := [iv x2, iv 0, iv 999]) (st := []) X_within_ok cq_X11_99 st_X11_within (Nat.le_trans (by decide) hdd) rfl (dcN_7 dcg_425 :) rfl (Nat.le_of_ble_eq_true rfl) ?_
    refine AW.if_eq (tgt := 29) (dcN_8 dcg_425 :) (by decide) (fun c2 => ?_) (fun c2 => ?_)
    · replace h := hT h c2
      refine AW.iconst (dcN_2 dcg_426 :) ?_
      exact AW.zret1 rfl (Or.inl rfl) (dcN_3 dcg_426 :) h rfl
    · replace h := hF h c2
      refine AW.iload_n 3 (dcN_9 dcg_425 :) rfl ?_
      refine AW.iconst (dcN_10 dcg_425 :) ?_
      refine AW.bipush (dcN_11 dcg_425 :) (by decide) (by decide) ?_
      refine AW.callSi (As := [iv x3, iv 0, iv 60]) (st := []) X_within_ok cq_X11_99 st_X11_within (Nat.le_trans (by decide) hdd) rfl (dcN_0 dcg_426 :) rfl (Nat.le_of_ble_eq_true rfl) ?_
      refine AW.if_ne (tgt := 31) (dcN_1 dcg_426 :) (by decide) (fun c3 => ?_) (fun c3 => ?_)
      · replace h := hF h c3
        refine AW.aloadr_n 0 (dcN_4 dcg_426 :) rfl ?_
        refine AW.getR af_X11_79_0 sr_0_9 (dcN_5 dcg_426 :) ?_
        refine AW.iload_n 1 (dcN_6 dcg_426 :) rfl ?_
        refine AW.iload_n 2 (dcN_7 dcg_426 :) rfl ?_
        refine AW.iload_n 3 (dcN_8 dcg_426 :) rfl ?_
        obtain ⟨r4, e5, h⟩ := hC h
        refine AW.callVi (As := [iv x1, iv x2, iv x3]) (st := []) (Yard_tellDock_ok e5) cq_X11_296 cr_10_X10_tellDock (Nat.le_trans (by decide) hdd) rfl (dcN_9 dcg_426 :) rfl (Nat.le_of_ble_eq_true rfl) ?_
        obtain ⟨k6, h⟩ := hK h
        exact AW.zret1 rfl k6 (dcN_10 dcg_426 :) h rfl
      · replace h := hT h c3
        refine AW.iconst (dcN_2 dcg_426 :) ?_
        exact AW.zret1 rfl (Or.inl rfl) (dcN_3 dcg_426 :) h rfl
theorem Yard_isBetter_ok {z : AZ} {x1 : Int} {x2 : Int} {x3 : Int} {g : AG} {r : Int} (h : Yard_isBetter x1 x2 x3 g = some r) : AMf z yX10_isBetter cX10_isBetter 4 (some .boolean) 0 [rv z 10, iv x1, iv x2, iv x3] g (r, g) := by
  intro d hdd
  refine AM.of (by decide +kernel) (Nat.le_of_ble_eq_true rfl) ?_
  show AW z (RX10, cX10_isBetter, 4, (some .boolean)) d (QD (some .boolean) (r, g)) 0 [(0, rv z 10), (1, iv x1), (2, iv x2), (3, iv x3)] [] g
  unfold Yard_isBetter at h
  refine AW.aloadr_n 0 (dcN_0 dcg_322 :) rfl ?_
  refine AW.getR af_X10_27_10 sr_10_6 (dcN_1 dcg_322 :) ?_
  refine AW.iload_n 1 (dcN_2 dcg_322 :) rfl ?_
  obtain ⟨k1, h⟩ := hK h
  refine AW.iald kc_102 sk_102 k1 (dcN_3 dcg_322 :) ?_
  refine AW.iconst (dcN_4 dcg_322 :) ?_
  obtain ⟨r8, e9, h⟩ := hC h
  refine AW.join (tgt := 45) (lv1 := []) (st1 := [iv r8]) (g1 := g) ?_ (fun J7 => ?_)
  · obtain ⟨k10, h⟩ := hK h
    exact AW.zret2 rfl k10 (dcN_3 dcg_324 :) h rfl
  replace h := e9
  refine AW.icmp_eq (tgt := 40) (dcN_5 dcg_322 :) (by decide) (fun c2 => ?_) (fun c2 => ?_)
  · replace h := hT h c2
    refine AW.iconst (dcN_0 dcg_324 :) ?_
    refine AW.goto (tgt := 45) (dcN_1 dcg_324 :) (by decide) ?_
    refine AW.sub (lv1 := []) [] rfl ?_
    cases h
    exact J7
  · replace h := hF h c2
    refine AW.iload_n 2 (dcN_6 dcg_322 :) rfl ?_
    refine AW.aloadr_n 0 (dcN_7 dcg_322 :) rfl ?_
    refine AW.getR af_X10_21_10 sr_10_4 (dcN_8 dcg_322 :) ?_
    refine AW.iload_n 1 (dcN_9 dcg_322 :) rfl ?_
    refine AW.iald kc_100 sk_100 k1 (dcN_10 dcg_322 :) ?_
    refine AW.icmp_lt (tgt := 40) (dcN_11 dcg_322 :) (by decide) (fun c3 => ?_) (fun c3 => ?_)
    · replace h := hT h c3
      refine AW.iconst (dcN_0 dcg_324 :) ?_
      refine AW.goto (tgt := 45) (dcN_1 dcg_324 :) (by decide) ?_
      refine AW.sub (lv1 := []) [] rfl ?_
      cases h
      exact J7
    · replace h := hF h c3
      refine AW.iload_n 2 (dcN_0 dcg_323 :) rfl ?_
      refine AW.aloadr_n 0 (dcN_1 dcg_323 :) rfl ?_
      refine AW.getR af_X10_21_10 sr_10_4 (dcN_2 dcg_323 :) ?_
      refine AW.iload_n 1 (dcN_3 dcg_323 :) rfl ?_
      refine AW.iald kc_100 sk_100 k1 (dcN_4 dcg_323 :) ?_
      refine AW.icmp_ne (tgt := 44) (dcN_5 dcg_323 :) (by decide) (fun c4 => ?_) (fun c4 => ?_)
      · replace h := hF h c4
        refine AW.iconst (dcN_2 dcg_324 :) ?_
        refine AW.sub (lv1 := []) [] rfl ?_
        cases h
        exact J7
      · replace h := hT h c4
        refine AW.iload_n 3 (dcN_6 dcg_323 :) rfl ?_
        refine AW.aloadr_n 0 (dcN_7 dcg_323 :) rfl ?_
        refine AW.getR af_X10_24_10 sr_10_5 (dcN_8 dcg_323 :) ?_
        refine AW.iload_n 1 (dcN_9 dcg_323 :) rfl ?_
        refine AW.iald kc_101 sk_101 k1 (dcN_10 dcg_323 :) ?_
        obtain ⟨t5, e6, h⟩ := hBe h
        refine AW.join (tgt := 45) (lv1 := [(0, rv z 10), (1, iv x1), (2, iv x2), (3, iv x3)]) (st1 := [iv t5]) (g1 := g) ?_ (fun J37 => ?_)
        · refine AW.sub (lv1 := []) [] rfl ?_
          cases h
          exact J7
        refine AW.icmp_ge (tgt := 44) (dcN_11 dcg_323 :) (by decide) (fun c7 => ?_) (fun c7 => ?_)
        · refine AW.iconst (dcN_2 dcg_324 :) ?_
          exact AW.val (e6.trans (if_pos c7)) J37
        · refine AW.iconst (dcN_0 dcg_324 :) ?_
          refine AW.goto (tgt := 45) (dcN_1 dcg_324 :) (by decide) ?_
          exact AW.val (e6.trans (if_neg c7)) J37
set_option synthInstance.maxHeartbeats 2000000 in
theorem Yard_chooseNext_b_ok {z : AZ} {d : Nat} (hdd : 1 ≤ d) {x1 : Int} : ∀ (tag : Nat) (x2 : Int) (x3 : Int) (g : AG) (r : Int × AG), Yard_chooseNext_b x1 tag x2 x3 g = some r → (tag = 1 → AW z (RX10, cX10_chooseNext, 7, none) d (QD none r) 4 [(0, rv z 10), (1, iv x1), (2, iv x2), (3, iv x3)] [] g) ∧ (tag = 2 → AW z (RX10, cX10_chooseNext, 7, none) d (QD none r) 53 [(0, rv z 10), (1, iv x1), (2, iv x2), (3, iv x3)] [] g) := by
  refine Yard_chooseNext_b.partial_correctness x1 (fun tag x2 x3 g r => (tag = 1 → AW z (RX10, cX10_chooseNext, 7, none) d (QD none r) 4 [(0, rv z 10), (1, iv x1), (2, iv x2), (3, iv x3)] [] g) ∧ (tag = 2 → AW z (RX10, cX10_chooseNext, 7, none) d (QD none r) 53 [(0, rv z 10), (1, iv x1), (2, iv x2), (3, iv x3)] [] g)) ?_
  intro fb9 ih tag x2 x3 g r h
  refine ⟨fun h9 => ?_, fun h9 => ?_⟩
  · subst h9
    replace h := hT h rfl
    refine AW.iload_n 3 (dcN_4 dcg_316 :) rfl ?_
    refine AW.aloadr_n 0 (dcN_5 dcg_316 :) rfl ?_
    refine AW.getI af_X10_46_10 sr_10_2 (dcN_6 dcg_316 :) ?_
    refine AW.icmp_ge (tgt := 44) (dcN_7 dcg_316 :) (by decide) (fun c1 => ?_) (fun c1 => ?_)
    · replace h := hT h c1
      refine AW.aloadr_n 0 (dcN_6 dcg_317 :) rfl ?_
      refine AW.getR af_X10_27_10 sr_10_6 (dcN_7 dcg_317 :) ?_
      refine AW.iload_n 1 (dcN_8 dcg_317 :) rfl ?_
      refine AW.iconst (dcN_9 dcg_317 :) ?_
      obtain ⟨k2, h⟩ := hK h
      obtain ⟨g3, e4, h⟩ := hBe h
      refine AW.iast kc_102 sk_102 k2 (dcN_10 dcg_317 :) e4 ?_
      refine AW.iconst (dcN_11 dcg_317 :) ?_
      refine AW.istore_n (lv1 := [(3, iv 0), (0, rv z 10), (1, iv x1), (2, iv x2)]) (dcN_12 dcg_317 :) (by decide) rfl ?_
      refine AW.sub (lv1 := [(0, rv z 10), (1, iv x1), (2, iv x2), (3, iv 0)]) [1, 2, 3, 0] rfl ?_
      exact (ih _ _ _ _ _ h).2 rfl
    · replace h := hF h c1
      refine AW.iload_n 2 (dcN_8 dcg_316 :) rfl ?_
      refine AW.iload_n 1 (dcN_9 dcg_316 :) rfl ?_
      refine AW.iload_n 3 (dcN_10 dcg_316 :) rfl ?_
      refine AW.ishr (dcN_11 dcg_316 :) ?_
      refine AW.iconst (dcN_12 dcg_316 :) ?_
      refine AW.iand (dcN_13 dcg_316 :) ?_
      obtain ⟨r8, e9, h⟩ := hC h
      refine AW.join (tgt := 36) (lv1 := [(0, rv z 10), (1, iv x1), (3, iv x3)]) (st1 := [iv r8.1, iv x2]) (g1 := r8.2) ?_ (fun J18 => ?_)
      · refine AW.iadd (dcN_2 dcg_317 :) ?_
        refine AW.istore_n (lv1 := [(2, iv (x2 + r8.1)), (0, rv z 10), (1, iv x1), (3, iv x3)]) (dcN_3 dcg_317 :) (by decide) rfl ?_
        refine AW.iinc (lv1 := [(3, iv (x3 + 1)), (2, iv (x2 + r8.1)), (0, rv z 10), (1, iv x1)]) 3 (dcN_4 dcg_317 :) rfl (by decide) rfl ?_
        refine AW.goto (tgt := 4) (dcN_5 dcg_317 :) (by decide) ?_
        refine AW.sub (lv1 := [(0, rv z 10), (1, iv x1), (2, iv (x2 + r8.1)), (3, iv (x3 + 1))]) [2, 3, 1, 0] rfl ?_
        exact (ih _ _ _ _ _ h).1 rfl
      replace h := e9
      refine AW.if_eq (tgt := 35) (dcN_14 dcg_316 :) (by decide) (fun c5 => ?_) (fun c5 => ?_)
      · replace h := hT h c5
        refine AW.iconst (dcN_1 dcg_317 :) ?_
        refine AW.sub (lv1 := [(0, rv z 10), (1, iv x1), (3, iv x3)]) [0, 1, 3] rfl ?_
        cases h
        exact J18
      · replace h := hF h c5
        refine AW.aloadr_n 0 (dcN_15 dcg_316 :) rfl ?_
        refine AW.getR af_X10_15_10 sr_10_1 (dcN_16 dcg_316 :) ?_
        refine AW.aloadr_n 0 (dcN_17 dcg_316 :) rfl ?_
        refine AW.getR af_X10_18_10 sr_10_3 (dcN_18 dcg_316 :) ?_
        refine AW.iload_n 3 (dcN_19 dcg_316 :) rfl ?_
        obtain ⟨k6, h⟩ := hK h
        refine AW.iald kc_99 sk_99 k6 (dcN_20 dcg_316 :) ?_
        obtain ⟨k7, h⟩ := hK h
        refine AW.iald kc_98 sk_98 k7 (dcN_21 dcg_316 :) ?_
        refine AW.goto (tgt := 36) (dcN_0 dcg_317 :) (by decide) ?_
        refine AW.sub (lv1 := [(0, rv z 10), (1, iv x1), (3, iv x3)]) [0, 1, 3] rfl ?_
        cases h
        exact J18
  · subst h9
    replace h := hF h (by decide)
    replace h := hT h rfl
    refine AW.iload_n 3 (dcN_13 dcg_317 :) rfl ?_
    refine AW.aloadr_n 0 (dcN_14 dcg_317 :) rfl ?_
    refine AW.getI af_X10_46_10 sr_10_2 (dcN_15 dcg_317 :) ?_
    refine AW.icmp_ge (tgt := 174) (dcN_16 dcg_317 :) (by decide) (fun c1 => ?_) (fun c1 => ?_)
    · replace h := hT h c1
      exact AW.vret1 rfl (dcN_8 dcg_321 :) h rfl
    · replace h := hF h c1
      refine AW.iload_n 1 (dcN_17 dcg_317 :) rfl ?_
      refine AW.iload_n 3 (dcN_18 dcg_317 :) rfl ?_
      refine AW.ishr (dcN_19 dcg_317 :) ?_
      refine AW.iconst (dcN_0 dcg_318 :) ?_
      refine AW.iand (dcN_1 dcg_318 :) ?_
      obtain ⟨r21, e22, h⟩ := hC h
      refine AW.join (tgt := 168) (lv1 := [(0, rv z 10), (1, iv x1), (2, iv x2), (3, iv x3)]) (st1 := []) (g1 := r21) ?_ (fun J66 => ?_)
      · refine AW.iinc (lv1 := [(3, iv (x3 + 1)), (0, rv z 10), (1, iv x1), (2, iv x2)]) 3 (dcN_6 dcg_321 :) rfl (by decide) rfl ?_
        refine AW.goto (tgt := 53) (dcN_7 dcg_321 :) (by decide) ?_
        refine AW.sub (lv1 := [(0, rv z 10), (1, iv x1), (2, iv x2), (3, iv (x3 + 1))]) [1, 2, 3, 0] rfl ?_
        exact (ih _ _ _ _ _ h).2 rfl
      replace h := e22
      refine AW.if_ne (tgt := 168) (dcN_2 dcg_318 :) (by decide) (fun c2 => ?_) (fun c2 => ?_)
      · replace h := hF h c2
        cases h
        exact J66
      · replace h := hT h c2
        refine AW.iload_n 2 (dcN_3 dcg_318 :) rfl ?_
        refine AW.aloadr_n 0 (dcN_4 dcg_318 :) rfl ?_
        refine AW.getR af_X10_15_10 sr_10_1 (dcN_5 dcg_318 :) ?_
        refine AW.aloadr_n 0 (dcN_6 dcg_318 :) rfl ?_
        refine AW.getR af_X10_18_10 sr_10_3 (dcN_7 dcg_318 :) ?_
        refine AW.iload_n 3 (dcN_8 dcg_318 :) rfl ?_
        obtain ⟨k3, h⟩ := hK h
        refine AW.iald kc_99 sk_99 k3 (dcN_9 dcg_318 :) ?_
        obtain ⟨k4, h⟩ := hK h
        refine AW.iald kc_98 sk_98 k4 (dcN_10 dcg_318 :) ?_
        refine AW.iadd (dcN_11 dcg_318 :) ?_
        refine AW.istore (lv1 := [(4, iv (x2 + (g 98 (ix (g 99 (ix x3)))))), (0, rv z 10), (1, iv x1), (2, iv x2), (3, iv x3)]) (dcN_12 dcg_318 :) (by decide) rfl ?_
        refine AW.aloadr_n 1 (dcN_13 dcg_318 :) rfl ?_
        refine AW.getR af_X10_21_10 sr_10_4 (dcN_14 dcg_318 :) ?_
        refine AW.iload_n 2 (dcN_15 dcg_318 :) rfl ?_
        refine AW.iconst (dcN_16 dcg_318 :) ?_
        refine AW.iload_n 4 (dcN_17 dcg_318 :) rfl ?_
        refine AW.ishl (dcN_18 dcg_318 :) ?_
        refine AW.ior (dcN_19 dcg_318 :) ?_
        obtain ⟨k5, h⟩ := hK h
        refine AW.iald kc_100 sk_100 k5 (dcN_20 dcg_318 :) ?_
        refine AW.iload 0 (dcN_21 dcg_318 :) rfl ?_
        refine AW.aloadr_n 1 (dcN_0 dcg_319 :) rfl ?_
        refine AW.getR af_X10_9_10 sr_10_0 (dcN_1 dcg_319 :) ?_
        refine AW.aloadr_n 1 (dcN_2 dcg_319 :) rfl ?_
        refine AW.getR af_X10_18_10 sr_10_3 (dcN_3 dcg_319 :) ?_
        refine AW.iload_n 4 (dcN_4 dcg_319 :) rfl ?_
        refine AW.iald kc_99 sk_99 k3 (dcN_5 dcg_319 :) ?_
        refine AW.iald kc_97 sk_97 k4 (dcN_6 dcg_319 :) ?_
        obtain ⟨t6, e7, h⟩ := hBe h
        refine AW.join (tgt := 115) (lv1 := [(4, iv (x2 + (g 98 (ix (g 99 (ix x3)))))), (0, rv z 10), (1, iv x1), (2, iv x2), (3, iv x3)]) (st1 := [iv t6, iv (g 100 (ix (orI x1 (shlI 1 x3))))]) (g1 := g) ?_ (fun J107 => ?_)
        · refine AW.iadd (dcN_11 dcg_319 :) ?_
          refine AW.istore (lv1 := [(5, iv ((g 100 (ix (orI x1 (shlI 1 x3)))) + t6)), (4, iv (x2 + (g 98 (ix (g 99 (ix x3)))))), (0, rv z 10), (1, iv x1), (2, iv x2), (3, iv x3)]) (dcN_12 dcg_319 :) (by decide) rfl ?_
          refine AW.aloadr_n 2 (dcN_13 dcg_319 :) rfl ?_
          refine AW.getR af_X10_24_10 sr_10_5 (dcN_14 dcg_319 :) ?_
          refine AW.iload_n 3 (dcN_15 dcg_319 :) rfl ?_
          refine AW.iconst (dcN_16 dcg_319 :) ?_
          refine AW.iload_n 5 (dcN_17 dcg_319 :) rfl ?_
          refine AW.ishl (dcN_18 dcg_319 :) ?_
          refine AW.ior (dcN_19 dcg_319 :) ?_
          refine AW.iald kc_101 sk_101 k5 (dcN_20 dcg_319 :) ?_
          refine AW.iload 1 (dcN_0 dcg_320 :) rfl ?_
          refine AW.iadd (dcN_1 dcg_320 :) ?_
          obtain ⟨t8, e9, h⟩ := hBe h
          refine AW.val e9 ?_
          refine AW.istore (lv1 := [(6, iv t8), (5, iv ((g 100 (ix (orI x1 (shlI 1 x3)))) + t6)), (4, iv (x2 + (g 98 (ix (g 99 (ix x3)))))), (0, rv z 10), (1, iv x1), (2, iv x2), (3, iv x3)]) (dcN_2 dcg_320 :) (by decide) rfl ?_
          refine AW.aloadr_n 3 (dcN_3 dcg_320 :) rfl ?_
          refine AW.iload_n 4 (dcN_4 dcg_320 :) rfl ?_
          refine AW.iload 1 (dcN_5 dcg_320 :) rfl ?_
          refine AW.iload 0 (dcN_6 dcg_320 :) rfl ?_
          obtain ⟨r10, e11, h⟩ := hC h
          refine AW.callVi (As := [iv x1, iv ((g 100 (ix (orI x1 (shlI 1 x3)))) + t6), iv t8]) (st := []) (Yard_isBetter_ok e11) cq_X10_54 cr_10_X10_isBetter (Nat.le_trans (by decide) hdd) rfl (dcN_7 dcg_320 :) rfl (Nat.le_of_ble_eq_true rfl) ?_
          refine AW.if_eq (tgt := 168) (dcN_8 dcg_320 :) (by decide) (fun c12 => ?_) (fun c12 => ?_)
          · replace h := hT h c12
            refine AW.sub (lv1 := [(0, rv z 10), (1, iv x1), (2, iv x2), (3, iv x3)]) [3, 4, 5, 6] rfl ?_
            cases h
            exact J66
          · replace h := hF h c12
            refine AW.aloadr_n 3 (dcN_9 dcg_320 :) rfl ?_
            refine AW.getR af_X10_21_10 sr_10_4 (dcN_10 dcg_320 :) ?_
            refine AW.iload_n 4 (dcN_11 dcg_320 :) rfl ?_
            refine AW.iload 1 (dcN_12 dcg_320 :) rfl ?_
            obtain ⟨k13, h⟩ := hK h
            obtain ⟨g14, e15, h⟩ := hBe h
            refine AW.iast kc_100 sk_100 k13 (dcN_13 dcg_320 :) e15 ?_
            refine AW.aloadr_n 3 (dcN_14 dcg_320 :) rfl ?_
            refine AW.getR af_X10_24_10 sr_10_5 (dcN_15 dcg_320 :) ?_
            refine AW.iload_n 4 (dcN_16 dcg_320 :) rfl ?_
            refine AW.iload 0 (dcN_17 dcg_320 :) rfl ?_
            obtain ⟨g16, e17, h⟩ := hBe h
            refine AW.iast kc_101 sk_101 k13 (dcN_0 dcg_321 :) e17 ?_
            refine AW.aloadr_n 3 (dcN_1 dcg_321 :) rfl ?_
            refine AW.getR af_X10_27_10 sr_10_6 (dcN_2 dcg_321 :) ?_
            refine AW.iload_n 4 (dcN_3 dcg_321 :) rfl ?_
            refine AW.iload_n 6 (dcN_4 dcg_321 :) rfl ?_
            obtain ⟨g18, e19, h⟩ := hBe h
            refine AW.iast kc_102 sk_102 k13 (dcN_5 dcg_321 :) e19 ?_
            refine AW.sub (lv1 := [(0, rv z 10), (1, iv x1), (2, iv x2), (3, iv x3)]) [3, 4, 5, 6] rfl ?_
            cases h
            exact J66
        refine AW.icmp_le (tgt := 114) (dcN_7 dcg_319 :) (by decide) (fun c20 => ?_) (fun c20 => ?_)
        · refine AW.iconst (dcN_10 dcg_319 :) ?_
          exact AW.val (e7.trans (if_pos c20)) J107
        · refine AW.iconst (dcN_8 dcg_319 :) ?_
          refine AW.goto (tgt := 115) (dcN_9 dcg_319 :) (by decide) ?_
          exact AW.val (e7.trans (if_neg c20)) J107
theorem Yard_chooseNext_ok {z : AZ} {x1 : Int} {g : AG} {r : Int × AG} (h : Yard_chooseNext x1 g = some r) : AMf z yX10_chooseNext cX10_chooseNext 7 none 1 [rv z 10, iv x1] g r := by
  intro d hdd
  refine AM.of (by decide +kernel) (Nat.le_of_ble_eq_true rfl) ?_
  show AW z (RX10, cX10_chooseNext, 7, none) d (QD none r) 0 [(0, rv z 10), (1, iv x1)] [] g
  unfold Yard_chooseNext at h
  refine AW.iconst (dcN_0 dcg_316 :) ?_
  refine AW.istore_n (lv1 := [(2, iv 0), (0, rv z 10), (1, iv x1)]) (dcN_1 dcg_316 :) (by decide) rfl ?_
  refine AW.iconst (dcN_2 dcg_316 :) ?_
  refine AW.istore_n (lv1 := [(3, iv 0), (2, iv 0), (0, rv z 10), (1, iv x1)]) (dcN_3 dcg_316 :) (by decide) rfl ?_
  refine AW.sub (lv1 := [(0, rv z 10), (1, iv x1), (2, iv 0), (3, iv 0)]) [2, 3, 1, 0] rfl ?_
  exact (Yard_chooseNext_b_ok hdd _ _ _ _ _ h).1 rfl
set_option synthInstance.maxHeartbeats 2000000 in
theorem Yard_orderDock_b_ok {z : AZ} {d : Nat} (hdd : 2 ≤ d) : ∀ (tag : Nat) (x1 : Int) (x2 : Int) (g : AG) (r : Int × AG), Yard_orderDock_b tag x1 x2 g = some r → (tag = 1 → AW z (RX10, cX10_orderDock, 3, none) d (QD none r) 7 [(0, rv z 10), (1, iv x1)] [] g) ∧ (tag = 2 → AW z (RX10, cX10_orderDock, 3, none) d (QD none r) 84 [(0, rv z 10), (2, iv x2)] [] g) := by
  refine Yard_orderDock_b.partial_correctness (fun tag x1 x2 g r => (tag = 1 → AW z (RX10, cX10_orderDock, 3, none) d (QD none r) 7 [(0, rv z 10), (1, iv x1)] [] g) ∧ (tag = 2 → AW z (RX10, cX10_orderDock, 3, none) d (QD none r) 84 [(0, rv z 10), (2, iv x2)] [] g)) ?_
  intro fb9 ih tag x1 x2 g r h
  refine ⟨fun h9 => ?_, fun h9 => ?_⟩
  · subst h9
    replace h := hT h rfl
    refine AW.iload_n 1 (dcN_5 dcg_312 :) rfl ?_
    refine AW.bipush (dcN_6 dcg_312 :) (by decide) (by decide) ?_
    refine AW.icmp_ge (tgt := 57) (dcN_7 dcg_312 :) (by decide) (fun c1 => ?_) (fun c1 => ?_)
    · replace h := hT h c1
      refine AW.iconst (dcN_13 dcg_313 :) ?_
      refine AW.aloadr_n 0 (dcN_14 dcg_313 :) rfl ?_
      refine AW.getI af_X10_46_10 sr_10_2 (dcN_15 dcg_313 :) ?_
      refine AW.ishl (dcN_16 dcg_313 :) ?_
      refine AW.iconst (dcN_17 dcg_313 :) ?_
      refine AW.isub (dcN_0 dcg_314 :) ?_
      refine AW.istore_n (lv1 := [(1, iv ((shlI 1 (g 10 2)) - 1)), (0, rv z 10)]) (dcN_1 dcg_314 :) (by decide) rfl ?_
      refine AW.aloadr_n 1 (dcN_2 dcg_314 :) rfl ?_
      refine AW.getR af_X10_21_10 sr_10_4 (dcN_3 dcg_314 :) ?_
      refine AW.iload_n 0 (dcN_4 dcg_314 :) rfl ?_
      refine AW.iconst (dcN_5 dcg_314 :) ?_
      obtain ⟨k2, h⟩ := hK h
      obtain ⟨g3, e4, h⟩ := hBe h
      refine AW.iast kc_100 sk_100 k2 (dcN_6 dcg_314 :) e4 ?_
      refine AW.aloadr_n 1 (dcN_7 dcg_314 :) rfl ?_
      refine AW.getR af_X10_24_10 sr_10_5 (dcN_8 dcg_314 :) ?_
      refine AW.iload_n 0 (dcN_9 dcg_314 :) rfl ?_
      refine AW.iconst (dcN_10 dcg_314 :) ?_
      obtain ⟨g5, e6, h⟩ := hBe h
      refine AW.iast kc_101 sk_101 k2 (dcN_11 dcg_314 :) e6 ?_
      refine AW.iload_n 0 (dcN_12 dcg_314 :) rfl ?_
      refine AW.iconst (dcN_13 dcg_314 :) ?_
      refine AW.isub (dcN_14 dcg_314 :) ?_
      refine AW.istore_n (lv1 := [(2, iv (((shlI 1 (g 10 2)) - 1) - 1)), (1, iv ((shlI 1 (g 10 2)) - 1)), (0, rv z 10)]) (dcN_15 dcg_314 :) (by decide) rfl ?_
      refine AW.sub (lv1 := [(0, rv z 10), (2, iv (((shlI 1 (g 10 2)) - 1) - 1))]) [2, 0] rfl ?_
      exact (ih _ _ _ _ _ h).2 rfl
    · replace h := hF h c1
      refine AW.aloadr_n 0 (dcN_8 dcg_312 :) rfl ?_
      refine AW.getR af_X10_15_10 sr_10_1 (dcN_9 dcg_312 :) ?_
      refine AW.iload_n 1 (dcN_10 dcg_312 :) rfl ?_
      obtain ⟨k7, h⟩ := hK h
      refine AW.iald kc_98 sk_98 k7 (dcN_11 dcg_312 :) ?_
      obtain ⟨r15, e16, h⟩ := hC h
      refine AW.join (tgt := 51) (lv1 := [(0, rv z 10), (1, iv x1)]) (st1 := []) (g1 := r15) ?_ (fun J19 => ?_)
      · refine AW.iinc (lv1 := [(1, iv (x1 + 1)), (0, rv z 10)]) 1 (dcN_11 dcg_313 :) rfl (by decide) rfl ?_
        refine AW.goto (tgt := 7) (dcN_12 dcg_313 :) (by decide) ?_
        refine AW.sub (lv1 := [(0, rv z 10), (1, iv (x1 + 1))]) [1, 0] rfl ?_
        exact (ih _ _ _ _ _ h).1 rfl
      replace h := e16
      refine AW.if_le (tgt := 51) (dcN_12 dcg_312 :) (by decide) (fun c8 => ?_) (fun c8 => ?_)
      · replace h := hT h c8
        cases h
        exact J19
      · replace h := hF h c8
        refine AW.aloadr_n 0 (dcN_13 dcg_312 :) rfl ?_
        refine AW.getI af_X10_46_10 sr_10_2 (dcN_14 dcg_312 :) ?_
        refine AW.bipush (dcN_15 dcg_312 :) (by decide) (by decide) ?_
        refine AW.icmp_ge (tgt := 51) (dcN_16 dcg_312 :) (by decide) (fun c9 => ?_) (fun c9 => ?_)
        · replace h := hT h c9
          cases h
          exact J19
        · replace h := hF h c9
          refine AW.aloadr_n 0 (dcN_17 dcg_312 :) rfl ?_
          refine AW.getR af_X10_18_10 sr_10_3 (dcN_0 dcg_313 :) ?_
          refine AW.aloadr_n 0 (dcN_1 dcg_313 :) rfl ?_
          refine AW.getI af_X10_46_10 sr_10_2 (dcN_2 dcg_313 :) ?_
          refine AW.iload_n 1 (dcN_3 dcg_313 :) rfl ?_
          obtain ⟨k10, h⟩ := hK h
          obtain ⟨g11, e12, h⟩ := hBe h
          refine AW.iast kc_99 sk_99 k10 (dcN_4 dcg_313 :) e12 ?_
          refine AW.aloadr_n 0 (dcN_5 dcg_313 :) rfl ?_
          refine AW.duprr (dcN_6 dcg_313 :) ?_
          refine AW.getI af_X10_46_10 sr_10_2 (dcN_7 dcg_313 :) ?_
          refine AW.iconst (dcN_8 dcg_313 :) ?_
          refine AW.iadd (dcN_9 dcg_313 :) ?_
          obtain ⟨g13, e14, h⟩ := hBe h
          refine AW.putI ap_X10_46_10 sr_10_2 (dcN_10 dcg_313 :) e14 ?_
          cases h
          exact J19
  · subst h9
    replace h := hF h (by decide)
    replace h := hT h rfl
    refine AW.iload_n 1 (dcN_16 dcg_314 :) rfl ?_
    refine AW.if_lt (tgt := 99) (dcN_17 dcg_314 :) (by decide) (fun c1 => ?_) (fun c1 => ?_)
    · replace h := hT h c1
      exact AW.vret1 rfl (dcN_1 dcg_315 :) h rfl
    · replace h := hF h c1
      refine AW.aloadr_n 0 (dcN_18 dcg_314 :) rfl ?_
      refine AW.iload_n 1 (dcN_19 dcg_314 :) rfl ?_
      obtain ⟨r2, e3, h⟩ := hC h
      refine AW.callVv (As := [iv x2]) (st := []) (Yard_chooseNext_ok e3) cq_X10_50 cr_10_X10_chooseNext (Nat.le_trans (by decide) hdd) rfl (dcN_20 dcg_314 :) rfl (Nat.le_of_ble_eq_true rfl) ?_
      refine AW.iinc (lv1 := [(2, iv (x2 + (-1))), (0, rv z 10)]) 1 (dcN_21 dcg_314 :) rfl (by decide) rfl ?_
      refine AW.goto (tgt := 84) (dcN_0 dcg_315 :) (by decide) ?_
      refine AW.sub (lv1 := [(0, rv z 10), (2, iv (x2 + (-1)))]) [1, 0] rfl ?_
      exact (ih _ _ _ _ _ h).2 rfl
theorem Yard_orderDock_ok {z : AZ} {g : AG} {r : Int × AG} (h : Yard_orderDock g = some r) : AMf z yX10_orderDock cX10_orderDock 3 none 2 [rv z 10] g r := by
  intro d hdd
  refine AM.of (by decide +kernel) (Nat.le_of_ble_eq_true rfl) ?_
  show AW z (RX10, cX10_orderDock, 3, none) d (QD none r) 0 [(0, rv z 10)] [] g
  unfold Yard_orderDock at h
  refine AW.aloadr_n 0 (dcN_0 dcg_312 :) rfl ?_
  refine AW.iconst (dcN_1 dcg_312 :) ?_
  obtain ⟨g1, e2, h⟩ := hBe h
  refine AW.putI ap_X10_46_10 sr_10_2 (dcN_2 dcg_312 :) e2 ?_
  refine AW.iconst (dcN_3 dcg_312 :) ?_
  refine AW.istore_n (lv1 := [(1, iv 0), (0, rv z 10)]) (dcN_4 dcg_312 :) (by decide) rfl ?_
  refine AW.sub (lv1 := [(0, rv z 10), (1, iv 0)]) [1, 0] rfl ?_
  exact (Yard_orderDock_b_ok hdd _ _ _ _ _ h).1 rfl
set_option synthInstance.maxHeartbeats 2000000 in
theorem Yard_dockedAt_b_ok {z : AZ} {d : Nat} (hdd : 1 ≤ d) {x1 : Int} {g : AG} : ∀ (x2 : Int) (x3 : Int) (r : Int), Yard_dockedAt_b x1 g x2 x3 = some r → AW z (RX10, cX10_dockedAt, 4, (some .int)) d (QD (some .int) (r, g)) 23 [(0, rv z 10), (1, iv x1), (2, iv x2), (3, iv x3)] [] g := by
  refine Yard_dockedAt_b.partial_correctness x1 g (fun x2 x3 r => AW z (RX10, cX10_dockedAt, 4, (some .int)) d (QD (some .int) (r, g)) 23 [(0, rv z 10), (1, iv x1), (2, iv x2), (3, iv x3)] [] g) ?_
  intro fb9 ih x2 x3 r h
  refine AW.iload_n 3 (dcN_16 dcg_325 :) rfl ?_
  refine AW.iload_n 1 (dcN_17 dcg_325 :) rfl ?_
  refine AW.bipush (dcN_18 dcg_325 :) (by decide) (by decide) ?_
  refine AW.isub (dcN_19 dcg_325 :) ?_
  refine AW.icmp_ge (tgt := 48) (dcN_20 dcg_325 :) (by decide) (fun c1 => ?_) (fun c1 => ?_)
  · replace h := hT h c1
    refine AW.aloadr_n 0 (dcN_10 dcg_326 :) rfl ?_
    refine AW.getR af_X10_18_10 sr_10_3 (dcN_11 dcg_326 :) ?_
    refine AW.aloadr_n 0 (dcN_12 dcg_326 :) rfl ?_
    refine AW.getR af_X10_27_10 sr_10_6 (dcN_13 dcg_326 :) ?_
    refine AW.iload_n 2 (dcN_14 dcg_326 :) rfl ?_
    obtain ⟨k2, h⟩ := hK h
    refine AW.iald kc_102 sk_102 k2 (dcN_15 dcg_326 :) ?_
    obtain ⟨k3, h⟩ := hK h
    refine AW.iald kc_99 sk_99 k3 (dcN_16 dcg_326 :) ?_
    exact AW.iret2 rfl (dcN_17 dcg_326 :) h rfl
  · replace h := hF h c1
    refine AW.iload_n 2 (dcN_21 dcg_325 :) rfl ?_
    refine AW.iconst (dcN_0 dcg_326 :) ?_
    refine AW.aloadr_n 0 (dcN_1 dcg_326 :) rfl ?_
    refine AW.getR af_X10_27_10 sr_10_6 (dcN_2 dcg_326 :) ?_
    refine AW.iload_n 2 (dcN_3 dcg_326 :) rfl ?_
    obtain ⟨k4, h⟩ := hK h
    refine AW.iald kc_102 sk_102 k4 (dcN_4 dcg_326 :) ?_
    refine AW.ishl (dcN_5 dcg_326 :) ?_
    refine AW.ior (dcN_6 dcg_326 :) ?_
    refine AW.istore_n (lv1 := [(2, iv (orI x2 (shlI 1 (g 102 (ix x2))))), (0, rv z 10), (1, iv x1), (3, iv x3)]) (dcN_7 dcg_326 :) (by decide) rfl ?_
    refine AW.iinc (lv1 := [(3, iv (x3 + 1)), (2, iv (orI x2 (shlI 1 (g 102 (ix x2))))), (0, rv z 10), (1, iv x1)]) 3 (dcN_8 dcg_326 :) rfl (by decide) rfl ?_
    refine AW.goto (tgt := 23) (dcN_9 dcg_326 :) (by decide) ?_
    refine AW.sub (lv1 := [(0, rv z 10), (1, iv x1), (2, iv (orI x2 (shlI 1 (g 102 (ix x2))))), (3, iv (x3 + 1))]) [2, 3, 1, 0] rfl ?_
    exact ih _ _ _ h
theorem Yard_dockedAt_ok {z : AZ} {x1 : Int} {g : AG} {r : Int} (h : Yard_dockedAt x1 g = some r) : AMf z yX10_dockedAt cX10_dockedAt 4 (some .int) 1 [rv z 10, iv x1] g (r, g) := by
  intro d hdd
  refine AM.of (by decide +kernel) (Nat.le_of_ble_eq_true rfl) ?_
  show AW z (RX10, cX10_dockedAt, 4, (some .int)) d (QD (some .int) (r, g)) 0 [(0, rv z 10), (1, iv x1)] [] g
  unfold Yard_dockedAt at h
  refine AW.iload_n 1 (dcN_0 dcg_325 :) rfl ?_
  refine AW.bipush (dcN_1 dcg_325 :) (by decide) (by decide) ?_
  refine AW.isub (dcN_2 dcg_325 :) ?_
  refine AW.iconst (dcN_3 dcg_325 :) ?_
  refine AW.aloadr_n 0 (dcN_4 dcg_325 :) rfl ?_
  refine AW.getI af_X10_46_10 sr_10_2 (dcN_5 dcg_325 :) ?_
  refine AW.iconst (dcN_6 dcg_325 :) ?_
  refine AW.isub (dcN_7 dcg_325 :) ?_
  refine AW.callN0 (As := [iv (x1 - 10), iv 0, iv ((g 10 2) - 1)]) (st := []) X_within_ok ns_X10_58 in_X11 cd_X11_within st_X11_within (by decide) (Nat.le_trans (by decide) hdd) rfl (Nat.le_of_ble_eq_true rfl) (dcN_8 dcg_325 :) rfl ?_
  refine AW.if_ne (tgt := 19) (dcN_9 dcg_325 :) (by decide) (fun c1 => ?_) (fun c1 => ?_)
  · replace h := hF h c1
    refine AW.iconst (dcN_12 dcg_325 :) ?_
    refine AW.istore_n (lv1 := [(2, iv 0), (0, rv z 10), (1, iv x1)]) (dcN_13 dcg_325 :) (by decide) rfl ?_
    refine AW.iconst (dcN_14 dcg_325 :) ?_
    refine AW.istore_n (lv1 := [(3, iv 0), (2, iv 0), (0, rv z 10), (1, iv x1)]) (dcN_15 dcg_325 :) (by decide) rfl ?_
    refine AW.sub (lv1 := [(0, rv z 10), (1, iv x1), (2, iv 0), (3, iv 0)]) [2, 3, 1, 0] rfl ?_
    exact Yard_dockedAt_b_ok hdd _ _ _ h
  · replace h := hT h c1
    refine AW.iconst (dcN_10 dcg_325 :) ?_
    exact AW.iret2 rfl (dcN_11 dcg_325 :) h rfl
theorem X_dock_ok {z : AZ} {x1 : Int} {g : AG} {r : Int × AG} (h : X_dock x1 g = some r) : AMf z yX11_dock cX11_dock 2 (some .int) 3 [rv z 0, iv x1] g r := by
  intro d hdd
  refine AM.of (by decide +kernel) (Nat.le_of_ble_eq_true rfl) ?_
  show AW z (RX11, cX11_dock, 2, (some .int)) d (QD (some .int) r) 0 [(0, rv z 0), (1, iv x1)] [] g
  unfold X_dock at h
  refine AW.aloadr_n 0 (dcN_0 dcg_427 :) rfl ?_
  refine AW.getR af_X11_79_0 sr_0_9 (dcN_1 dcg_427 :) ?_
  obtain ⟨r1, e2, h⟩ := hC h
  refine AW.callVv (As := []) (st := []) (Yard_orderDock_ok e2) cq_X11_299 cr_10_X10_orderDock (Nat.le_trans (by decide) hdd) rfl (dcN_2 dcg_427 :) rfl (Nat.le_of_ble_eq_true rfl) ?_
  refine AW.iload_n 1 (dcN_3 dcg_427 :) rfl ?_
  by_cases c3 : nw x1 = 0
  · replace h := hT h c3
    refine AW.tsIn (tgt := 36) 0 dX11_dock_8 c3 (by decide) (by decide) (by rfl) (by decide) ?_
    refine AW.aloadr_n 0 (dcN_0 dcg_428 :) rfl ?_
    refine AW.getR af_X11_79_0 sr_0_9 (dcN_1 dcg_428 :) ?_
    refine AW.getR af_X11_302_10 sr_10_4 (dcN_2 dcg_428 :) ?_
    refine AW.iconst (dcN_3 dcg_428 :) ?_
    refine AW.iald kc_100 sk_100 (by decide) (dcN_4 dcg_428 :) ?_
    exact AW.iret1 rfl (dcN_5 dcg_428 :) h rfl
  · replace h := hF h c3
    by_cases c4 : nw x1 = 1
    · replace h := hT h c4
      refine AW.tsIn (tgt := 46) 1 dX11_dock_8 c4 (by decide) (by decide) (by rfl) (by decide) ?_
      refine AW.aloadr_n 0 (dcN_6 dcg_428 :) rfl ?_
      refine AW.getR af_X11_79_0 sr_0_9 (dcN_7 dcg_428 :) ?_
      refine AW.getR af_X11_305_10 sr_10_5 (dcN_8 dcg_428 :) ?_
      refine AW.iconst (dcN_9 dcg_428 :) ?_
      refine AW.iald kc_101 sk_101 (by decide) (dcN_10 dcg_428 :) ?_
      exact AW.iret1 rfl (dcN_11 dcg_428 :) h rfl
    · replace h := hF h c4
      by_cases c5 : nw x1 = 2
      · replace h := hT h c5
        refine AW.tsIn (tgt := 56) 2 dX11_dock_8 c5 (by decide) (by decide) (by rfl) (by decide) ?_
        refine AW.aloadr_n 0 (dcN_12 dcg_428 :) rfl ?_
        refine AW.getR af_X11_79_0 sr_0_9 (dcN_13 dcg_428 :) ?_
        refine AW.getI af_X11_308_10 sr_10_2 (dcN_14 dcg_428 :) ?_
        exact AW.iret1 rfl (dcN_15 dcg_428 :) h rfl
      · replace h := hF h c5
        refine AW.tsOut (tgt := 64) dX11_dock_8 (by omega) (by decide) ?_
        refine AW.aloadr_n 0 (dcN_0 dcg_429 :) rfl ?_
        refine AW.getR af_X11_79_0 sr_0_9 (dcN_1 dcg_429 :) ?_
        refine AW.iload_n 1 (dcN_2 dcg_429 :) rfl ?_
        obtain ⟨r6, e7, h⟩ := hC h
        refine AW.callVi (As := [iv x1]) (st := []) (Yard_dockedAt_ok e7) cq_X11_311 cr_10_X10_dockedAt (Nat.le_trans (by decide) hdd) rfl (dcN_3 dcg_429 :) rfl (Nat.le_of_ble_eq_true rfl) ?_
        exact AW.iret1 rfl (dcN_4 dcg_429 :) h rfl
theorem Yard_addJob_ok {z : AZ} {x1 : Int} {g : AG} {r : Int × AG} (h : Yard_addJob x1 g = some r) : AMf z yX10_addJob cX10_addJob 2 (some .int) 0 [rv z 10, iv x1] g r := by
  intro d hdd
  refine AM.of (by decide +kernel) (Nat.le_of_ble_eq_true rfl) ?_
  show AW z (RX10, cX10_addJob, 2, (some .int)) d (QD (some .int) r) 0 [(0, rv z 10), (1, iv x1)] [] g
  unfold Yard_addJob at h
  refine AW.aloadr_n 0 (dcN_0 dcg_327 :) rfl ?_
  refine AW.getI af_X10_61_10 sr_10_7 (dcN_1 dcg_327 :) ?_
  refine AW.bipush (dcN_2 dcg_327 :) (by decide) (by decide) ?_
  refine AW.icmp_lt (tgt := 11) (dcN_3 dcg_327 :) (by decide) (fun c1 => ?_) (fun c1 => ?_)
  · replace h := hT h c1
    refine AW.aloadr_n 0 (dcN_6 dcg_327 :) rfl ?_
    refine AW.getR af_X10_30_10 sr_10_8 (dcN_7 dcg_327 :) ?_
    refine AW.aloadr_n 0 (dcN_8 dcg_327 :) rfl ?_
    refine AW.getI af_X10_61_10 sr_10_7 (dcN_9 dcg_327 :) ?_
    refine AW.iload_n 1 (dcN_10 dcg_327 :) rfl ?_
    obtain ⟨k2, h⟩ := hK h
    obtain ⟨g3, e4, h⟩ := hBe h
    refine AW.iast kc_103 sk_103 k2 (dcN_11 dcg_327 :) e4 ?_
    refine AW.aloadr_n 0 (dcN_0 dcg_328 :) rfl ?_
    refine AW.duprr (dcN_1 dcg_328 :) ?_
    refine AW.getI af_X10_61_10 sr_10_7 (dcN_2 dcg_328 :) ?_
    refine AW.iconst (dcN_3 dcg_328 :) ?_
    refine AW.iadd (dcN_4 dcg_328 :) ?_
    obtain ⟨g5, e6, h⟩ := hBe h
    refine AW.putI ap_X10_61_10 sr_10_7 (dcN_5 dcg_328 :) e6 ?_
    refine AW.aloadr_n 0 (dcN_6 dcg_328 :) rfl ?_
    refine AW.getI af_X10_61_10 sr_10_7 (dcN_7 dcg_328 :) ?_
    exact AW.iret1 rfl (dcN_8 dcg_328 :) h rfl
  · replace h := hF h c1
    refine AW.iconst (dcN_4 dcg_327 :) ?_
    exact AW.iret1 rfl (dcN_5 dcg_327 :) h rfl
theorem X_job_ok {z : AZ} {x1 : Int} {g : AG} {r : Int × AG} (h : X_job x1 g = some r) : AMf z yX11_job cX11_job 2 (some .int) 1 [rv z 0, iv x1] g r := by
  intro d hdd
  refine AM.of (by decide +kernel) (Nat.le_of_ble_eq_true rfl) ?_
  show AW z (RX11, cX11_job, 2, (some .int)) d (QD (some .int) r) 0 [(0, rv z 0), (1, iv x1)] [] g
  unfold X_job at h
  refine AW.iload_n 1 (dcN_0 dcg_430 :) rfl ?_
  refine AW.if_ne (tgt := 14) (dcN_1 dcg_430 :) (by decide) (fun c1 => ?_) (fun c1 => ?_)
  · replace h := hF h c1
    refine AW.iload_n 1 (dcN_8 dcg_430 :) rfl ?_
    refine AW.iconst (dcN_9 dcg_430 :) ?_
    refine AW.sipush (dcN_10 dcg_430 :) (by decide) (by decide) ?_
    refine AW.callSi (As := [iv x1, iv 1, iv 300]) (st := []) X_within_ok cq_X11_99 st_X11_within (Nat.le_trans (by decide) hdd) rfl (dcN_11 dcg_430 :) rfl (Nat.le_of_ble_eq_true rfl) ?_
    refine AW.if_ne (tgt := 27) (dcN_0 dcg_431 :) (by decide) (fun c2 => ?_) (fun c2 => ?_)
    · replace h := hF h c2
      refine AW.aloadr_n 0 (dcN_3 dcg_431 :) rfl ?_
      refine AW.getR af_X11_79_0 sr_0_9 (dcN_4 dcg_431 :) ?_
      refine AW.iload_n 1 (dcN_5 dcg_431 :) rfl ?_
      obtain ⟨r3, e4, h⟩ := hC h
      refine AW.callVi (As := [iv x1]) (st := []) (Yard_addJob_ok e4) cq_X11_317 cr_10_X10_addJob (Nat.le_trans (by decide) hdd) rfl (dcN_6 dcg_431 :) rfl (Nat.le_of_ble_eq_true rfl) ?_
      exact AW.iret1 rfl (dcN_7 dcg_431 :) h rfl
    · replace h := hT h c2
      refine AW.iconst (dcN_1 dcg_431 :) ?_
      exact AW.iret1 rfl (dcN_2 dcg_431 :) h rfl
  · replace h := hT h c1
    refine AW.aloadr_n 0 (dcN_2 dcg_430 :) rfl ?_
    refine AW.getR af_X11_79_0 sr_0_9 (dcN_3 dcg_430 :) ?_
    refine AW.iconst (dcN_4 dcg_430 :) ?_
    obtain ⟨g5, e6, h⟩ := hBe h
    refine AW.putI ap_X11_314_10 sr_10_7 (dcN_5 dcg_430 :) e6 ?_
    refine AW.iconst (dcN_6 dcg_430 :) ?_
    exact AW.iret1 rfl (dcN_7 dcg_430 :) h rfl
set_option synthInstance.maxHeartbeats 2000000 in
theorem Yard_workInOrder_b_ok {z : AZ} {d : Nat} (hdd : 1 ≤ d) {x1 : Int} : ∀ (tag : Nat) (x2 : Int) (x3 : Int) (x4 : Int) (g : AG) (r : Int × AG), Yard_workInOrder_b x1 tag x2 x3 x4 g = some r → (tag = 1 → AW z (RX10, cX10_workInOrder, 5, none) d (QD none r) 24 [(0, rv z 10), (1, iv x1), (2, iv x2)] [] g) ∧ (tag = 2 → AW z (RX10, cX10_workInOrder, 5, none) d (QD none r) 37 [(0, rv z 10), (1, iv x1), (2, iv x2), (3, iv x3), (4, iv x4)] [] g) := by
  refine Yard_workInOrder_b.partial_correctness x1 (fun tag x2 x3 x4 g r => (tag = 1 → AW z (RX10, cX10_workInOrder, 5, none) d (QD none r) 24 [(0, rv z 10), (1, iv x1), (2, iv x2)] [] g) ∧ (tag = 2 → AW z (RX10, cX10_workInOrder, 5, none) d (QD none r) 37 [(0, rv z 10), (1, iv x1), (2, iv x2), (3, iv x3), (4, iv x4)] [] g)) ?_
  intro fb9 ih tag x2 x3 x4 g r h
  refine ⟨fun h9 => ?_, fun h9 => ?_⟩
  · subst h9
    replace h := hT h rfl
    refine AW.iload_n 2 (dcN_12 dcg_329 :) rfl ?_
    refine AW.aloadr_n 0 (dcN_13 dcg_329 :) rfl ?_
    refine AW.getI af_X10_61_10 sr_10_7 (dcN_14 dcg_329 :) ?_
    refine AW.icmp_ge (tgt := 136) (dcN_15 dcg_329 :) (by decide) (fun c1 => ?_) (fun c1 => ?_)
    · replace h := hT h c1
      exact AW.vret1 rfl (dcN_2 dcg_333 :) h rfl
    · replace h := hF h c1
      refine AW.iconst (dcN_0 dcg_330 :) ?_
      refine AW.istore_n (lv1 := [(3, iv 0), (0, rv z 10), (1, iv x1), (2, iv x2)]) (dcN_1 dcg_330 :) (by decide) rfl ?_
      refine AW.iconst (dcN_2 dcg_330 :) ?_
      refine AW.istore (lv1 := [(4, iv 1), (3, iv 0), (0, rv z 10), (1, iv x1), (2, iv x2)]) (dcN_3 dcg_330 :) (by decide) rfl ?_
      refine AW.sub (lv1 := [(0, rv z 10), (1, iv x1), (2, iv x2), (3, iv 0), (4, iv 1)]) [2, 3, 4, 1, 0] rfl ?_
      exact (ih _ _ _ _ _ _ h).2 rfl
  · subst h9
    replace h := hF h (by decide)
    replace h := hT h rfl
    refine AW.iload 4 (dcN_4 dcg_330 :) rfl ?_
    refine AW.iload_n 1 (dcN_5 dcg_330 :) rfl ?_
    refine AW.icmp_ge (tgt := 72) (dcN_6 dcg_330 :) (by decide) (fun c1 => ?_) (fun c1 => ?_)
    · replace h := hT h c1
      refine AW.aloadr_n 0 (dcN_4 dcg_331 :) rfl ?_
      refine AW.getR af_X10_33_10 sr_10_9 (dcN_5 dcg_331 :) ?_
      refine AW.iload_n 3 (dcN_6 dcg_331 :) rfl ?_
      refine AW.dup2r (dcN_7 dcg_331 :) ?_
      obtain ⟨k2, h⟩ := hK h
      refine AW.iald kc_104 sk_104 k2 (dcN_8 dcg_331 :) ?_
      refine AW.aloadr_n 0 (dcN_9 dcg_331 :) rfl ?_
      refine AW.getR af_X10_30_10 sr_10_8 (dcN_10 dcg_331 :) ?_
      refine AW.iload_n 2 (dcN_11 dcg_331 :) rfl ?_
      obtain ⟨k3, h⟩ := hK h
      refine AW.iald kc_103 sk_103 k3 (dcN_12 dcg_331 :) ?_
      refine AW.iadd (dcN_13 dcg_331 :) ?_
      obtain ⟨g4, e5, h⟩ := hBe h
      refine AW.iast kc_104 sk_104 k2 (dcN_14 dcg_331 :) e5 ?_
      refine AW.aloadr_n 0 (dcN_15 dcg_331 :) rfl ?_
      refine AW.aloadr_n 0 (dcN_16 dcg_331 :) rfl ?_
      refine AW.getI af_X10_70_10 sr_10_13 (dcN_17 dcg_331 :) ?_
      refine AW.aloadr_n 0 (dcN_18 dcg_331 :) rfl ?_
      refine AW.getR af_X10_33_10 sr_10_9 (dcN_19 dcg_331 :) ?_
      refine AW.iload_n 3 (dcN_0 dcg_332 :) rfl ?_
      refine AW.iald kc_104 sk_104 k2 (dcN_1 dcg_332 :) ?_
      refine AW.mmax (st := [rv z 10]) cm_X10_76 mst_max mini mcd_max (Nat.le_trans (by decide) hdd) (Nat.le_of_ble_eq_true rfl) (dcN_2 dcg_332 :) ?_
      obtain ⟨g6, e7, h⟩ := hBe h
      refine AW.putI ap_X10_70_10 sr_10_13 (dcN_3 dcg_332 :) e7 ?_
      refine AW.aloadr_n 0 (dcN_4 dcg_332 :) rfl ?_
      refine AW.duprr (dcN_5 dcg_332 :) ?_
      refine AW.getI af_X10_73_10 sr_10_14 (dcN_6 dcg_332 :) ?_
      refine AW.aloadr_n 0 (dcN_7 dcg_332 :) rfl ?_
      refine AW.getR af_X10_33_10 sr_10_9 (dcN_8 dcg_332 :) ?_
      refine AW.iload_n 3 (dcN_9 dcg_332 :) rfl ?_
      refine AW.iald kc_104 sk_104 k2 (dcN_10 dcg_332 :) ?_
      refine AW.sipush (dcN_11 dcg_332 :) (by decide) (by decide) ?_
      obtain ⟨t8, e9, h⟩ := hBe h
      refine AW.join (tgt := 126) (lv1 := [(0, rv z 10), (1, iv x1), (2, iv x2), (3, iv x3), (4, iv x4)]) (st1 := [iv t8, iv (g6 10 14), rv z 10]) (g1 := g6) ?_ (fun J118 => ?_)
      · refine AW.iadd (dcN_16 dcg_332 :) ?_
        obtain ⟨g10, e11, h⟩ := hBe h
        refine AW.putI ap_X10_73_10 sr_10_14 (dcN_17 dcg_332 :) e11 ?_
        refine AW.iinc (lv1 := [(2, iv (x2 + 1)), (0, rv z 10), (1, iv x1), (3, iv x3), (4, iv x4)]) 2 (dcN_0 dcg_333 :) rfl (by decide) rfl ?_
        refine AW.goto (tgt := 24) (dcN_1 dcg_333 :) (by decide) ?_
        refine AW.sub (lv1 := [(0, rv z 10), (1, iv x1), (2, iv (x2 + 1))]) [1, 2, 0] rfl ?_
        exact (ih _ _ _ _ _ _ h).1 rfl
      refine AW.icmp_le (tgt := 125) (dcN_12 dcg_332 :) (by decide) (fun c12 => ?_) (fun c12 => ?_)
      · refine AW.iconst (dcN_15 dcg_332 :) ?_
        exact AW.val (e9.trans (if_pos c12)) J118
      · refine AW.iconst (dcN_13 dcg_332 :) ?_
        refine AW.goto (tgt := 126) (dcN_14 dcg_332 :) (by decide) ?_
        exact AW.val (e9.trans (if_neg c12)) J118
    · replace h := hF h c1
      refine AW.aloadr_n 0 (dcN_7 dcg_330 :) rfl ?_
      refine AW.getR af_X10_33_10 sr_10_9 (dcN_8 dcg_330 :) ?_
      refine AW.iload 4 (dcN_9 dcg_330 :) rfl ?_
      obtain ⟨k13, h⟩ := hK h
      refine AW.iald kc_104 sk_104 k13 (dcN_10 dcg_330 :) ?_
      refine AW.aloadr_n 0 (dcN_11 dcg_330 :) rfl ?_
      refine AW.getR af_X10_33_10 sr_10_9 (dcN_12 dcg_330 :) ?_
      refine AW.iload_n 3 (dcN_13 dcg_330 :) rfl ?_
      obtain ⟨k14, h⟩ := hK h
      refine AW.iald kc_104 sk_104 k14 (dcN_14 dcg_330 :) ?_
      obtain ⟨t15, e16, h⟩ := hBe h
      refine AW.join (tgt := 65) (lv1 := [(0, rv z 10), (1, iv x1), (2, iv x2), (3, iv x3), (4, iv x4)]) (st1 := [iv t15]) (g1 := g) ?_ (fun J56 => ?_)
      · refine AW.istore_n (lv1 := [(3, iv t15), (0, rv z 10), (1, iv x1), (2, iv x2), (4, iv x4)]) (dcN_1 dcg_331 :) (by decide) rfl ?_
        refine AW.iinc (lv1 := [(4, iv (x4 + 1)), (3, iv t15), (0, rv z 10), (1, iv x1), (2, iv x2)]) 4 (dcN_2 dcg_331 :) rfl (by decide) rfl ?_
        refine AW.goto (tgt := 37) (dcN_3 dcg_331 :) (by decide) ?_
        refine AW.sub (lv1 := [(0, rv z 10), (1, iv x1), (2, iv x2), (3, iv t15), (4, iv (x4 + 1))]) [2, 3, 4, 1, 0] rfl ?_
        exact (ih _ _ _ _ _ _ h).2 rfl
      refine AW.icmp_ge (tgt := 64) (dcN_15 dcg_330 :) (by decide) (fun c17 => ?_) (fun c17 => ?_)
      · refine AW.iload_n 3 (dcN_0 dcg_331 :) rfl ?_
        exact AW.val (e16.trans (if_pos c17)) J56
      · refine AW.iload 4 (dcN_16 dcg_330 :) rfl ?_
        refine AW.goto (tgt := 65) (dcN_17 dcg_330 :) (by decide) ?_
        exact AW.val (e16.trans (if_neg c17)) J56
theorem Yard_workInOrder_ok {z : AZ} {x1 : Int} {g : AG} {r : Int × AG} (h : Yard_workInOrder x1 g = some r) : AMf z yX10_workInOrder cX10_workInOrder 5 none 1 [rv z 10, iv x1] g r := by
  intro d hdd
  refine AM.of (by decide +kernel) (Nat.le_of_ble_eq_true rfl) ?_
  show AW z (RX10, cX10_workInOrder, 5, none) d (QD none r) 0 [(0, rv z 10), (1, iv x1)] [] g
  unfold Yard_workInOrder at h
  refine AW.aloadr_n 0 (dcN_0 dcg_329 :) rfl ?_
  refine AW.getR af_X10_33_10 sr_10_9 (dcN_1 dcg_329 :) ?_
  refine AW.sipush (dcN_2 dcg_329 :) (by decide) (by decide) ?_
  obtain ⟨g1, e2, h⟩ := hBe h
  refine AW.callSv (st := []) (fill_ok kc_104 sk_104 (by decide)) cf_X10_64 st_fill (Nat.le_trans (by decide) hdd) rfl (dcN_3 dcg_329 :) rfl (Nat.le_of_ble_eq_true rfl) ?_
  rw [← e2]
  refine AW.aloadr_n 0 (dcN_4 dcg_329 :) rfl ?_
  refine AW.sipush (dcN_5 dcg_329 :) (by decide) (by decide) ?_
  obtain ⟨g3, e4, h⟩ := hBe h
  refine AW.putI ap_X10_70_10 sr_10_13 (dcN_6 dcg_329 :) e4 ?_
  refine AW.aloadr_n 0 (dcN_7 dcg_329 :) rfl ?_
  refine AW.iconst (dcN_8 dcg_329 :) ?_
  obtain ⟨g5, e6, h⟩ := hBe h
  refine AW.putI ap_X10_73_10 sr_10_14 (dcN_9 dcg_329 :) e6 ?_
  refine AW.iconst (dcN_10 dcg_329 :) ?_
  refine AW.istore_n (lv1 := [(2, iv 0), (0, rv z 10), (1, iv x1)]) (dcN_11 dcg_329 :) (by decide) rfl ?_
  refine AW.sub (lv1 := [(0, rv z 10), (1, iv x1), (2, iv 0)]) [1, 2, 0] rfl ?_
  exact (Yard_workInOrder_b_ok hdd _ _ _ _ _ _ h).1 rfl
set_option synthInstance.maxHeartbeats 2000000 in
theorem Yard_shareNext_b_ok {z : AZ} {rec : Int → Int → Int → AG → Option (Int × AG)} {Dr : Nat} (hC9 : 1 ≤ Dr) (hrec : ∀ (x1 : Int) (x2 : Int) (x3 : Int) (g : AG) (r : Int × AG), rec x1 x2 x3 g = some r → AMf z yX10_shareNext cX10_shareNext 5 none Dr [rv z 10, iv x1, iv x2, iv x3] g r) {d : Nat} (hdd : Dr + 1 ≤ d) {x1 : Int} {x2 : Int} {x3 : Int} : ∀ (x4 : Int) (g : AG) (r : Int × AG), Yard_shareNext_b rec x1 x2 x3 x4 g = some r → AW z (RX10, cX10_shareNext, 5, none) d (QD none r) 43 [(0, rv z 10), (1, iv x1), (2, iv x2), (3, iv x3), (4, iv x4)] [] g := by
  refine Yard_shareNext_b.partial_correctness rec x1 x2 x3 (fun x4 g r => AW z (RX10, cX10_shareNext, 5, none) d (QD none r) 43 [(0, rv z 10), (1, iv x1), (2, iv x2), (3, iv x3), (4, iv x4)] [] g) ?_
  intro fb9 ih x4 g r h
  refine AW.iload 4 (dcN_6 dcg_336 :) rfl ?_
  refine AW.iload_n 2 (dcN_7 dcg_336 :) rfl ?_
  refine AW.icmp_ge (tgt := 114) (dcN_8 dcg_336 :) (by decide) (fun c1 => ?_) (fun c1 => ?_)
  · replace h := hT h c1
    exact AW.vret1 rfl (dcN_11 dcg_338 :) h rfl
  · replace h := hF h c1
    refine AW.aloadr_n 0 (dcN_9 dcg_336 :) rfl ?_
    refine AW.getR af_X10_36_10 sr_10_10 (dcN_10 dcg_336 :) ?_
    refine AW.iload_n 1 (dcN_11 dcg_336 :) rfl ?_
    refine AW.iload 4 (dcN_12 dcg_336 :) rfl ?_
    obtain ⟨k2, h⟩ := hK h
    obtain ⟨g3, e4, h⟩ := hBe h
    refine AW.iast kc_105 sk_105 k2 (dcN_13 dcg_336 :) e4 ?_
    refine AW.aloadr_n 0 (dcN_14 dcg_336 :) rfl ?_
    refine AW.getR af_X10_33_10 sr_10_9 (dcN_15 dcg_336 :) ?_
    refine AW.iload 4 (dcN_16 dcg_336 :) rfl ?_
    refine AW.dup2r (dcN_17 dcg_336 :) ?_
    obtain ⟨k5, h⟩ := hK h
    refine AW.iald kc_104 sk_104 k5 (dcN_0 dcg_337 :) ?_
    refine AW.aloadr_n 0 (dcN_1 dcg_337 :) rfl ?_
    refine AW.getR af_X10_30_10 sr_10_8 (dcN_2 dcg_337 :) ?_
    refine AW.iload_n 1 (dcN_3 dcg_337 :) rfl ?_
    refine AW.iald kc_103 sk_103 k2 (dcN_4 dcg_337 :) ?_
    refine AW.iadd (dcN_5 dcg_337 :) ?_
    obtain ⟨g6, e7, h⟩ := hBe h
    refine AW.iast kc_104 sk_104 k5 (dcN_6 dcg_337 :) e7 ?_
    refine AW.aloadr_n 0 (dcN_7 dcg_337 :) rfl ?_
    refine AW.iload_n 1 (dcN_8 dcg_337 :) rfl ?_
    refine AW.iconst (dcN_9 dcg_337 :) ?_
    refine AW.iadd (dcN_10 dcg_337 :) ?_
    refine AW.iload_n 2 (dcN_11 dcg_337 :) rfl ?_
    refine AW.iload_n 3 (dcN_12 dcg_337 :) rfl ?_
    refine AW.aloadr_n 0 (dcN_13 dcg_337 :) rfl ?_
    refine AW.getR af_X10_33_10 sr_10_9 (dcN_14 dcg_337 :) ?_
    refine AW.iload 4 (dcN_15 dcg_337 :) rfl ?_
    refine AW.iald kc_104 sk_104 k5 (dcN_16 dcg_337 :) ?_
    refine AW.mmax (st := [iv x2, iv (x1 + 1), rv z 10]) cm_X10_76 mst_max mini mcd_max (by omega) (Nat.le_of_ble_eq_true rfl) (dcN_17 dcg_337 :) ?_
    obtain ⟨r8, e9, h⟩ := hC h
    refine AW.callSv (As := [rv z 10, iv (x1 + 1), iv x2, iv (mxI x3 (g6 104 (ix x4)))]) (st := []) (hrec _ _ _ _ _ e9) cq_X10_85 st_X10_shareNext (by omega) rfl (dcN_18 dcg_337 :) rfl (Nat.le_of_ble_eq_true rfl) ?_
    refine AW.aloadr_n 0 (dcN_19 dcg_337 :) rfl ?_
    refine AW.getR af_X10_33_10 sr_10_9 (dcN_20 dcg_337 :) ?_
    refine AW.iload 4 (dcN_0 dcg_338 :) rfl ?_
    refine AW.dup2r (dcN_1 dcg_338 :) ?_
    refine AW.iald kc_104 sk_104 k5 (dcN_2 dcg_338 :) ?_
    refine AW.aloadr_n 0 (dcN_3 dcg_338 :) rfl ?_
    refine AW.getR af_X10_30_10 sr_10_8 (dcN_4 dcg_338 :) ?_
    refine AW.iload_n 1 (dcN_5 dcg_338 :) rfl ?_
    refine AW.iald kc_103 sk_103 k2 (dcN_6 dcg_338 :) ?_
    refine AW.isub (dcN_7 dcg_338 :) ?_
    obtain ⟨g10, e11, h⟩ := hBe h
    refine AW.iast kc_104 sk_104 k5 (dcN_8 dcg_338 :) e11 ?_
    refine AW.iinc (lv1 := [(4, iv (x4 + 1)), (0, rv z 10), (1, iv x1), (2, iv x2), (3, iv x3)]) 4 (dcN_9 dcg_338 :) rfl (by decide) rfl ?_
    refine AW.goto (tgt := 43) (dcN_10 dcg_338 :) (by decide) ?_
    refine AW.sub (lv1 := [(0, rv z 10), (1, iv x1), (2, iv x2), (3, iv x3), (4, iv (x4 + 1))]) [1, 2, 3, 4, 0] rfl ?_
    exact ih _ _ _ h
theorem Yard_shareNext_s_ok {z : AZ} {rec : Int → Int → Int → AG → Option (Int × AG)} {Dr : Nat} (hC9 : 1 ≤ Dr) (hrec : ∀ (x1 : Int) (x2 : Int) (x3 : Int) (g : AG) (r : Int × AG), rec x1 x2 x3 g = some r → AMf z yX10_shareNext cX10_shareNext 5 none Dr [rv z 10, iv x1, iv x2, iv x3] g r) {x1 : Int} {x2 : Int} {x3 : Int} {g : AG} {r : Int × AG} (h : Yard_shareNext_s rec x1 x2 x3 g = some r) : AMf z yX10_shareNext cX10_shareNext 5 none (Dr + 1) [rv z 10, iv x1, iv x2, iv x3] g r := by
  intro d hdd
  refine AM.of (by decide +kernel) (Nat.le_of_ble_eq_true rfl) ?_
  show AW z (RX10, cX10_shareNext, 5, none) d (QD none r) 0 [(0, rv z 10), (1, iv x1), (2, iv x2), (3, iv x3)] [] g
  unfold Yard_shareNext_s at h
  refine AW.iload_n 3 (dcN_0 dcg_335 :) rfl ?_
  refine AW.aloadr_n 0 (dcN_1 dcg_335 :) rfl ?_
  refine AW.getI af_X10_82_10 sr_10_12 (dcN_2 dcg_335 :) ?_
  refine AW.icmp_lt (tgt := 9) (dcN_3 dcg_335 :) (by decide) (fun c1 => ?_) (fun c1 => ?_)
  · replace h := hT h c1
    refine AW.iload_n 1 (dcN_5 dcg_335 :) rfl ?_
    refine AW.aloadr_n 0 (dcN_6 dcg_335 :) rfl ?_
    refine AW.getI af_X10_61_10 sr_10_7 (dcN_7 dcg_335 :) ?_
    refine AW.icmp_lt (tgt := 40) (dcN_8 dcg_335 :) (by decide) (fun c2 => ?_) (fun c2 => ?_)
    · replace h := hT h c2
      refine AW.iconst (dcN_4 dcg_336 :) ?_
      refine AW.istore (lv1 := [(4, iv 0), (0, rv z 10), (1, iv x1), (2, iv x2), (3, iv x3)]) (dcN_5 dcg_336 :) (by decide) rfl ?_
      refine AW.sub (lv1 := [(0, rv z 10), (1, iv x1), (2, iv x2), (3, iv x3), (4, iv 0)]) [1, 2, 3, 4, 0] rfl ?_
      exact Yard_shareNext_b_ok hC9 hrec hdd _ _ _ h
    · replace h := hF h c2
      refine AW.aloadr_n 0 (dcN_9 dcg_335 :) rfl ?_
      refine AW.iload_n 3 (dcN_10 dcg_335 :) rfl ?_
      obtain ⟨g3, e4, h⟩ := hBe h
      refine AW.putI ap_X10_82_10 sr_10_12 (dcN_11 dcg_335 :) e4 ?_
      refine AW.aloadr_n 0 (dcN_12 dcg_335 :) rfl ?_
      refine AW.getR af_X10_36_10 sr_10_10 (dcN_13 dcg_335 :) ?_
      refine AW.iconst (dcN_14 dcg_335 :) ?_
      refine AW.aloadr_n 0 (dcN_15 dcg_335 :) rfl ?_
      refine AW.getR af_X10_39_10 sr_10_11 (dcN_16 dcg_335 :) ?_
      refine AW.iconst (dcN_17 dcg_335 :) ?_
      refine AW.aloadr_n 0 (dcN_0 dcg_336 :) rfl ?_
      refine AW.getI af_X10_61_10 sr_10_7 (dcN_1 dcg_336 :) ?_
      obtain ⟨k5, h⟩ := hK h
      obtain ⟨g6, e7, h⟩ := hBe h
      refine AW.copyi cc_X10_89 ac_n ac_s ac_i kc_105 sk_105 kc_106 sk_106 ⟨by decide, by decide, k5.2.2.1, k5.2.2.2.1, k5.2.2.2.2⟩ (Nat.le_of_ble_eq_true rfl) (by omega) (dcN_2 dcg_336 :) e7 ?_
      exact AW.vret1 rfl (dcN_3 dcg_336 :) h rfl
  · replace h := hF h c1
    exact AW.vret1 rfl (dcN_4 dcg_335 :) h rfl
theorem Yard_shareNext_ok {z : AZ} {n : Nat} {x1 : Int} {x2 : Int} {x3 : Int} {g : AG} {r : Int × AG} (h : Yard_shareNext n x1 x2 x3 g = some r) : AMf z yX10_shareNext cX10_shareNext 5 none (1 + n * 1) [rv z 10, iv x1, iv x2, iv x3] g r := by
  induction n generalizing x1 x2 x3 g r with
  | zero => cases h
  | succ n ih =>
    have q := Yard_shareNext_s_ok (z := z) (Dr := 1 + n * 1) (Nat.le_add_right _ _) (fun x1 x2 x3 g r h9 => ih h9) h
    rw [show 1 + (n + 1) * 1 = 1 + n * 1 + 1 by rw [Nat.add_mul]; omega]
    exact q
theorem Yard_shareBest_ok {z : AZ} {x1 : Int} {g : AG} {r : Int × AG} (h : Yard_shareBest x1 g = some r) : AMf z yX10_shareBest cX10_shareBest 2 none 12 [rv z 10, iv x1] g r := by
  intro d hdd
  refine AM.of (by decide +kernel) (Nat.le_of_ble_eq_true rfl) ?_
  show AW z (RX10, cX10_shareBest, 2, none) d (QD none r) 0 [(0, rv z 10), (1, iv x1)] [] g
  unfold Yard_shareBest at h
  refine AW.aloadr_n 0 (dcN_0 dcg_334 :) rfl ?_
  refine AW.getR af_X10_33_10 sr_10_9 (dcN_1 dcg_334 :) ?_
  refine AW.sipush (dcN_2 dcg_334 :) (by decide) (by decide) ?_
  obtain ⟨g1, e2, h⟩ := hBe h
  refine AW.callSv (st := []) (fill_ok kc_104 sk_104 (by decide)) cf_X10_64 st_fill (Nat.le_trans (by decide) hdd) rfl (dcN_3 dcg_334 :) rfl (Nat.le_of_ble_eq_true rfl) ?_
  rw [← e2]
  refine AW.aloadr_n 0 (dcN_4 dcg_334 :) rfl ?_
  refine AW.sipush (dcN_5 dcg_334 :) (by decide) (by decide) ?_
  obtain ⟨g3, e4, h⟩ := hBe h
  refine AW.putI ap_X10_82_10 sr_10_12 (dcN_6 dcg_334 :) e4 ?_
  refine AW.aloadr_n 0 (dcN_7 dcg_334 :) rfl ?_
  refine AW.iconst (dcN_8 dcg_334 :) ?_
  refine AW.iload_n 1 (dcN_9 dcg_334 :) rfl ?_
  refine AW.sipush (dcN_10 dcg_334 :) (by decide) (by decide) ?_
  obtain ⟨r5, e6, h⟩ := hC h
  refine AW.callSv (As := [rv z 10, iv 0, iv x1, iv 600]) (st := []) ((Yard_shareNext_ok (n := 10)) e6) cq_X10_85 st_X10_shareNext (Nat.le_trans (by decide) hdd) rfl (dcN_11 dcg_334 :) rfl (Nat.le_of_ble_eq_true rfl) ?_
  exact AW.vret1 rfl dX10_shareBest_26 h rfl
end
section
set_option synthInstance.maxHeartbeats 2000000 in
theorem X_turned_b_ok {z : AZ} {d : Nat} (hdd : 13 ≤ d) {tag : Nat} {x1 : Int} {x2 : Int} {g : AG} : ∀ (r : Int × AG), X_turned_b tag x1 x2 g = some r → (tag = 1 → AW z (RX11, cX11_turned, 3, (some .int)) d (QD (some .int) r) 20 [(0, rv z 0), (1, iv x1), (2, iv x2)] [] g) ∧ (tag = 2 → AW z (RX11, cX11_turned, 3, (some .int)) d (QD (some .int) r) 77 [(0, rv z 0), (1, iv x1), (2, iv x2)] [] g) := by
  intro r h
  unfold X_turned_b at h
  refine ⟨fun h9 => ?_, fun h9 => ?_⟩
  · subst h9
    replace h := hT h rfl
    refine AW.aloadr_n 0 (dcN_12 dcg_432 :) rfl ?_
    refine AW.getR af_X11_79_0 sr_0_9 (dcN_13 dcg_432 :) ?_
    refine AW.iload_n 1 (dcN_14 dcg_432 :) rfl ?_
    obtain ⟨r1, e2, h⟩ := hC h
    refine AW.callVv (As := [iv x1]) (st := []) (Yard_workInOrder_ok e2) cq_X11_320 cr_10_X10_workInOrder (Nat.le_trans (by decide) hdd) rfl (dcN_15 dcg_432 :) rfl (Nat.le_of_ble_eq_true rfl) ?_
    refine AW.iload_n 2 (dcN_16 dcg_432 :) rfl ?_
    obtain ⟨t3, e4, h⟩ := hBe h
    refine AW.join (tgt := 49) (lv1 := [(0, rv z 0), (1, iv x1), (2, iv x2)]) (st1 := [iv t3]) (g1 := r1.2) ?_ (fun J29 => ?_)
    · exact AW.iret1 rfl (dcN_7 dcg_433 :) h rfl
    refine AW.if_ne (tgt := 42) (dcN_17 dcg_432 :) (by decide) (fun c5 => ?_) (fun c5 => ?_)
    · refine AW.aloadr_n 0 (dcN_4 dcg_433 :) rfl ?_
      refine AW.getR af_X11_79_0 sr_0_9 (dcN_5 dcg_433 :) ?_
      refine AW.getI af_X11_326_10 sr_10_14 (dcN_6 dcg_433 :) ?_
      exact AW.val (e4.trans (if_neg c5)) J29
    · refine AW.aloadr_n 0 (dcN_0 dcg_433 :) rfl ?_
      refine AW.getR af_X11_79_0 sr_0_9 (dcN_1 dcg_433 :) ?_
      refine AW.getI af_X11_323_10 sr_10_13 (dcN_2 dcg_433 :) ?_
      refine AW.goto (tgt := 49) (dcN_3 dcg_433 :) (by decide) ?_
      exact AW.val (e4.trans (if_pos c5)) J29
  · subst h9
    replace h := hF h (by decide)
    replace h := hT h rfl
    refine AW.aloadr_n 0 (dcN_7 dcg_434 :) rfl ?_
    refine AW.getR af_X11_79_0 sr_0_9 (dcN_8 dcg_434 :) ?_
    refine AW.iload_n 1 (dcN_9 dcg_434 :) rfl ?_
    obtain ⟨r1, e2, h⟩ := hC h
    refine AW.callVv (As := [iv x1]) (st := []) (Yard_shareBest_ok e2) cq_X11_329 cr_10_X10_shareBest (Nat.le_trans (by decide) hdd) rfl (dcN_10 dcg_434 :) rfl (Nat.le_of_ble_eq_true rfl) ?_
    refine AW.iload_n 2 (dcN_11 dcg_434 :) rfl ?_
    refine AW.iconst (dcN_12 dcg_434 :) ?_
    obtain ⟨r5, e6, h⟩ := hC h
    refine AW.join (tgt := 112) (lv1 := []) (st1 := [iv r5.1]) (g1 := r5.2) ?_ (fun J87 => ?_)
    · exact AW.iret1 rfl (dcN_8 dcg_435 :) h rfl
    replace h := e6
    refine AW.icmp_ne (tgt := 100) (dcN_13 dcg_434 :) (by decide) (fun c3 => ?_) (fun c3 => ?_)
    · replace h := hF h c3
      refine AW.aloadr_n 0 (dcN_1 dcg_435 :) rfl ?_
      refine AW.getR af_X11_79_0 sr_0_9 (dcN_2 dcg_435 :) ?_
      refine AW.getR af_X11_335_10 sr_10_11 (dcN_3 dcg_435 :) ?_
      refine AW.iload_n 2 (dcN_4 dcg_435 :) rfl ?_
      refine AW.bipush (dcN_5 dcg_435 :) (by decide) (by decide) ?_
      refine AW.isub (dcN_6 dcg_435 :) ?_
      obtain ⟨k4, h⟩ := hK h
      refine AW.iald kc_106 sk_106 k4 (dcN_7 dcg_435 :) ?_
      refine AW.sub (lv1 := []) [] rfl ?_
      cases h
      exact J87
    · replace h := hT h c3
      refine AW.aloadr_n 0 (dcN_14 dcg_434 :) rfl ?_
      refine AW.getR af_X11_79_0 sr_0_9 (dcN_15 dcg_434 :) ?_
      refine AW.getI af_X11_332_10 sr_10_12 (dcN_16 dcg_434 :) ?_
      refine AW.goto (tgt := 112) (dcN_0 dcg_435 :) (by decide) ?_
      refine AW.sub (lv1 := []) [] rfl ?_
      cases h
      exact J87
theorem X_turned_ok {z : AZ} {x1 : Int} {x2 : Int} {g : AG} {r : Int × AG} (h : X_turned x1 x2 g = some r) : AMf z yX11_turned cX11_turned 3 (some .int) 13 [rv z 0, iv x1, iv x2] g r := by
  intro d hdd
  refine AM.of (by decide +kernel) (Nat.le_of_ble_eq_true rfl) ?_
  show AW z (RX11, cX11_turned, 3, (some .int)) d (QD (some .int) r) 0 [(0, rv z 0), (1, iv x1), (2, iv x2)] [] g
  unfold X_turned at h
  refine AW.iload_n 1 (dcN_0 dcg_432 :) rfl ?_
  refine AW.iconst (dcN_1 dcg_432 :) ?_
  refine AW.iconst (dcN_2 dcg_432 :) ?_
  refine AW.callSi (As := [iv x1, iv 1, iv 3]) (st := []) X_within_ok cq_X11_99 st_X11_within (Nat.le_trans (by decide) hdd) rfl (dcN_3 dcg_432 :) rfl (Nat.le_of_ble_eq_true rfl) ?_
  refine AW.if_ne (tgt := 11) (dcN_4 dcg_432 :) (by decide) (fun c1 => ?_) (fun c1 => ?_)
  · replace h := hF h c1
    refine AW.iload_n 2 (dcN_7 dcg_432 :) rfl ?_
    refine AW.if_eq (tgt := 20) (dcN_8 dcg_432 :) (by decide) (fun c2 => ?_) (fun c2 => ?_)
    · replace h := hT h c2
      exact (X_turned_b_ok hdd _ h).1 rfl
    · replace h := hF h c2
      refine AW.iload_n 2 (dcN_9 dcg_432 :) rfl ?_
      refine AW.iconst (dcN_10 dcg_432 :) ?_
      refine AW.icmp_ne (tgt := 50) (dcN_11 dcg_432 :) (by decide) (fun c3 => ?_) (fun c3 => ?_)
      · replace h := hF h c3
        refine AW.iload_n 2 (dcN_8 dcg_433 :) rfl ?_
        refine AW.iconst (dcN_9 dcg_433 :) ?_
        refine AW.icmp_eq (tgt := 77) (dcN_10 dcg_433 :) (by decide) (fun c4 => ?_) (fun c4 => ?_)
        · replace h := hT h c4
          exact (X_turned_b_ok hdd _ h).2 rfl
        · replace h := hF h c4
          refine AW.iload_n 2 (dcN_11 dcg_433 :) rfl ?_
          refine AW.bipush (dcN_12 dcg_433 :) (by decide) (by decide) ?_
          refine AW.icmp_lt (tgt := 75) (dcN_13 dcg_433 :) (by decide) (fun c5 => ?_) (fun c5 => ?_)
          · replace h := hT h c5
            refine AW.iconst (dcN_5 dcg_434 :) ?_
            exact AW.iret1 rfl (dcN_6 dcg_434 :) h rfl
          · replace h := hF h c5
            refine AW.iload_n 2 (dcN_14 dcg_433 :) rfl ?_
            refine AW.bipush (dcN_15 dcg_433 :) (by decide) (by decide) ?_
            refine AW.isub (dcN_0 dcg_434 :) ?_
            refine AW.aloadr_n 0 (dcN_1 dcg_434 :) rfl ?_
            refine AW.getR af_X11_79_0 sr_0_9 (dcN_2 dcg_434 :) ?_
            refine AW.getI af_X11_314_10 sr_10_7 (dcN_3 dcg_434 :) ?_
            refine AW.icmp_lt (tgt := 77) (dcN_4 dcg_434 :) (by decide) (fun c6 => ?_) (fun c6 => ?_)
            · replace h := hT h c6
              exact (X_turned_b_ok hdd _ h).2 rfl
            · replace h := hF h c6
              refine AW.iconst (dcN_5 dcg_434 :) ?_
              exact AW.iret1 rfl (dcN_6 dcg_434 :) h rfl
      · replace h := hT h c3
        exact (X_turned_b_ok hdd _ h).1 rfl
  · replace h := hT h c1
    refine AW.iconst (dcN_5 dcg_432 :) ?_
    exact AW.iret1 rfl (dcN_6 dcg_432 :) h rfl
theorem X_weight_ok {z : AZ} {x1 : Int} {x2 : Int} {g : AG} {r : Int × AG} (h : X_weight x1 x2 g = some r) : AMf z yX11_weight cX11_weight 3 (some .boolean) 2 [rv z 0, iv x1, iv x2] g r := by
  intro d hdd
  refine AM.of (by decide +kernel) (Nat.le_of_ble_eq_true rfl) ?_
  show AW z (RX11, cX11_weight, 3, (some .boolean)) d (QD (some .boolean) r) 0 [(0, rv z 0), (1, iv x1), (2, iv x2)] [] g
  unfold X_weight at h
  refine AW.iload_n 1 (dcN_0 dcg_436 :) rfl ?_
  refine AW.callSi (As := [iv x1]) (st := []) X_isPoint_ok cq_X11_111 st_X11_isPoint (Nat.le_trans (by decide) hdd) rfl (dcN_1 dcg_436 :) rfl (Nat.le_of_ble_eq_true rfl) ?_
  refine AW.if_eq (tgt := 17) (dcN_2 dcg_436 :) (by decide) (fun c1 => ?_) (fun c1 => ?_)
  · replace h := hT h c1
    refine AW.iconst (dcN_8 dcg_436 :) ?_
    exact AW.zret1 rfl (Or.inl rfl) (dcN_9 dcg_436 :) h rfl
  · replace h := hF h c1
    refine AW.iload_n 2 (dcN_3 dcg_436 :) rfl ?_
    refine AW.iconst (dcN_4 dcg_436 :) ?_
    refine AW.bipush (dcN_5 dcg_436 :) (by decide) (by decide) ?_
    refine AW.callSi (As := [iv x2, iv 0, iv 99]) (st := []) X_within_ok cq_X11_99 st_X11_within (Nat.le_trans (by decide) hdd) rfl (dcN_6 dcg_436 :) rfl (Nat.le_of_ble_eq_true rfl) ?_
    refine AW.if_ne (tgt := 19) (dcN_7 dcg_436 :) (by decide) (fun c2 => ?_) (fun c2 => ?_)
    · replace h := hF h c2
      refine AW.aloadr_n 0 (dcN_10 dcg_436 :) rfl ?_
      refine AW.getR af_X11_88_0 sr_0_10 (dcN_11 dcg_436 :) ?_
      refine AW.getR af_X11_338_11 sr_11_1 (dcN_0 dcg_437 :) ?_
      refine AW.iload_n 1 (dcN_1 dcg_437 :) rfl ?_
      refine AW.iload_n 2 (dcN_2 dcg_437 :) rfl ?_
      obtain ⟨k3, h⟩ := hK h
      obtain ⟨g4, e5, h⟩ := hBe h
      refine AW.iast kc_107 sk_107 k3 (dcN_3 dcg_437 :) e5 ?_
      refine AW.iconst (dcN_4 dcg_437 :) ?_
      exact AW.zret1 rfl (Or.inr rfl) (dcN_5 dcg_437 :) h rfl
    · replace h := hT h c2
      refine AW.iconst (dcN_8 dcg_436 :) ?_
      exact AW.zret1 rfl (Or.inl rfl) (dcN_9 dcg_436 :) h rfl
set_option synthInstance.maxHeartbeats 2000000 in
theorem Vans_measure_b_ok {z : AZ} {d : Nat} (hdd : 0 ≤ d) : ∀ (x1 : Int) (g : AG) (r : Int × AG), Vans_measure_b x1 g = some r → AW z (RX8, cX8_measure, 2, none) d (QD none r) 2 [(0, rv z 11), (1, iv x1)] [] g := by
  refine Vans_measure_b.partial_correctness (fun x1 g r => AW z (RX8, cX8_measure, 2, none) d (QD none r) 2 [(0, rv z 11), (1, iv x1)] [] g) ?_
  intro fb9 ih x1 g r h
  refine AW.iload_n 1 (dcN_2 dcg_244 :) rfl ?_
  refine AW.bipush (dcN_3 dcg_244 :) (by decide) (by decide) ?_
  refine AW.icmp_ge (tgt := 38) (dcN_4 dcg_244 :) (by decide) (fun c1 => ?_) (fun c1 => ?_)
  · replace h := hT h c1
    exact AW.vret1 rfl (dcN_11 dcg_245 :) h rfl
  · replace h := hF h c1
    refine AW.aloadr_n 0 (dcN_5 dcg_244 :) rfl ?_
    refine AW.getR af_X8_15_11 sr_11_2 (dcN_6 dcg_244 :) ?_
    refine AW.iload_n 1 (dcN_7 dcg_244 :) rfl ?_
    refine AW.iconst (dcN_8 dcg_244 :) ?_
    refine AW.iadd (dcN_9 dcg_244 :) ?_
    refine AW.aloadr_n 0 (dcN_10 dcg_244 :) rfl ?_
    refine AW.getR af_X8_15_11 sr_11_2 (dcN_11 dcg_244 :) ?_
    refine AW.iload_n 1 (dcN_0 dcg_245 :) rfl ?_
    obtain ⟨k2, h⟩ := hK h
    refine AW.iald kc_108 sk_108 k2 (dcN_1 dcg_245 :) ?_
    refine AW.aloadr_n 0 (dcN_2 dcg_245 :) rfl ?_
    refine AW.getR af_X8_36_11 sr_11_0 (dcN_3 dcg_245 :) ?_
    refine AW.getR af_X8_40_1 sr_1_2 (dcN_4 dcg_245 :) ?_
    refine AW.iload_n 1 (dcN_5 dcg_245 :) rfl ?_
    obtain ⟨k3, h⟩ := hK h
    refine AW.iald kc_15 sk_15 k3 (dcN_6 dcg_245 :) ?_
    refine AW.iadd (dcN_7 dcg_245 :) ?_
    obtain ⟨k4, h⟩ := hK h
    obtain ⟨g5, e6, h⟩ := hBe h
    refine AW.iast kc_108 sk_108 k4 (dcN_8 dcg_245 :) e6 ?_
    refine AW.iinc (lv1 := [(1, iv (x1 + 1)), (0, rv z 11)]) 1 (dcN_9 dcg_245 :) rfl (by decide) rfl ?_
    refine AW.goto (tgt := 2) (dcN_10 dcg_245 :) (by decide) ?_
    refine AW.sub (lv1 := [(0, rv z 11), (1, iv (x1 + 1))]) [1, 0] rfl ?_
    exact ih _ _ _ h
theorem Vans_measure_ok {z : AZ} {g : AG} {r : Int × AG} (h : Vans_measure g = some r) : AMf z yX8_measure cX8_measure 2 none 0 [rv z 11] g r := by
  intro d hdd
  refine AM.of (by decide +kernel) (Nat.le_of_ble_eq_true rfl) ?_
  show AW z (RX8, cX8_measure, 2, none) d (QD none r) 0 [(0, rv z 11)] [] g
  unfold Vans_measure at h
  refine AW.iconst (dcN_0 dcg_244 :) ?_
  refine AW.istore_n (lv1 := [(1, iv 0), (0, rv z 11)]) (dcN_1 dcg_244 :) (by decide) rfl ?_
  refine AW.sub (lv1 := [(0, rv z 11), (1, iv 0)]) [1, 0] rfl ?_
  exact Vans_measure_b_ok hdd _ _ _ h
theorem Vans_minutes_ok {z : AZ} {x1 : Int} {x2 : Int} {g : AG} {r : Int} (h : Vans_minutes x1 x2 g = some r) : AMf z yX8_minutes cX8_minutes 3 (some .int) 1 [rv z 11, iv x1, iv x2] g (r, g) := by
  intro d hdd
  refine AM.of (by decide +kernel) (Nat.le_of_ble_eq_true rfl) ?_
  show AW z (RX8, cX8_minutes, 3, (some .int)) d (QD (some .int) (r, g)) 0 [(0, rv z 11), (1, iv x1), (2, iv x2)] [] g
  unfold Vans_minutes at h
  refine AW.aloadr_n 0 (dcN_0 dcg_246 :) rfl ?_
  refine AW.getR af_X8_15_11 sr_11_2 (dcN_1 dcg_246 :) ?_
  refine AW.iload_n 1 (dcN_2 dcg_246 :) rfl ?_
  obtain ⟨k1, h⟩ := hK h
  refine AW.iald kc_108 sk_108 k1 (dcN_3 dcg_246 :) ?_
  refine AW.aloadr_n 0 (dcN_4 dcg_246 :) rfl ?_
  refine AW.getR af_X8_15_11 sr_11_2 (dcN_5 dcg_246 :) ?_
  refine AW.iload_n 2 (dcN_6 dcg_246 :) rfl ?_
  obtain ⟨k2, h⟩ := hK h
  refine AW.iald kc_108 sk_108 k2 (dcN_7 dcg_246 :) ?_
  refine AW.isub (dcN_8 dcg_246 :) ?_
  refine AW.mabs (st := []) cm_X8_45 mst_abs mini mcd_abs (Nat.le_trans (by decide) hdd) (Nat.le_of_ble_eq_true rfl) (dcN_9 dcg_246 :) ?_
  exact AW.iret2 rfl (dcN_10 dcg_246 :) h rfl
set_option synthInstance.maxHeartbeats 2000000 in
theorem Vans_worstFrom_b_ok {z : AZ} {d : Nat} (hdd : 2 ≤ d) {x1 : Int} {g : AG} : ∀ (x2 : Int) (x3 : Int) (r : Int), Vans_worstFrom_b x1 g x2 x3 = some r → AW z (RX8, cX8_worstFrom, 4, (some .int)) d (QD (some .int) (r, g)) 4 [(0, rv z 11), (1, iv x1), (2, iv x2), (3, iv x3)] [] g := by
  refine Vans_worstFrom_b.partial_correctness x1 g (fun x2 x3 r => AW z (RX8, cX8_worstFrom, 4, (some .int)) d (QD (some .int) (r, g)) 4 [(0, rv z 11), (1, iv x1), (2, iv x2), (3, iv x3)] [] g) ?_
  intro fb9 ih x2 x3 r h
  refine AW.iload_n 3 (dcN_4 dcg_252 :) rfl ?_
  refine AW.bipush (dcN_5 dcg_252 :) (by decide) (by decide) ?_
  refine AW.icmp_ge (tgt := 40) (dcN_6 dcg_252 :) (by decide) (fun c1 => ?_) (fun c1 => ?_)
  · replace h := hT h c1
    refine AW.iload_n 2 (dcN_11 dcg_253 :) rfl ?_
    exact AW.iret2 rfl dX8_worstFrom_41 h rfl
  · replace h := hF h c1
    refine AW.aloadr_n 0 (dcN_7 dcg_252 :) rfl ?_
    refine AW.getR af_X8_9_11 sr_11_1 (dcN_8 dcg_252 :) ?_
    refine AW.iload_n 3 (dcN_9 dcg_252 :) rfl ?_
    obtain ⟨k2, h⟩ := hK h
    refine AW.iald kc_107 sk_107 k2 (dcN_10 dcg_252 :) ?_
    obtain ⟨r6, e7, h⟩ := hC h
    refine AW.join (tgt := 33) (lv1 := [(0, rv z 11), (1, iv x1), (3, iv x3)]) (st1 := [iv r6]) (g1 := g) ?_ (fun J16 => ?_)
    · refine AW.istore_n (lv1 := [(2, iv r6), (0, rv z 11), (1, iv x1), (3, iv x3)]) (dcN_8 dcg_253 :) (by decide) rfl ?_
      refine AW.iinc (lv1 := [(3, iv (x3 + 1)), (2, iv r6), (0, rv z 11), (1, iv x1)]) 3 (dcN_9 dcg_253 :) rfl (by decide) rfl ?_
      refine AW.goto (tgt := 4) (dcN_10 dcg_253 :) (by decide) ?_
      refine AW.sub (lv1 := [(0, rv z 11), (1, iv x1), (2, iv r6), (3, iv (x3 + 1))]) [2, 3, 1, 0] rfl ?_
      exact ih _ _ _ h
    replace h := e7
    refine AW.if_le (tgt := 32) (dcN_11 dcg_252 :) (by decide) (fun c3 => ?_) (fun c3 => ?_)
    · replace h := hT h c3
      refine AW.iload_n 2 (dcN_7 dcg_253 :) rfl ?_
      refine AW.sub (lv1 := [(0, rv z 11), (1, iv x1), (3, iv x3)]) [0, 1, 3] rfl ?_
      cases h
      exact J16
    · replace h := hF h c3
      refine AW.iload_n 2 (dcN_0 dcg_253 :) rfl ?_
      refine AW.aloadr_n 0 (dcN_1 dcg_253 :) rfl ?_
      refine AW.iload_n 1 (dcN_2 dcg_253 :) rfl ?_
      refine AW.iload_n 3 (dcN_3 dcg_253 :) rfl ?_
      obtain ⟨r4, e5, h⟩ := hC h
      refine AW.callVi (As := [iv x1, iv x3]) (st := [iv x2]) (Vans_minutes_ok e5) cq_X8_51 cr_11_X8_minutes (Nat.le_trans (by decide) hdd) rfl (dcN_4 dcg_253 :) rfl (Nat.le_of_ble_eq_true rfl) ?_
      refine AW.mmax (st := []) cm_X8_61 mst_max mini mcd_max (Nat.le_trans (by decide) hdd) (Nat.le_of_ble_eq_true rfl) (dcN_5 dcg_253 :) ?_
      refine AW.goto (tgt := 33) (dcN_6 dcg_253 :) (by decide) ?_
      refine AW.sub (lv1 := [(0, rv z 11), (1, iv x1), (3, iv x3)]) [0, 1, 3] rfl ?_
      cases h
      exact J16
theorem Vans_worstFrom_ok {z : AZ} {x1 : Int} {g : AG} {r : Int} (h : Vans_worstFrom x1 g = some r) : AMf z yX8_worstFrom cX8_worstFrom 4 (some .int) 2 [rv z 11, iv x1] g (r, g) := by
  intro d hdd
  refine AM.of (by decide +kernel) (Nat.le_of_ble_eq_true rfl) ?_
  show AW z (RX8, cX8_worstFrom, 4, (some .int)) d (QD (some .int) (r, g)) 0 [(0, rv z 11), (1, iv x1)] [] g
  unfold Vans_worstFrom at h
  refine AW.iconst (dcN_0 dcg_252 :) ?_
  refine AW.istore_n (lv1 := [(2, iv 0), (0, rv z 11), (1, iv x1)]) (dcN_1 dcg_252 :) (by decide) rfl ?_
  refine AW.iconst (dcN_2 dcg_252 :) ?_
  refine AW.istore_n (lv1 := [(3, iv 0), (2, iv 0), (0, rv z 11), (1, iv x1)]) (dcN_3 dcg_252 :) (by decide) rfl ?_
  refine AW.sub (lv1 := [(0, rv z 11), (1, iv x1), (2, iv 0), (3, iv 0)]) [2, 3, 1, 0] rfl ?_
  exact Vans_worstFrom_b_ok hdd _ _ _ h
set_option synthInstance.maxHeartbeats 2000000 in
theorem Vans_sumFrom_b_ok {z : AZ} {d : Nat} (hdd : 2 ≤ d) {x1 : Int} {x2 : Int} {g : AG} : ∀ (x3 : Int) (x4 : Int) (r : Int), Vans_sumFrom_b x1 x2 g x3 x4 = some r → AW z (RX8, cX8_sumFrom, 5, (some .int)) d (QD (some .int) (r, g)) 5 [(0, rv z 11), (1, iv x1), (2, iv x2), (3, iv x3), (4, iv x4)] [] g := by
  refine Vans_sumFrom_b.partial_correctness x1 x2 g (fun x3 x4 r => AW z (RX8, cX8_sumFrom, 5, (some .int)) d (QD (some .int) (r, g)) 5 [(0, rv z 11), (1, iv x1), (2, iv x2), (3, iv x3), (4, iv x4)] [] g) ?_
  intro fb9 ih x3 x4 r h
  refine AW.iload 4 (dcN_4 dcg_247 :) rfl ?_
  refine AW.bipush (dcN_5 dcg_247 :) (by decide) (by decide) ?_
  refine AW.icmp_ge (tgt := 46) (dcN_6 dcg_247 :) (by decide) (fun c1 => ?_) (fun c1 => ?_)
  · replace h := hT h c1
    refine AW.iload_n 3 (dcN_2 dcg_249 :) rfl ?_
    exact AW.iret2 rfl (dcN_3 dcg_249 :) h rfl
  · replace h := hF h c1
    refine AW.iload_n 3 (dcN_7 dcg_247 :) rfl ?_
    refine AW.aloadr_n 0 (dcN_8 dcg_247 :) rfl ?_
    refine AW.getR af_X8_9_11 sr_11_1 (dcN_9 dcg_247 :) ?_
    refine AW.iload 4 (dcN_10 dcg_247 :) rfl ?_
    obtain ⟨k2, h⟩ := hK h
    refine AW.iald kc_107 sk_107 k2 (dcN_11 dcg_247 :) ?_
    refine AW.aloadr_n 0 (dcN_0 dcg_248 :) rfl ?_
    refine AW.iload_n 1 (dcN_1 dcg_248 :) rfl ?_
    refine AW.iload 4 (dcN_2 dcg_248 :) rfl ?_
    obtain ⟨r3, e4, h⟩ := hC h
    refine AW.callVi (As := [iv x1, iv x4]) (st := [iv (g 107 (ix x4)), iv x3]) (Vans_minutes_ok e4) cq_X8_51 cr_11_X8_minutes (Nat.le_trans (by decide) hdd) rfl (dcN_3 dcg_248 :) rfl (Nat.le_of_ble_eq_true rfl) ?_
    refine AW.aloadr_n 0 (dcN_4 dcg_248 :) rfl ?_
    refine AW.iload_n 2 (dcN_5 dcg_248 :) rfl ?_
    refine AW.iload 4 (dcN_6 dcg_248 :) rfl ?_
    obtain ⟨r5, e6, h⟩ := hC h
    refine AW.callVi (As := [iv x2, iv x4]) (st := [iv r3, iv (g 107 (ix x4)), iv x3]) (Vans_minutes_ok e6) cq_X8_51 cr_11_X8_minutes (Nat.le_trans (by decide) hdd) rfl (dcN_7 dcg_248 :) rfl (Nat.le_of_ble_eq_true rfl) ?_
    refine AW.mmin (st := [iv (g 107 (ix x4)), iv x3]) cm_X8_55 mst_min mini mcd_min (Nat.le_trans (by decide) hdd) (Nat.le_of_ble_eq_true rfl) (dcN_8 dcg_248 :) ?_
    refine AW.imul (dcN_9 dcg_248 :) ?_
    refine AW.iadd (dcN_10 dcg_248 :) ?_
    refine AW.istore_n (lv1 := [(3, iv (x3 + ((g 107 (ix x4)) * (mnI r3 r5)))), (0, rv z 11), (1, iv x1), (2, iv x2), (4, iv x4)]) (dcN_11 dcg_248 :) (by decide) rfl ?_
    refine AW.iinc (lv1 := [(4, iv (x4 + 1)), (3, iv (x3 + ((g 107 (ix x4)) * (mnI r3 r5)))), (0, rv z 11), (1, iv x1), (2, iv x2)]) 4 (dcN_0 dcg_249 :) rfl (by decide) rfl ?_
    refine AW.goto (tgt := 5) (dcN_1 dcg_249 :) (by decide) ?_
    refine AW.sub (lv1 := [(0, rv z 11), (1, iv x1), (2, iv x2), (3, iv (x3 + ((g 107 (ix x4)) * (mnI r3 r5)))), (4, iv (x4 + 1))]) [2, 3, 4, 1, 0] rfl ?_
    exact ih _ _ _ h
theorem Vans_sumFrom_ok {z : AZ} {x1 : Int} {x2 : Int} {g : AG} {r : Int} (h : Vans_sumFrom x1 x2 g = some r) : AMf z yX8_sumFrom cX8_sumFrom 5 (some .int) 2 [rv z 11, iv x1, iv x2] g (r, g) := by
  intro d hdd
  refine AM.of (by decide +kernel) (Nat.le_of_ble_eq_true rfl) ?_
  show AW z (RX8, cX8_sumFrom, 5, (some .int)) d (QD (some .int) (r, g)) 0 [(0, rv z 11), (1, iv x1), (2, iv x2)] [] g
  unfold Vans_sumFrom at h
  refine AW.iconst (dcN_0 dcg_247 :) ?_
  refine AW.istore_n (lv1 := [(3, iv 0), (0, rv z 11), (1, iv x1), (2, iv x2)]) (dcN_1 dcg_247 :) (by decide) rfl ?_
  refine AW.iconst (dcN_2 dcg_247 :) ?_
  refine AW.istore (lv1 := [(4, iv 0), (3, iv 0), (0, rv z 11), (1, iv x1), (2, iv x2)]) (dcN_3 dcg_247 :) (by decide) rfl ?_
  refine AW.sub (lv1 := [(0, rv z 11), (1, iv x1), (2, iv x2), (3, iv 0), (4, iv 0)]) [2, 3, 4, 1, 0] rfl ?_
  exact Vans_sumFrom_b_ok hdd _ _ _ h
set_option synthInstance.maxHeartbeats 2000000 in
theorem Vans_bestPoint_b_ok {z : AZ} {d : Nat} (hdd : 3 ≤ d) {g : AG} : ∀ (x1 : Int) (x2 : Int) (r : Int), Vans_bestPoint_b g x1 x2 = some r → AW z (RX8, cX8_bestPoint, 3, (some .int)) d (QD (some .int) (r, g)) 4 [(0, rv z 11), (1, iv x1), (2, iv x2)] [] g := by
  refine Vans_bestPoint_b.partial_correctness g (fun x1 x2 r => AW z (RX8, cX8_bestPoint, 3, (some .int)) d (QD (some .int) (r, g)) 4 [(0, rv z 11), (1, iv x1), (2, iv x2)] [] g) ?_
  intro fb9 ih x1 x2 r h
  refine AW.iload_n 2 (dcN_4 dcg_250 :) rfl ?_
  refine AW.bipush (dcN_5 dcg_250 :) (by decide) (by decide) ?_
  refine AW.icmp_ge (tgt := 37) (dcN_6 dcg_250 :) (by decide) (fun c1 => ?_) (fun c1 => ?_)
  · replace h := hT h c1
    refine AW.iload_n 1 (dcN_10 dcg_251 :) rfl ?_
    exact AW.iret2 rfl (dcN_11 dcg_251 :) h rfl
  · replace h := hF h c1
    refine AW.aloadr_n 0 (dcN_7 dcg_250 :) rfl ?_
    refine AW.iload_n 2 (dcN_8 dcg_250 :) rfl ?_
    refine AW.iload_n 2 (dcN_9 dcg_250 :) rfl ?_
    obtain ⟨r2, e3, h⟩ := hC h
    refine AW.callVi (As := [iv x2, iv x2]) (st := []) (Vans_sumFrom_ok e3) cq_X8_58 cr_11_X8_sumFrom (Nat.le_trans (by decide) hdd) rfl (dcN_10 dcg_250 :) rfl (Nat.le_of_ble_eq_true rfl) ?_
    refine AW.aloadr_n 0 (dcN_11 dcg_250 :) rfl ?_
    refine AW.iload_n 1 (dcN_0 dcg_251 :) rfl ?_
    refine AW.iload_n 1 (dcN_1 dcg_251 :) rfl ?_
    obtain ⟨r4, e5, h⟩ := hC h
    refine AW.callVi (As := [iv x1, iv x1]) (st := [iv r2]) (Vans_sumFrom_ok e5) cq_X8_58 cr_11_X8_sumFrom (Nat.le_trans (by decide) hdd) rfl (dcN_2 dcg_251 :) rfl (Nat.le_of_ble_eq_true rfl) ?_
    obtain ⟨t6, e7, h⟩ := hBe h
    refine AW.join (tgt := 30) (lv1 := [(0, rv z 11), (1, iv x1), (2, iv x2)]) (st1 := [iv t6]) (g1 := g) ?_ (fun J22 => ?_)
    · refine AW.istore_n (lv1 := [(1, iv t6), (0, rv z 11), (2, iv x2)]) (dcN_7 dcg_251 :) (by decide) rfl ?_
      refine AW.iinc (lv1 := [(2, iv (x2 + 1)), (1, iv t6), (0, rv z 11)]) 2 (dcN_8 dcg_251 :) rfl (by decide) rfl ?_
      refine AW.goto (tgt := 4) (dcN_9 dcg_251 :) (by decide) ?_
      refine AW.sub (lv1 := [(0, rv z 11), (1, iv t6), (2, iv (x2 + 1))]) [2, 1, 0] rfl ?_
      exact ih _ _ _ h
    refine AW.icmp_ge (tgt := 29) (dcN_3 dcg_251 :) (by decide) (fun c8 => ?_) (fun c8 => ?_)
    · refine AW.iload_n 1 (dcN_6 dcg_251 :) rfl ?_
      exact AW.val (e7.trans (if_pos c8)) J22
    · refine AW.iload_n 2 (dcN_4 dcg_251 :) rfl ?_
      refine AW.goto (tgt := 30) (dcN_5 dcg_251 :) (by decide) ?_
      exact AW.val (e7.trans (if_neg c8)) J22
theorem Vans_bestPoint_ok {z : AZ} {g : AG} {r : Int} (h : Vans_bestPoint g = some r) : AMf z yX8_bestPoint cX8_bestPoint 3 (some .int) 3 [rv z 11] g (r, g) := by
  intro d hdd
  refine AM.of (by decide +kernel) (Nat.le_of_ble_eq_true rfl) ?_
  show AW z (RX8, cX8_bestPoint, 3, (some .int)) d (QD (some .int) (r, g)) 0 [(0, rv z 11)] [] g
  unfold Vans_bestPoint at h
  refine AW.iconst (dcN_0 dcg_250 :) ?_
  refine AW.istore_n (lv1 := [(1, iv 0), (0, rv z 11)]) (dcN_1 dcg_250 :) (by decide) rfl ?_
  refine AW.iconst (dcN_2 dcg_250 :) ?_
  refine AW.istore_n (lv1 := [(2, iv 1), (1, iv 0), (0, rv z 11)]) (dcN_3 dcg_250 :) (by decide) rfl ?_
  refine AW.sub (lv1 := [(0, rv z 11), (1, iv 0), (2, iv 1)]) [2, 1, 0] rfl ?_
  exact Vans_bestPoint_b_ok hdd _ _ _ h
theorem X_van_ok {z : AZ} {x1 : Int} {g : AG} {r : Int × AG} (h : X_van x1 g = some r) : AMf z yX11_van cX11_van 3 (some .int) 4 [rv z 0, iv x1] g r := by
  intro d hdd
  refine AM.of (by decide +kernel) (Nat.le_of_ble_eq_true rfl) ?_
  show AW z (RX11, cX11_van, 3, (some .int)) d (QD (some .int) r) 0 [(0, rv z 0), (1, iv x1)] [] g
  unfold X_van at h
  refine AW.aloadr_n 0 (dcN_0 dcg_438 :) rfl ?_
  refine AW.getR af_X11_88_0 sr_0_10 (dcN_1 dcg_438 :) ?_
  obtain ⟨r1, e2, h⟩ := hC h
  refine AW.callVv (As := []) (st := []) (Vans_measure_ok e2) cq_X11_341 cr_11_X8_measure (Nat.le_trans (by decide) hdd) rfl (dcN_2 dcg_438 :) rfl (Nat.le_of_ble_eq_true rfl) ?_
  refine AW.iload_n 1 (dcN_3 dcg_438 :) rfl ?_
  refine AW.iconst (dcN_4 dcg_438 :) ?_
  refine AW.iconst (dcN_5 dcg_438 :) ?_
  refine AW.callSi (As := [iv x1, iv 0, iv 2]) (st := []) X_within_ok cq_X11_99 st_X11_within (Nat.le_trans (by decide) hdd) rfl (dcN_6 dcg_438 :) rfl (Nat.le_of_ble_eq_true rfl) ?_
  refine AW.if_eq (tgt := 56) (dcN_7 dcg_438 :) (by decide) (fun c3 => ?_) (fun c3 => ?_)
  · replace h := hT h c3
    refine AW.iload_n 1 (dcN_12 dcg_439 :) rfl ?_
    refine AW.bipush (dcN_13 dcg_439 :) (by decide) (by decide) ?_
    refine AW.isub (dcN_14 dcg_439 :) ?_
    refine AW.callSi (As := [iv (x1 - 100)]) (st := []) X_isPoint_ok cq_X11_111 st_X11_isPoint (Nat.le_trans (by decide) hdd) rfl (dcN_15 dcg_439 :) rfl (Nat.le_of_ble_eq_true rfl) ?_
    refine AW.if_eq (tgt := 82) (dcN_16 dcg_439 :) (by decide) (fun c4 => ?_) (fun c4 => ?_)
    · replace h := hT h c4
      refine AW.iload_n 1 (dcN_10 dcg_440 :) rfl ?_
      refine AW.sipush (dcN_11 dcg_440 :) (by decide) (by decide) ?_
      refine AW.isub (dcN_12 dcg_440 :) ?_
      refine AW.callSi (As := [iv (x1 - 200)]) (st := []) X_isPoint_ok cq_X11_111 st_X11_isPoint (Nat.le_trans (by decide) hdd) rfl (dcN_13 dcg_440 :) rfl (Nat.le_of_ble_eq_true rfl) ?_
      obtain ⟨r8, e9, h⟩ := hC h
      refine AW.join (tgt := 109) (lv1 := []) (st1 := [iv r8.1]) (g1 := r8.2) ?_ (fun J90 => ?_)
      · exact AW.iret1 rfl (dcN_6 dcg_441 :) h rfl
      replace h := e9
      refine AW.if_eq (tgt := 108) (dcN_14 dcg_440 :) (by decide) (fun c5 => ?_) (fun c5 => ?_)
      · replace h := hT h c5
        refine AW.iconst (dcN_5 dcg_441 :) ?_
        refine AW.sub (lv1 := []) [] rfl ?_
        cases h
        exact J90
      · replace h := hF h c5
        refine AW.aloadr_n 0 (dcN_15 dcg_440 :) rfl ?_
        refine AW.getR af_X11_88_0 sr_0_10 (dcN_16 dcg_440 :) ?_
        refine AW.iload_n 1 (dcN_0 dcg_441 :) rfl ?_
        refine AW.sipush (dcN_1 dcg_441 :) (by decide) (by decide) ?_
        refine AW.isub (dcN_2 dcg_441 :) ?_
        obtain ⟨r6, e7, h⟩ := hC h
        refine AW.callVi (As := [iv (x1 - 200)]) (st := []) (Vans_worstFrom_ok e7) cq_X11_350 cr_11_X8_worstFrom (Nat.le_trans (by decide) hdd) rfl (dcN_3 dcg_441 :) rfl (Nat.le_of_ble_eq_true rfl) ?_
        refine AW.goto (tgt := 109) (dcN_4 dcg_441 :) (by decide) ?_
        refine AW.sub (lv1 := []) [] rfl ?_
        cases h
        exact J90
    · replace h := hF h c4
      refine AW.aloadr_n 0 (dcN_0 dcg_440 :) rfl ?_
      refine AW.getR af_X11_88_0 sr_0_10 (dcN_1 dcg_440 :) ?_
      refine AW.iload_n 1 (dcN_2 dcg_440 :) rfl ?_
      refine AW.bipush (dcN_3 dcg_440 :) (by decide) (by decide) ?_
      refine AW.isub (dcN_4 dcg_440 :) ?_
      refine AW.iload_n 1 (dcN_5 dcg_440 :) rfl ?_
      refine AW.bipush (dcN_6 dcg_440 :) (by decide) (by decide) ?_
      refine AW.isub (dcN_7 dcg_440 :) ?_
      obtain ⟨r10, e11, h⟩ := hC h
      refine AW.callVi (As := [iv (x1 - 100), iv (x1 - 100)]) (st := []) (Vans_sumFrom_ok e11) cq_X11_347 cr_11_X8_sumFrom (Nat.le_trans (by decide) hdd) rfl (dcN_8 dcg_440 :) rfl (Nat.le_of_ble_eq_true rfl) ?_
      exact AW.iret1 rfl (dcN_9 dcg_440 :) h rfl
  · replace h := hF h c3
    refine AW.aloadr_n 0 (dcN_8 dcg_438 :) rfl ?_
    refine AW.getR af_X11_88_0 sr_0_10 (dcN_9 dcg_438 :) ?_
    obtain ⟨r12, e13, h⟩ := hC h
    refine AW.callVi (As := []) (st := []) (Vans_bestPoint_ok e13) cq_X11_344 cr_11_X8_bestPoint (Nat.le_trans (by decide) hdd) rfl (dcN_10 dcg_438 :) rfl (Nat.le_of_ble_eq_true rfl) ?_
    refine AW.istore_n (lv1 := [(2, iv r12), (0, rv z 0), (1, iv x1)]) (dcN_11 dcg_438 :) (by decide) rfl ?_
    refine AW.iload_n 2 (dcN_12 dcg_438 :) rfl ?_
    refine AW.if_ne (tgt := 30) (dcN_13 dcg_438 :) (by decide) (fun c14 => ?_) (fun c14 => ?_)
    · replace h := hF h c14
      refine AW.iload_n 2 (dcN_16 dcg_438 :) rfl ?_
      refine AW.iconst (dcN_17 dcg_438 :) ?_
      obtain ⟨r20, e21, h⟩ := hC h
      refine AW.join (tgt := 55) (lv1 := []) (st1 := [iv r20.1]) (g1 := r20.2) ?_ (fun J32 => ?_)
      · exact AW.iret1 rfl (dcN_11 dcg_439 :) h rfl
      replace h := e21
      refine AW.icmp_ne (tgt := 47) (dcN_0 dcg_439 :) (by decide) (fun c15 => ?_) (fun c15 => ?_)
      · replace h := hF h c15
        refine AW.aloadr_n 1 (dcN_7 dcg_439 :) rfl ?_
        refine AW.getR af_X11_88_0 sr_0_10 (dcN_8 dcg_439 :) ?_
        refine AW.iload_n 0 (dcN_9 dcg_439 :) rfl ?_
        obtain ⟨r16, e17, h⟩ := hC h
        refine AW.callVi (As := [iv r12]) (st := []) (Vans_worstFrom_ok e17) cq_X11_350 cr_11_X8_worstFrom (Nat.le_trans (by decide) hdd) rfl (dcN_10 dcg_439 :) rfl (Nat.le_of_ble_eq_true rfl) ?_
        refine AW.sub (lv1 := []) [] rfl ?_
        cases h
        exact J32
      · replace h := hT h c15
        refine AW.aloadr_n 1 (dcN_1 dcg_439 :) rfl ?_
        refine AW.getR af_X11_88_0 sr_0_10 (dcN_2 dcg_439 :) ?_
        refine AW.iload_n 0 (dcN_3 dcg_439 :) rfl ?_
        refine AW.iload_n 0 (dcN_4 dcg_439 :) rfl ?_
        obtain ⟨r18, e19, h⟩ := hC h
        refine AW.callVi (As := [iv r12, iv r12]) (st := []) (Vans_sumFrom_ok e19) cq_X11_347 cr_11_X8_sumFrom (Nat.le_trans (by decide) hdd) rfl (dcN_5 dcg_439 :) rfl (Nat.le_of_ble_eq_true rfl) ?_
        refine AW.goto (tgt := 55) (dcN_6 dcg_439 :) (by decide) ?_
        refine AW.sub (lv1 := []) [] rfl ?_
        cases h
        exact J32
    · replace h := hT h c14
      refine AW.iload_n 0 (dcN_14 dcg_438 :) rfl ?_
      exact AW.iret1 rfl (dcN_15 dcg_438 :) h rfl
set_option synthInstance.maxHeartbeats 2000000 in
theorem Vans_findCouple_b_ok {z : AZ} {d : Nat} (hdd : 3 ≤ d) : ∀ (tag : Nat) (x1 : Int) (x2 : Int) (g : AG) (r : Int × AG), Vans_findCouple_b tag x1 x2 g = some r → (tag = 1 → AW z (RX8, cX8_findCouple, 4, none) d (QD none r) 17 [(0, rv z 11), (1, iv x1)] [] g) ∧ (tag = 2 → AW z (RX8, cX8_findCouple, 4, none) d (QD none r) 25 [(0, rv z 11), (1, iv x1), (2, iv x2)] [] g) := by
  refine Vans_findCouple_b.partial_correctness (fun tag x1 x2 g r => (tag = 1 → AW z (RX8, cX8_findCouple, 4, none) d (QD none r) 17 [(0, rv z 11), (1, iv x1)] [] g) ∧ (tag = 2 → AW z (RX8, cX8_findCouple, 4, none) d (QD none r) 25 [(0, rv z 11), (1, iv x1), (2, iv x2)] [] g)) ?_
  intro fb9 ih tag x1 x2 g r h
  refine ⟨fun h9 => ?_, fun h9 => ?_⟩
  · subst h9
    replace h := hT h rfl
    refine AW.iload_n 1 (dcN_11 dcg_254 :) rfl ?_
    refine AW.bipush (dcN_12 dcg_254 :) (by decide) (by decide) ?_
    refine AW.icmp_ge (tgt := 73) (dcN_13 dcg_254 :) (by decide) (fun c1 => ?_) (fun c1 => ?_)
    · replace h := hT h c1
      exact AW.vret1 rfl (dcN_3 dcg_256 :) h rfl
    · replace h := hF h c1
      refine AW.iload_n 1 (dcN_14 dcg_254 :) rfl ?_
      refine AW.istore_n (lv1 := [(2, iv x1), (0, rv z 11), (1, iv x1)]) (dcN_15 dcg_254 :) (by decide) rfl ?_
      refine AW.sub (lv1 := [(0, rv z 11), (1, iv x1), (2, iv x1)]) [1, 2, 0] rfl ?_
      exact (ih _ _ _ _ _ h).2 rfl
  · subst h9
    replace h := hF h (by decide)
    replace h := hT h rfl
    refine AW.iload_n 2 (dcN_16 dcg_254 :) rfl ?_
    refine AW.bipush (dcN_17 dcg_254 :) (by decide) (by decide) ?_
    refine AW.icmp_ge (tgt := 67) (dcN_18 dcg_254 :) (by decide) (fun c1 => ?_) (fun c1 => ?_)
    · replace h := hT h c1
      refine AW.iinc (lv1 := [(1, iv (x1 + 1)), (0, rv z 11), (2, iv x2)]) 1 (dcN_1 dcg_256 :) rfl (by decide) rfl ?_
      refine AW.goto (tgt := 17) (dcN_2 dcg_256 :) (by decide) ?_
      refine AW.sub (lv1 := [(0, rv z 11), (1, iv (x1 + 1))]) [1, 0] rfl ?_
      exact (ih _ _ _ _ _ h).1 rfl
    · replace h := hF h c1
      refine AW.aloadr_n 0 (dcN_19 dcg_254 :) rfl ?_
      refine AW.iload_n 1 (dcN_0 dcg_255 :) rfl ?_
      refine AW.iload_n 2 (dcN_1 dcg_255 :) rfl ?_
      obtain ⟨r2, e3, h⟩ := hC h
      refine AW.callVi (As := [iv x1, iv x2]) (st := []) (Vans_sumFrom_ok e3) cq_X8_58 cr_11_X8_sumFrom (Nat.le_trans (by decide) hdd) rfl (dcN_2 dcg_255 :) rfl (Nat.le_of_ble_eq_true rfl) ?_
      refine AW.istore_n (lv1 := [(3, iv r2), (0, rv z 11), (1, iv x1), (2, iv x2)]) (dcN_3 dcg_255 :) (by decide) rfl ?_
      refine AW.iload_n 0 (dcN_4 dcg_255 :) rfl ?_
      refine AW.aloadr_n 1 (dcN_5 dcg_255 :) rfl ?_
      refine AW.getI af_X8_68_11 sr_11_4 (dcN_6 dcg_255 :) ?_
      obtain ⟨r9, e10, h⟩ := hC h
      refine AW.join (tgt := 61) (lv1 := [(0, rv z 11), (1, iv x1), (2, iv x2)]) (st1 := []) (g1 := r9) ?_ (fun J43 => ?_)
      · refine AW.iinc (lv1 := [(2, iv (x2 + 1)), (0, rv z 11), (1, iv x1)]) 2 (dcN_18 dcg_255 :) rfl (by decide) rfl ?_
        refine AW.goto (tgt := 25) (dcN_0 dcg_256 :) (by decide) ?_
        refine AW.sub (lv1 := [(0, rv z 11), (1, iv x1), (2, iv (x2 + 1))]) [1, 2, 0] rfl ?_
        exact (ih _ _ _ _ _ h).2 rfl
      replace h := e10
      refine AW.icmp_ge (tgt := 61) (dcN_7 dcg_255 :) (by decide) (fun c4 => ?_) (fun c4 => ?_)
      · replace h := hT h c4
        refine AW.sub (lv1 := [(0, rv z 11), (1, iv x1), (2, iv x2)]) [1, 2, 3] rfl ?_
        cases h
        exact J43
      · replace h := hF h c4
        refine AW.aloadr_n 1 (dcN_8 dcg_255 :) rfl ?_
        refine AW.bipush (dcN_9 dcg_255 :) (by decide) (by decide) ?_
        refine AW.iload_n 2 (dcN_10 dcg_255 :) rfl ?_
        refine AW.imul (dcN_11 dcg_255 :) ?_
        refine AW.iload_n 3 (dcN_12 dcg_255 :) rfl ?_
        refine AW.iadd (dcN_13 dcg_255 :) ?_
        obtain ⟨g5, e6, h⟩ := hBe h
        refine AW.putI ap_X8_64_11 sr_11_3 (dcN_14 dcg_255 :) e6 ?_
        refine AW.aloadr_n 1 (dcN_15 dcg_255 :) rfl ?_
        refine AW.iload_n 0 (dcN_16 dcg_255 :) rfl ?_
        obtain ⟨g7, e8, h⟩ := hBe h
        refine AW.putI ap_X8_68_11 sr_11_4 (dcN_17 dcg_255 :) e8 ?_
        refine AW.sub (lv1 := [(0, rv z 11), (1, iv x1), (2, iv x2)]) [1, 2, 3] rfl ?_
        cases h
        exact J43
theorem Vans_findCouple_ok {z : AZ} {g : AG} {r : Int × AG} (h : Vans_findCouple g = some r) : AMf z yX8_findCouple cX8_findCouple 4 none 3 [rv z 11] g r := by
  intro d hdd
  refine AM.of (by decide +kernel) (Nat.le_of_ble_eq_true rfl) ?_
  show AW z (RX8, cX8_findCouple, 4, none) d (QD none r) 0 [(0, rv z 11)] [] g
  unfold Vans_findCouple at h
  refine AW.aloadr_n 0 (dcN_0 dcg_254 :) rfl ?_
  refine AW.iconst (dcN_1 dcg_254 :) ?_
  obtain ⟨g1, e2, h⟩ := hBe h
  refine AW.putI ap_X8_64_11 sr_11_3 (dcN_2 dcg_254 :) e2 ?_
  refine AW.aloadr_n 0 (dcN_3 dcg_254 :) rfl ?_
  refine AW.aloadr_n 0 (dcN_4 dcg_254 :) rfl ?_
  refine AW.iconst (dcN_5 dcg_254 :) ?_
  refine AW.iconst (dcN_6 dcg_254 :) ?_
  obtain ⟨r3, e4, h⟩ := hC h
  refine AW.callVi (As := [iv 0, iv 0]) (st := [rv z 11]) (Vans_sumFrom_ok e4) cq_X8_58 cr_11_X8_sumFrom (Nat.le_trans (by decide) hdd) rfl (dcN_7 dcg_254 :) rfl (Nat.le_of_ble_eq_true rfl) ?_
  obtain ⟨g5, e6, h⟩ := hBe h
  refine AW.putI ap_X8_68_11 sr_11_4 (dcN_8 dcg_254 :) e6 ?_
  refine AW.iconst (dcN_9 dcg_254 :) ?_
  refine AW.istore_n (lv1 := [(1, iv 0), (0, rv z 11)]) (dcN_10 dcg_254 :) (by decide) rfl ?_
  refine AW.sub (lv1 := [(0, rv z 11), (1, iv 0)]) [1, 0] rfl ?_
  exact (Vans_findCouple_b_ok hdd _ _ _ _ _ h).1 rfl
theorem X_vans_ok {z : AZ} {x1 : Int} {g : AG} {r : Int × AG} (h : X_vans x1 g = some r) : AMf z yX11_vans cX11_vans 2 (some .int) 4 [rv z 0, iv x1] g r := by
  intro d hdd
  refine AM.of (by decide +kernel) (Nat.le_of_ble_eq_true rfl) ?_
  show AW z (RX11, cX11_vans, 2, (some .int)) d (QD (some .int) r) 0 [(0, rv z 0), (1, iv x1)] [] g
  unfold X_vans at h
  refine AW.iload_n 1 (dcN_0 dcg_442 :) rfl ?_
  refine AW.iconst (dcN_1 dcg_442 :) ?_
  refine AW.iconst (dcN_2 dcg_442 :) ?_
  refine AW.callSi (As := [iv x1, iv 0, iv 1]) (st := []) X_within_ok cq_X11_99 st_X11_within (Nat.le_trans (by decide) hdd) rfl (dcN_3 dcg_442 :) rfl (Nat.le_of_ble_eq_true rfl) ?_
  refine AW.if_ne (tgt := 11) (dcN_4 dcg_442 :) (by decide) (fun c1 => ?_) (fun c1 => ?_)
  · replace h := hF h c1
    refine AW.aloadr_n 0 (dcN_7 dcg_442 :) rfl ?_
    refine AW.getR af_X11_88_0 sr_0_10 (dcN_8 dcg_442 :) ?_
    obtain ⟨r2, e3, h⟩ := hC h
    refine AW.callVv (As := []) (st := []) (Vans_measure_ok e3) cq_X11_341 cr_11_X8_measure (Nat.le_trans (by decide) hdd) rfl (dcN_9 dcg_442 :) rfl (Nat.le_of_ble_eq_true rfl) ?_
    refine AW.aloadr_n 0 (dcN_10 dcg_442 :) rfl ?_
    refine AW.getR af_X11_88_0 sr_0_10 (dcN_11 dcg_442 :) ?_
    obtain ⟨r4, e5, h⟩ := hC h
    refine AW.callVv (As := []) (st := []) (Vans_findCouple_ok e5) cq_X11_353 cr_11_X8_findCouple (Nat.le_trans (by decide) hdd) rfl (dcN_0 dcg_443 :) rfl (Nat.le_of_ble_eq_true rfl) ?_
    refine AW.iload_n 1 (dcN_1 dcg_443 :) rfl ?_
    obtain ⟨t6, e7, h⟩ := hBe h
    refine AW.join (tgt := 46) (lv1 := [(0, rv z 0), (1, iv x1)]) (st1 := [iv t6]) (g1 := r4.2) ?_ (fun J26 => ?_)
    · exact AW.iret1 rfl (dcN_10 dcg_443 :) h rfl
    refine AW.if_ne (tgt := 39) (dcN_2 dcg_443 :) (by decide) (fun c8 => ?_) (fun c8 => ?_)
    · refine AW.aloadr_n 0 (dcN_7 dcg_443 :) rfl ?_
      refine AW.getR af_X11_88_0 sr_0_10 (dcN_8 dcg_443 :) ?_
      refine AW.getI af_X11_359_11 sr_11_4 (dcN_9 dcg_443 :) ?_
      exact AW.val (e7.trans (if_neg c8)) J26
    · refine AW.aloadr_n 0 (dcN_3 dcg_443 :) rfl ?_
      refine AW.getR af_X11_88_0 sr_0_10 (dcN_4 dcg_443 :) ?_
      refine AW.getI af_X11_356_11 sr_11_3 (dcN_5 dcg_443 :) ?_
      refine AW.goto (tgt := 46) (dcN_6 dcg_443 :) (by decide) ?_
      exact AW.val (e7.trans (if_pos c8)) J26
  · replace h := hT h c1
    refine AW.iconst (dcN_5 dcg_442 :) ?_
    exact AW.iret1 rfl (dcN_6 dcg_442 :) h rfl
set_option synthInstance.maxHeartbeats 2000000 in
theorem Vans_addCall_b_ok {z : AZ} {d : Nat} (hdd : 0 ≤ d) {x1 : Int} {x2 : Int} {x3 : Int} {g : AG} : ∀ (r : Int × AG), Vans_addCall_b x1 x2 x3 g = some r → AW z (RX8, cX8_addCall, 4, (some .int)) d (QD (some .int) r) 33 [(0, rv z 11), (1, iv x1), (2, iv x2), (3, iv x3)] [] g := by
  intro r h
  unfold Vans_addCall_b at h
  refine AW.aloadr_n 0 (dcN_1 dcg_258 :) rfl ?_
  refine AW.getR af_X8_18_11 sr_11_6 (dcN_2 dcg_258 :) ?_
  refine AW.aloadr_n 0 (dcN_3 dcg_258 :) rfl ?_
  refine AW.getI af_X8_71_11 sr_11_5 (dcN_4 dcg_258 :) ?_
  refine AW.iload_n 1 (dcN_5 dcg_258 :) rfl ?_
  obtain ⟨k1, h⟩ := hK h
  obtain ⟨g2, e3, h⟩ := hBe h
  refine AW.iast kc_109 sk_109 k1 (dcN_6 dcg_258 :) e3 ?_
  refine AW.aloadr_n 0 (dcN_7 dcg_258 :) rfl ?_
  refine AW.getR af_X8_21_11 sr_11_7 (dcN_8 dcg_258 :) ?_
  refine AW.aloadr_n 0 (dcN_9 dcg_258 :) rfl ?_
  refine AW.getI af_X8_71_11 sr_11_5 (dcN_10 dcg_258 :) ?_
  refine AW.iload_n 2 (dcN_11 dcg_258 :) rfl ?_
  obtain ⟨k4, h⟩ := hK h
  obtain ⟨g5, e6, h⟩ := hBe h
  refine AW.iast kc_110 sk_110 k4 (dcN_12 dcg_258 :) e6 ?_
  refine AW.aloadr_n 0 (dcN_13 dcg_258 :) rfl ?_
  refine AW.getR af_X8_24_11 sr_11_8 (dcN_14 dcg_258 :) ?_
  refine AW.aloadr_n 0 (dcN_15 dcg_258 :) rfl ?_
  refine AW.getI af_X8_71_11 sr_11_5 (dcN_16 dcg_258 :) ?_
  refine AW.iload_n 3 (dcN_17 dcg_258 :) rfl ?_
  obtain ⟨k7, h⟩ := hK h
  obtain ⟨g8, e9, h⟩ := hBe h
  refine AW.iast kc_111 sk_111 k7 (dcN_18 dcg_258 :) e9 ?_
  refine AW.aloadr_n 0 (dcN_19 dcg_258 :) rfl ?_
  refine AW.duprr (dcN_0 dcg_259 :) ?_
  refine AW.getI af_X8_71_11 sr_11_5 (dcN_1 dcg_259 :) ?_
  refine AW.iconst (dcN_2 dcg_259 :) ?_
  refine AW.iadd (dcN_3 dcg_259 :) ?_
  obtain ⟨g10, e11, h⟩ := hBe h
  refine AW.putI ap_X8_71_11 sr_11_5 (dcN_4 dcg_259 :) e11 ?_
  refine AW.aloadr_n 0 (dcN_5 dcg_259 :) rfl ?_
  refine AW.getI af_X8_71_11 sr_11_5 (dcN_6 dcg_259 :) ?_
  exact AW.iret1 rfl (dcN_7 dcg_259 :) h rfl
theorem Vans_addCall_ok {z : AZ} {x1 : Int} {x2 : Int} {x3 : Int} {g : AG} {r : Int × AG} (h : Vans_addCall x1 x2 x3 g = some r) : AMf z yX8_addCall cX8_addCall 4 (some .int) 0 [rv z 11, iv x1, iv x2, iv x3] g r := by
  intro d hdd
  refine AM.of (by decide +kernel) (Nat.le_of_ble_eq_true rfl) ?_
  show AW z (RX8, cX8_addCall, 4, (some .int)) d (QD (some .int) r) 0 [(0, rv z 11), (1, iv x1), (2, iv x2), (3, iv x3)] [] g
  unfold Vans_addCall at h
  refine AW.aloadr_n 0 (dcN_0 dcg_257 :) rfl ?_
  refine AW.getI af_X8_71_11 sr_11_5 (dcN_1 dcg_257 :) ?_
  refine AW.bipush (dcN_2 dcg_257 :) (by decide) (by decide) ?_
  refine AW.icmp_ge (tgt := 31) (dcN_3 dcg_257 :) (by decide) (fun c1 => ?_) (fun c1 => ?_)
  · replace h := hT h c1
    refine AW.iconst (dcN_16 dcg_257 :) ?_
    exact AW.iret1 rfl (dcN_0 dcg_258 :) h rfl
  · replace h := hF h c1
    refine AW.aloadr_n 0 (dcN_4 dcg_257 :) rfl ?_
    refine AW.getI af_X8_71_11 sr_11_5 (dcN_5 dcg_257 :) ?_
    refine AW.if_le (tgt := 33) (dcN_6 dcg_257 :) (by decide) (fun c2 => ?_) (fun c2 => ?_)
    · replace h := hT h c2
      exact Vans_addCall_b_ok hdd _ h
    · replace h := hF h c2
      refine AW.iload_n 1 (dcN_7 dcg_257 :) rfl ?_
      refine AW.aloadr_n 0 (dcN_8 dcg_257 :) rfl ?_
      refine AW.getR af_X8_18_11 sr_11_6 (dcN_9 dcg_257 :) ?_
      refine AW.aloadr_n 0 (dcN_10 dcg_257 :) rfl ?_
      refine AW.getI af_X8_71_11 sr_11_5 (dcN_11 dcg_257 :) ?_
      refine AW.iconst (dcN_12 dcg_257 :) ?_
      refine AW.isub (dcN_13 dcg_257 :) ?_
      obtain ⟨k3, h⟩ := hK h
      refine AW.iald kc_109 sk_109 k3 (dcN_14 dcg_257 :) ?_
      refine AW.icmp_ge (tgt := 33) (dcN_15 dcg_257 :) (by decide) (fun c4 => ?_) (fun c4 => ?_)
      · replace h := hT h c4
        exact Vans_addCall_b_ok hdd _ h
      · replace h := hF h c4
        refine AW.iconst (dcN_16 dcg_257 :) ?_
        exact AW.iret1 rfl (dcN_0 dcg_258 :) h rfl
theorem X_call_ok {z : AZ} {x1 : Int} {x2 : Int} {x3 : Int} {g : AG} {r : Int × AG} (h : X_call x1 x2 x3 g = some r) : AMf z yX11_call cX11_call 4 (some .int) 2 [rv z 0, iv x1, iv x2, iv x3] g r := by
  intro d hdd
  refine AM.of (by decide +kernel) (Nat.le_of_ble_eq_true rfl) ?_
  show AW z (RX11, cX11_call, 4, (some .int)) d (QD (some .int) r) 0 [(0, rv z 0), (1, iv x1), (2, iv x2), (3, iv x3)] [] g
  unfold X_call at h
  refine AW.iload_n 3 (dcN_0 dcg_444 :) rfl ?_
  refine AW.if_ne (tgt := 14) (dcN_1 dcg_444 :) (by decide) (fun c1 => ?_) (fun c1 => ?_)
  · replace h := hF h c1
    refine AW.iload_n 1 (dcN_8 dcg_444 :) rfl ?_
    refine AW.iconst (dcN_9 dcg_444 :) ?_
    refine AW.sipush (dcN_10 dcg_444 :) (by decide) (by decide) ?_
    refine AW.callSi (As := [iv x1, iv 0, iv 9999]) (st := []) X_within_ok cq_X11_99 st_X11_within (Nat.le_trans (by decide) hdd) rfl (dcN_11 dcg_444 :) rfl (Nat.le_of_ble_eq_true rfl) ?_
    refine AW.if_eq (tgt := 43) (dcN_12 dcg_444 :) (by decide) (fun c2 => ?_) (fun c2 => ?_)
    · replace h := hT h c2
      refine AW.iconst (dcN_5 dcg_445 :) ?_
      exact AW.iret1 rfl (dcN_6 dcg_445 :) h rfl
    · replace h := hF h c2
      refine AW.iload_n 2 (dcN_13 dcg_444 :) rfl ?_
      refine AW.callSi (As := [iv x2]) (st := []) X_isPoint_ok cq_X11_111 st_X11_isPoint (Nat.le_trans (by decide) hdd) rfl (dcN_14 dcg_444 :) rfl (Nat.le_of_ble_eq_true rfl) ?_
      refine AW.if_eq (tgt := 43) (dcN_15 dcg_444 :) (by decide) (fun c3 => ?_) (fun c3 => ?_)
      · replace h := hT h c3
        refine AW.iconst (dcN_5 dcg_445 :) ?_
        exact AW.iret1 rfl (dcN_6 dcg_445 :) h rfl
      · replace h := hF h c3
        refine AW.iload_n 3 (dcN_0 dcg_445 :) rfl ?_
        refine AW.iconst (dcN_1 dcg_445 :) ?_
        refine AW.sipush (dcN_2 dcg_445 :) (by decide) (by decide) ?_
        refine AW.callSi (As := [iv x3, iv 1, iv 300]) (st := []) X_within_ok cq_X11_99 st_X11_within (Nat.le_trans (by decide) hdd) rfl (dcN_3 dcg_445 :) rfl (Nat.le_of_ble_eq_true rfl) ?_
        refine AW.if_ne (tgt := 45) (dcN_4 dcg_445 :) (by decide) (fun c4 => ?_) (fun c4 => ?_)
        · replace h := hF h c4
          refine AW.aloadr_n 0 (dcN_7 dcg_445 :) rfl ?_
          refine AW.getR af_X11_88_0 sr_0_10 (dcN_8 dcg_445 :) ?_
          refine AW.iload_n 1 (dcN_9 dcg_445 :) rfl ?_
          refine AW.iload_n 2 (dcN_10 dcg_445 :) rfl ?_
          refine AW.iload_n 3 (dcN_11 dcg_445 :) rfl ?_
          obtain ⟨r5, e6, h⟩ := hC h
          refine AW.callVi (As := [iv x1, iv x2, iv x3]) (st := []) (Vans_addCall_ok e6) cq_X11_365 cr_11_X8_addCall (Nat.le_trans (by decide) hdd) rfl (dcN_12 dcg_445 :) rfl (Nat.le_of_ble_eq_true rfl) ?_
          exact AW.iret1 rfl (dcN_13 dcg_445 :) h rfl
        · replace h := hT h c4
          refine AW.iconst (dcN_5 dcg_445 :) ?_
          exact AW.iret1 rfl (dcN_6 dcg_445 :) h rfl
  · replace h := hT h c1
    refine AW.aloadr_n 0 (dcN_2 dcg_444 :) rfl ?_
    refine AW.getR af_X11_88_0 sr_0_10 (dcN_3 dcg_444 :) ?_
    refine AW.iconst (dcN_4 dcg_444 :) ?_
    obtain ⟨g7, e8, h⟩ := hBe h
    refine AW.putI ap_X11_362_11 sr_11_5 (dcN_5 dcg_444 :) e8 ?_
    refine AW.iconst (dcN_6 dcg_444 :) ?_
    exact AW.iret1 rfl (dcN_7 dcg_444 :) h rfl
theorem Vans_comesAt_ok {z : AZ} {x1 : Int} {x2 : Int} {g : AG} {r : Int} (h : Vans_comesAt x1 x2 g = some r) : AMf z yX8_comesAt cX8_comesAt 3 (some .int) 2 [rv z 11, iv x1, iv x2] g (r, g) := by
  intro d hdd
  refine AM.of (by decide +kernel) (Nat.le_of_ble_eq_true rfl) ?_
  show AW z (RX8, cX8_comesAt, 3, (some .int)) d (QD (some .int) (r, g)) 0 [(0, rv z 11), (1, iv x1), (2, iv x2)] [] g
  unfold Vans_comesAt at h
  refine AW.aloadr_n 0 (dcN_0 dcg_266 :) rfl ?_
  refine AW.getR af_X8_18_11 sr_11_6 (dcN_1 dcg_266 :) ?_
  refine AW.iload_n 2 (dcN_2 dcg_266 :) rfl ?_
  obtain ⟨k1, h⟩ := hK h
  refine AW.iald kc_109 sk_109 k1 (dcN_3 dcg_266 :) ?_
  refine AW.aloadr_n 0 (dcN_4 dcg_266 :) rfl ?_
  refine AW.getR af_X8_33_11 sr_11_11 (dcN_5 dcg_266 :) ?_
  refine AW.iload_n 1 (dcN_6 dcg_266 :) rfl ?_
  obtain ⟨k2, h⟩ := hK h
  refine AW.iald kc_114 sk_114 k2 (dcN_7 dcg_266 :) ?_
  refine AW.mmax (st := []) cm_X8_61 mst_max mini mcd_max (Nat.le_trans (by decide) hdd) (Nat.le_of_ble_eq_true rfl) (dcN_8 dcg_266 :) ?_
  refine AW.aloadr_n 0 (dcN_9 dcg_266 :) rfl ?_
  refine AW.aloadr_n 0 (dcN_10 dcg_266 :) rfl ?_
  refine AW.getR af_X8_30_11 sr_11_10 (dcN_11 dcg_266 :) ?_
  refine AW.iload_n 1 (dcN_0 dcg_267 :) rfl ?_
  refine AW.iald kc_113 sk_113 k2 (dcN_1 dcg_267 :) ?_
  refine AW.aloadr_n 0 (dcN_2 dcg_267 :) rfl ?_
  refine AW.getR af_X8_21_11 sr_11_7 (dcN_3 dcg_267 :) ?_
  refine AW.iload_n 2 (dcN_4 dcg_267 :) rfl ?_
  refine AW.iald kc_110 sk_110 k1 (dcN_5 dcg_267 :) ?_
  obtain ⟨r3, e4, h⟩ := hC h
  refine AW.callVi (As := [iv (g 113 (ix x1)), iv (g 110 (ix x2))]) (st := [iv (mxI (g 109 (ix x2)) (g 114 (ix x1)))]) (Vans_minutes_ok e4) cq_X8_51 cr_11_X8_minutes (Nat.le_trans (by decide) hdd) rfl (dcN_6 dcg_267 :) rfl (Nat.le_of_ble_eq_true rfl) ?_
  refine AW.iadd (dcN_7 dcg_267 :) ?_
  exact AW.iret2 rfl (dcN_8 dcg_267 :) h rfl
set_option synthInstance.maxHeartbeats 2000000 in
theorem Vans_takeCalls_b_ok {z : AZ} {d : Nat} (hdd : 3 ≤ d) : ∀ (x3 : Int) (g : AG) (r : Int × AG), Vans_takeCalls_b x3 g = some r → AW z (RX8, cX8_takeCalls, 6, none) d (QD none r) 39 [(0, rv z 11), (3, iv x3)] [] g := by
  refine Vans_takeCalls_b.partial_correctness (fun x3 g r => AW z (RX8, cX8_takeCalls, 6, none) d (QD none r) 39 [(0, rv z 11), (3, iv x3)] [] g) ?_
  intro fb9 ih x3 g r h
  refine AW.iload_n 1 (dcN_5 dcg_261 :) rfl ?_
  refine AW.aloadr_n 0 (dcN_6 dcg_261 :) rfl ?_
  refine AW.getI af_X8_71_11 sr_11_5 (dcN_7 dcg_261 :) ?_
  refine AW.icmp_ge (tgt := 177) (dcN_8 dcg_261 :) (by decide) (fun c1 => ?_) (fun c1 => ?_)
  · replace h := hT h c1
    exact AW.vret1 rfl (dcN_6 dcg_265 :) h rfl
  · replace h := hF h c1
    refine AW.aloadr_n 0 (dcN_9 dcg_261 :) rfl ?_
    refine AW.iconst (dcN_10 dcg_261 :) ?_
    refine AW.iload_n 1 (dcN_11 dcg_261 :) rfl ?_
    obtain ⟨r2, e3, h⟩ := hC h
    refine AW.callVi (As := [iv 1, iv x3]) (st := []) (Vans_comesAt_ok e3) cq_X8_89 cr_11_X8_comesAt (Nat.le_trans (by decide) hdd) rfl (dcN_12 dcg_261 :) rfl (Nat.le_of_ble_eq_true rfl) ?_
    refine AW.aloadr_n 0 (dcN_13 dcg_261 :) rfl ?_
    refine AW.iconst (dcN_14 dcg_261 :) ?_
    refine AW.iload_n 1 (dcN_15 dcg_261 :) rfl ?_
    obtain ⟨r4, e5, h⟩ := hC h
    refine AW.callVi (As := [iv 0, iv x3]) (st := [iv r2]) (Vans_comesAt_ok e5) cq_X8_89 cr_11_X8_comesAt (Nat.le_trans (by decide) hdd) rfl (dcN_16 dcg_261 :) rfl (Nat.le_of_ble_eq_true rfl) ?_
    obtain ⟨t6, e7, h⟩ := hBe h
    refine AW.join (tgt := 67) (lv1 := [(0, rv z 11), (3, iv x3)]) (st1 := [iv t6]) (g1 := g) ?_ (fun J59 => ?_)
    · refine AW.istore (lv1 := [(4, iv t6), (0, rv z 11), (3, iv x3)]) (dcN_1 dcg_262 :) (by decide) rfl ?_
      refine AW.aloadr_n 1 (dcN_2 dcg_262 :) rfl ?_
      refine AW.iload 0 (dcN_3 dcg_262 :) rfl ?_
      refine AW.iload_n 2 (dcN_4 dcg_262 :) rfl ?_
      obtain ⟨r8, e9, h⟩ := hC h
      refine AW.callVi (As := [iv t6, iv x3]) (st := []) (Vans_comesAt_ok e9) cq_X8_89 cr_11_X8_comesAt (Nat.le_trans (by decide) hdd) rfl (dcN_5 dcg_262 :) rfl (Nat.le_of_ble_eq_true rfl) ?_
      refine AW.istore (lv1 := [(5, iv r8), (4, iv t6), (0, rv z 11), (3, iv x3)]) (dcN_6 dcg_262 :) (by decide) rfl ?_
      refine AW.aloadr_n 2 (dcN_7 dcg_262 :) rfl ?_
      refine AW.getR af_X8_27_11 sr_11_9 (dcN_8 dcg_262 :) ?_
      refine AW.iload_n 3 (dcN_9 dcg_262 :) rfl ?_
      refine AW.iload 1 (dcN_10 dcg_262 :) rfl ?_
      obtain ⟨k10, h⟩ := hK h
      obtain ⟨g11, e12, h⟩ := hBe h
      refine AW.iast kc_112 sk_112 k10 (dcN_11 dcg_262 :) e12 ?_
      refine AW.aloadr_n 2 (dcN_12 dcg_262 :) rfl ?_
      refine AW.getR af_X8_30_11 sr_11_10 (dcN_13 dcg_262 :) ?_
      refine AW.iload 1 (dcN_14 dcg_262 :) rfl ?_
      refine AW.aloadr_n 2 (dcN_15 dcg_262 :) rfl ?_
      refine AW.getR af_X8_21_11 sr_11_7 (dcN_16 dcg_262 :) ?_
      refine AW.iload_n 3 (dcN_0 dcg_263 :) rfl ?_
      refine AW.iald kc_110 sk_110 k10 (dcN_1 dcg_263 :) ?_
      obtain ⟨k13, h⟩ := hK h
      obtain ⟨g14, e15, h⟩ := hBe h
      refine AW.iast kc_113 sk_113 k13 (dcN_2 dcg_263 :) e15 ?_
      refine AW.aloadr_n 2 (dcN_3 dcg_263 :) rfl ?_
      refine AW.getR af_X8_33_11 sr_11_11 (dcN_4 dcg_263 :) ?_
      refine AW.iload 1 (dcN_5 dcg_263 :) rfl ?_
      refine AW.iload 0 (dcN_6 dcg_263 :) rfl ?_
      refine AW.aloadr_n 2 (dcN_7 dcg_263 :) rfl ?_
      refine AW.getR af_X8_24_11 sr_11_8 (dcN_8 dcg_263 :) ?_
      refine AW.iload_n 3 (dcN_9 dcg_263 :) rfl ?_
      refine AW.iald kc_111 sk_111 k10 (dcN_10 dcg_263 :) ?_
      refine AW.iadd (dcN_11 dcg_263 :) ?_
      obtain ⟨g16, e17, h⟩ := hBe h
      refine AW.iast kc_114 sk_114 k13 (dcN_12 dcg_263 :) e17 ?_
      refine AW.aloadr_n 2 (dcN_13 dcg_263 :) rfl ?_
      refine AW.duprr (dcN_14 dcg_263 :) ?_
      refine AW.getI af_X8_80_11 sr_11_12 (dcN_15 dcg_263 :) ?_
      refine AW.iload 0 (dcN_16 dcg_263 :) rfl ?_
      refine AW.aloadr_n 2 (dcN_17 dcg_263 :) rfl ?_
      refine AW.getR af_X8_18_11 sr_11_6 (dcN_18 dcg_263 :) ?_
      refine AW.iload_n 3 (dcN_19 dcg_263 :) rfl ?_
      refine AW.iald kc_109 sk_109 k10 (dcN_20 dcg_263 :) ?_
      refine AW.isub (dcN_0 dcg_264 :) ?_
      refine AW.iadd (dcN_1 dcg_264 :) ?_
      obtain ⟨g18, e19, h⟩ := hBe h
      refine AW.putI ap_X8_80_11 sr_11_12 (dcN_2 dcg_264 :) e19 ?_
      refine AW.aloadr_n 2 (dcN_3 dcg_264 :) rfl ?_
      refine AW.aloadr_n 2 (dcN_4 dcg_264 :) rfl ?_
      refine AW.getI af_X8_83_11 sr_11_13 (dcN_5 dcg_264 :) ?_
      refine AW.iload 0 (dcN_6 dcg_264 :) rfl ?_
      refine AW.aloadr_n 2 (dcN_7 dcg_264 :) rfl ?_
      refine AW.getR af_X8_18_11 sr_11_6 (dcN_8 dcg_264 :) ?_
      refine AW.iload_n 3 (dcN_9 dcg_264 :) rfl ?_
      refine AW.iald kc_109 sk_109 k10 (dcN_10 dcg_264 :) ?_
      refine AW.isub (dcN_11 dcg_264 :) ?_
      refine AW.mmax (st := [rv z 11]) cm_X8_61 mst_max mini mcd_max (Nat.le_trans (by decide) hdd) (Nat.le_of_ble_eq_true rfl) (dcN_12 dcg_264 :) ?_
      obtain ⟨g20, e21, h⟩ := hBe h
      refine AW.putI ap_X8_83_11 sr_11_13 (dcN_13 dcg_264 :) e21 ?_
      refine AW.aloadr_n 2 (dcN_14 dcg_264 :) rfl ?_
      refine AW.aloadr_n 2 (dcN_15 dcg_264 :) rfl ?_
      refine AW.getI af_X8_86_11 sr_11_14 (dcN_16 dcg_264 :) ?_
      refine AW.aloadr_n 2 (dcN_17 dcg_264 :) rfl ?_
      refine AW.getR af_X8_33_11 sr_11_11 (dcN_18 dcg_264 :) ?_
      refine AW.iload 1 (dcN_0 dcg_265 :) rfl ?_
      refine AW.iald kc_114 sk_114 k13 (dcN_1 dcg_265 :) ?_
      refine AW.mmax (st := [rv z 11]) cm_X8_61 mst_max mini mcd_max (Nat.le_trans (by decide) hdd) (Nat.le_of_ble_eq_true rfl) (dcN_2 dcg_265 :) ?_
      obtain ⟨g22, e23, h⟩ := hBe h
      refine AW.putI ap_X8_86_11 sr_11_14 (dcN_3 dcg_265 :) e23 ?_
      refine AW.iinc (lv1 := [(3, iv (x3 + 1)), (5, iv r8), (4, iv t6), (0, rv z 11)]) 3 (dcN_4 dcg_265 :) rfl (by decide) rfl ?_
      refine AW.goto (tgt := 39) (dcN_5 dcg_265 :) (by decide) ?_
      refine AW.sub (lv1 := [(0, rv z 11), (3, iv (x3 + 1))]) [3, 0] rfl ?_
      exact ih _ _ _ h
    refine AW.icmp_ge (tgt := 66) (dcN_17 dcg_261 :) (by decide) (fun c24 => ?_) (fun c24 => ?_)
    · refine AW.iconst (dcN_0 dcg_262 :) ?_
      exact AW.val (e7.trans (if_pos c24)) J59
    · refine AW.iconst (dcN_18 dcg_261 :) ?_
      refine AW.goto (tgt := 67) (dcN_19 dcg_261 :) (by decide) ?_
      exact AW.val (e7.trans (if_neg c24)) J59
theorem Vans_takeCalls_ok {z : AZ} {x1 : Int} {x2 : Int} {g : AG} {r : Int × AG} (h : Vans_takeCalls x1 x2 g = some r) : AMf z yX8_takeCalls cX8_takeCalls 6 none 3 [rv z 11, iv x1, iv x2] g r := by
  intro d hdd
  refine AM.of (by decide +kernel) (Nat.le_of_ble_eq_true rfl) ?_
  show AW z (RX8, cX8_takeCalls, 6, none) d (QD none r) 0 [(0, rv z 11), (1, iv x1), (2, iv x2)] [] g
  unfold Vans_takeCalls at h
  refine AW.aloadr_n 0 (dcN_0 dcg_260 :) rfl ?_
  refine AW.getR af_X8_30_11 sr_11_10 (dcN_1 dcg_260 :) ?_
  refine AW.iconst (dcN_2 dcg_260 :) ?_
  refine AW.iload_n 1 (dcN_3 dcg_260 :) rfl ?_
  obtain ⟨g1, e2, h⟩ := hBe h
  refine AW.iast kc_113 sk_113 (by decide) (dcN_4 dcg_260 :) e2 ?_
  refine AW.aloadr_n 0 (dcN_5 dcg_260 :) rfl ?_
  refine AW.getR af_X8_30_11 sr_11_10 (dcN_6 dcg_260 :) ?_
  refine AW.iconst (dcN_7 dcg_260 :) ?_
  refine AW.iload_n 2 (dcN_8 dcg_260 :) rfl ?_
  obtain ⟨g3, e4, h⟩ := hBe h
  refine AW.iast kc_113 sk_113 (by decide) (dcN_9 dcg_260 :) e4 ?_
  refine AW.aloadr_n 0 (dcN_10 dcg_260 :) rfl ?_
  refine AW.getR af_X8_33_11 sr_11_11 (dcN_11 dcg_260 :) ?_
  refine AW.iconst (dcN_12 dcg_260 :) ?_
  obtain ⟨g5, e6, h⟩ := hBe h
  refine AW.callSv (st := []) (fill_ok kc_114 sk_114 (by decide)) cf_X8_74 st_fill (Nat.le_trans (by decide) hdd) rfl (dcN_13 dcg_260 :) rfl (Nat.le_of_ble_eq_true rfl) ?_
  rw [← e6]
  refine AW.aloadr_n 0 (dcN_14 dcg_260 :) rfl ?_
  refine AW.iconst (dcN_15 dcg_260 :) ?_
  obtain ⟨g7, e8, h⟩ := hBe h
  refine AW.putI ap_X8_80_11 sr_11_12 (dcN_16 dcg_260 :) e8 ?_
  refine AW.aloadr_n 0 (dcN_17 dcg_260 :) rfl ?_
  refine AW.iconst (dcN_18 dcg_260 :) ?_
  obtain ⟨g9, e10, h⟩ := hBe h
  refine AW.putI ap_X8_83_11 sr_11_13 (dcN_19 dcg_260 :) e10 ?_
  refine AW.aloadr_n 0 (dcN_0 dcg_261 :) rfl ?_
  refine AW.iconst (dcN_1 dcg_261 :) ?_
  obtain ⟨g11, e12, h⟩ := hBe h
  refine AW.putI ap_X8_86_11 sr_11_14 (dcN_2 dcg_261 :) e12 ?_
  refine AW.iconst (dcN_3 dcg_261 :) ?_
  refine AW.istore_n (lv1 := [(3, iv 0), (0, rv z 11), (1, iv x1), (2, iv x2)]) (dcN_4 dcg_261 :) (by decide) rfl ?_
  refine AW.sub (lv1 := [(0, rv z 11), (3, iv 0)]) [1, 0] rfl ?_
  exact Vans_takeCalls_b_ok hdd _ _ _ h
theorem Vans_takerOf_ok {z : AZ} {x1 : Int} {g : AG} {r : Int} (h : Vans_takerOf x1 g = some r) : AMf z yX8_takerOf cX8_takerOf 2 (some .int) 1 [rv z 11, iv x1] g (r, g) := by
  intro d hdd
  refine AM.of (by decide +kernel) (Nat.le_of_ble_eq_true rfl) ?_
  show AW z (RX8, cX8_takerOf, 2, (some .int)) d (QD (some .int) (r, g)) 0 [(0, rv z 11), (1, iv x1)] [] g
  unfold Vans_takerOf at h
  refine AW.iload_n 1 (dcN_0 dcg_268 :) rfl ?_
  refine AW.bipush (dcN_1 dcg_268 :) (by decide) (by decide) ?_
  refine AW.isub (dcN_2 dcg_268 :) ?_
  refine AW.iconst (dcN_3 dcg_268 :) ?_
  refine AW.aloadr_n 0 (dcN_4 dcg_268 :) rfl ?_
  refine AW.getI af_X8_71_11 sr_11_5 (dcN_5 dcg_268 :) ?_
  refine AW.iconst (dcN_6 dcg_268 :) ?_
  refine AW.isub (dcN_7 dcg_268 :) ?_
  refine AW.callN0 (As := [iv (x1 - 10), iv 0, iv ((g 11 5) - 1)]) (st := []) X_within_ok ns_X8_92 in_X11 cd_X11_within st_X11_within (by decide) (Nat.le_trans (by decide) hdd) rfl (Nat.le_of_ble_eq_true rfl) (dcN_8 dcg_268 :) rfl ?_
  obtain ⟨r3, e4, h⟩ := hC h
  refine AW.join (tgt := 30) (lv1 := []) (st1 := [iv r3]) (g1 := g) ?_ (fun J14 => ?_)
  · exact AW.iret2 rfl (dcN_6 dcg_269 :) h rfl
  replace h := e4
  refine AW.if_eq (tgt := 29) (dcN_9 dcg_268 :) (by decide) (fun c1 => ?_) (fun c1 => ?_)
  · replace h := hT h c1
    refine AW.iconst (dcN_5 dcg_269 :) ?_
    refine AW.sub (lv1 := []) [] rfl ?_
    cases h
    exact J14
  · replace h := hF h c1
    refine AW.aloadr_n 0 (dcN_10 dcg_268 :) rfl ?_
    refine AW.getR af_X8_27_11 sr_11_9 (dcN_11 dcg_268 :) ?_
    refine AW.iload_n 1 (dcN_0 dcg_269 :) rfl ?_
    refine AW.bipush (dcN_1 dcg_269 :) (by decide) (by decide) ?_
    refine AW.isub (dcN_2 dcg_269 :) ?_
    obtain ⟨k2, h⟩ := hK h
    refine AW.iald kc_112 sk_112 k2 (dcN_3 dcg_269 :) ?_
    refine AW.goto (tgt := 30) (dcN_4 dcg_269 :) (by decide) ?_
    refine AW.sub (lv1 := []) [] rfl ?_
    cases h
    exact J14
theorem X_taken_ok {z : AZ} {x1 : Int} {x2 : Int} {x3 : Int} {g : AG} {r : Int × AG} (h : X_taken x1 x2 x3 g = some r) : AMf z yX11_taken cX11_taken 4 (some .int) 4 [rv z 0, iv x1, iv x2, iv x3] g r := by
  intro d hdd
  refine AM.of (by decide +kernel) (Nat.le_of_ble_eq_true rfl) ?_
  show AW z (RX11, cX11_taken, 4, (some .int)) d (QD (some .int) r) 0 [(0, rv z 0), (1, iv x1), (2, iv x2), (3, iv x3)] [] g
  unfold X_taken at h
  refine AW.iload_n 1 (dcN_0 dcg_446 :) rfl ?_
  refine AW.callSi (As := [iv x1]) (st := []) X_isPoint_ok cq_X11_111 st_X11_isPoint (Nat.le_trans (by decide) hdd) rfl (dcN_1 dcg_446 :) rfl (Nat.le_of_ble_eq_true rfl) ?_
  refine AW.if_eq (tgt := 14) (dcN_2 dcg_446 :) (by decide) (fun c1 => ?_) (fun c1 => ?_)
  · replace h := hT h c1
    refine AW.iconst (dcN_6 dcg_446 :) ?_
    exact AW.iret1 rfl (dcN_7 dcg_446 :) h rfl
  · replace h := hF h c1
    refine AW.iload_n 2 (dcN_3 dcg_446 :) rfl ?_
    refine AW.callSi (As := [iv x2]) (st := []) X_isPoint_ok cq_X11_111 st_X11_isPoint (Nat.le_trans (by decide) hdd) rfl (dcN_4 dcg_446 :) rfl (Nat.le_of_ble_eq_true rfl) ?_
    refine AW.if_ne (tgt := 16) (dcN_5 dcg_446 :) (by decide) (fun c2 => ?_) (fun c2 => ?_)
    · replace h := hF h c2
      refine AW.aloadr_n 0 (dcN_8 dcg_446 :) rfl ?_
      refine AW.getR af_X11_88_0 sr_0_10 (dcN_9 dcg_446 :) ?_
      obtain ⟨r3, e4, h⟩ := hC h
      refine AW.callVv (As := []) (st := []) (Vans_measure_ok e4) cq_X11_341 cr_11_X8_measure (Nat.le_trans (by decide) hdd) rfl (dcN_10 dcg_446 :) rfl (Nat.le_of_ble_eq_true rfl) ?_
      refine AW.aloadr_n 0 (dcN_11 dcg_446 :) rfl ?_
      refine AW.getR af_X11_88_0 sr_0_10 (dcN_12 dcg_446 :) ?_
      refine AW.iload_n 1 (dcN_13 dcg_446 :) rfl ?_
      refine AW.iload_n 2 (dcN_14 dcg_446 :) rfl ?_
      obtain ⟨r5, e6, h⟩ := hC h
      refine AW.callVv (As := [iv x1, iv x2]) (st := []) (Vans_takeCalls_ok e6) cq_X11_368 cr_11_X8_takeCalls (Nat.le_trans (by decide) hdd) rfl (dcN_15 dcg_446 :) rfl (Nat.le_of_ble_eq_true rfl) ?_
      refine AW.iload_n 3 (dcN_0 dcg_447 :) rfl ?_
      by_cases c7 : nw x3 = 0
      · replace h := hT h c7
        refine AW.tsIn (tgt := 60) 0 dX11_taken_33 c7 (by decide) (by decide) (by rfl) (by decide) ?_
        refine AW.aloadr_n 0 (dcN_1 dcg_447 :) rfl ?_
        refine AW.getR af_X11_88_0 sr_0_10 (dcN_2 dcg_447 :) ?_
        refine AW.getI af_X11_372_11 sr_11_12 (dcN_0 dcg_448 :) ?_
        exact AW.iret1 rfl (dcN_1 dcg_448 :) h rfl
      · replace h := hF h c7
        by_cases c8 : nw x3 = 1
        · replace h := hT h c8
          refine AW.tsIn (tgt := 68) 1 dX11_taken_33 c8 (by decide) (by decide) (by rfl) (by decide) ?_
          refine AW.aloadr_n 0 (dcN_2 dcg_448 :) rfl ?_
          refine AW.getR af_X11_88_0 sr_0_10 (dcN_3 dcg_448 :) ?_
          refine AW.getI af_X11_375_11 sr_11_13 (dcN_4 dcg_448 :) ?_
          exact AW.iret1 rfl (dcN_5 dcg_448 :) h rfl
        · replace h := hF h c8
          by_cases c9 : nw x3 = 2
          · replace h := hT h c9
            refine AW.tsIn (tgt := 76) 2 dX11_taken_33 c9 (by decide) (by decide) (by rfl) (by decide) ?_
            refine AW.aloadr_n 0 (dcN_6 dcg_448 :) rfl ?_
            refine AW.getR af_X11_88_0 sr_0_10 (dcN_7 dcg_448 :) ?_
            refine AW.getI af_X11_378_11 sr_11_14 (dcN_8 dcg_448 :) ?_
            exact AW.iret1 rfl (dcN_9 dcg_448 :) h rfl
          · replace h := hF h c9
            refine AW.tsOut (tgt := 84) dX11_taken_33 (by omega) (by decide) ?_
            refine AW.aloadr_n 0 (dcN_10 dcg_448 :) rfl ?_
            refine AW.getR af_X11_88_0 sr_0_10 (dcN_11 dcg_448 :) ?_
            refine AW.iload_n 3 (dcN_12 dcg_448 :) rfl ?_
            obtain ⟨r10, e11, h⟩ := hC h
            refine AW.callVi (As := [iv x3]) (st := []) (Vans_takerOf_ok e11) cq_X11_381 cr_11_X8_takerOf (Nat.le_trans (by decide) hdd) rfl (dcN_13 dcg_448 :) rfl (Nat.le_of_ble_eq_true rfl) ?_
            exact AW.iret1 rfl (dcN_14 dcg_448 :) h rfl
    · replace h := hT h c2
      refine AW.iconst (dcN_6 dcg_446 :) ?_
      exact AW.iret1 rfl (dcN_7 dcg_446 :) h rfl
theorem X_isWeather_ok {z : AZ} {x0 : Int} {x1 : Int} {x2 : Int} {x3 : Int} {g : AG} : AMf z yX11_isWeather cX11_isWeather 4 (some .boolean) 1 [iv x0, iv x1, iv x2, iv x3] g ((X_isWeather x0 x1 x2 x3), g) := by
  intro d hdd
  refine AM.of (by decide +kernel) (Nat.le_of_ble_eq_true rfl) ?_
  show AW z (RX11, cX11_isWeather, 4, (some .boolean)) d (QD (some .boolean) ((X_isWeather x0 x1 x2 x3), g)) 0 [(0, iv x0), (1, iv x1), (2, iv x2), (3, iv x3)] [] g
  refine AW.iload_n 0 (dcN_0 dcg_452 :) rfl ?_
  refine AW.iconst (dcN_1 dcg_452 :) ?_
  refine AW.bipush (dcN_2 dcg_452 :) (by decide) (by decide) ?_
  refine AW.callSi (As := [iv x0, iv 0, iv 99]) (st := []) X_within_ok cq_X11_99 st_X11_within (Nat.le_trans (by decide) hdd) rfl (dcN_3 dcg_452 :) rfl (Nat.le_of_ble_eq_true rfl) ?_
  refine AW.join (tgt := 46) (lv1 := [(0, iv x0), (1, iv x1), (2, iv x2), (3, iv x3)]) (st1 := [iv (if nw (X_within x0 0 99) = 0 then 0 else (if nw (X_within x1 0 100) = 0 then 0 else (if nw (X_within x2 0 99) = 0 then 0 else (if nw (X_within x3 0 999) = 0 then 0 else 1))))]) (g1 := g) ?_ (fun J7 => ?_)
  · exact AW.zret rfl (by (repeat' split) <;> first | exact Or.inl rfl | exact Or.inr rfl) (dcN_11 dcg_453 :) ⟨congrArg (fun v => some (iv v)) (show X_isWeather x0 x1 x2 x3  = (if nw (X_within x0 0 99) = 0 then 0 else (if nw (X_within x1 0 100) = 0 then 0 else (if nw (X_within x2 0 99) = 0 then 0 else (if nw (X_within x3 0 999) = 0 then 0 else 1)))) from rfl).symm, rfl⟩
  refine AW.if_eq (tgt := 45) (dcN_4 dcg_452 :) (by decide) (fun c1 => ?_) (fun c1 => ?_)
  · refine AW.iconst (dcN_10 dcg_453 :) ?_
    exact AW.val (if_pos c1) J7
  · refine AW.iload_n 1 (dcN_5 dcg_452 :) rfl ?_
    refine AW.iconst (dcN_6 dcg_452 :) ?_
    refine AW.bipush (dcN_7 dcg_452 :) (by decide) (by decide) ?_
    refine AW.callSi (As := [iv x1, iv 0, iv 100]) (st := []) X_within_ok cq_X11_99 st_X11_within (Nat.le_trans (by decide) hdd) rfl (dcN_8 dcg_452 :) rfl (Nat.le_of_ble_eq_true rfl) ?_
    refine AW.if_eq (tgt := 45) (dcN_9 dcg_452 :) (by decide) (fun c2 => ?_) (fun c2 => ?_)
    · refine AW.iconst (dcN_10 dcg_453 :) ?_
      exact AW.val ((if_neg c1).trans (if_pos c2)) J7
    · refine AW.iload_n 2 (dcN_10 dcg_452 :) rfl ?_
      refine AW.iconst (dcN_11 dcg_452 :) ?_
      refine AW.bipush (dcN_0 dcg_453 :) (by decide) (by decide) ?_
      refine AW.callSi (As := [iv x2, iv 0, iv 99]) (st := []) X_within_ok cq_X11_99 st_X11_within (Nat.le_trans (by decide) hdd) rfl (dcN_1 dcg_453 :) rfl (Nat.le_of_ble_eq_true rfl) ?_
      refine AW.if_eq (tgt := 45) (dcN_2 dcg_453 :) (by decide) (fun c3 => ?_) (fun c3 => ?_)
      · refine AW.iconst (dcN_10 dcg_453 :) ?_
        exact AW.val ((if_neg c1).trans ((if_neg c2).trans (if_pos c3))) J7
      · refine AW.iload_n 3 (dcN_3 dcg_453 :) rfl ?_
        refine AW.iconst (dcN_4 dcg_453 :) ?_
        refine AW.sipush (dcN_5 dcg_453 :) (by decide) (by decide) ?_
        refine AW.callSi (As := [iv x3, iv 0, iv 999]) (st := []) X_within_ok cq_X11_99 st_X11_within (Nat.le_trans (by decide) hdd) rfl (dcN_6 dcg_453 :) rfl (Nat.le_of_ble_eq_true rfl) ?_
        refine AW.if_eq (tgt := 45) (dcN_7 dcg_453 :) (by decide) (fun c4 => ?_) (fun c4 => ?_)
        · refine AW.iconst (dcN_10 dcg_453 :) ?_
          exact AW.val ((if_neg c1).trans ((if_neg c2).trans ((if_neg c3).trans (if_pos c4)))) J7
        · refine AW.iconst (dcN_8 dcg_453 :) ?_
          refine AW.goto (tgt := 46) (dcN_9 dcg_453 :) (by decide) ?_
          exact AW.val ((if_neg c1).trans ((if_neg c2).trans ((if_neg c3).trans (if_neg c4)))) J7
theorem Rain_start_ok {z : AZ} {x1 : Int} {x2 : Int} {g : AG} {r : Int × AG} (h : Rain_start x1 x2 g = some r) : AMf z yX5_start cX5_start 3 none 1 [rv z 12, iv x1, iv x2] g r := by
  intro d hdd
  refine AM.of (by decide +kernel) (Nat.le_of_ble_eq_true rfl) ?_
  show AW z (RX5, cX5_start, 3, none) d (QD none r) 0 [(0, rv z 12), (1, iv x1), (2, iv x2)] [] g
  unfold Rain_start at h
  refine AW.aloadr_n 0 (dcN_0 dcg_176 :) rfl ?_
  obtain ⟨k1, h⟩ := hK h
  refine AW.getM af_X5_9_12 sr_12_0 (dcN_1 dcg_176 :) rfl ?_
  refine AW.iconst (dcN_2 dcg_176 :) ?_
  obtain ⟨g2, e3, h⟩ := hBe h
  refine AW.callSv (st := []) (fill_ok (sk_mut k1).1 (sk_mut k1).2 (by decide)) cf_X5_18 st_fill (Nat.le_trans (by decide) hdd) rfl (dcN_3 dcg_176 :) rfl (Nat.le_of_ble_eq_true rfl) ?_
  rw [← e3]
  refine AW.aloadr_n 0 (dcN_4 dcg_176 :) rfl ?_
  refine AW.iload_n 1 (dcN_5 dcg_176 :) rfl ?_
  refine AW.iload_n 2 (dcN_6 dcg_176 :) rfl ?_
  obtain ⟨t4, e5, h⟩ := hBe h
  refine AW.join (tgt := 20) (lv1 := [(0, rv z 12), (1, iv x1), (2, iv x2)]) (st1 := [iv t4, rv z 12]) (g1 := g2) ?_ (fun J11 => ?_)
  · obtain ⟨g6, e7, h⟩ := hBe h
    refine AW.putI ap_X5_25_12 sr_12_2 (dcN_11 dcg_176 :) e7 ?_
    refine AW.aloadr_n 0 (dcN_0 dcg_177 :) rfl ?_
    obtain ⟨k8, h⟩ := hK h
    refine AW.getM af_X5_9_12 sr_12_0 (dcN_1 dcg_177 :) rfl ?_
    refine AW.iload_n 1 (dcN_2 dcg_177 :) rfl ?_
    refine AW.aloadr_n 0 (dcN_3 dcg_177 :) rfl ?_
    refine AW.getI af_X5_25_12 sr_12_2 (dcN_4 dcg_177 :) ?_
    obtain ⟨k9, h⟩ := hK h
    obtain ⟨g10, e11, h⟩ := hBe h
    refine AW.iast (sk_mut k8).1 (sk_mut k8).2 k9 (dcN_5 dcg_177 :) e11 ?_
    exact AW.vret1 rfl (dcN_6 dcg_177 :) h rfl
  refine AW.icmp_ge (tgt := 18) (dcN_7 dcg_176 :) (by decide) (fun c12 => ?_) (fun c12 => ?_)
  · refine AW.ldc (dcN_10 dcg_176 :) cw_X5_24 ?_
    exact AW.val (e5.trans (if_pos c12)) J11
  · refine AW.iconst (dcN_8 dcg_176 :) ?_
    refine AW.goto (tgt := 20) (dcN_9 dcg_176 :) (by decide) ?_
    exact AW.val (e5.trans (if_neg c12)) J11
set_option synthInstance.maxHeartbeats 2000000 in
theorem Rain_passDay_b_ok {z : AZ} {d : Nat} (hdd : 1 ≤ d) {x1 : Int} {x2 : Int} {x3 : Int} {x4 : Int} : ∀ (tag : Nat) (x5 : Int) (g : AG) (r : Int × AG), Rain_passDay_b x1 x2 x3 x4 tag x5 g = some r → (tag = 1 → AW z (RX5, cX5_passDay, 8, none) d (QD none r) 11 [(0, rv z 12), (1, iv x1), (2, iv x2), (3, iv x3), (4, iv x4), (5, iv x5)] [] g) ∧ (tag = 2 → AW z (RX5, cX5_passDay, 8, none) d (QD none r) 107 [(0, rv z 12), (4, iv x4), (5, iv x5)] [] g) := by
  refine Rain_passDay_b.partial_correctness x1 x2 x3 x4 (fun tag x5 g r => (tag = 1 → AW z (RX5, cX5_passDay, 8, none) d (QD none r) 11 [(0, rv z 12), (1, iv x1), (2, iv x2), (3, iv x3), (4, iv x4), (5, iv x5)] [] g) ∧ (tag = 2 → AW z (RX5, cX5_passDay, 8, none) d (QD none r) 107 [(0, rv z 12), (4, iv x4), (5, iv x5)] [] g)) ?_
  intro fb9 ih tag x5 g r h
  refine ⟨fun h9 => ?_, fun h9 => ?_⟩
  · subst h9
    replace h := hT h rfl
    refine AW.iload 5 (dcN_6 dcg_178 :) rfl ?_
    refine AW.sipush (dcN_7 dcg_178 :) (by decide) (by decide) ?_
    refine AW.icmp_ge (tgt := 99) (dcN_8 dcg_178 :) (by decide) (fun c1 => ?_) (fun c1 => ?_)
    · replace h := hT h c1
      refine AW.aloadr_n 0 (dcN_1 dcg_181 :) rfl ?_
      refine AW.iconst (dcN_2 dcg_181 :) ?_
      obtain ⟨g2, e3, h⟩ := hBe h
      refine AW.putI ap_X5_25_12 sr_12_2 (dcN_3 dcg_181 :) e3 ?_
      refine AW.iconst (dcN_4 dcg_181 :) ?_
      refine AW.istore (lv1 := [(5, iv 0), (0, rv z 12), (1, iv x1), (2, iv x2), (3, iv x3), (4, iv x4)]) (dcN_5 dcg_181 :) (by decide) rfl ?_
      refine AW.sub (lv1 := [(0, rv z 12), (4, iv x4), (5, iv 0)]) [1, 5, 0] rfl ?_
      exact (ih _ _ _ _ h).2 rfl
    · replace h := hF h c1
      refine AW.aloadr_n 0 (dcN_9 dcg_178 :) rfl ?_
      obtain ⟨k4, h⟩ := hK h
      refine AW.getM af_X5_9_12 sr_12_0 (dcN_10 dcg_178 :) rfl ?_
      refine AW.iload 5 (dcN_11 dcg_178 :) rfl ?_
      obtain ⟨k5, h⟩ := hK h
      refine AW.iald (sk_mut k4).1 (sk_mut k4).2 k5 (dcN_12 dcg_178 :) ?_
      obtain ⟨r17, e18, h⟩ := hC h
      refine AW.join (tgt := 93) (lv1 := [(0, rv z 12), (1, iv x1), (2, iv x2), (3, iv x3), (4, iv x4), (5, iv x5)]) (st1 := []) (g1 := r17) ?_ (fun J26 => ?_)
      · refine AW.iinc (lv1 := [(5, iv (x5 + 1)), (0, rv z 12), (1, iv x1), (2, iv x2), (3, iv x3), (4, iv x4)]) 5 (dcN_19 dcg_180 :) rfl (by decide) rfl ?_
        refine AW.goto (tgt := 11) (dcN_0 dcg_181 :) (by decide) ?_
        refine AW.sub (lv1 := [(0, rv z 12), (1, iv x1), (2, iv x2), (3, iv x3), (4, iv x4), (5, iv (x5 + 1))]) [1, 2, 3, 4, 5, 0] rfl ?_
        exact (ih _ _ _ _ h).1 rfl
      replace h := e18
      refine AW.if_le (tgt := 93) (dcN_13 dcg_178 :) (by decide) (fun c6 => ?_) (fun c6 => ?_)
      · replace h := hT h c6
        cases h
        exact J26
      · replace h := hF h c6
        refine AW.aloadr_n 0 (dcN_14 dcg_178 :) rfl ?_
        obtain ⟨k7, h⟩ := hK h
        refine AW.getM af_X5_9_12 sr_12_0 (dcN_15 dcg_178 :) rfl ?_
        refine AW.iload 5 (dcN_0 dcg_179 :) rfl ?_
        refine AW.iald (sk_mut k7).1 (sk_mut k7).2 k5 (dcN_1 dcg_179 :) ?_
        refine AW.iload_n 2 (dcN_2 dcg_179 :) rfl ?_
        refine AW.imul (dcN_3 dcg_179 :) ?_
        refine AW.bipush (dcN_4 dcg_179 :) (by decide) (by decide) ?_
        refine AW.idiv (dcN_5 dcg_179 :) (by decide) ?_
        refine AW.istore (lv1 := [(6, iv ((nw ((g (g 12 0).toNat (ix x5)) * x2)).tdiv 100)), (0, rv z 12), (1, iv x1), (2, iv x2), (3, iv x3), (4, iv x4), (5, iv x5)]) (dcN_6 dcg_179 :) (by decide) rfl ?_
        refine AW.iconst (dcN_7 dcg_179 :) ?_
        refine AW.iload 6 (dcN_8 dcg_179 :) rfl ?_
        refine AW.iload_n 2 (dcN_9 dcg_179 :) rfl ?_
        refine AW.isub (dcN_10 dcg_179 :) ?_
        refine AW.mmax (st := []) cm_X5_29 mst_max mini mcd_max (Nat.le_trans (by decide) hdd) (Nat.le_of_ble_eq_true rfl) (dcN_11 dcg_179 :) ?_
        refine AW.istore (lv1 := [(7, iv (mxI 0 (x5 - x1))), (6, iv ((nw ((g (g 12 0).toNat (ix x5)) * x2)).tdiv 100)), (0, rv z 12), (1, iv x1), (2, iv x2), (3, iv x3), (4, iv x4), (5, iv x5)]) (dcN_12 dcg_179 :) (by decide) rfl ?_
        refine AW.aloadr_n 2 (dcN_13 dcg_179 :) rfl ?_
        obtain ⟨k8, h⟩ := hK h
        refine AW.getM af_X5_15_12 sr_12_1 (dcN_14 dcg_179 :) rfl ?_
        refine AW.sipush (dcN_15 dcg_179 :) (by decide) (by decide) ?_
        refine AW.iload 0 (dcN_16 dcg_179 :) rfl ?_
        refine AW.iload_n 5 (dcN_17 dcg_179 :) rfl ?_
        refine AW.iadd (dcN_18 dcg_179 :) ?_
        refine AW.mmin (st := [rv z (g 12 1).toNat]) cm_X5_35 mst_min mini mcd_min (Nat.le_trans (by decide) hdd) (Nat.le_of_ble_eq_true rfl) (dcN_0 dcg_180 :) ?_
        refine AW.dup2r (dcN_1 dcg_180 :) ?_
        obtain ⟨k9, h⟩ := hK h
        refine AW.iald (sk_mut k8).1 (sk_mut k8).2 k9 (dcN_2 dcg_180 :) ?_
        refine AW.iload 1 (dcN_3 dcg_180 :) rfl ?_
        refine AW.iadd (dcN_4 dcg_180 :) ?_
        obtain ⟨g10, e11, h⟩ := hBe h
        refine AW.iast (sk_mut k8).1 (sk_mut k8).2 k9 (dcN_5 dcg_180 :) e11 ?_
        refine AW.aloadr_n 2 (dcN_6 dcg_180 :) rfl ?_
        obtain ⟨k12, h⟩ := hK h
        refine AW.getM af_X5_15_12 sr_12_1 (dcN_7 dcg_180 :) rfl ?_
        refine AW.iload 0 (dcN_8 dcg_180 :) rfl ?_
        refine AW.dup2r (dcN_9 dcg_180 :) ?_
        obtain ⟨k13, h⟩ := hK h
        refine AW.iald (sk_mut k12).1 (sk_mut k12).2 k13 (dcN_10 dcg_180 :) ?_
        refine AW.aloadr_n 2 (dcN_11 dcg_180 :) rfl ?_
        obtain ⟨k14, h⟩ := hK h
        refine AW.getM af_X5_9_12 sr_12_0 (dcN_12 dcg_180 :) rfl ?_
        refine AW.iload 7 (dcN_13 dcg_180 :) rfl ?_
        refine AW.iald (sk_mut k14).1 (sk_mut k14).2 k5 (dcN_14 dcg_180 :) ?_
        refine AW.iload 1 (dcN_15 dcg_180 :) rfl ?_
        refine AW.isub (dcN_16 dcg_180 :) ?_
        refine AW.iadd (dcN_17 dcg_180 :) ?_
        obtain ⟨g15, e16, h⟩ := hBe h
        refine AW.iast (sk_mut k12).1 (sk_mut k12).2 k13 (dcN_18 dcg_180 :) e16 ?_
        refine AW.sub (lv1 := [(0, rv z 12), (1, iv x1), (2, iv x2), (3, iv x3), (4, iv x4), (5, iv x5)]) [2, 3, 4, 5, 6, 7] rfl ?_
        cases h
        exact J26
  · subst h9
    replace h := hF h (by decide)
    replace h := hT h rfl
    refine AW.iload 2 (dcN_6 dcg_181 :) rfl ?_
    refine AW.sipush (dcN_7 dcg_181 :) (by decide) (by decide) ?_
    refine AW.icmp_ge (tgt := 162) (dcN_8 dcg_181 :) (by decide) (fun c1 => ?_) (fun c1 => ?_)
    · replace h := hT h c1
      refine AW.aloadr_n 0 (dcN_0 dcg_183 :) rfl ?_
      obtain ⟨k2, h⟩ := hK h
      refine AW.getM af_X5_9_12 sr_12_0 (dcN_1 dcg_183 :) rfl ?_
      refine AW.astorer (lv1 := [(5, rv z (g 12 0).toNat), (0, rv z 12), (4, iv x4)]) (dcN_2 dcg_183 :) (by decide) rfl ?_
      refine AW.aloadr_n 1 (dcN_3 dcg_183 :) rfl ?_
      refine AW.aloadr_n 1 (dcN_4 dcg_183 :) rfl ?_
      obtain ⟨k3, h⟩ := hK h
      refine AW.getM af_X5_15_12 sr_12_1 (dcN_5 dcg_183 :) rfl ?_
      obtain ⟨g4, e5, h⟩ := hBe h
      refine AW.putM ap_X5_9_12 sr_12_0 rfl (dcN_6 dcg_183 :) e5 ?_
      refine AW.aloadr_n 1 (dcN_7 dcg_183 :) rfl ?_
      refine AW.aloadr 0 (dcN_8 dcg_183 :) rfl ?_
      obtain ⟨g6, e7, h⟩ := hBe h
      refine AW.putM ap_X5_15_12 sr_12_1 rfl (dcN_9 dcg_183 :) e7 ?_
      exact AW.vret1 rfl (dcN_10 dcg_183 :) h rfl
    · replace h := hF h c1
      refine AW.aloadr_n 0 (dcN_9 dcg_181 :) rfl ?_
      obtain ⟨k8, h⟩ := hK h
      refine AW.getM af_X5_15_12 sr_12_1 (dcN_10 dcg_181 :) rfl ?_
      refine AW.iload 2 (dcN_11 dcg_181 :) rfl ?_
      refine AW.iload 2 (dcN_12 dcg_181 :) rfl ?_
      refine AW.iload 1 (dcN_13 dcg_181 :) rfl ?_
      obtain ⟨r12, e13, h⟩ := hC h
      refine AW.join (tgt := 139) (lv1 := [(0, rv z 12), (4, iv x4), (5, iv x5)]) (st1 := [iv r12.1, iv x5, rv z (g 12 1).toNat]) (g1 := r12.2) ?_ (fun J125 => ?_)
      · obtain ⟨k14, h⟩ := hK h
        obtain ⟨g15, e16, h⟩ := hBe h
        refine AW.iast (sk_mut k8).1 (sk_mut k8).2 k14 (dcN_6 dcg_182 :) e16 ?_
        refine AW.aloadr_n 0 (dcN_7 dcg_182 :) rfl ?_
        refine AW.duprr (dcN_8 dcg_182 :) ?_
        refine AW.getI af_X5_25_12 sr_12_2 (dcN_9 dcg_182 :) ?_
        refine AW.aloadr_n 0 (dcN_10 dcg_182 :) rfl ?_
        obtain ⟨k17, h⟩ := hK h
        refine AW.getM af_X5_15_12 sr_12_1 (dcN_11 dcg_182 :) rfl ?_
        refine AW.iload 2 (dcN_12 dcg_182 :) rfl ?_
        refine AW.iald (sk_mut k17).1 (sk_mut k17).2 k14 (dcN_13 dcg_182 :) ?_
        refine AW.iadd (dcN_14 dcg_182 :) ?_
        obtain ⟨g18, e19, h⟩ := hBe h
        refine AW.putI ap_X5_25_12 sr_12_2 (dcN_15 dcg_182 :) e19 ?_
        refine AW.iinc (lv1 := [(5, iv (x5 + 1)), (0, rv z 12), (4, iv x4)]) 2 (dcN_16 dcg_182 :) rfl (by decide) rfl ?_
        refine AW.goto (tgt := 107) (dcN_17 dcg_182 :) (by decide) ?_
        refine AW.sub (lv1 := [(0, rv z 12), (4, iv x4), (5, iv (x5 + 1))]) [1, 2, 0] rfl ?_
        exact (ih _ _ _ _ h).2 rfl
      replace h := e13
      refine AW.icmp_ge (tgt := 132) (dcN_14 dcg_181 :) (by decide) (fun c9 => ?_) (fun c9 => ?_)
      · replace h := hT h c9
        refine AW.aloadr_n 0 (dcN_2 dcg_182 :) rfl ?_
        obtain ⟨k10, h⟩ := hK h
        refine AW.getM af_X5_15_12 sr_12_1 (dcN_3 dcg_182 :) rfl ?_
        refine AW.iload 2 (dcN_4 dcg_182 :) rfl ?_
        obtain ⟨k11, h⟩ := hK h
        refine AW.iald (sk_mut k10).1 (sk_mut k10).2 k11 (dcN_5 dcg_182 :) ?_
        cases h
        exact J125
      · replace h := hF h c9
        refine AW.iconst (dcN_0 dcg_182 :) ?_
        refine AW.goto (tgt := 139) (dcN_1 dcg_182 :) (by decide) ?_
        cases h
        exact J125
theorem Rain_passDay_ok {z : AZ} {x1 : Int} {x2 : Int} {x3 : Int} {x4 : Int} {g : AG} {r : Int × AG} (h : Rain_passDay x1 x2 x3 x4 g = some r) : AMf z yX5_passDay cX5_passDay 8 none 1 [rv z 12, iv x1, iv x2, iv x3, iv x4] g r := by
  intro d hdd
  refine AM.of (by decide +kernel) (Nat.le_of_ble_eq_true rfl) ?_
  show AW z (RX5, cX5_passDay, 8, none) d (QD none r) 0 [(0, rv z 12), (1, iv x1), (2, iv x2), (3, iv x3), (4, iv x4)] [] g
  unfold Rain_passDay at h
  refine AW.aloadr_n 0 (dcN_0 dcg_178 :) rfl ?_
  obtain ⟨k1, h⟩ := hK h
  refine AW.getM af_X5_15_12 sr_12_1 (dcN_1 dcg_178 :) rfl ?_
  refine AW.iconst (dcN_2 dcg_178 :) ?_
  obtain ⟨g2, e3, h⟩ := hBe h
  refine AW.callSv (st := []) (fill_ok (sk_mut k1).1 (sk_mut k1).2 (by decide)) cf_X5_18 st_fill (Nat.le_trans (by decide) hdd) rfl (dcN_3 dcg_178 :) rfl (Nat.le_of_ble_eq_true rfl) ?_
  rw [← e3]
  refine AW.iconst (dcN_4 dcg_178 :) ?_
  refine AW.istore (lv1 := [(5, iv 0), (0, rv z 12), (1, iv x1), (2, iv x2), (3, iv x3), (4, iv x4)]) (dcN_5 dcg_178 :) (by decide) rfl ?_
  refine AW.sub (lv1 := [(0, rv z 12), (1, iv x1), (2, iv x2), (3, iv x3), (4, iv x4), (5, iv 0)]) [1, 2, 3, 4, 5, 0] rfl ?_
  exact (Rain_passDay_b_ok hdd _ _ _ _ h).1 rfl
set_option synthInstance.maxHeartbeats 2000000 in
theorem X_left_b_ok {z : AZ} {d : Nat} (hdd : 2 ≤ d) {x1 : Int} {x2 : Int} {x3 : Int} {x4 : Int} {x5 : Int} : ∀ (x6 : Int) (g : AG) (r : Int × AG), X_left_b x1 x2 x3 x4 x5 x6 g = some r → AW z (RX11, cX11_left, 7, (some .int)) d (QD (some .int) r) 43 [(0, rv z 0), (1, iv x1), (2, iv x2), (3, iv x3), (4, iv x4), (5, iv x5), (6, iv x6)] [] g := by
  refine X_left_b.partial_correctness x1 x2 x3 x4 x5 (fun x6 g r => AW z (RX11, cX11_left, 7, (some .int)) d (QD (some .int) r) 43 [(0, rv z 0), (1, iv x1), (2, iv x2), (3, iv x3), (4, iv x4), (5, iv x5), (6, iv x6)] [] g) ?_
  intro fb9 ih x6 g r h
  refine AW.iload 6 (dcN_5 dcg_450 :) rfl ?_
  refine AW.iload 5 (dcN_6 dcg_450 :) rfl ?_
  refine AW.icmp_ge (tgt := 68) (dcN_7 dcg_450 :) (by decide) (fun c1 => ?_) (fun c1 => ?_)
  · replace h := hT h c1
    refine AW.aloadr_n 0 (dcN_1 dcg_451 :) rfl ?_
    refine AW.getR af_X11_95_0 sr_0_11 (dcN_2 dcg_451 :) ?_
    refine AW.getI af_X11_394_12 sr_12_2 (dcN_3 dcg_451 :) ?_
    exact AW.iret1 rfl (dcN_4 dcg_451 :) h rfl
  · replace h := hF h c1
    refine AW.aloadr_n 0 (dcN_8 dcg_450 :) rfl ?_
    refine AW.getR af_X11_95_0 sr_0_11 (dcN_9 dcg_450 :) ?_
    refine AW.iload_n 1 (dcN_10 dcg_450 :) rfl ?_
    refine AW.iload_n 2 (dcN_11 dcg_450 :) rfl ?_
    refine AW.iload_n 3 (dcN_12 dcg_450 :) rfl ?_
    refine AW.iload 4 (dcN_13 dcg_450 :) rfl ?_
    obtain ⟨r2, e3, h⟩ := hC h
    refine AW.callVv (As := [iv x1, iv x2, iv x3, iv x4]) (st := []) (Rain_passDay_ok e3) cq_X11_390 cr_12_X5_passDay (Nat.le_trans (by decide) hdd) rfl (dcN_14 dcg_450 :) rfl (Nat.le_of_ble_eq_true rfl) ?_
    refine AW.iinc (lv1 := [(6, iv (x6 + 1)), (0, rv z 0), (1, iv x1), (2, iv x2), (3, iv x3), (4, iv x4), (5, iv x5)]) 6 (dcN_15 dcg_450 :) rfl (by decide) rfl ?_
    refine AW.goto (tgt := 43) (dcN_0 dcg_451 :) (by decide) ?_
    refine AW.sub (lv1 := [(0, rv z 0), (1, iv x1), (2, iv x2), (3, iv x3), (4, iv x4), (5, iv x5), (6, iv (x6 + 1))]) [1, 2, 3, 4, 5, 6, 0] rfl ?_
    exact ih _ _ _ h
theorem X_left_ok {z : AZ} {x1 : Int} {x2 : Int} {x3 : Int} {x4 : Int} {x5 : Int} {g : AG} {r : Int × AG} (h : X_left x1 x2 x3 x4 x5 g = some r) : AMf z yX11_left cX11_left 7 (some .int) 2 [rv z 0, iv x1, iv x2, iv x3, iv x4, iv x5] g r := by
  intro d hdd
  refine AM.of (by decide +kernel) (Nat.le_of_ble_eq_true rfl) ?_
  show AW z (RX11, cX11_left, 7, (some .int)) d (QD (some .int) r) 0 [(0, rv z 0), (1, iv x1), (2, iv x2), (3, iv x3), (4, iv x4), (5, iv x5)] [] g
  unfold X_left at h
  refine AW.iload_n 1 (dcN_0 dcg_449 :) rfl ?_
  refine AW.iload_n 2 (dcN_1 dcg_449 :) rfl ?_
  refine AW.iload_n 3 (dcN_2 dcg_449 :) rfl ?_
  refine AW.iload 4 (dcN_3 dcg_449 :) rfl ?_
  refine AW.callSi (As := [iv x1, iv x2, iv x3, iv x4]) (st := []) X_isWeather_ok cq_X11_384 st_X11_isWeather (Nat.le_trans (by decide) hdd) rfl (dcN_4 dcg_449 :) rfl (Nat.le_of_ble_eq_true rfl) ?_
  refine AW.if_eq (tgt := 22) (dcN_5 dcg_449 :) (by decide) (fun c1 => ?_) (fun c1 => ?_)
  · replace h := hT h c1
    refine AW.iconst (dcN_11 dcg_449 :) ?_
    exact AW.iret1 rfl (dcN_12 dcg_449 :) h rfl
  · replace h := hF h c1
    refine AW.iload 5 (dcN_6 dcg_449 :) rfl ?_
    refine AW.iconst (dcN_7 dcg_449 :) ?_
    refine AW.bipush (dcN_8 dcg_449 :) (by decide) (by decide) ?_
    refine AW.callSi (As := [iv x5, iv 0, iv 60]) (st := []) X_within_ok cq_X11_99 st_X11_within (Nat.le_trans (by decide) hdd) rfl (dcN_9 dcg_449 :) rfl (Nat.le_of_ble_eq_true rfl) ?_
    refine AW.if_ne (tgt := 24) (dcN_10 dcg_449 :) (by decide) (fun c2 => ?_) (fun c2 => ?_)
    · replace h := hF h c2
      refine AW.aloadr_n 0 (dcN_13 dcg_449 :) rfl ?_
      refine AW.getR af_X11_95_0 sr_0_11 (dcN_14 dcg_449 :) ?_
      refine AW.aloadr_n 0 (dcN_15 dcg_449 :) rfl ?_
      refine AW.getR af_X11_12_0 sr_0_0 (dcN_16 dcg_449 :) ?_
      refine AW.getI af_X11_127_1 sr_1_5 (dcN_0 dcg_450 :) ?_
      refine AW.iload 4 (dcN_1 dcg_450 :) rfl ?_
      obtain ⟨r3, e4, h⟩ := hC h
      refine AW.callVv (As := [iv (g 1 5), iv x4]) (st := []) (Rain_start_ok e4) cq_X11_387 cr_12_X5_start (Nat.le_trans (by decide) hdd) rfl (dcN_2 dcg_450 :) rfl (Nat.le_of_ble_eq_true rfl) ?_
      refine AW.iconst (dcN_3 dcg_450 :) ?_
      refine AW.istore (lv1 := [(6, iv 0), (0, rv z 0), (1, iv x1), (2, iv x2), (3, iv x3), (4, iv x4), (5, iv x5)]) (dcN_4 dcg_450 :) (by decide) rfl ?_
      refine AW.sub (lv1 := [(0, rv z 0), (1, iv x1), (2, iv x2), (3, iv x3), (4, iv x4), (5, iv x5), (6, iv 0)]) [1, 2, 3, 4, 5, 6, 0] rfl ?_
      exact X_left_b_ok hdd _ _ _ h
    · replace h := hT h c2
      refine AW.iconst (dcN_11 dcg_449 :) ?_
      exact AW.iret1 rfl (dcN_12 dcg_449 :) h rfl
set_option synthInstance.maxHeartbeats 2000000 in
theorem X_shuts_b_ok {z : AZ} {d : Nat} (hdd : 2 ≤ d) {x1 : Int} {x2 : Int} {x3 : Int} {x4 : Int} : ∀ (x5 : Int) (g : AG) (r : Int × AG), X_shuts_b x1 x2 x3 x4 x5 g = some r → AW z (RX11, cX11_shuts, 6, (some .int)) d (QD (some .int) r) 32 [(0, rv z 0), (1, iv x1), (2, iv x2), (3, iv x3), (4, iv x4), (5, iv x5)] [] g := by
  refine X_shuts_b.partial_correctness x1 x2 x3 x4 (fun x5 g r => AW z (RX11, cX11_shuts, 6, (some .int)) d (QD (some .int) r) 32 [(0, rv z 0), (1, iv x1), (2, iv x2), (3, iv x3), (4, iv x4), (5, iv x5)] [] g) ?_
  intro fb9 ih x5 g r h
  refine AW.iload 5 (dcN_0 dcg_455 :) rfl ?_
  refine AW.bipush (dcN_1 dcg_455 :) (by decide) (by decide) ?_
  refine AW.icmp_gt (tgt := 73) (dcN_2 dcg_455 :) (by decide) (fun c1 => ?_) (fun c1 => ?_)
  · replace h := hT h c1
    refine AW.iconst (dcN_3 dcg_456 :) ?_
    exact AW.iret1 rfl (dcN_4 dcg_456 :) h rfl
  · replace h := hF h c1
    refine AW.aloadr_n 0 (dcN_3 dcg_455 :) rfl ?_
    refine AW.getR af_X11_95_0 sr_0_11 (dcN_4 dcg_455 :) ?_
    refine AW.getI af_X11_394_12 sr_12_2 (dcN_5 dcg_455 :) ?_
    refine AW.ldcw (dcN_6 dcg_455 :) cw_X11_397 ?_
    refine AW.icmp_ge (tgt := 55) (dcN_7 dcg_455 :) (by decide) (fun c2 => ?_) (fun c2 => ?_)
    · replace h := hT h c2
      refine AW.aloadr_n 0 (dcN_10 dcg_455 :) rfl ?_
      refine AW.getR af_X11_95_0 sr_0_11 (dcN_11 dcg_455 :) ?_
      refine AW.iload_n 1 (dcN_12 dcg_455 :) rfl ?_
      refine AW.iload_n 2 (dcN_13 dcg_455 :) rfl ?_
      refine AW.iload_n 3 (dcN_14 dcg_455 :) rfl ?_
      refine AW.iload 4 (dcN_15 dcg_455 :) rfl ?_
      obtain ⟨r3, e4, h⟩ := hC h
      refine AW.callVv (As := [iv x1, iv x2, iv x3, iv x4]) (st := []) (Rain_passDay_ok e4) cq_X11_390 cr_12_X5_passDay (Nat.le_trans (by decide) hdd) rfl (dcN_0 dcg_456 :) rfl (Nat.le_of_ble_eq_true rfl) ?_
      refine AW.iinc (lv1 := [(5, iv (x5 + 1)), (0, rv z 0), (1, iv x1), (2, iv x2), (3, iv x3), (4, iv x4)]) 5 (dcN_1 dcg_456 :) rfl (by decide) rfl ?_
      refine AW.goto (tgt := 32) (dcN_2 dcg_456 :) (by decide) ?_
      refine AW.sub (lv1 := [(0, rv z 0), (1, iv x1), (2, iv x2), (3, iv x3), (4, iv x4), (5, iv (x5 + 1))]) [1, 2, 3, 4, 5, 0] rfl ?_
      exact ih _ _ _ h
    · replace h := hF h c2
      refine AW.iload 5 (dcN_8 dcg_455 :) rfl ?_
      exact AW.iret1 rfl (dcN_9 dcg_455 :) h rfl
theorem X_shuts_ok {z : AZ} {x1 : Int} {x2 : Int} {x3 : Int} {x4 : Int} {g : AG} {r : Int × AG} (h : X_shuts x1 x2 x3 x4 g = some r) : AMf z yX11_shuts cX11_shuts 6 (some .int) 2 [rv z 0, iv x1, iv x2, iv x3, iv x4] g r := by
  intro d hdd
  refine AM.of (by decide +kernel) (Nat.le_of_ble_eq_true rfl) ?_
  show AW z (RX11, cX11_shuts, 6, (some .int)) d (QD (some .int) r) 0 [(0, rv z 0), (1, iv x1), (2, iv x2), (3, iv x3), (4, iv x4)] [] g
  unfold X_shuts at h
  refine AW.iload_n 1 (dcN_0 dcg_454 :) rfl ?_
  refine AW.iload_n 2 (dcN_1 dcg_454 :) rfl ?_
  refine AW.iload_n 3 (dcN_2 dcg_454 :) rfl ?_
  refine AW.iload 4 (dcN_3 dcg_454 :) rfl ?_
  refine AW.callSi (As := [iv x1, iv x2, iv x3, iv x4]) (st := []) X_isWeather_ok cq_X11_384 st_X11_isWeather (Nat.le_trans (by decide) hdd) rfl (dcN_4 dcg_454 :) rfl (Nat.le_of_ble_eq_true rfl) ?_
  refine AW.if_ne (tgt := 13) (dcN_5 dcg_454 :) (by decide) (fun c1 => ?_) (fun c1 => ?_)
  · replace h := hF h c1
    refine AW.aloadr_n 0 (dcN_8 dcg_454 :) rfl ?_
    refine AW.getR af_X11_95_0 sr_0_11 (dcN_9 dcg_454 :) ?_
    refine AW.aloadr_n 0 (dcN_10 dcg_454 :) rfl ?_
    refine AW.getR af_X11_12_0 sr_0_0 (dcN_11 dcg_454 :) ?_
    refine AW.getI af_X11_127_1 sr_1_5 (dcN_12 dcg_454 :) ?_
    refine AW.iload 4 (dcN_13 dcg_454 :) rfl ?_
    obtain ⟨r2, e3, h⟩ := hC h
    refine AW.callVv (As := [iv (g 1 5), iv x4]) (st := []) (Rain_start_ok e3) cq_X11_387 cr_12_X5_start (Nat.le_trans (by decide) hdd) rfl (dcN_14 dcg_454 :) rfl (Nat.le_of_ble_eq_true rfl) ?_
    refine AW.iconst (dcN_15 dcg_454 :) ?_
    refine AW.istore (lv1 := [(5, iv 0), (0, rv z 0), (1, iv x1), (2, iv x2), (3, iv x3), (4, iv x4)]) (dcN_16 dcg_454 :) (by decide) rfl ?_
    refine AW.sub (lv1 := [(0, rv z 0), (1, iv x1), (2, iv x2), (3, iv x3), (4, iv x4), (5, iv 0)]) [1, 2, 3, 4, 5, 0] rfl ?_
    exact X_shuts_b_ok hdd _ _ _ h
  · replace h := hT h c1
    refine AW.iconst (dcN_6 dcg_454 :) ?_
    exact AW.iret1 rfl (dcN_7 dcg_454 :) h rfl
theorem X_price_ok {z : AZ} {x1 : Int} {x2 : Int} {x3 : Int} {g : AG} {r : Int × AG} (h : X_price x1 x2 x3 g = some r) : AMf z yX11_price cX11_price 5 (some .int) 5 [rv z 0, iv x1, iv x2, iv x3] g r := by
  intro d hdd
  refine AM.of (by decide +kernel) (Nat.le_of_ble_eq_true rfl) ?_
  show AW z (RX11, cX11_price, 5, (some .int)) d (QD (some .int) r) 0 [(0, rv z 0), (1, iv x1), (2, iv x2), (3, iv x3)] [] g
  unfold X_price at h
  refine AW.aloadr_n 0 (dcN_0 dcg_457 :) rfl ?_
  refine AW.iload_n 1 (dcN_1 dcg_457 :) rfl ?_
  refine AW.callVi (As := [iv x1]) (st := []) X_isBoat_ok cq_X11_107 cr_0_X11_isBoat (Nat.le_trans (by decide) hdd) rfl (dcN_2 dcg_457 :) rfl (Nat.le_of_ble_eq_true rfl) ?_
  refine AW.if_eq (tgt := 15) (dcN_3 dcg_457 :) (by decide) (fun c1 => ?_) (fun c1 => ?_)
  · replace h := hT h c1
    refine AW.ldc (dcN_7 dcg_457 :) cw_X11_198 ?_
    exact AW.iret1 rfl (dcN_8 dcg_457 :) h rfl
  · replace h := hF h c1
    refine AW.iload_n 2 (dcN_4 dcg_457 :) rfl ?_
    refine AW.callSi (As := [iv x2]) (st := []) X_isWeek_ok cq_X11_267 st_X11_isWeek (Nat.le_trans (by decide) hdd) rfl (dcN_5 dcg_457 :) rfl (Nat.le_of_ble_eq_true rfl) ?_
    refine AW.if_ne (tgt := 18) (dcN_6 dcg_457 :) (by decide) (fun c2 => ?_) (fun c2 => ?_)
    · replace h := hF h c2
      refine AW.aloadr_n 0 (dcN_9 dcg_457 :) rfl ?_
      refine AW.getR af_X11_49_0 sr_0_5 (dcN_10 dcg_457 :) ?_
      refine AW.iload_n 1 (dcN_11 dcg_457 :) rfl ?_
      refine AW.iload_n 2 (dcN_12 dcg_457 :) rfl ?_
      refine AW.iload_n 3 (dcN_13 dcg_457 :) rfl ?_
      obtain ⟨r3, e4, h⟩ := hC h
      refine AW.callVi (As := [iv x1, iv x2, iv x3]) (st := []) (Boats_priceLine_ok e4) cq_X11_398 cr_6_X0_priceLine (Nat.le_trans (by decide) hdd) rfl (dcN_14 dcg_457 :) rfl (Nat.le_of_ble_eq_true rfl) ?_
      refine AW.istore (lv1 := [(4, iv r3.1), (0, rv z 0), (1, iv x1), (2, iv x2), (3, iv x3)]) (dcN_15 dcg_457 :) (by decide) rfl ?_
      refine AW.iload 0 (dcN_16 dcg_457 :) rfl ?_
      refine AW.iconst (dcN_0 dcg_458 :) ?_
      obtain ⟨r8, e9, h⟩ := hC h
      refine AW.join (tgt := 50) (lv1 := []) (st1 := [iv r8.1]) (g1 := r8.2) ?_ (fun J33 => ?_)
      · exact AW.iret1 rfl (dcN_8 dcg_458 :) h rfl
      replace h := e9
      refine AW.icmp_ne (tgt := 41) (dcN_1 dcg_458 :) (by decide) (fun c5 => ?_) (fun c5 => ?_)
      · replace h := hF h c5
        refine AW.aloadr_n 1 (dcN_4 dcg_458 :) rfl ?_
        refine AW.getR af_X11_19_0 sr_0_1 (dcN_5 dcg_458 :) ?_
        refine AW.iload 0 (dcN_6 dcg_458 :) rfl ?_
        obtain ⟨r6, e7, h⟩ := hC h
        refine AW.callVi (As := [iv r3.1]) (st := []) (Rules_valueOf_ok e7) cq_X11_402 cr_2_X6_valueOf (Nat.le_trans (by decide) hdd) rfl (dcN_7 dcg_458 :) rfl (Nat.le_of_ble_eq_true rfl) ?_
        refine AW.sub (lv1 := []) [] rfl ?_
        cases h
        exact J33
      · replace h := hT h c5
        refine AW.ldc (dcN_2 dcg_458 :) cw_X11_198 ?_
        refine AW.goto (tgt := 50) (dcN_3 dcg_458 :) (by decide) ?_
        refine AW.sub (lv1 := []) [] rfl ?_
        cases h
        exact J33
    · replace h := hT h c2
      refine AW.ldc (dcN_7 dcg_457 :) cw_X11_198 ?_
      exact AW.iret1 rfl (dcN_8 dcg_457 :) h rfl
theorem Boats_holdLine_ok {z : AZ} {x1 : Int} {x2 : Int} {x3 : Int} {x4 : Int} {g : AG} {r : Int × AG} (h : Boats_holdLine x1 x2 x3 x4 g = some r) : AMf z yX0_holdLine cX0_holdLine 5 (some .int) 4 [rv z 6, iv x1, iv x2, iv x3, iv x4] g r := by
  intro d hdd
  refine AM.of (by decide +kernel) (Nat.le_of_ble_eq_true rfl) ?_
  show AW z (RX0, cX0_holdLine, 5, (some .int)) d (QD (some .int) r) 0 [(0, rv z 6), (1, iv x1), (2, iv x2), (3, iv x3), (4, iv x4)] [] g
  unfold Boats_holdLine at h
  refine AW.aloadr_n 0 (dcN_0 dcg_36 :) rfl ?_
  refine AW.getR af_X0_42_6 sr_6_1 (dcN_1 dcg_36 :) ?_
  refine AW.iload 4 (dcN_2 dcg_36 :) rfl ?_
  obtain ⟨r1, e2, h⟩ := hC h
  refine AW.callVv (As := [iv x4]) (st := []) (Rules_askWeek_ok e2) cq_X0_127 cr_2_X6_askWeek (Nat.le_trans (by decide) hdd) rfl (dcN_3 dcg_36 :) rfl (Nat.le_of_ble_eq_true rfl) ?_
  refine AW.aloadr_n 0 (dcN_4 dcg_36 :) rfl ?_
  refine AW.getR af_X0_42_6 sr_6_1 (dcN_5 dcg_36 :) ?_
  refine AW.getR af_X0_115_2 sr_2_13 (dcN_6 dcg_36 :) ?_
  refine AW.bipush (dcN_7 dcg_36 :) (by decide) (by decide) ?_
  refine AW.iload_n 2 (dcN_8 dcg_36 :) rfl ?_
  obtain ⟨g3, e4, h⟩ := hBe h
  refine AW.iast kc_27 sk_27 (by decide) (dcN_9 dcg_36 :) e4 ?_
  refine AW.aloadr_n 0 (dcN_10 dcg_36 :) rfl ?_
  refine AW.getR af_X0_42_6 sr_6_1 (dcN_11 dcg_36 :) ?_
  refine AW.getR af_X0_115_2 sr_2_13 (dcN_12 dcg_36 :) ?_
  refine AW.bipush (dcN_13 dcg_36 :) (by decide) (by decide) ?_
  refine AW.iload_n 3 (dcN_14 dcg_36 :) rfl ?_
  obtain ⟨g5, e6, h⟩ := hBe h
  refine AW.iast kc_27 sk_27 (by decide) (dcN_15 dcg_36 :) e6 ?_
  refine AW.aloadr_n 0 (dcN_16 dcg_36 :) rfl ?_
  refine AW.getR af_X0_42_6 sr_6_1 (dcN_0 dcg_37 :) ?_
  refine AW.getR af_X0_115_2 sr_2_13 (dcN_1 dcg_37 :) ?_
  refine AW.iconst (dcN_2 dcg_37 :) ?_
  refine AW.aloadr_n 0 (dcN_3 dcg_37 :) rfl ?_
  refine AW.getR af_X0_15_6 sr_6_4 (dcN_4 dcg_37 :) ?_
  refine AW.iload_n 1 (dcN_5 dcg_37 :) rfl ?_
  obtain ⟨k7, h⟩ := hK h
  refine AW.iald kc_49 sk_49 k7 (dcN_6 dcg_37 :) ?_
  obtain ⟨g8, e9, h⟩ := hBe h
  refine AW.iast kc_27 sk_27 (by decide) (dcN_7 dcg_37 :) e9 ?_
  refine AW.aloadr_n 0 (dcN_8 dcg_37 :) rfl ?_
  refine AW.getR af_X0_42_6 sr_6_1 (dcN_9 dcg_37 :) ?_
  refine AW.bipush (dcN_10 dcg_37 :) (by decide) (by decide) ?_
  obtain ⟨r10, e11, h⟩ := hC h
  refine AW.callVi (As := [iv 103]) (st := []) (Rules_serving_ok e11) cq_X0_118 cr_2_X6_serving (Nat.le_trans (by decide) hdd) rfl (dcN_11 dcg_37 :) rfl (Nat.le_of_ble_eq_true rfl) ?_
  exact AW.iret1 rfl (dcN_12 dcg_37 :) h rfl
end
section
theorem X_held_ok {z : AZ} {x1 : Int} {x2 : Int} {x3 : Int} {x4 : Int} {g : AG} {r : Int × AG} (h : X_held x1 x2 x3 x4 g = some r) : AMf z yX11_held cX11_held 6 (some .int) 5 [rv z 0, iv x1, iv x2, iv x3, iv x4] g r := by
  intro d hdd
  refine AM.of (by decide +kernel) (Nat.le_of_ble_eq_true rfl) ?_
  show AW z (RX11, cX11_held, 6, (some .int)) d (QD (some .int) r) 0 [(0, rv z 0), (1, iv x1), (2, iv x2), (3, iv x3), (4, iv x4)] [] g
  unfold X_held at h
  refine AW.aloadr_n 0 (dcN_0 dcg_459 :) rfl ?_
  refine AW.iload_n 1 (dcN_1 dcg_459 :) rfl ?_
  refine AW.callVi (As := [iv x1]) (st := []) X_isBoat_ok cq_X11_107 cr_0_X11_isBoat (Nat.le_trans (by decide) hdd) rfl (dcN_2 dcg_459 :) rfl (Nat.le_of_ble_eq_true rfl) ?_
  refine AW.if_eq (tgt := 16) (dcN_3 dcg_459 :) (by decide) (fun c1 => ?_) (fun c1 => ?_)
  · replace h := hT h c1
    refine AW.ldc (dcN_7 dcg_459 :) cw_X11_198 ?_
    exact AW.iret1 rfl (dcN_8 dcg_459 :) h rfl
  · replace h := hF h c1
    refine AW.iload 4 (dcN_4 dcg_459 :) rfl ?_
    refine AW.callSi (As := [iv x4]) (st := []) X_isWeek_ok cq_X11_267 st_X11_isWeek (Nat.le_trans (by decide) hdd) rfl (dcN_5 dcg_459 :) rfl (Nat.le_of_ble_eq_true rfl) ?_
    refine AW.if_ne (tgt := 19) (dcN_6 dcg_459 :) (by decide) (fun c2 => ?_) (fun c2 => ?_)
    · replace h := hF h c2
      refine AW.iload_n 2 (dcN_9 dcg_459 :) rfl ?_
      refine AW.iconst (dcN_10 dcg_459 :) ?_
      refine AW.bipush (dcN_11 dcg_459 :) (by decide) (by decide) ?_
      refine AW.callSi (As := [iv x2, iv 0, iv 99]) (st := []) X_within_ok cq_X11_99 st_X11_within (Nat.le_trans (by decide) hdd) rfl (dcN_12 dcg_459 :) rfl (Nat.le_of_ble_eq_true rfl) ?_
      refine AW.if_eq (tgt := 39) (dcN_13 dcg_459 :) (by decide) (fun c3 => ?_) (fun c3 => ?_)
      · replace h := hT h c3
        refine AW.ldc (dcN_2 dcg_460 :) cw_X11_198 ?_
        exact AW.iret1 rfl (dcN_3 dcg_460 :) h rfl
      · replace h := hF h c3
        refine AW.iload_n 3 (dcN_14 dcg_459 :) rfl ?_
        refine AW.iconst (dcN_15 dcg_459 :) ?_
        refine AW.bipush (dcN_16 dcg_459 :) (by decide) (by decide) ?_
        refine AW.callSi (As := [iv x3, iv 0, iv 9]) (st := []) X_within_ok cq_X11_99 st_X11_within (Nat.le_trans (by decide) hdd) rfl (dcN_0 dcg_460 :) rfl (Nat.le_of_ble_eq_true rfl) ?_
        refine AW.if_ne (tgt := 42) (dcN_1 dcg_460 :) (by decide) (fun c4 => ?_) (fun c4 => ?_)
        · replace h := hF h c4
          refine AW.aloadr_n 0 (dcN_4 dcg_460 :) rfl ?_
          refine AW.getR af_X11_49_0 sr_0_5 (dcN_5 dcg_460 :) ?_
          refine AW.iload_n 1 (dcN_6 dcg_460 :) rfl ?_
          refine AW.iload_n 2 (dcN_7 dcg_460 :) rfl ?_
          refine AW.iload_n 3 (dcN_8 dcg_460 :) rfl ?_
          refine AW.iload 4 (dcN_9 dcg_460 :) rfl ?_
          obtain ⟨r5, e6, h⟩ := hC h
          refine AW.callVi (As := [iv x1, iv x2, iv x3, iv x4]) (st := []) (Boats_holdLine_ok e6) cq_X11_405 cr_6_X0_holdLine (Nat.le_trans (by decide) hdd) rfl (dcN_10 dcg_460 :) rfl (Nat.le_of_ble_eq_true rfl) ?_
          refine AW.istore (lv1 := [(5, iv r5.1), (0, rv z 0), (1, iv x1), (2, iv x2), (3, iv x3), (4, iv x4)]) (dcN_11 dcg_460 :) (by decide) rfl ?_
          refine AW.iload 0 (dcN_12 dcg_460 :) rfl ?_
          refine AW.iconst (dcN_13 dcg_460 :) ?_
          obtain ⟨r10, e11, h⟩ := hC h
          refine AW.join (tgt := 75) (lv1 := []) (st1 := [iv r10.1]) (g1 := r10.2) ?_ (fun J59 => ?_)
          · exact AW.iret1 rfl (dcN_4 dcg_461 :) h rfl
          replace h := e11
          refine AW.icmp_ne (tgt := 66) (dcN_14 dcg_460 :) (by decide) (fun c7 => ?_) (fun c7 => ?_)
          · replace h := hF h c7
            refine AW.aloadr_n 1 (dcN_0 dcg_461 :) rfl ?_
            refine AW.getR af_X11_19_0 sr_0_1 (dcN_1 dcg_461 :) ?_
            refine AW.iload 0 (dcN_2 dcg_461 :) rfl ?_
            obtain ⟨r8, e9, h⟩ := hC h
            refine AW.callVi (As := [iv r5.1]) (st := []) (Rules_valueOf_ok e9) cq_X11_402 cr_2_X6_valueOf (Nat.le_trans (by decide) hdd) rfl (dcN_3 dcg_461 :) rfl (Nat.le_of_ble_eq_true rfl) ?_
            refine AW.sub (lv1 := []) [] rfl ?_
            cases h
            exact J59
          · replace h := hT h c7
            refine AW.iconst (dcN_15 dcg_460 :) ?_
            refine AW.goto (tgt := 75) (dcN_16 dcg_460 :) (by decide) ?_
            refine AW.sub (lv1 := []) [] rfl ?_
            cases h
            exact J59
        · replace h := hT h c4
          refine AW.ldc (dcN_2 dcg_460 :) cw_X11_198 ?_
          exact AW.iret1 rfl (dcN_3 dcg_460 :) h rfl
    · replace h := hT h c2
      refine AW.ldc (dcN_7 dcg_459 :) cw_X11_198 ?_
      exact AW.iret1 rfl (dcN_8 dcg_459 :) h rfl
theorem X_look_ok {z : AZ} {x1 : Int} {g : AG} : AMf z yX11_look cX11_look 2 (some .int) 0 [rv z 0, iv x1] g ((X_look x1 g), g) := by
  intro d hdd
  refine AM.of (by decide +kernel) (Nat.le_of_ble_eq_true rfl) ?_
  show AW z (RX11, cX11_look, 2, (some .int)) d (QD (some .int) ((X_look x1 g), g)) 0 [(0, rv z 0), (1, iv x1)] [] g
  refine AW.iload_n 1 (dcN_0 dcg_462 :) rfl ?_
  by_cases c1 : nw x1 = 0
  · refine AW.tsIn (tgt := 48) 0 dX11_look_1 c1 (by decide) (by decide) (by rfl) (by decide) ?_
    refine AW.aloadr_n 0 (dcN_0 dcg_463 :) rfl ?_
    refine AW.getR af_X11_49_0 sr_0_5 (dcN_1 dcg_463 :) ?_
    refine AW.getI af_X11_103_6 sr_6_7 (dcN_2 dcg_463 :) ?_
    exact AW.iret rfl (dcN_3 dcg_463 :) ⟨congrArg (fun v => some (iv v)) (show X_look x1 g = (g 6 7) from ((if_pos c1))).symm, rfl⟩
  · by_cases c2 : nw x1 = 1
    · refine AW.tsIn (tgt := 56) 1 dX11_look_1 c2 (by decide) (by decide) (by rfl) (by decide) ?_
      refine AW.aloadr_n 0 (dcN_4 dcg_463 :) rfl ?_
      refine AW.getR af_X11_58_0 sr_0_6 (dcN_5 dcg_463 :) ?_
      refine AW.getI af_X11_197_7 sr_7_8 (dcN_6 dcg_463 :) ?_
      exact AW.iret rfl (dcN_7 dcg_463 :) ⟨congrArg (fun v => some (iv v)) (show X_look x1 g = (g 7 8) from (((if_neg c1).trans (if_pos c2)))).symm, rfl⟩
    · by_cases c3 : nw x1 = 2
      · refine AW.tsIn (tgt := 64) 2 dX11_look_1 c3 (by decide) (by decide) (by rfl) (by decide) ?_
        refine AW.aloadr_n 0 (dcN_0 dcg_464 :) rfl ?_
        refine AW.getR af_X11_72_0 sr_0_8 (dcN_1 dcg_464 :) ?_
        refine AW.getI af_X11_283_9 sr_9_4 (dcN_2 dcg_464 :) ?_
        exact AW.iret rfl (dcN_3 dcg_464 :) ⟨congrArg (fun v => some (iv v)) (show X_look x1 g = (g 9 4) from (((if_neg c1).trans ((if_neg c2).trans (if_pos c3))))).symm, rfl⟩
      · by_cases c4 : nw x1 = 3
        · refine AW.tsIn (tgt := 72) 3 dX11_look_1 c4 (by decide) (by decide) (by rfl) (by decide) ?_
          refine AW.aloadr_n 0 (dcN_4 dcg_464 :) rfl ?_
          refine AW.getR af_X11_79_0 sr_0_9 (dcN_5 dcg_464 :) ?_
          refine AW.getI af_X11_314_10 sr_10_7 (dcN_6 dcg_464 :) ?_
          exact AW.iret rfl (dcN_7 dcg_464 :) ⟨congrArg (fun v => some (iv v)) (show X_look x1 g = (g 10 7) from (((if_neg c1).trans ((if_neg c2).trans ((if_neg c3).trans (if_pos c4)))))).symm, rfl⟩
        · by_cases c5 : nw x1 = 4
          · refine AW.tsIn (tgt := 80) 4 dX11_look_1 c5 (by decide) (by decide) (by rfl) (by decide) ?_
            refine AW.aloadr_n 0 (dcN_8 dcg_464 :) rfl ?_
            refine AW.getR af_X11_65_0 sr_0_7 (dcN_9 dcg_464 :) ?_
            refine AW.getI af_X11_408_8 sr_8_2 (dcN_10 dcg_464 :) ?_
            exact AW.iret rfl (dcN_11 dcg_464 :) ⟨congrArg (fun v => some (iv v)) (show X_look x1 g = (g 8 2) from (((if_neg c1).trans ((if_neg c2).trans ((if_neg c3).trans ((if_neg c4).trans (if_pos c5))))))).symm, rfl⟩
          · by_cases c6 : nw x1 = 5
            · refine AW.tsIn (tgt := 88) 5 dX11_look_1 c6 (by decide) (by decide) (by rfl) (by decide) ?_
              refine AW.aloadr_n 0 (dcN_12 dcg_464 :) rfl ?_
              refine AW.getR af_X11_12_0 sr_0_0 (dcN_13 dcg_464 :) ?_
              refine AW.getI af_X11_136_1 sr_1_4 (dcN_14 dcg_464 :) ?_
              exact AW.iret rfl (dcN_15 dcg_464 :) ⟨congrArg (fun v => some (iv v)) (show X_look x1 g = (g 1 4) from (((if_neg c1).trans ((if_neg c2).trans ((if_neg c3).trans ((if_neg c4).trans ((if_neg c5).trans (if_pos c6)))))))).symm, rfl⟩
            · by_cases c7 : nw x1 = 6
              · refine AW.tsIn (tgt := 96) 6 dX11_look_1 c7 (by decide) (by decide) (by rfl) (by decide) ?_
                refine AW.aloadr_n 0 (dcN_0 dcg_465 :) rfl ?_
                refine AW.getR af_X11_12_0 sr_0_0 (dcN_1 dcg_465 :) ?_
                refine AW.getI af_X11_127_1 sr_1_5 (dcN_2 dcg_465 :) ?_
                exact AW.iret rfl (dcN_3 dcg_465 :) ⟨congrArg (fun v => some (iv v)) (show X_look x1 g = (g 1 5) from (((if_neg c1).trans ((if_neg c2).trans ((if_neg c3).trans ((if_neg c4).trans ((if_neg c5).trans ((if_neg c6).trans (if_pos c7))))))))).symm, rfl⟩
              · by_cases c8 : nw x1 = 7
                · refine AW.tsIn (tgt := 104) 7 dX11_look_1 c8 (by decide) (by decide) (by rfl) (by decide) ?_
                  refine AW.aloadr_n 0 (dcN_4 dcg_465 :) rfl ?_
                  refine AW.getR af_X11_88_0 sr_0_10 (dcN_5 dcg_465 :) ?_
                  refine AW.getI af_X11_362_11 sr_11_5 (dcN_6 dcg_465 :) ?_
                  exact AW.iret rfl (dcN_7 dcg_465 :) ⟨congrArg (fun v => some (iv v)) (show X_look x1 g = (g 11 5) from (((if_neg c1).trans ((if_neg c2).trans ((if_neg c3).trans ((if_neg c4).trans ((if_neg c5).trans ((if_neg c6).trans ((if_neg c7).trans (if_pos c8)))))))))).symm, rfl⟩
                · refine AW.tsOut (tgt := 112) dX11_look_1 (by omega) (by decide) ?_
                  refine AW.iconst (dcN_8 dcg_465 :) ?_
                  exact AW.iret rfl (dcN_9 dcg_465 :) ⟨congrArg (fun v => some (iv v)) (show X_look x1 g = (-1) from (((if_neg c1).trans ((if_neg c2).trans ((if_neg c3).trans ((if_neg c4).trans ((if_neg c5).trans ((if_neg c6).trans ((if_neg c7).trans (if_neg c8)))))))))).symm, rfl⟩
end
