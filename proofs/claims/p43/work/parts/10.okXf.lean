theorem Bookings_canHave_ok {z : AZ} {x1 : Int} {x2 : Int} {g : AG} {r : Int} (h : Bookings_canHave x1 x2 g = some r) : AMf z yX1_canHave cX1_canHave 3 (some .boolean) 0 [rv z 9, iv x1, iv x2] g (r, g) := by
  intro d hdd
  refine AM.of (by decide +kernel) (Nat.le_of_ble_eq_true rfl) ?_
  show AW z (RX1, cX1_canHave, 3, (some .boolean)) d (QD (some .boolean) (r, g)) 0 [(0, rv z 9), (1, iv x1), (2, iv x2)] [] g
  unfold Bookings_canHave at h
  refine AW.aloadr_n 0 (dcN_0 dcg_67 :) rfl ?_
  refine AW.getR af_X1_27_9 sr_9_6 (dcN_1 dcg_67 :) ?_
  refine AW.iload_n 1 (dcN_2 dcg_67 :) rfl ?_
  obtain ⟨k1, h⟩ := hK h
  refine AW.iald kc_90 sk_90 k1 (dcN_3 dcg_67 :) ?_
  refine AW.aloadr_n 0 (dcN_4 dcg_67 :) rfl ?_
  refine AW.getR af_X1_21_9 sr_9_3 (dcN_5 dcg_67 :) ?_
  refine AW.iload_n 2 (dcN_6 dcg_67 :) rfl ?_
  obtain ⟨k2, h⟩ := hK h
  refine AW.iald kc_88 sk_88 k2 (dcN_7 dcg_67 :) ?_
  obtain ⟨r8, e9, h⟩ := hC h
  refine AW.join (tgt := 50) (lv1 := []) (st1 := [iv r8]) (g1 := g) ?_ (fun J12 => ?_)
  · obtain ⟨k10, h⟩ := hK h
    exact AW.zret2 rfl k10 (dcN_10 dcg_68 :) h rfl
  replace h := e9
  refine AW.icmp_lt (tgt := 49) (dcN_8 dcg_67 :) (by decide) (fun c3 => ?_) (fun c3 => ?_)
  · replace h := hT h c3
    refine AW.iconst (dcN_9 dcg_68 :) ?_
    refine AW.sub (lv1 := []) [] rfl ?_
    cases h
    exact J12
  · replace h := hF h c3
    refine AW.aloadr_n 0 (dcN_9 dcg_67 :) rfl ?_
    refine AW.getR af_X1_33_9 sr_9_8 (dcN_10 dcg_67 :) ?_
    refine AW.iload_n 1 (dcN_11 dcg_67 :) rfl ?_
    refine AW.iald kc_92 sk_92 k1 (dcN_12 dcg_67 :) ?_
    refine AW.aloadr_n 0 (dcN_13 dcg_67 :) rfl ?_
    refine AW.getR af_X1_9_9 sr_9_0 (dcN_14 dcg_67 :) ?_
    refine AW.iload_n 2 (dcN_15 dcg_67 :) rfl ?_
    refine AW.iald kc_85 sk_85 k2 (dcN_16 dcg_67 :) ?_
    refine AW.icmp_ne (tgt := 49) (dcN_17 dcg_67 :) (by decide) (fun c4 => ?_) (fun c4 => ?_)
    · replace h := hF h c4
      refine AW.iconst (dcN_9 dcg_68 :) ?_
      refine AW.sub (lv1 := []) [] rfl ?_
      cases h
      exact J12
    · replace h := hT h c4
      refine AW.aloadr_n 0 (dcN_18 dcg_67 :) rfl ?_
      refine AW.getR af_X1_36_9 sr_9_9 (dcN_19 dcg_67 :) ?_
      refine AW.iload_n 1 (dcN_0 dcg_68 :) rfl ?_
      refine AW.iald kc_93 sk_93 k1 (dcN_1 dcg_68 :) ?_
      refine AW.aloadr_n 0 (dcN_2 dcg_68 :) rfl ?_
      refine AW.getR af_X1_18_9 sr_9_2 (dcN_3 dcg_68 :) ?_
      refine AW.iload_n 2 (dcN_4 dcg_68 :) rfl ?_
      refine AW.iald kc_87 sk_87 k2 (dcN_5 dcg_68 :) ?_
      obtain ⟨t5, e6, h⟩ := hBe h
      refine AW.join (tgt := 50) (lv1 := [(0, rv z 9), (1, iv x1), (2, iv x2)]) (st1 := [iv t5]) (g1 := g) ?_ (fun J42 => ?_)
      · refine AW.sub (lv1 := []) [] rfl ?_
        cases h
        exact J12
      refine AW.icmp_ge (tgt := 49) (dcN_6 dcg_68 :) (by decide) (fun c7 => ?_) (fun c7 => ?_)
      · refine AW.iconst (dcN_9 dcg_68 :) ?_
        exact AW.val (e6.trans (if_pos c7)) J42
      · refine AW.iconst (dcN_7 dcg_68 :) ?_
        refine AW.goto (tgt := 50) (dcN_8 dcg_68 :) (by decide) ?_
        exact AW.val (e6.trans (if_neg c7)) J42
set_option synthInstance.maxHeartbeats 2000000 in
theorem Bookings_giveNext_b_ok {z : AZ} {rec : Int → Int → AG → Option (Int × AG)} {Dr : Nat} (hC9 : 2 ≤ Dr) (hrec : ∀ (x1 : Int) (x2 : Int) (g : AG) (r : Int × AG), rec x1 x2 g = some r → AMf z yX1_giveNext cX1_giveNext 8 none Dr [rv z 9, iv x1, iv x2] g r) {d : Nat} (hdd : Dr + 1 ≤ d) {x1 : Int} {x2 : Int} : ∀ (tag : Nat) (x4 : Int) (x5 : Int) (g : AG) (r : Int × AG), Bookings_giveNext_b rec x1 x2 tag x4 x5 g = some r → (tag = 1 → AW z (RX1, cX1_giveNext, 8, none) d (QD none r) 37 [(0, rv z 9), (1, iv x1), (2, iv x2)] [] g) ∧ (tag = 2 → AW z (RX1, cX1_giveNext, 8, none) d (QD none r) 62 [(0, rv z 9), (1, iv x1), (2, iv x2), (4, iv x4), (5, iv x5)] [] g) := by
  refine Bookings_giveNext_b.partial_correctness rec x1 x2 (fun tag x4 x5 g r => (tag = 1 → AW z (RX1, cX1_giveNext, 8, none) d (QD none r) 37 [(0, rv z 9), (1, iv x1), (2, iv x2)] [] g) ∧ (tag = 2 → AW z (RX1, cX1_giveNext, 8, none) d (QD none r) 62 [(0, rv z 9), (1, iv x1), (2, iv x2), (4, iv x4), (5, iv x5)] [] g)) ?_
  intro fb9 ih tag x4 x5 g r h
  refine ⟨fun h9 => ?_, fun h9 => ?_⟩
  · subst h9
    replace h := hT h rfl
    refine AW.iload_n 1 (dcN_2 dcg_62 :) rfl ?_
    refine AW.aloadr_n 0 (dcN_3 dcg_62 :) rfl ?_
    refine AW.getI af_X1_48_9 sr_9_4 (dcN_4 dcg_62 :) ?_
    refine AW.icmp_lt (tgt := 51) (dcN_5 dcg_62 :) (by decide) (fun c1 => ?_) (fun c1 => ?_)
    · replace h := hT h c1
      refine AW.aloadr_n 0 (dcN_10 dcg_62 :) rfl ?_
      refine AW.getR af_X1_24_9 sr_9_5 (dcN_11 dcg_62 :) ?_
      refine AW.iload_n 1 (dcN_12 dcg_62 :) rfl ?_
      obtain ⟨k2, h⟩ := hK h
      refine AW.iald kc_89 sk_89 k2 (dcN_13 dcg_62 :) ?_
      refine AW.istore (lv1 := [(4, iv (g 89 (ix x1))), (0, rv z 9), (1, iv x1), (2, iv x2)]) (dcN_14 dcg_62 :) (by decide) rfl ?_
      refine AW.iconst (dcN_15 dcg_62 :) ?_
      refine AW.istore (lv1 := [(5, iv 0), (4, iv (g 89 (ix x1))), (0, rv z 9), (1, iv x1), (2, iv x2)]) (dcN_16 dcg_62 :) (by decide) rfl ?_
      refine AW.sub (lv1 := [(0, rv z 9), (1, iv x1), (2, iv x2), (4, iv (g 89 (ix x1))), (5, iv 0)]) [2, 3, 4, 1, 0] rfl ?_
      exact (ih _ _ _ _ _ h).2 rfl
    · replace h := hF h c1
      refine AW.aloadr_n 0 (dcN_6 dcg_62 :) rfl ?_
      refine AW.iload_n 2 (dcN_7 dcg_62 :) rfl ?_
      obtain ⟨r3, e4, h⟩ := hC h
      refine AW.callVv (As := [iv x2]) (st := []) (Bookings_compare_ok e4) cq_X1_85 cr_9_X1_compare (by omega) rfl (dcN_8 dcg_62 :) rfl (Nat.le_of_ble_eq_true rfl) ?_
      exact AW.vret1 rfl (dcN_9 dcg_62 :) h rfl
  · subst h9
    replace h := hF h (by decide)
    replace h := hT h rfl
    refine AW.iload 4 (dcN_17 dcg_62 :) rfl ?_
    refine AW.aloadr_n 0 (dcN_0 dcg_63 :) rfl ?_
    refine AW.getI af_X1_64_9 sr_9_10 (dcN_1 dcg_63 :) ?_
    refine AW.icmp_ge (tgt := 171) (dcN_2 dcg_63 :) (by decide) (fun c1 => ?_) (fun c1 => ?_)
    · replace h := hT h c1
      refine AW.aloadr_n 0 (dcN_5 dcg_66 :) rfl ?_
      refine AW.getR af_X1_42_9 sr_9_13 (dcN_6 dcg_66 :) ?_
      refine AW.iload 3 (dcN_7 dcg_66 :) rfl ?_
      refine AW.iconst (dcN_8 dcg_66 :) ?_
      obtain ⟨k2, h⟩ := hK h
      obtain ⟨g3, e4, h⟩ := hBe h
      refine AW.iast kc_95 sk_95 k2 (dcN_9 dcg_66 :) e4 ?_
      refine AW.aloadr_n 0 (dcN_10 dcg_66 :) rfl ?_
      refine AW.iload_n 1 (dcN_11 dcg_66 :) rfl ?_
      refine AW.iconst (dcN_12 dcg_66 :) ?_
      refine AW.iadd (dcN_13 dcg_66 :) ?_
      refine AW.iload_n 2 (dcN_14 dcg_66 :) rfl ?_
      obtain ⟨r5, e6, h⟩ := hC h
      refine AW.callSv (As := [rv z 9, iv (x1 + 1), iv x2]) (st := []) (hrec _ _ _ _ e6) cq_X1_77 st_X1_giveNext (by omega) rfl (dcN_15 dcg_66 :) rfl (Nat.le_of_ble_eq_true rfl) ?_
      exact AW.vret1 rfl (dcN_16 dcg_66 :) h rfl
    · replace h := hF h c1
      refine AW.aloadr_n 0 (dcN_3 dcg_63 :) rfl ?_
      refine AW.iload 4 (dcN_4 dcg_63 :) rfl ?_
      refine AW.iload 3 (dcN_5 dcg_63 :) rfl ?_
      obtain ⟨r7, e8, h⟩ := hC h
      refine AW.callVi (As := [iv x5, iv x4]) (st := []) (Bookings_canHave_ok e8) cq_X1_89 cr_9_X1_canHave (by omega) rfl (dcN_6 dcg_63 :) rfl (Nat.le_of_ble_eq_true rfl) ?_
      obtain ⟨r24, e25, h⟩ := hC h
      refine AW.join (tgt := 165) (lv1 := [(0, rv z 9), (1, iv x1), (2, iv x2), (4, iv x4), (5, iv x5)]) (st1 := []) (g1 := r24) ?_ (fun J79 => ?_)
      · refine AW.iinc (lv1 := [(5, iv (x5 + 1)), (0, rv z 9), (1, iv x1), (2, iv x2), (4, iv x4)]) 4 (dcN_3 dcg_66 :) rfl (by decide) rfl ?_
        refine AW.goto (tgt := 62) (dcN_4 dcg_66 :) (by decide) ?_
        refine AW.sub (lv1 := [(0, rv z 9), (1, iv x1), (2, iv x2), (4, iv x4), (5, iv (x5 + 1))]) [1, 2, 3, 4, 0] rfl ?_
        exact (ih _ _ _ _ _ h).2 rfl
      replace h := e25
      refine AW.if_eq (tgt := 165) (dcN_7 dcg_63 :) (by decide) (fun c9 => ?_) (fun c9 => ?_)
      · replace h := hT h c9
        cases h
        exact J79
      · replace h := hF h c9
        refine AW.aloadr_n 0 (dcN_8 dcg_63 :) rfl ?_
        refine AW.getR af_X1_33_9 sr_9_8 (dcN_9 dcg_63 :) ?_
        refine AW.iload 4 (dcN_10 dcg_63 :) rfl ?_
        obtain ⟨k10, h⟩ := hK h
        refine AW.iald kc_92 sk_92 k10 (dcN_11 dcg_63 :) ?_
        refine AW.istore (lv1 := [(6, iv (g 92 (ix x5))), (0, rv z 9), (1, iv x1), (2, iv x2), (4, iv x4), (5, iv x5)]) (dcN_12 dcg_63 :) (by decide) rfl ?_
        refine AW.aloadr_n 1 (dcN_13 dcg_63 :) rfl ?_
        refine AW.getR af_X1_36_9 sr_9_9 (dcN_14 dcg_63 :) ?_
        refine AW.iload 5 (dcN_15 dcg_63 :) rfl ?_
        refine AW.iald kc_93 sk_93 k10 (dcN_0 dcg_64 :) ?_
        refine AW.istore (lv1 := [(7, iv (g 93 (ix x5))), (6, iv (g 92 (ix x5))), (0, rv z 9), (1, iv x1), (2, iv x2), (4, iv x4), (5, iv x5)]) (dcN_1 dcg_64 :) (by decide) rfl ?_
        refine AW.aloadr_n 2 (dcN_2 dcg_64 :) rfl ?_
        refine AW.getR af_X1_42_9 sr_9_13 (dcN_3 dcg_64 :) ?_
        refine AW.iload 5 (dcN_4 dcg_64 :) rfl ?_
        refine AW.iload 6 (dcN_5 dcg_64 :) rfl ?_
        obtain ⟨k11, h⟩ := hK h
        obtain ⟨g12, e13, h⟩ := hBe h
        refine AW.iast kc_95 sk_95 k11 (dcN_6 dcg_64 :) e13 ?_
        refine AW.aloadr_n 2 (dcN_7 dcg_64 :) rfl ?_
        refine AW.getR af_X1_33_9 sr_9_8 (dcN_8 dcg_64 :) ?_
        refine AW.iload 6 (dcN_9 dcg_64 :) rfl ?_
        refine AW.aloadr_n 2 (dcN_10 dcg_64 :) rfl ?_
        refine AW.getR af_X1_15_9 sr_9_1 (dcN_11 dcg_64 :) ?_
        refine AW.iload 5 (dcN_12 dcg_64 :) rfl ?_
        refine AW.iald kc_86 sk_86 k11 (dcN_13 dcg_64 :) ?_
        obtain ⟨g14, e15, h⟩ := hBe h
        refine AW.iast kc_92 sk_92 k10 (dcN_14 dcg_64 :) e15 ?_
        refine AW.aloadr_n 2 (dcN_15 dcg_64 :) rfl ?_
        refine AW.getR af_X1_36_9 sr_9_9 (dcN_16 dcg_64 :) ?_
        refine AW.iload 6 (dcN_17 dcg_64 :) rfl ?_
        refine AW.aloadr_n 2 (dcN_0 dcg_65 :) rfl ?_
        refine AW.getR af_X1_18_9 sr_9_2 (dcN_1 dcg_65 :) ?_
        refine AW.iload 5 (dcN_2 dcg_65 :) rfl ?_
        refine AW.iald kc_87 sk_87 k11 (dcN_3 dcg_65 :) ?_
        obtain ⟨g16, e17, h⟩ := hBe h
        refine AW.iast kc_93 sk_93 k10 (dcN_4 dcg_65 :) e17 ?_
        refine AW.aloadr_n 2 (dcN_5 dcg_65 :) rfl ?_
        refine AW.iload_n 3 (dcN_6 dcg_65 :) rfl ?_
        refine AW.iconst (dcN_7 dcg_65 :) ?_
        refine AW.iadd (dcN_8 dcg_65 :) ?_
        refine AW.iload_n 4 (dcN_9 dcg_65 :) rfl ?_
        refine AW.iconst (dcN_10 dcg_65 :) ?_
        refine AW.iadd (dcN_11 dcg_65 :) ?_
        obtain ⟨r18, e19, h⟩ := hC h
        refine AW.callSv (As := [rv z 9, iv (x1 + 1), iv (x2 + 1)]) (st := []) (hrec _ _ _ _ e19) cq_X1_77 st_X1_giveNext (by omega) rfl (dcN_12 dcg_65 :) rfl (Nat.le_of_ble_eq_true rfl) ?_
        refine AW.aloadr_n 2 (dcN_13 dcg_65 :) rfl ?_
        refine AW.getR af_X1_33_9 sr_9_8 (dcN_14 dcg_65 :) ?_
        refine AW.iload 6 (dcN_15 dcg_65 :) rfl ?_
        refine AW.iload 1 (dcN_16 dcg_65 :) rfl ?_
        obtain ⟨g20, e21, h⟩ := hBe h
        refine AW.iast kc_92 sk_92 k10 (dcN_17 dcg_65 :) e21 ?_
        refine AW.aloadr_n 2 (dcN_18 dcg_65 :) rfl ?_
        refine AW.getR af_X1_36_9 sr_9_9 (dcN_19 dcg_65 :) ?_
        refine AW.iload 6 (dcN_0 dcg_66 :) rfl ?_
        refine AW.iload 0 (dcN_1 dcg_66 :) rfl ?_
        obtain ⟨g22, e23, h⟩ := hBe h
        refine AW.iast kc_93 sk_93 k10 (dcN_2 dcg_66 :) e23 ?_
        refine AW.sub (lv1 := [(0, rv z 9), (1, iv x1), (2, iv x2), (4, iv x4), (5, iv x5)]) [2, 3, 4, 5, 6] rfl ?_
        cases h
        exact J79
theorem Bookings_giveNext_s_ok {z : AZ} {rec : Int → Int → AG → Option (Int × AG)} {Dr : Nat} (hC9 : 2 ≤ Dr) (hrec : ∀ (x1 : Int) (x2 : Int) (g : AG) (r : Int × AG), rec x1 x2 g = some r → AMf z yX1_giveNext cX1_giveNext 8 none Dr [rv z 9, iv x1, iv x2] g r) {x1 : Int} {x2 : Int} {g : AG} {r : Int × AG} (h : Bookings_giveNext_s rec x1 x2 g = some r) : AMf z yX1_giveNext cX1_giveNext 8 none (Dr + 1) [rv z 9, iv x1, iv x2] g r := by
  intro d hdd
  refine AM.of (by decide +kernel) (Nat.le_of_ble_eq_true rfl) ?_
  show AW z (RX1, cX1_giveNext, 8, none) d (QD none r) 0 [(0, rv z 9), (1, iv x1), (2, iv x2)] [] g
  unfold Bookings_giveNext_s at h
  refine AW.iload_n 2 (dcN_0 dcg_61 :) rfl ?_
  refine AW.aloadr_n 0 (dcN_1 dcg_61 :) rfl ?_
  refine AW.getR af_X1_39_9 sr_9_12 (dcN_2 dcg_61 :) ?_
  refine AW.iload_n 1 (dcN_3 dcg_61 :) rfl ?_
  obtain ⟨k1, h⟩ := hK h
  refine AW.iald kc_94 sk_94 k1 (dcN_4 dcg_61 :) ?_
  refine AW.iadd (dcN_5 dcg_61 :) ?_
  refine AW.istore_n (lv1 := [(3, iv (x2 + (g 94 (ix x1)))), (0, rv z 9), (1, iv x1), (2, iv x2)]) (dcN_6 dcg_61 :) (by decide) rfl ?_
  refine AW.iload_n 0 (dcN_7 dcg_61 :) rfl ?_
  refine AW.aloadr_n 1 (dcN_8 dcg_61 :) rfl ?_
  refine AW.getI af_X1_67_9 sr_9_15 (dcN_9 dcg_61 :) ?_
  refine AW.icmp_lt (tgt := 36) (dcN_10 dcg_61 :) (by decide) (fun c2 => ?_) (fun c2 => ?_)
  · replace h := hT h c2
    exact AW.vret1 rfl (dcN_1 dcg_62 :) h rfl
  · replace h := hF h c2
    refine AW.iload_n 0 (dcN_11 dcg_61 :) rfl ?_
    refine AW.aloadr_n 1 (dcN_12 dcg_61 :) rfl ?_
    refine AW.getI af_X1_67_9 sr_9_15 (dcN_13 dcg_61 :) ?_
    refine AW.icmp_ne (tgt := 37) (dcN_14 dcg_61 :) (by decide) (fun c3 => ?_) (fun c3 => ?_)
    · replace h := hF h c3
      refine AW.sub (lv1 := [(0, rv z 9), (1, iv x1), (2, iv x2)]) [1, 2, 3] rfl ?_
      exact (Bookings_giveNext_b_ok hC9 hrec hdd _ _ _ _ _ h).1 rfl
    · replace h := hT h c3
      refine AW.aloadr_n 1 (dcN_15 dcg_61 :) rfl ?_
      refine AW.getI af_X1_70_9 sr_9_16 (dcN_16 dcg_61 :) ?_
      refine AW.aloadr_n 1 (dcN_17 dcg_61 :) rfl ?_
      refine AW.getI af_X1_64_9 sr_9_10 (dcN_18 dcg_61 :) ?_
      refine AW.icmp_lt (tgt := 37) (dcN_0 dcg_62 :) (by decide) (fun c4 => ?_) (fun c4 => ?_)
      · replace h := hT h c4
        refine AW.sub (lv1 := [(0, rv z 9), (1, iv x1), (2, iv x2)]) [1, 2, 3] rfl ?_
        exact (Bookings_giveNext_b_ok hC9 hrec hdd _ _ _ _ _ h).1 rfl
      · replace h := hF h c4
        exact AW.vret1 rfl (dcN_1 dcg_62 :) h rfl
theorem Bookings_giveNext_ok {z : AZ} {n : Nat} {x1 : Int} {x2 : Int} {g : AG} {r : Int × AG} (h : Bookings_giveNext n x1 x2 g = some r) : AMf z yX1_giveNext cX1_giveNext 8 none (2 + n * 1) [rv z 9, iv x1, iv x2] g r := by
  induction n generalizing x1 x2 g r with
  | zero => cases h
  | succ n ih =>
    have q := Bookings_giveNext_s_ok (z := z) (Dr := 2 + n * 1) (Nat.le_add_right _ _) (fun x1 x2 g r h9 => ih h9) h
    rw [show 2 + (n + 1) * 1 = 2 + n * 1 + 1 by rw [Nat.add_mul]; omega]
    exact q
set_option synthInstance.maxHeartbeats 2000000 in
theorem Bookings_giveBest_b_ok {z : AZ} {d : Nat} (hdd : 13 ≤ d) : ∀ (tag : Nat) (x2 : Int) (g : AG) (r : Int × AG), Bookings_giveBest_b tag x2 g = some r → (tag = 1 → AW z (RX1, cX1_giveBest, 3, none) d (QD none r) 35 [(0, rv z 9), (2, iv x2)] [] g) ∧ (tag = 2 → AW z (RX1, cX1_giveBest, 3, none) d (QD none r) 85 [(0, rv z 9), (2, iv x2)] [] g) := by
  refine Bookings_giveBest_b.partial_correctness (fun tag x2 g r => (tag = 1 → AW z (RX1, cX1_giveBest, 3, none) d (QD none r) 35 [(0, rv z 9), (2, iv x2)] [] g) ∧ (tag = 2 → AW z (RX1, cX1_giveBest, 3, none) d (QD none r) 85 [(0, rv z 9), (2, iv x2)] [] g)) ?_
  intro fb9 ih tag x2 g r h
  refine ⟨fun h9 => ?_, fun h9 => ?_⟩
  · subst h9
    replace h := hT h rfl
    refine AW.iload_n 1 (dcN_2 dcg_51 :) rfl ?_
    refine AW.aloadr_n 0 (dcN_3 dcg_51 :) rfl ?_
    refine AW.getI af_X1_64_9 sr_9_10 (dcN_4 dcg_51 :) ?_
    refine AW.icmp_ge (tgt := 68) (dcN_5 dcg_51 :) (by decide) (fun c1 => ?_) (fun c1 => ?_)
    · replace h := hT h c1
      refine AW.aloadr_n 0 (dcN_1 dcg_52 :) rfl ?_
      refine AW.getR af_X1_39_9 sr_9_12 (dcN_2 dcg_52 :) ?_
      refine AW.aloadr_n 0 (dcN_3 dcg_52 :) rfl ?_
      refine AW.getI af_X1_48_9 sr_9_4 (dcN_4 dcg_52 :) ?_
      refine AW.iconst (dcN_5 dcg_52 :) ?_
      obtain ⟨k2, h⟩ := hK h
      obtain ⟨g3, e4, h⟩ := hBe h
      refine AW.iast kc_94 sk_94 k2 (dcN_6 dcg_52 :) e4 ?_
      refine AW.aloadr_n 0 (dcN_7 dcg_52 :) rfl ?_
      refine AW.getI af_X1_48_9 sr_9_4 (dcN_8 dcg_52 :) ?_
      refine AW.iconst (dcN_9 dcg_52 :) ?_
      refine AW.isub (dcN_10 dcg_52 :) ?_
      refine AW.istore_n (lv1 := [(2, iv ((g3 9 4) - 1)), (0, rv z 9)]) (dcN_11 dcg_52 :) (by decide) rfl ?_
      refine AW.sub (lv1 := [(0, rv z 9), (2, iv ((g3 9 4) - 1))]) [1, 0] rfl ?_
      exact (ih _ _ _ _ h).2 rfl
    · replace h := hF h c1
      refine AW.aloadr_n 0 (dcN_6 dcg_51 :) rfl ?_
      refine AW.getR af_X1_33_9 sr_9_8 (dcN_7 dcg_51 :) ?_
      refine AW.iload_n 1 (dcN_8 dcg_51 :) rfl ?_
      refine AW.aloadr_n 0 (dcN_9 dcg_51 :) rfl ?_
      refine AW.getR af_X1_30_9 sr_9_7 (dcN_10 dcg_51 :) ?_
      refine AW.iload_n 1 (dcN_11 dcg_51 :) rfl ?_
      obtain ⟨k5, h⟩ := hK h
      refine AW.iald kc_91 sk_91 k5 (dcN_12 dcg_51 :) ?_
      obtain ⟨g6, e7, h⟩ := hBe h
      refine AW.iast kc_92 sk_92 k5 (dcN_13 dcg_51 :) e7 ?_
      refine AW.aloadr_n 0 (dcN_14 dcg_51 :) rfl ?_
      refine AW.getR af_X1_36_9 sr_9_9 (dcN_15 dcg_51 :) ?_
      refine AW.iload_n 1 (dcN_16 dcg_51 :) rfl ?_
      refine AW.iconst (dcN_17 dcg_51 :) ?_
      obtain ⟨g8, e9, h⟩ := hBe h
      refine AW.iast kc_93 sk_93 k5 (dcN_18 dcg_51 :) e9 ?_
      refine AW.iinc (lv1 := [(2, iv (x2 + 1)), (0, rv z 9)]) 1 (dcN_19 dcg_51 :) rfl (by decide) rfl ?_
      refine AW.goto (tgt := 35) (dcN_0 dcg_52 :) (by decide) ?_
      refine AW.sub (lv1 := [(0, rv z 9), (2, iv (x2 + 1))]) [1, 0] rfl ?_
      exact (ih _ _ _ _ h).1 rfl
  · subst h9
    replace h := hF h (by decide)
    replace h := hT h rfl
    refine AW.iload_n 1 (dcN_12 dcg_52 :) rfl ?_
    refine AW.if_lt (tgt := 128) (dcN_13 dcg_52 :) (by decide) (fun c1 => ?_) (fun c1 => ?_)
    · replace h := hT h c1
      refine AW.aloadr_n 0 (dcN_0 dcg_54 :) rfl ?_
      refine AW.iconst (dcN_1 dcg_54 :) ?_
      refine AW.iconst (dcN_2 dcg_54 :) ?_
      obtain ⟨r2, e3, h⟩ := hC h
      refine AW.callSv (As := [rv z 9, iv 0, iv 0]) (st := []) ((Bookings_giveNext_ok (n := 10)) e3) cq_X1_77 st_X1_giveNext (Nat.le_trans (by decide) hdd) rfl (dcN_3 dcg_54 :) rfl (Nat.le_of_ble_eq_true rfl) ?_
      exact AW.vret1 rfl (dcN_4 dcg_54 :) h rfl
    · replace h := hF h c1
      refine AW.aloadr_n 0 (dcN_14 dcg_52 :) rfl ?_
      refine AW.getR af_X1_39_9 sr_9_12 (dcN_15 dcg_52 :) ?_
      refine AW.iload_n 1 (dcN_16 dcg_52 :) rfl ?_
      refine AW.aloadr_n 0 (dcN_17 dcg_52 :) rfl ?_
      refine AW.getR af_X1_39_9 sr_9_12 (dcN_18 dcg_52 :) ?_
      refine AW.iload_n 1 (dcN_0 dcg_53 :) rfl ?_
      refine AW.iconst (dcN_1 dcg_53 :) ?_
      refine AW.iadd (dcN_2 dcg_53 :) ?_
      obtain ⟨k4, h⟩ := hK h
      refine AW.iald kc_94 sk_94 k4 (dcN_3 dcg_53 :) ?_
      refine AW.aloadr_n 0 (dcN_4 dcg_53 :) rfl ?_
      refine AW.aloadr_n 0 (dcN_5 dcg_53 :) rfl ?_
      refine AW.getR af_X1_24_9 sr_9_5 (dcN_6 dcg_53 :) ?_
      refine AW.iload_n 1 (dcN_7 dcg_53 :) rfl ?_
      obtain ⟨k5, h⟩ := hK h
      refine AW.iald kc_89 sk_89 k5 (dcN_8 dcg_53 :) ?_
      obtain ⟨r6, e7, h⟩ := hC h
      refine AW.callVi (As := [iv (g 89 (ix x2))]) (st := [iv (g 94 (ix (x2 + 1))), iv x2, rv z 94]) (Bookings_canEverBeGiven_ok e7) cq_X1_73 cr_9_X1_canEverBeGiven (Nat.le_trans (by decide) hdd) rfl (dcN_9 dcg_53 :) rfl (Nat.le_of_ble_eq_true rfl) ?_
      obtain ⟨t8, e9, h⟩ := hBe h
      refine AW.join (tgt := 120) (lv1 := [(0, rv z 9), (2, iv x2)]) (st1 := [iv t8, iv (g 94 (ix (x2 + 1))), iv x2, rv z 94]) (g1 := g) ?_ (fun J112 => ?_)
      · refine AW.iadd (dcN_14 dcg_53 :) ?_
        obtain ⟨k10, h⟩ := hK h
        obtain ⟨g11, e12, h⟩ := hBe h
        refine AW.iast kc_94 sk_94 k10 (dcN_15 dcg_53 :) e12 ?_
        refine AW.iinc (lv1 := [(2, iv (x2 + (-1))), (0, rv z 9)]) 1 (dcN_16 dcg_53 :) rfl (by decide) rfl ?_
        refine AW.goto (tgt := 85) (dcN_17 dcg_53 :) (by decide) ?_
        refine AW.sub (lv1 := [(0, rv z 9), (2, iv (x2 + (-1)))]) [1, 0] rfl ?_
        exact (ih _ _ _ _ h).2 rfl
      refine AW.if_eq (tgt := 119) (dcN_10 dcg_53 :) (by decide) (fun c13 => ?_) (fun c13 => ?_)
      · refine AW.iconst (dcN_13 dcg_53 :) ?_
        exact AW.val (e9.trans (if_pos c13)) J112
      · refine AW.iconst (dcN_11 dcg_53 :) ?_
        refine AW.goto (tgt := 120) (dcN_12 dcg_53 :) (by decide) ?_
        exact AW.val (e9.trans (if_neg c13)) J112
theorem Bookings_giveBest_ok {z : AZ} {x1 : Int} {g : AG} {r : Int × AG} (h : Bookings_giveBest x1 g = some r) : AMf z yX1_giveBest cX1_giveBest 3 none 13 [rv z 9, iv x1] g r := by
  intro d hdd
  refine AM.of (by decide +kernel) (Nat.le_of_ble_eq_true rfl) ?_
  show AW z (RX1, cX1_giveBest, 3, none) d (QD none r) 0 [(0, rv z 9), (1, iv x1)] [] g
  unfold Bookings_giveBest at h
  refine AW.iload_n 1 (dcN_0 dcg_50 :) rfl ?_
  refine AW.aloadr_n 0 (dcN_1 dcg_50 :) rfl ?_
  refine AW.getI af_X1_52_9 sr_9_11 (dcN_2 dcg_50 :) ?_
  refine AW.icmp_ne (tgt := 9) (dcN_3 dcg_50 :) (by decide) (fun c1 => ?_) (fun c1 => ?_)
  · replace h := hF h c1
    refine AW.aloadr_n 0 (dcN_5 dcg_50 :) rfl ?_
    refine AW.iload_n 1 (dcN_6 dcg_50 :) rfl ?_
    refine AW.iconst (dcN_7 dcg_50 :) ?_
    refine AW.mmin (st := [rv z 9]) cm_X1_58 mst_min mini mcd_min (Nat.le_trans (by decide) hdd) (Nat.le_of_ble_eq_true rfl) (dcN_8 dcg_50 :) ?_
    obtain ⟨g2, e3, h⟩ := hBe h
    refine AW.putI ap_X1_64_9 sr_9_10 (dcN_9 dcg_50 :) e3 ?_
    refine AW.aloadr_n 0 (dcN_10 dcg_50 :) rfl ?_
    refine AW.iload_n 1 (dcN_11 dcg_50 :) rfl ?_
    obtain ⟨g4, e5, h⟩ := hBe h
    refine AW.putI ap_X1_52_9 sr_9_11 (dcN_12 dcg_50 :) e5 ?_
    refine AW.aloadr_n 0 (dcN_13 dcg_50 :) rfl ?_
    refine AW.iconst (dcN_14 dcg_50 :) ?_
    obtain ⟨g6, e7, h⟩ := hBe h
    refine AW.putI ap_X1_67_9 sr_9_15 (dcN_15 dcg_50 :) e7 ?_
    refine AW.aloadr_n 0 (dcN_16 dcg_50 :) rfl ?_
    refine AW.iconst (dcN_17 dcg_50 :) ?_
    obtain ⟨g8, e9, h⟩ := hBe h
    refine AW.putI ap_X1_70_9 sr_9_16 (dcN_18 dcg_50 :) e9 ?_
    refine AW.iconst (dcN_0 dcg_51 :) ?_
    refine AW.istore_n (lv1 := [(2, iv 0), (0, rv z 9), (1, iv x1)]) (dcN_1 dcg_51 :) (by decide) rfl ?_
    refine AW.sub (lv1 := [(0, rv z 9), (2, iv 0)]) [1, 0] rfl ?_
    exact (Bookings_giveBest_b_ok hdd _ _ _ _ h).1 rfl
  · replace h := hT h c1
    exact AW.vret1 rfl (dcN_4 dcg_50 :) h rfl
theorem X_given_ok {z : AZ} {x1 : Int} {x2 : Int} {g : AG} {r : Int × AG} (h : X_given x1 x2 g = some r) : AMf z yX11_given cX11_given 3 (some .int) 14 [rv z 0, iv x1, iv x2] g r := by
  intro d hdd
  refine AM.of (by decide +kernel) (Nat.le_of_ble_eq_true rfl) ?_
  show AW z (RX11, cX11_given, 3, (some .int)) d (QD (some .int) r) 0 [(0, rv z 0), (1, iv x1), (2, iv x2)] [] g
  unfold X_given at h
  refine AW.iload_n 1 (dcN_0 dcg_417 :) rfl ?_
  refine AW.iconst (dcN_1 dcg_417 :) ?_
  refine AW.iconst (dcN_2 dcg_417 :) ?_
  refine AW.callSi (As := [iv x1, iv 1, iv 4]) (st := []) X_within_ok cq_X11_99 st_X11_within (Nat.le_trans (by decide) hdd) rfl (dcN_3 dcg_417 :) rfl (Nat.le_of_ble_eq_true rfl) ?_
  refine AW.if_eq (tgt := 20) (dcN_4 dcg_417 :) (by decide) (fun c1 => ?_) (fun c1 => ?_)
  · replace h := hT h c1
    refine AW.iconst (dcN_10 dcg_417 :) ?_
    exact AW.iret1 rfl (dcN_11 dcg_417 :) h rfl
  · replace h := hF h c1
    refine AW.iload_n 1 (dcN_5 dcg_417 :) rfl ?_
    refine AW.aloadr_n 0 (dcN_6 dcg_417 :) rfl ?_
    refine AW.getR af_X11_49_0 sr_0_5 (dcN_7 dcg_417 :) ?_
    refine AW.getI af_X11_103_6 sr_6_7 (dcN_8 dcg_417 :) ?_
    refine AW.icmp_le (tgt := 22) (dcN_9 dcg_417 :) (by decide) (fun c2 => ?_) (fun c2 => ?_)
    · replace h := hT h c2
      refine AW.aloadr_n 0 (dcN_12 dcg_417 :) rfl ?_
      refine AW.iload_n 1 (dcN_13 dcg_417 :) rfl ?_
      obtain ⟨r3, e4, h⟩ := hC h
      refine AW.callVv (As := [iv x1]) (st := []) (X_hireFirst_ok e4) cq_X11_271 cr_0_X11_hireFirst (Nat.le_trans (by decide) hdd) rfl (dcN_14 dcg_417 :) rfl (Nat.le_of_ble_eq_true rfl) ?_
      refine AW.aloadr_n 0 (dcN_15 dcg_417 :) rfl ?_
      refine AW.getR af_X11_72_0 sr_0_8 (dcN_16 dcg_417 :) ?_
      refine AW.iload_n 1 (dcN_17 dcg_417 :) rfl ?_
      obtain ⟨r5, e6, h⟩ := hC h
      refine AW.callVv (As := [iv x1]) (st := []) (Bookings_giveBest_ok e6) cq_X11_274 cr_9_X1_giveBest (Nat.le_trans (by decide) hdd) rfl (dcN_0 dcg_418 :) rfl (Nat.le_of_ble_eq_true rfl) ?_
      refine AW.iload_n 2 (dcN_1 dcg_418 :) rfl ?_
      refine AW.if_ne (tgt := 47) (dcN_2 dcg_418 :) (by decide) (fun c7 => ?_) (fun c7 => ?_)
      · replace h := hF h c7
        refine AW.iload_n 2 (dcN_7 dcg_418 :) rfl ?_
        refine AW.iconst (dcN_8 dcg_418 :) ?_
        refine AW.icmp_ne (tgt := 60) (dcN_9 dcg_418 :) (by decide) (fun c8 => ?_) (fun c8 => ?_)
        · replace h := hF h c8
          refine AW.iload_n 2 (dcN_14 dcg_418 :) rfl ?_
          refine AW.bipush (dcN_15 dcg_418 :) (by decide) (by decide) ?_
          refine AW.icmp_lt (tgt := 80) (dcN_16 dcg_418 :) (by decide) (fun c9 => ?_) (fun c9 => ?_)
          · replace h := hT h c9
            refine AW.iconst (dcN_7 dcg_419 :) ?_
            exact AW.iret1 rfl (dcN_8 dcg_419 :) h rfl
          · replace h := hF h c9
            refine AW.iload_n 2 (dcN_0 dcg_419 :) rfl ?_
            refine AW.bipush (dcN_1 dcg_419 :) (by decide) (by decide) ?_
            refine AW.isub (dcN_2 dcg_419 :) ?_
            refine AW.aloadr_n 0 (dcN_3 dcg_419 :) rfl ?_
            refine AW.getR af_X11_72_0 sr_0_8 (dcN_4 dcg_419 :) ?_
            refine AW.getI af_X11_283_9 sr_9_4 (dcN_5 dcg_419 :) ?_
            refine AW.icmp_lt (tgt := 82) (dcN_6 dcg_419 :) (by decide) (fun c10 => ?_) (fun c10 => ?_)
            · replace h := hT h c10
              refine AW.aloadr_n 0 (dcN_9 dcg_419 :) rfl ?_
              refine AW.getR af_X11_72_0 sr_0_8 (dcN_10 dcg_419 :) ?_
              refine AW.getR af_X11_284_9 sr_9_14 (dcN_11 dcg_419 :) ?_
              refine AW.iload_n 2 (dcN_12 dcg_419 :) rfl ?_
              refine AW.bipush (dcN_13 dcg_419 :) (by decide) (by decide) ?_
              refine AW.isub (dcN_14 dcg_419 :) ?_
              obtain ⟨k11, h⟩ := hK h
              refine AW.iald kc_96 sk_96 k11 (dcN_15 dcg_419 :) ?_
              exact AW.iret1 rfl (dcN_16 dcg_419 :) h rfl
            · replace h := hF h c10
              refine AW.iconst (dcN_7 dcg_419 :) ?_
              exact AW.iret1 rfl (dcN_8 dcg_419 :) h rfl
        · replace h := hT h c8
          refine AW.aloadr_n 0 (dcN_10 dcg_418 :) rfl ?_
          refine AW.getR af_X11_72_0 sr_0_8 (dcN_11 dcg_418 :) ?_
          refine AW.getI af_X11_280_9 sr_9_16 (dcN_12 dcg_418 :) ?_
          exact AW.iret1 rfl (dcN_13 dcg_418 :) h rfl
      · replace h := hT h c7
        refine AW.aloadr_n 0 (dcN_3 dcg_418 :) rfl ?_
        refine AW.getR af_X11_72_0 sr_0_8 (dcN_4 dcg_418 :) ?_
        refine AW.getI af_X11_277_9 sr_9_15 (dcN_5 dcg_418 :) ?_
        exact AW.iret1 rfl (dcN_6 dcg_418 :) h rfl
    · replace h := hF h c2
      refine AW.iconst (dcN_10 dcg_417 :) ?_
      exact AW.iret1 rfl (dcN_11 dcg_417 :) h rfl
theorem X_more_ok {z : AZ} {x1 : Int} {x2 : Int} {x3 : Int} {g : AG} {r : Int × AG} (h : X_more x1 x2 x3 g = some r) : AMf z yX11_more cX11_more 5 (some .int) 14 [rv z 0, iv x1, iv x2, iv x3] g r := by
  intro d hdd
  refine AM.of (by decide +kernel) (Nat.le_of_ble_eq_true rfl) ?_
  show AW z (RX11, cX11_more, 5, (some .int)) d (QD (some .int) r) 0 [(0, rv z 0), (1, iv x1), (2, iv x2), (3, iv x3)] [] g
  unfold X_more at h
  refine AW.iload_n 1 (dcN_0 dcg_422 :) rfl ?_
  refine AW.iconst (dcN_1 dcg_422 :) ?_
  refine AW.iconst (dcN_2 dcg_422 :) ?_
  refine AW.callSi (As := [iv x1, iv 1, iv 3]) (st := []) X_within_ok cq_X11_99 st_X11_within (Nat.le_trans (by decide) hdd) rfl (dcN_3 dcg_422 :) rfl (Nat.le_of_ble_eq_true rfl) ?_
  refine AW.if_eq (tgt := 20) (dcN_4 dcg_422 :) (by decide) (fun c1 => ?_) (fun c1 => ?_)
  · replace h := hT h c1
    refine AW.iconst (dcN_10 dcg_422 :) ?_
    exact AW.iret1 rfl (dcN_11 dcg_422 :) h rfl
  · replace h := hF h c1
    refine AW.iload_n 1 (dcN_5 dcg_422 :) rfl ?_
    refine AW.aloadr_n 0 (dcN_6 dcg_422 :) rfl ?_
    refine AW.getR af_X11_49_0 sr_0_5 (dcN_7 dcg_422 :) ?_
    refine AW.getI af_X11_103_6 sr_6_7 (dcN_8 dcg_422 :) ?_
    refine AW.icmp_le (tgt := 22) (dcN_9 dcg_422 :) (by decide) (fun c2 => ?_) (fun c2 => ?_)
    · replace h := hT h c2
      refine AW.iload_n 2 (dcN_12 dcg_422 :) rfl ?_
      refine AW.callSi (As := [iv x2]) (st := []) X_isBerths_ok cq_X11_143 st_X11_isBerths (Nat.le_trans (by decide) hdd) rfl (dcN_13 dcg_422 :) rfl (Nat.le_of_ble_eq_true rfl) ?_
      refine AW.if_eq (tgt := 36) (dcN_14 dcg_422 :) (by decide) (fun c3 => ?_) (fun c3 => ?_)
      · replace h := hT h c3
        refine AW.iconst (dcN_1 dcg_423 :) ?_
        exact AW.iret1 rfl (dcN_2 dcg_423 :) h rfl
      · replace h := hF h c3
        refine AW.iload_n 3 (dcN_15 dcg_422 :) rfl ?_
        refine AW.callSi (As := [iv x3]) (st := []) X_isPoint_ok cq_X11_111 st_X11_isPoint (Nat.le_trans (by decide) hdd) rfl (dcN_16 dcg_422 :) rfl (Nat.le_of_ble_eq_true rfl) ?_
        refine AW.if_ne (tgt := 38) (dcN_0 dcg_423 :) (by decide) (fun c4 => ?_) (fun c4 => ?_)
        · replace h := hF h c4
          refine AW.aloadr_n 0 (dcN_3 dcg_423 :) rfl ?_
          refine AW.iload_n 1 (dcN_4 dcg_423 :) rfl ?_
          obtain ⟨r5, e6, h⟩ := hC h
          refine AW.callVv (As := [iv x1]) (st := []) (X_hireFirst_ok e6) cq_X11_271 cr_0_X11_hireFirst (Nat.le_trans (by decide) hdd) rfl (dcN_5 dcg_423 :) rfl (Nat.le_of_ble_eq_true rfl) ?_
          refine AW.aloadr_n 0 (dcN_6 dcg_423 :) rfl ?_
          refine AW.getR af_X11_72_0 sr_0_8 (dcN_7 dcg_423 :) ?_
          refine AW.iload_n 1 (dcN_8 dcg_423 :) rfl ?_
          refine AW.iload_n 2 (dcN_9 dcg_423 :) rfl ?_
          refine AW.iload_n 3 (dcN_10 dcg_423 :) rfl ?_
          obtain ⟨r7, e8, h⟩ := hC h
          refine AW.callVv (As := [iv x1, iv x2, iv x3]) (st := []) (Bookings_hire_ok e8) cq_X11_293 cr_9_X1_hire (Nat.le_trans (by decide) hdd) rfl (dcN_11 dcg_423 :) rfl (Nat.le_of_ble_eq_true rfl) ?_
          refine AW.aloadr_n 0 (dcN_12 dcg_423 :) rfl ?_
          refine AW.getR af_X11_72_0 sr_0_8 (dcN_13 dcg_423 :) ?_
          refine AW.iload_n 1 (dcN_14 dcg_423 :) rfl ?_
          obtain ⟨r9, e10, h⟩ := hC h
          refine AW.callVv (As := [iv x1]) (st := []) (Bookings_giveBest_ok e10) cq_X11_274 cr_9_X1_giveBest (Nat.le_trans (by decide) hdd) rfl (dcN_15 dcg_423 :) rfl (Nat.le_of_ble_eq_true rfl) ?_
          refine AW.aloadr_n 0 (dcN_16 dcg_423 :) rfl ?_
          refine AW.getR af_X11_72_0 sr_0_8 (dcN_17 dcg_423 :) ?_
          refine AW.getI af_X11_277_9 sr_9_15 (dcN_0 dcg_424 :) ?_
          refine AW.istore (lv1 := [(4, iv (r9.2 9 15)), (0, rv z 0), (1, iv x1), (2, iv x2), (3, iv x3)]) (dcN_1 dcg_424 :) (by decide) rfl ?_
          refine AW.aloadr_n 1 (dcN_2 dcg_424 :) rfl ?_
          refine AW.getR af_X11_72_0 sr_0_8 (dcN_3 dcg_424 :) ?_
          refine AW.iload_n 2 (dcN_4 dcg_424 :) rfl ?_
          refine AW.iconst (dcN_5 dcg_424 :) ?_
          refine AW.iadd (dcN_6 dcg_424 :) ?_
          obtain ⟨r11, e12, h⟩ := hC h
          refine AW.callVv (As := [iv (x1 + 1)]) (st := []) (Bookings_giveBest_ok e12) cq_X11_274 cr_9_X1_giveBest (Nat.le_trans (by decide) hdd) rfl (dcN_7 dcg_424 :) rfl (Nat.le_of_ble_eq_true rfl) ?_
          refine AW.aloadr_n 1 (dcN_8 dcg_424 :) rfl ?_
          refine AW.getR af_X11_72_0 sr_0_8 (dcN_9 dcg_424 :) ?_
          refine AW.getI af_X11_277_9 sr_9_15 (dcN_10 dcg_424 :) ?_
          refine AW.iload 0 (dcN_11 dcg_424 :) rfl ?_
          refine AW.isub (dcN_12 dcg_424 :) ?_
          exact AW.iret1 rfl (dcN_13 dcg_424 :) h rfl
        · replace h := hT h c4
          refine AW.iconst (dcN_1 dcg_423 :) ?_
          exact AW.iret1 rfl (dcN_2 dcg_423 :) h rfl
    · replace h := hF h c2
      refine AW.iconst (dcN_10 dcg_422 :) ?_
      exact AW.iret1 rfl (dcN_11 dcg_422 :) h rfl
set_option synthInstance.maxHeartbeats 2000000 in
theorem Yard_othersInDock_b_ok {z : AZ} {d : Nat} (hdd : 0 ≤ d) {x1 : Int} {g : AG} : ∀ (x2 : Int) (x3 : Int) (r : Int), Yard_othersInDock_b x1 g x2 x3 = some r → AW z (RX10, cX10_othersInDock, 4, (some .int)) d (QD (some .int) (r, g)) 4 [(0, rv z 10), (1, iv x1), (2, iv x2), (3, iv x3)] [] g := by
  refine Yard_othersInDock_b.partial_correctness x1 g (fun x2 x3 r => AW z (RX10, cX10_othersInDock, 4, (some .int)) d (QD (some .int) (r, g)) 4 [(0, rv z 10), (1, iv x1), (2, iv x2), (3, iv x3)] [] g) ?_
  intro fb9 ih x2 x3 r h
  refine AW.iload_n 3 (dcN_4 dcg_310 :) rfl ?_
  refine AW.bipush (dcN_5 dcg_310 :) (by decide) (by decide) ?_
  refine AW.icmp_ge (tgt := 38) (dcN_6 dcg_310 :) (by decide) (fun c1 => ?_) (fun c1 => ?_)
  · replace h := hT h c1
    refine AW.iload_n 2 (dcN_11 dcg_311 :) rfl ?_
    exact AW.iret2 rfl dX10_othersInDock_39 h rfl
  · replace h := hF h c1
    refine AW.iload_n 2 (dcN_7 dcg_310 :) rfl ?_
    refine AW.iload_n 3 (dcN_8 dcg_310 :) rfl ?_
    refine AW.iload_n 1 (dcN_9 dcg_310 :) rfl ?_
    obtain ⟨r7, e8, h⟩ := hC h
    refine AW.join (tgt := 30) (lv1 := [(0, rv z 10), (1, iv x1), (3, iv x3)]) (st1 := [iv r7, iv x2]) (g1 := g) ?_ (fun J13 => ?_)
    · refine AW.iadd (dcN_7 dcg_311 :) ?_
      refine AW.istore_n (lv1 := [(2, iv (x2 + r7)), (0, rv z 10), (1, iv x1), (3, iv x3)]) (dcN_8 dcg_311 :) (by decide) rfl ?_
      refine AW.iinc (lv1 := [(3, iv (x3 + 1)), (2, iv (x2 + r7)), (0, rv z 10), (1, iv x1)]) 3 (dcN_9 dcg_311 :) rfl (by decide) rfl ?_
      refine AW.goto (tgt := 4) (dcN_10 dcg_311 :) (by decide) ?_
      refine AW.sub (lv1 := [(0, rv z 10), (1, iv x1), (2, iv (x2 + r7)), (3, iv (x3 + 1))]) [2, 3, 1, 0] rfl ?_
      exact ih _ _ _ h
    replace h := e8
    refine AW.icmp_eq (tgt := 29) (dcN_10 dcg_310 :) (by decide) (fun c2 => ?_) (fun c2 => ?_)
    · replace h := hT h c2
      refine AW.iconst (dcN_6 dcg_311 :) ?_
      refine AW.sub (lv1 := [(0, rv z 10), (1, iv x1), (3, iv x3)]) [0, 1, 3] rfl ?_
      cases h
      exact J13
    · replace h := hF h c2
      refine AW.aloadr_n 0 (dcN_11 dcg_310 :) rfl ?_
      refine AW.getR af_X10_15_10 sr_10_1 (dcN_0 dcg_311 :) ?_
      refine AW.iload_n 3 (dcN_1 dcg_311 :) rfl ?_
      obtain ⟨k3, h⟩ := hK h
      refine AW.iald kc_98 sk_98 k3 (dcN_2 dcg_311 :) ?_
      obtain ⟨t4, e5, h⟩ := hBe h
      refine AW.join (tgt := 30) (lv1 := [(0, rv z 10), (1, iv x1), (2, iv x2), (3, iv x3)]) (st1 := [iv t4, iv x2]) (g1 := g) ?_ (fun J22 => ?_)
      · refine AW.sub (lv1 := [(0, rv z 10), (1, iv x1), (3, iv x3)]) [0, 1, 3] rfl ?_
        cases h
        exact J13
      refine AW.if_le (tgt := 29) (dcN_3 dcg_311 :) (by decide) (fun c6 => ?_) (fun c6 => ?_)
      · refine AW.iconst (dcN_6 dcg_311 :) ?_
        exact AW.val (e5.trans (if_pos c6)) J22
      · refine AW.iconst (dcN_4 dcg_311 :) ?_
        refine AW.goto (tgt := 30) (dcN_5 dcg_311 :) (by decide) ?_
        exact AW.val (e5.trans (if_neg c6)) J22
theorem Yard_othersInDock_ok {z : AZ} {x1 : Int} {g : AG} {r : Int} (h : Yard_othersInDock x1 g = some r) : AMf z yX10_othersInDock cX10_othersInDock 4 (some .int) 0 [rv z 10, iv x1] g (r, g) := by
  intro d hdd
  refine AM.of (by decide +kernel) (Nat.le_of_ble_eq_true rfl) ?_
  show AW z (RX10, cX10_othersInDock, 4, (some .int)) d (QD (some .int) (r, g)) 0 [(0, rv z 10), (1, iv x1)] [] g
  unfold Yard_othersInDock at h
  refine AW.iconst (dcN_0 dcg_310 :) ?_
  refine AW.istore_n (lv1 := [(2, iv 0), (0, rv z 10), (1, iv x1)]) (dcN_1 dcg_310 :) (by decide) rfl ?_
  refine AW.iconst (dcN_2 dcg_310 :) ?_
  refine AW.istore_n (lv1 := [(3, iv 0), (2, iv 0), (0, rv z 10), (1, iv x1)]) (dcN_3 dcg_310 :) (by decide) rfl ?_
  refine AW.sub (lv1 := [(0, rv z 10), (1, iv x1), (2, iv 0), (3, iv 0)]) [2, 3, 1, 0] rfl ?_
  exact Yard_othersInDock_b_ok hdd _ _ _ h
theorem Yard_tellDock_ok {z : AZ} {x1 : Int} {x2 : Int} {x3 : Int} {g : AG} {r : Int × AG} (h : Yard_tellDock x1 x2 x3 g = some r) : AMf z yX10_tellDock cX10_tellDock 4 (some .boolean) 1 [rv z 10, iv x1, iv x2, iv x3] g r := by
  intro d hdd
  refine AM.of (by decide +kernel) (Nat.le_of_ble_eq_true rfl) ?_
  show AW z (RX10, cX10_tellDock, 4, (some .boolean)) d (QD (some .boolean) r) 0 [(0, rv z 10), (1, iv x1), (2, iv x2), (3, iv x3)] [] g
  unfold Yard_tellDock at h
  refine AW.aloadr_n 0 (dcN_0 dcg_308 :) rfl ?_
  refine AW.iload_n 1 (dcN_1 dcg_308 :) rfl ?_
  obtain ⟨r1, e2, h⟩ := hC h
  refine AW.callVi (As := [iv x1]) (st := []) (Yard_othersInDock_ok e2) cq_X10_42 cr_10_X10_othersInDock (Nat.le_trans (by decide) hdd) rfl (dcN_2 dcg_308 :) rfl (Nat.le_of_ble_eq_true rfl) ?_
  refine AW.bipush (dcN_3 dcg_308 :) (by decide) (by decide) ?_
  refine AW.icmp_lt (tgt := 12) (dcN_4 dcg_308 :) (by decide) (fun c3 => ?_) (fun c3 => ?_)
  · replace h := hT h c3
    refine AW.aloadr_n 0 (dcN_7 dcg_308 :) rfl ?_
    refine AW.getR af_X10_9_10 sr_10_0 (dcN_8 dcg_308 :) ?_
    refine AW.iload_n 1 (dcN_9 dcg_308 :) rfl ?_
    refine AW.iload_n 2 (dcN_10 dcg_308 :) rfl ?_
    obtain ⟨k4, h⟩ := hK h
    obtain ⟨g5, e6, h⟩ := hBe h
    refine AW.iast kc_97 sk_97 k4 (dcN_11 dcg_308 :) e6 ?_
    refine AW.aloadr_n 0 (dcN_0 dcg_309 :) rfl ?_
    refine AW.getR af_X10_15_10 sr_10_1 (dcN_1 dcg_309 :) ?_
    refine AW.iload_n 1 (dcN_2 dcg_309 :) rfl ?_
    refine AW.iload_n 3 (dcN_3 dcg_309 :) rfl ?_
    obtain ⟨g7, e8, h⟩ := hBe h
    refine AW.iast kc_98 sk_98 k4 (dcN_4 dcg_309 :) e8 ?_
    refine AW.iconst (dcN_5 dcg_309 :) ?_
    exact AW.zret1 rfl (Or.inr rfl) (dcN_6 dcg_309 :) h rfl
  · replace h := hF h c3
    refine AW.iconst (dcN_5 dcg_308 :) ?_
    exact AW.zret1 rfl (Or.inl rfl) (dcN_6 dcg_308 :) h rfl
theorem X_gas_ok {z : AZ} {x1 : Int} {x2 : Int} {x3 : Int} {g : AG} {r : Int × AG} (h : X_gas x1 x2 x3 g = some r) : AMf z yX11_gas cX11_gas 4 (some .boolean) 2 [rv z 0, iv x1, iv x2, iv x3] g r := by
  intro d hdd
  refine AM.of (by decide +kernel) (Nat.le_of_ble_eq_true rfl) ?_
  show AW z (RX11, cX11_gas, 4, (some .boolean)) d (QD (some .boolean) r) 0 [(0, rv z 0), (1, iv x1), (2, iv x2), (3, iv x3)] [] g
  unfold X_gas at h
  refine AW.aloadr_n 0 (dcN_0 dcg_425 :) rfl ?_
  refine AW.iload_n 1 (dcN_1 dcg_425 :) rfl ?_
  refine AW.callVi (As := [iv x1]) (st := []) X_isBoat_ok cq_X11_107 cr_0_X11_isBoat (Nat.le_trans (by decide) hdd) rfl (dcN_2 dcg_425 :) rfl (Nat.le_of_ble_eq_true rfl) ?_
  refine AW.if_eq (tgt := 29) (dcN_3 dcg_425 :) (by decide) (fun c1 => ?_) (fun c1 => ?_)
  · replace h := hT h c1
    refine AW.iconst (dcN_2 dcg_426 :) ?_
    exact AW.zret1 rfl (Or.inl rfl) (dcN_3 dcg_426 :) h rfl
  · replace h := hF h c1
    refine AW.iload_n 2 (dcN_4 dcg_425 :) rfl ?_
    refine AW.iconst (dcN_5 dcg_425 :) ?_
    refine AW.sipush (dcN_6 dcg_425 :) (by decide) (by decide) ?_
    refine AW.callSi (As := [iv x2, iv 0, iv 999]) (st := []) X_within_ok cq_X11_99 st_X11_within (Nat.le_trans (by decide) hdd) rfl (dcN_7 dcg_425 :) rfl (Nat.le_of_ble_eq_true rfl) ?_
    refine AW.if_eq (tgt := 29) (dcN_8 dcg_425 :) (by decide) (fun c2 => ?_) (fun c2 => ?_)
    · replace h := hT h c2
      refine AW.iconst (dcN_2 dcg_426 :) ?_
      exact AW.zret1 rfl (Or.inl rfl) (dcN_3 dcg_426 :) h rfl
    · replace h := hF h c2
      refine AW.iload_n 3 (dcN_9 dcg_425 :) rfl ?_
      refine AW.iconst (dcN_10 dcg_425 :) ?_
      refine AW.bipush (dcN_11 dcg_425 :) (by decide) (by decide) ?_
      refine AW.callSi (As := [iv x3, iv 0, iv 60]) (st := []) X_within_ok cq_X11_99 st_X11_within (Nat.le_trans (by decide) hdd) rfl (dcN_0 dcg_426 :) rfl (Nat.le_of_ble_eq_true rfl) ?_
      refine AW.if_ne (tgt := 31) (dcN_1 dcg_426 :) (by decide) (fun c3 => ?_) (fun c3 => ?_)
      · replace h := hF h c3
        refine AW.aloadr_n 0 (dcN_4 dcg_426 :) rfl ?_
        refine AW.getR af_X11_79_0 sr_0_9 (dcN_5 dcg_426 :) ?_
        refine AW.iload_n 1 (dcN_6 dcg_426 :) rfl ?_
        refine AW.iload_n 2 (dcN_7 dcg_426 :) rfl ?_
        refine AW.iload_n 3 (dcN_8 dcg_426 :) rfl ?_
        obtain ⟨r4, e5, h⟩ := hC h
        refine AW.callVi (As := [iv x1, iv x2, iv x3]) (st := []) (Yard_tellDock_ok e5) cq_X11_296 cr_10_X10_tellDock (Nat.le_trans (by decide) hdd) rfl (dcN_9 dcg_426 :) rfl (Nat.le_of_ble_eq_true rfl) ?_
        obtain ⟨k6, h⟩ := hK h
        exact AW.zret1 rfl k6 (dcN_10 dcg_426 :) h rfl
      · replace h := hT h c3
        refine AW.iconst (dcN_2 dcg_426 :) ?_
        exact AW.zret1 rfl (Or.inl rfl) (dcN_3 dcg_426 :) h rfl
theorem Yard_isBetter_ok {z : AZ} {x1 : Int} {x2 : Int} {x3 : Int} {g : AG} {r : Int} (h : Yard_isBetter x1 x2 x3 g = some r) : AMf z yX10_isBetter cX10_isBetter 4 (some .boolean) 0 [rv z 10, iv x1, iv x2, iv x3] g (r, g) := by
  intro d hdd
  refine AM.of (by decide +kernel) (Nat.le_of_ble_eq_true rfl) ?_
  show AW z (RX10, cX10_isBetter, 4, (some .boolean)) d (QD (some .boolean) (r, g)) 0 [(0, rv z 10), (1, iv x1), (2, iv x2), (3, iv x3)] [] g
  unfold Yard_isBetter at h
  refine AW.aloadr_n 0 (dcN_0 dcg_322 :) rfl ?_
  refine AW.getR af_X10_27_10 sr_10_6 (dcN_1 dcg_322 :) ?_
  refine AW.iload_n 1 (dcN_2 dcg_322 :) rfl ?_
  obtain ⟨k1, h⟩ := hK h
  refine AW.iald kc_102 sk_102 k1 (dcN_3 dcg_322 :) ?_
  refine AW.iconst (dcN_4 dcg_322 :) ?_
  obtain ⟨r8, e9, h⟩ := hC h
  refine AW.join (tgt := 45) (lv1 := []) (st1 := [iv r8]) (g1 := g) ?_ (fun J7 => ?_)
  · obtain ⟨k10, h⟩ := hK h
    exact AW.zret2 rfl k10 (dcN_3 dcg_324 :) h rfl
  replace h := e9
  refine AW.icmp_eq (tgt := 40) (dcN_5 dcg_322 :) (by decide) (fun c2 => ?_) (fun c2 => ?_)
  · replace h := hT h c2
    refine AW.iconst (dcN_0 dcg_324 :) ?_
    refine AW.goto (tgt := 45) (dcN_1 dcg_324 :) (by decide) ?_
    refine AW.sub (lv1 := []) [] rfl ?_
    cases h
    exact J7
  · replace h := hF h c2
    refine AW.iload_n 2 (dcN_6 dcg_322 :) rfl ?_
    refine AW.aloadr_n 0 (dcN_7 dcg_322 :) rfl ?_
    refine AW.getR af_X10_21_10 sr_10_4 (dcN_8 dcg_322 :) ?_
    refine AW.iload_n 1 (dcN_9 dcg_322 :) rfl ?_
    refine AW.iald kc_100 sk_100 k1 (dcN_10 dcg_322 :) ?_
    refine AW.icmp_lt (tgt := 40) (dcN_11 dcg_322 :) (by decide) (fun c3 => ?_) (fun c3 => ?_)
    · replace h := hT h c3
      refine AW.iconst (dcN_0 dcg_324 :) ?_
      refine AW.goto (tgt := 45) (dcN_1 dcg_324 :) (by decide) ?_
      refine AW.sub (lv1 := []) [] rfl ?_
      cases h
      exact J7
    · replace h := hF h c3
      refine AW.iload_n 2 (dcN_0 dcg_323 :) rfl ?_
      refine AW.aloadr_n 0 (dcN_1 dcg_323 :) rfl ?_
      refine AW.getR af_X10_21_10 sr_10_4 (dcN_2 dcg_323 :) ?_
      refine AW.iload_n 1 (dcN_3 dcg_323 :) rfl ?_
      refine AW.iald kc_100 sk_100 k1 (dcN_4 dcg_323 :) ?_
      refine AW.icmp_ne (tgt := 44) (dcN_5 dcg_323 :) (by decide) (fun c4 => ?_) (fun c4 => ?_)
      · replace h := hF h c4
        refine AW.iconst (dcN_2 dcg_324 :) ?_
        refine AW.sub (lv1 := []) [] rfl ?_
        cases h
        exact J7
      · replace h := hT h c4
        refine AW.iload_n 3 (dcN_6 dcg_323 :) rfl ?_
        refine AW.aloadr_n 0 (dcN_7 dcg_323 :) rfl ?_
        refine AW.getR af_X10_24_10 sr_10_5 (dcN_8 dcg_323 :) ?_
        refine AW.iload_n 1 (dcN_9 dcg_323 :) rfl ?_
        refine AW.iald kc_101 sk_101 k1 (dcN_10 dcg_323 :) ?_
        obtain ⟨t5, e6, h⟩ := hBe h
        refine AW.join (tgt := 45) (lv1 := [(0, rv z 10), (1, iv x1), (2, iv x2), (3, iv x3)]) (st1 := [iv t5]) (g1 := g) ?_ (fun J37 => ?_)
        · refine AW.sub (lv1 := []) [] rfl ?_
          cases h
          exact J7
        refine AW.icmp_ge (tgt := 44) (dcN_11 dcg_323 :) (by decide) (fun c7 => ?_) (fun c7 => ?_)
        · refine AW.iconst (dcN_2 dcg_324 :) ?_
          exact AW.val (e6.trans (if_pos c7)) J37
        · refine AW.iconst (dcN_0 dcg_324 :) ?_
          refine AW.goto (tgt := 45) (dcN_1 dcg_324 :) (by decide) ?_
          exact AW.val (e6.trans (if_neg c7)) J37
set_option synthInstance.maxHeartbeats 2000000 in
theorem Yard_chooseNext_b_ok {z : AZ} {d : Nat} (hdd : 1 ≤ d) {x1 : Int} : ∀ (tag : Nat) (x2 : Int) (x3 : Int) (g : AG) (r : Int × AG), Yard_chooseNext_b x1 tag x2 x3 g = some r → (tag = 1 → AW z (RX10, cX10_chooseNext, 7, none) d (QD none r) 4 [(0, rv z 10), (1, iv x1), (2, iv x2), (3, iv x3)] [] g) ∧ (tag = 2 → AW z (RX10, cX10_chooseNext, 7, none) d (QD none r) 53 [(0, rv z 10), (1, iv x1), (2, iv x2), (3, iv x3)] [] g) := by
  refine Yard_chooseNext_b.partial_correctness x1 (fun tag x2 x3 g r => (tag = 1 → AW z (RX10, cX10_chooseNext, 7, none) d (QD none r) 4 [(0, rv z 10), (1, iv x1), (2, iv x2), (3, iv x3)] [] g) ∧ (tag = 2 → AW z (RX10, cX10_chooseNext, 7, none) d (QD none r) 53 [(0, rv z 10), (1, iv x1), (2, iv x2), (3, iv x3)] [] g)) ?_
  intro fb9 ih tag x2 x3 g r h
  refine ⟨fun h9 => ?_, fun h9 => ?_⟩
  · subst h9
    replace h := hT h rfl
    refine AW.iload_n 3 (dcN_4 dcg_316 :) rfl ?_
    refine AW.aloadr_n 0 (dcN_5 dcg_316 :) rfl ?_
    refine AW.getI af_X10_46_10 sr_10_2 (dcN_6 dcg_316 :) ?_
    refine AW.icmp_ge (tgt := 44) (dcN_7 dcg_316 :) (by decide) (fun c1 => ?_) (fun c1 => ?_)
    · replace h := hT h c1
      refine AW.aloadr_n 0 (dcN_6 dcg_317 :) rfl ?_
      refine AW.getR af_X10_27_10 sr_10_6 (dcN_7 dcg_317 :) ?_
      refine AW.iload_n 1 (dcN_8 dcg_317 :) rfl ?_
      refine AW.iconst (dcN_9 dcg_317 :) ?_
      obtain ⟨k2, h⟩ := hK h
      obtain ⟨g3, e4, h⟩ := hBe h
      refine AW.iast kc_102 sk_102 k2 (dcN_10 dcg_317 :) e4 ?_
      refine AW.iconst (dcN_11 dcg_317 :) ?_
      refine AW.istore_n (lv1 := [(3, iv 0), (0, rv z 10), (1, iv x1), (2, iv x2)]) (dcN_12 dcg_317 :) (by decide) rfl ?_
      refine AW.sub (lv1 := [(0, rv z 10), (1, iv x1), (2, iv x2), (3, iv 0)]) [1, 2, 3, 0] rfl ?_
      exact (ih _ _ _ _ _ h).2 rfl
    · replace h := hF h c1
      refine AW.iload_n 2 (dcN_8 dcg_316 :) rfl ?_
      refine AW.iload_n 1 (dcN_9 dcg_316 :) rfl ?_
      refine AW.iload_n 3 (dcN_10 dcg_316 :) rfl ?_
      refine AW.ishr (dcN_11 dcg_316 :) ?_
      refine AW.iconst (dcN_12 dcg_316 :) ?_
      refine AW.iand (dcN_13 dcg_316 :) ?_
      obtain ⟨r8, e9, h⟩ := hC h
      refine AW.join (tgt := 36) (lv1 := [(0, rv z 10), (1, iv x1), (3, iv x3)]) (st1 := [iv r8.1, iv x2]) (g1 := r8.2) ?_ (fun J18 => ?_)
      · refine AW.iadd (dcN_2 dcg_317 :) ?_
        refine AW.istore_n (lv1 := [(2, iv (x2 + r8.1)), (0, rv z 10), (1, iv x1), (3, iv x3)]) (dcN_3 dcg_317 :) (by decide) rfl ?_
        refine AW.iinc (lv1 := [(3, iv (x3 + 1)), (2, iv (x2 + r8.1)), (0, rv z 10), (1, iv x1)]) 3 (dcN_4 dcg_317 :) rfl (by decide) rfl ?_
        refine AW.goto (tgt := 4) (dcN_5 dcg_317 :) (by decide) ?_
        refine AW.sub (lv1 := [(0, rv z 10), (1, iv x1), (2, iv (x2 + r8.1)), (3, iv (x3 + 1))]) [2, 3, 1, 0] rfl ?_
        exact (ih _ _ _ _ _ h).1 rfl
      replace h := e9
      refine AW.if_eq (tgt := 35) (dcN_14 dcg_316 :) (by decide) (fun c5 => ?_) (fun c5 => ?_)
      · replace h := hT h c5
        refine AW.iconst (dcN_1 dcg_317 :) ?_
        refine AW.sub (lv1 := [(0, rv z 10), (1, iv x1), (3, iv x3)]) [0, 1, 3] rfl ?_
        cases h
        exact J18
      · replace h := hF h c5
        refine AW.aloadr_n 0 (dcN_15 dcg_316 :) rfl ?_
        refine AW.getR af_X10_15_10 sr_10_1 (dcN_16 dcg_316 :) ?_
        refine AW.aloadr_n 0 (dcN_17 dcg_316 :) rfl ?_
        refine AW.getR af_X10_18_10 sr_10_3 (dcN_18 dcg_316 :) ?_
        refine AW.iload_n 3 (dcN_19 dcg_316 :) rfl ?_
        obtain ⟨k6, h⟩ := hK h
        refine AW.iald kc_99 sk_99 k6 (dcN_20 dcg_316 :) ?_
        obtain ⟨k7, h⟩ := hK h
        refine AW.iald kc_98 sk_98 k7 (dcN_21 dcg_316 :) ?_
        refine AW.goto (tgt := 36) (dcN_0 dcg_317 :) (by decide) ?_
        refine AW.sub (lv1 := [(0, rv z 10), (1, iv x1), (3, iv x3)]) [0, 1, 3] rfl ?_
        cases h
        exact J18
  · subst h9
    replace h := hF h (by decide)
    replace h := hT h rfl
    refine AW.iload_n 3 (dcN_13 dcg_317 :) rfl ?_
    refine AW.aloadr_n 0 (dcN_14 dcg_317 :) rfl ?_
    refine AW.getI af_X10_46_10 sr_10_2 (dcN_15 dcg_317 :) ?_
    refine AW.icmp_ge (tgt := 174) (dcN_16 dcg_317 :) (by decide) (fun c1 => ?_) (fun c1 => ?_)
    · replace h := hT h c1
      exact AW.vret1 rfl (dcN_8 dcg_321 :) h rfl
    · replace h := hF h c1
      refine AW.iload_n 1 (dcN_17 dcg_317 :) rfl ?_
      refine AW.iload_n 3 (dcN_18 dcg_317 :) rfl ?_
      refine AW.ishr (dcN_19 dcg_317 :) ?_
      refine AW.iconst (dcN_0 dcg_318 :) ?_
      refine AW.iand (dcN_1 dcg_318 :) ?_
      obtain ⟨r21, e22, h⟩ := hC h
      refine AW.join (tgt := 168) (lv1 := [(0, rv z 10), (1, iv x1), (2, iv x2), (3, iv x3)]) (st1 := []) (g1 := r21) ?_ (fun J66 => ?_)
      · refine AW.iinc (lv1 := [(3, iv (x3 + 1)), (0, rv z 10), (1, iv x1), (2, iv x2)]) 3 (dcN_6 dcg_321 :) rfl (by decide) rfl ?_
        refine AW.goto (tgt := 53) (dcN_7 dcg_321 :) (by decide) ?_
        refine AW.sub (lv1 := [(0, rv z 10), (1, iv x1), (2, iv x2), (3, iv (x3 + 1))]) [1, 2, 3, 0] rfl ?_
        exact (ih _ _ _ _ _ h).2 rfl
      replace h := e22
      refine AW.if_ne (tgt := 168) (dcN_2 dcg_318 :) (by decide) (fun c2 => ?_) (fun c2 => ?_)
      · replace h := hF h c2
        cases h
        exact J66
      · replace h := hT h c2
        refine AW.iload_n 2 (dcN_3 dcg_318 :) rfl ?_
        refine AW.aloadr_n 0 (dcN_4 dcg_318 :) rfl ?_
        refine AW.getR af_X10_15_10 sr_10_1 (dcN_5 dcg_318 :) ?_
        refine AW.aloadr_n 0 (dcN_6 dcg_318 :) rfl ?_
        refine AW.getR af_X10_18_10 sr_10_3 (dcN_7 dcg_318 :) ?_
        refine AW.iload_n 3 (dcN_8 dcg_318 :) rfl ?_
        obtain ⟨k3, h⟩ := hK h
        refine AW.iald kc_99 sk_99 k3 (dcN_9 dcg_318 :) ?_
        obtain ⟨k4, h⟩ := hK h
        refine AW.iald kc_98 sk_98 k4 (dcN_10 dcg_318 :) ?_
        refine AW.iadd (dcN_11 dcg_318 :) ?_
        refine AW.istore (lv1 := [(4, iv (x2 + (g 98 (ix (g 99 (ix x3)))))), (0, rv z 10), (1, iv x1), (2, iv x2), (3, iv x3)]) (dcN_12 dcg_318 :) (by decide) rfl ?_
        refine AW.aloadr_n 1 (dcN_13 dcg_318 :) rfl ?_
        refine AW.getR af_X10_21_10 sr_10_4 (dcN_14 dcg_318 :) ?_
        refine AW.iload_n 2 (dcN_15 dcg_318 :) rfl ?_
        refine AW.iconst (dcN_16 dcg_318 :) ?_
        refine AW.iload_n 4 (dcN_17 dcg_318 :) rfl ?_
        refine AW.ishl (dcN_18 dcg_318 :) ?_
        refine AW.ior (dcN_19 dcg_318 :) ?_
        obtain ⟨k5, h⟩ := hK h
        refine AW.iald kc_100 sk_100 k5 (dcN_20 dcg_318 :) ?_
        refine AW.iload 0 (dcN_21 dcg_318 :) rfl ?_
        refine AW.aloadr_n 1 (dcN_0 dcg_319 :) rfl ?_
        refine AW.getR af_X10_9_10 sr_10_0 (dcN_1 dcg_319 :) ?_
        refine AW.aloadr_n 1 (dcN_2 dcg_319 :) rfl ?_
        refine AW.getR af_X10_18_10 sr_10_3 (dcN_3 dcg_319 :) ?_
        refine AW.iload_n 4 (dcN_4 dcg_319 :) rfl ?_
        refine AW.iald kc_99 sk_99 k3 (dcN_5 dcg_319 :) ?_
        refine AW.iald kc_97 sk_97 k4 (dcN_6 dcg_319 :) ?_
        obtain ⟨t6, e7, h⟩ := hBe h
        refine AW.join (tgt := 115) (lv1 := [(4, iv (x2 + (g 98 (ix (g 99 (ix x3)))))), (0, rv z 10), (1, iv x1), (2, iv x2), (3, iv x3)]) (st1 := [iv t6, iv (g 100 (ix (orI x1 (shlI 1 x3))))]) (g1 := g) ?_ (fun J107 => ?_)
        · refine AW.iadd (dcN_11 dcg_319 :) ?_
          refine AW.istore (lv1 := [(5, iv ((g 100 (ix (orI x1 (shlI 1 x3)))) + t6)), (4, iv (x2 + (g 98 (ix (g 99 (ix x3)))))), (0, rv z 10), (1, iv x1), (2, iv x2), (3, iv x3)]) (dcN_12 dcg_319 :) (by decide) rfl ?_
          refine AW.aloadr_n 2 (dcN_13 dcg_319 :) rfl ?_
          refine AW.getR af_X10_24_10 sr_10_5 (dcN_14 dcg_319 :) ?_
          refine AW.iload_n 3 (dcN_15 dcg_319 :) rfl ?_
          refine AW.iconst (dcN_16 dcg_319 :) ?_
          refine AW.iload_n 5 (dcN_17 dcg_319 :) rfl ?_
          refine AW.ishl (dcN_18 dcg_319 :) ?_
          refine AW.ior (dcN_19 dcg_319 :) ?_
          refine AW.iald kc_101 sk_101 k5 (dcN_20 dcg_319 :) ?_
          refine AW.iload 1 (dcN_0 dcg_320 :) rfl ?_
          refine AW.iadd (dcN_1 dcg_320 :) ?_
          obtain ⟨t8, e9, h⟩ := hBe h
          refine AW.val e9 ?_
          refine AW.istore (lv1 := [(6, iv t8), (5, iv ((g 100 (ix (orI x1 (shlI 1 x3)))) + t6)), (4, iv (x2 + (g 98 (ix (g 99 (ix x3)))))), (0, rv z 10), (1, iv x1), (2, iv x2), (3, iv x3)]) (dcN_2 dcg_320 :) (by decide) rfl ?_
          refine AW.aloadr_n 3 (dcN_3 dcg_320 :) rfl ?_
          refine AW.iload_n 4 (dcN_4 dcg_320 :) rfl ?_
          refine AW.iload 1 (dcN_5 dcg_320 :) rfl ?_
          refine AW.iload 0 (dcN_6 dcg_320 :) rfl ?_
          obtain ⟨r10, e11, h⟩ := hC h
          refine AW.callVi (As := [iv x1, iv ((g 100 (ix (orI x1 (shlI 1 x3)))) + t6), iv t8]) (st := []) (Yard_isBetter_ok e11) cq_X10_54 cr_10_X10_isBetter (Nat.le_trans (by decide) hdd) rfl (dcN_7 dcg_320 :) rfl (Nat.le_of_ble_eq_true rfl) ?_
          refine AW.if_eq (tgt := 168) (dcN_8 dcg_320 :) (by decide) (fun c12 => ?_) (fun c12 => ?_)
          · replace h := hT h c12
            refine AW.sub (lv1 := [(0, rv z 10), (1, iv x1), (2, iv x2), (3, iv x3)]) [3, 4, 5, 6] rfl ?_
            cases h
            exact J66
          · replace h := hF h c12
            refine AW.aloadr_n 3 (dcN_9 dcg_320 :) rfl ?_
            refine AW.getR af_X10_21_10 sr_10_4 (dcN_10 dcg_320 :) ?_
            refine AW.iload_n 4 (dcN_11 dcg_320 :) rfl ?_
            refine AW.iload 1 (dcN_12 dcg_320 :) rfl ?_
            obtain ⟨k13, h⟩ := hK h
            obtain ⟨g14, e15, h⟩ := hBe h
            refine AW.iast kc_100 sk_100 k13 (dcN_13 dcg_320 :) e15 ?_
            refine AW.aloadr_n 3 (dcN_14 dcg_320 :) rfl ?_
            refine AW.getR af_X10_24_10 sr_10_5 (dcN_15 dcg_320 :) ?_
            refine AW.iload_n 4 (dcN_16 dcg_320 :) rfl ?_
            refine AW.iload 0 (dcN_17 dcg_320 :) rfl ?_
            obtain ⟨g16, e17, h⟩ := hBe h
            refine AW.iast kc_101 sk_101 k13 (dcN_0 dcg_321 :) e17 ?_
            refine AW.aloadr_n 3 (dcN_1 dcg_321 :) rfl ?_
            refine AW.getR af_X10_27_10 sr_10_6 (dcN_2 dcg_321 :) ?_
            refine AW.iload_n 4 (dcN_3 dcg_321 :) rfl ?_
            refine AW.iload_n 6 (dcN_4 dcg_321 :) rfl ?_
            obtain ⟨g18, e19, h⟩ := hBe h
            refine AW.iast kc_102 sk_102 k13 (dcN_5 dcg_321 :) e19 ?_
            refine AW.sub (lv1 := [(0, rv z 10), (1, iv x1), (2, iv x2), (3, iv x3)]) [3, 4, 5, 6] rfl ?_
            cases h
            exact J66
        refine AW.icmp_le (tgt := 114) (dcN_7 dcg_319 :) (by decide) (fun c20 => ?_) (fun c20 => ?_)
        · refine AW.iconst (dcN_10 dcg_319 :) ?_
          exact AW.val (e7.trans (if_pos c20)) J107
        · refine AW.iconst (dcN_8 dcg_319 :) ?_
          refine AW.goto (tgt := 115) (dcN_9 dcg_319 :) (by decide) ?_
          exact AW.val (e7.trans (if_neg c20)) J107
theorem Yard_chooseNext_ok {z : AZ} {x1 : Int} {g : AG} {r : Int × AG} (h : Yard_chooseNext x1 g = some r) : AMf z yX10_chooseNext cX10_chooseNext 7 none 1 [rv z 10, iv x1] g r := by
  intro d hdd
  refine AM.of (by decide +kernel) (Nat.le_of_ble_eq_true rfl) ?_
  show AW z (RX10, cX10_chooseNext, 7, none) d (QD none r) 0 [(0, rv z 10), (1, iv x1)] [] g
  unfold Yard_chooseNext at h
  refine AW.iconst (dcN_0 dcg_316 :) ?_
  refine AW.istore_n (lv1 := [(2, iv 0), (0, rv z 10), (1, iv x1)]) (dcN_1 dcg_316 :) (by decide) rfl ?_
  refine AW.iconst (dcN_2 dcg_316 :) ?_
  refine AW.istore_n (lv1 := [(3, iv 0), (2, iv 0), (0, rv z 10), (1, iv x1)]) (dcN_3 dcg_316 :) (by decide) rfl ?_
  refine AW.sub (lv1 := [(0, rv z 10), (1, iv x1), (2, iv 0), (3, iv 0)]) [2, 3, 1, 0] rfl ?_
  exact (Yard_chooseNext_b_ok hdd _ _ _ _ _ h).1 rfl
set_option synthInstance.maxHeartbeats 2000000 in
theorem Yard_orderDock_b_ok {z : AZ} {d : Nat} (hdd : 2 ≤ d) : ∀ (tag : Nat) (x1 : Int) (x2 : Int) (g : AG) (r : Int × AG), Yard_orderDock_b tag x1 x2 g = some r → (tag = 1 → AW z (RX10, cX10_orderDock, 3, none) d (QD none r) 7 [(0, rv z 10), (1, iv x1)] [] g) ∧ (tag = 2 → AW z (RX10, cX10_orderDock, 3, none) d (QD none r) 84 [(0, rv z 10), (2, iv x2)] [] g) := by
  refine Yard_orderDock_b.partial_correctness (fun tag x1 x2 g r => (tag = 1 → AW z (RX10, cX10_orderDock, 3, none) d (QD none r) 7 [(0, rv z 10), (1, iv x1)] [] g) ∧ (tag = 2 → AW z (RX10, cX10_orderDock, 3, none) d (QD none r) 84 [(0, rv z 10), (2, iv x2)] [] g)) ?_
  intro fb9 ih tag x1 x2 g r h
  refine ⟨fun h9 => ?_, fun h9 => ?_⟩
  · subst h9
    replace h := hT h rfl
    refine AW.iload_n 1 (dcN_5 dcg_312 :) rfl ?_
    refine AW.bipush (dcN_6 dcg_312 :) (by decide) (by decide) ?_
    refine AW.icmp_ge (tgt := 57) (dcN_7 dcg_312 :) (by decide) (fun c1 => ?_) (fun c1 => ?_)
    · replace h := hT h c1
      refine AW.iconst (dcN_13 dcg_313 :) ?_
      refine AW.aloadr_n 0 (dcN_14 dcg_313 :) rfl ?_
      refine AW.getI af_X10_46_10 sr_10_2 (dcN_15 dcg_313 :) ?_
      refine AW.ishl (dcN_16 dcg_313 :) ?_
      refine AW.iconst (dcN_17 dcg_313 :) ?_
      refine AW.isub (dcN_0 dcg_314 :) ?_
      refine AW.istore_n (lv1 := [(1, iv ((shlI 1 (g 10 2)) - 1)), (0, rv z 10)]) (dcN_1 dcg_314 :) (by decide) rfl ?_
      refine AW.aloadr_n 1 (dcN_2 dcg_314 :) rfl ?_
      refine AW.getR af_X10_21_10 sr_10_4 (dcN_3 dcg_314 :) ?_
      refine AW.iload_n 0 (dcN_4 dcg_314 :) rfl ?_
      refine AW.iconst (dcN_5 dcg_314 :) ?_
      obtain ⟨k2, h⟩ := hK h
      obtain ⟨g3, e4, h⟩ := hBe h
      refine AW.iast kc_100 sk_100 k2 (dcN_6 dcg_314 :) e4 ?_
      refine AW.aloadr_n 1 (dcN_7 dcg_314 :) rfl ?_
      refine AW.getR af_X10_24_10 sr_10_5 (dcN_8 dcg_314 :) ?_
      refine AW.iload_n 0 (dcN_9 dcg_314 :) rfl ?_
      refine AW.iconst (dcN_10 dcg_314 :) ?_
      obtain ⟨g5, e6, h⟩ := hBe h
      refine AW.iast kc_101 sk_101 k2 (dcN_11 dcg_314 :) e6 ?_
      refine AW.iload_n 0 (dcN_12 dcg_314 :) rfl ?_
      refine AW.iconst (dcN_13 dcg_314 :) ?_
      refine AW.isub (dcN_14 dcg_314 :) ?_
      refine AW.istore_n (lv1 := [(2, iv (((shlI 1 (g 10 2)) - 1) - 1)), (1, iv ((shlI 1 (g 10 2)) - 1)), (0, rv z 10)]) (dcN_15 dcg_314 :) (by decide) rfl ?_
      refine AW.sub (lv1 := [(0, rv z 10), (2, iv (((shlI 1 (g 10 2)) - 1) - 1))]) [2, 0] rfl ?_
      exact (ih _ _ _ _ _ h).2 rfl
    · replace h := hF h c1
      refine AW.aloadr_n 0 (dcN_8 dcg_312 :) rfl ?_
      refine AW.getR af_X10_15_10 sr_10_1 (dcN_9 dcg_312 :) ?_
      refine AW.iload_n 1 (dcN_10 dcg_312 :) rfl ?_
      obtain ⟨k7, h⟩ := hK h
      refine AW.iald kc_98 sk_98 k7 (dcN_11 dcg_312 :) ?_
      obtain ⟨r15, e16, h⟩ := hC h
      refine AW.join (tgt := 51) (lv1 := [(0, rv z 10), (1, iv x1)]) (st1 := []) (g1 := r15) ?_ (fun J19 => ?_)
      · refine AW.iinc (lv1 := [(1, iv (x1 + 1)), (0, rv z 10)]) 1 (dcN_11 dcg_313 :) rfl (by decide) rfl ?_
        refine AW.goto (tgt := 7) (dcN_12 dcg_313 :) (by decide) ?_
        refine AW.sub (lv1 := [(0, rv z 10), (1, iv (x1 + 1))]) [1, 0] rfl ?_
        exact (ih _ _ _ _ _ h).1 rfl
      replace h := e16
      refine AW.if_le (tgt := 51) (dcN_12 dcg_312 :) (by decide) (fun c8 => ?_) (fun c8 => ?_)
      · replace h := hT h c8
        cases h
        exact J19
      · replace h := hF h c8
        refine AW.aloadr_n 0 (dcN_13 dcg_312 :) rfl ?_
        refine AW.getI af_X10_46_10 sr_10_2 (dcN_14 dcg_312 :) ?_
        refine AW.bipush (dcN_15 dcg_312 :) (by decide) (by decide) ?_
        refine AW.icmp_ge (tgt := 51) (dcN_16 dcg_312 :) (by decide) (fun c9 => ?_) (fun c9 => ?_)
        · replace h := hT h c9
          cases h
          exact J19
        · replace h := hF h c9
          refine AW.aloadr_n 0 (dcN_17 dcg_312 :) rfl ?_
          refine AW.getR af_X10_18_10 sr_10_3 (dcN_0 dcg_313 :) ?_
          refine AW.aloadr_n 0 (dcN_1 dcg_313 :) rfl ?_
          refine AW.getI af_X10_46_10 sr_10_2 (dcN_2 dcg_313 :) ?_
          refine AW.iload_n 1 (dcN_3 dcg_313 :) rfl ?_
          obtain ⟨k10, h⟩ := hK h
          obtain ⟨g11, e12, h⟩ := hBe h
          refine AW.iast kc_99 sk_99 k10 (dcN_4 dcg_313 :) e12 ?_
          refine AW.aloadr_n 0 (dcN_5 dcg_313 :) rfl ?_
          refine AW.duprr (dcN_6 dcg_313 :) ?_
          refine AW.getI af_X10_46_10 sr_10_2 (dcN_7 dcg_313 :) ?_
          refine AW.iconst (dcN_8 dcg_313 :) ?_
          refine AW.iadd (dcN_9 dcg_313 :) ?_
          obtain ⟨g13, e14, h⟩ := hBe h
          refine AW.putI ap_X10_46_10 sr_10_2 (dcN_10 dcg_313 :) e14 ?_
          cases h
          exact J19
  · subst h9
    replace h := hF h (by decide)
    replace h := hT h rfl
    refine AW.iload_n 1 (dcN_16 dcg_314 :) rfl ?_
    refine AW.if_lt (tgt := 99) (dcN_17 dcg_314 :) (by decide) (fun c1 => ?_) (fun c1 => ?_)
    · replace h := hT h c1
      exact AW.vret1 rfl (dcN_1 dcg_315 :) h rfl
    · replace h := hF h c1
      refine AW.aloadr_n 0 (dcN_18 dcg_314 :) rfl ?_
      refine AW.iload_n 1 (dcN_19 dcg_314 :) rfl ?_
      obtain ⟨r2, e3, h⟩ := hC h
      refine AW.callVv (As := [iv x2]) (st := []) (Yard_chooseNext_ok e3) cq_X10_50 cr_10_X10_chooseNext (Nat.le_trans (by decide) hdd) rfl (dcN_20 dcg_314 :) rfl (Nat.le_of_ble_eq_true rfl) ?_
      refine AW.iinc (lv1 := [(2, iv (x2 + (-1))), (0, rv z 10)]) 1 (dcN_21 dcg_314 :) rfl (by decide) rfl ?_
      refine AW.goto (tgt := 84) (dcN_0 dcg_315 :) (by decide) ?_
      refine AW.sub (lv1 := [(0, rv z 10), (2, iv (x2 + (-1)))]) [1, 0] rfl ?_
      exact (ih _ _ _ _ _ h).2 rfl
theorem Yard_orderDock_ok {z : AZ} {g : AG} {r : Int × AG} (h : Yard_orderDock g = some r) : AMf z yX10_orderDock cX10_orderDock 3 none 2 [rv z 10] g r := by
  intro d hdd
  refine AM.of (by decide +kernel) (Nat.le_of_ble_eq_true rfl) ?_
  show AW z (RX10, cX10_orderDock, 3, none) d (QD none r) 0 [(0, rv z 10)] [] g
  unfold Yard_orderDock at h
  refine AW.aloadr_n 0 (dcN_0 dcg_312 :) rfl ?_
  refine AW.iconst (dcN_1 dcg_312 :) ?_
  obtain ⟨g1, e2, h⟩ := hBe h
  refine AW.putI ap_X10_46_10 sr_10_2 (dcN_2 dcg_312 :) e2 ?_
  refine AW.iconst (dcN_3 dcg_312 :) ?_
  refine AW.istore_n (lv1 := [(1, iv 0), (0, rv z 10)]) (dcN_4 dcg_312 :) (by decide) rfl ?_
  refine AW.sub (lv1 := [(0, rv z 10), (1, iv 0)]) [1, 0] rfl ?_
  exact (Yard_orderDock_b_ok hdd _ _ _ _ _ h).1 rfl
set_option synthInstance.maxHeartbeats 2000000 in
theorem Yard_dockedAt_b_ok {z : AZ} {d : Nat} (hdd : 1 ≤ d) {x1 : Int} {g : AG} : ∀ (x2 : Int) (x3 : Int) (r : Int), Yard_dockedAt_b x1 g x2 x3 = some r → AW z (RX10, cX10_dockedAt, 4, (some .int)) d (QD (some .int) (r, g)) 23 [(0, rv z 10), (1, iv x1), (2, iv x2), (3, iv x3)] [] g := by
  refine Yard_dockedAt_b.partial_correctness x1 g (fun x2 x3 r => AW z (RX10, cX10_dockedAt, 4, (some .int)) d (QD (some .int) (r, g)) 23 [(0, rv z 10), (1, iv x1), (2, iv x2), (3, iv x3)] [] g) ?_
  intro fb9 ih x2 x3 r h
  refine AW.iload_n 3 (dcN_16 dcg_325 :) rfl ?_
  refine AW.iload_n 1 (dcN_17 dcg_325 :) rfl ?_
  refine AW.bipush (dcN_18 dcg_325 :) (by decide) (by decide) ?_
  refine AW.isub (dcN_19 dcg_325 :) ?_
  refine AW.icmp_ge (tgt := 48) (dcN_20 dcg_325 :) (by decide) (fun c1 => ?_) (fun c1 => ?_)
  · replace h := hT h c1
    refine AW.aloadr_n 0 (dcN_10 dcg_326 :) rfl ?_
    refine AW.getR af_X10_18_10 sr_10_3 (dcN_11 dcg_326 :) ?_
    refine AW.aloadr_n 0 (dcN_12 dcg_326 :) rfl ?_
    refine AW.getR af_X10_27_10 sr_10_6 (dcN_13 dcg_326 :) ?_
    refine AW.iload_n 2 (dcN_14 dcg_326 :) rfl ?_
    obtain ⟨k2, h⟩ := hK h
    refine AW.iald kc_102 sk_102 k2 (dcN_15 dcg_326 :) ?_
    obtain ⟨k3, h⟩ := hK h
    refine AW.iald kc_99 sk_99 k3 (dcN_16 dcg_326 :) ?_
    exact AW.iret2 rfl (dcN_17 dcg_326 :) h rfl
  · replace h := hF h c1
    refine AW.iload_n 2 (dcN_21 dcg_325 :) rfl ?_
    refine AW.iconst (dcN_0 dcg_326 :) ?_
    refine AW.aloadr_n 0 (dcN_1 dcg_326 :) rfl ?_
    refine AW.getR af_X10_27_10 sr_10_6 (dcN_2 dcg_326 :) ?_
    refine AW.iload_n 2 (dcN_3 dcg_326 :) rfl ?_
    obtain ⟨k4, h⟩ := hK h
    refine AW.iald kc_102 sk_102 k4 (dcN_4 dcg_326 :) ?_
    refine AW.ishl (dcN_5 dcg_326 :) ?_
    refine AW.ior (dcN_6 dcg_326 :) ?_
    refine AW.istore_n (lv1 := [(2, iv (orI x2 (shlI 1 (g 102 (ix x2))))), (0, rv z 10), (1, iv x1), (3, iv x3)]) (dcN_7 dcg_326 :) (by decide) rfl ?_
    refine AW.iinc (lv1 := [(3, iv (x3 + 1)), (2, iv (orI x2 (shlI 1 (g 102 (ix x2))))), (0, rv z 10), (1, iv x1)]) 3 (dcN_8 dcg_326 :) rfl (by decide) rfl ?_
    refine AW.goto (tgt := 23) (dcN_9 dcg_326 :) (by decide) ?_
    refine AW.sub (lv1 := [(0, rv z 10), (1, iv x1), (2, iv (orI x2 (shlI 1 (g 102 (ix x2))))), (3, iv (x3 + 1))]) [2, 3, 1, 0] rfl ?_
    exact ih _ _ _ h
theorem Yard_dockedAt_ok {z : AZ} {x1 : Int} {g : AG} {r : Int} (h : Yard_dockedAt x1 g = some r) : AMf z yX10_dockedAt cX10_dockedAt 4 (some .int) 1 [rv z 10, iv x1] g (r, g) := by
  intro d hdd
  refine AM.of (by decide +kernel) (Nat.le_of_ble_eq_true rfl) ?_
  show AW z (RX10, cX10_dockedAt, 4, (some .int)) d (QD (some .int) (r, g)) 0 [(0, rv z 10), (1, iv x1)] [] g
  unfold Yard_dockedAt at h
  refine AW.iload_n 1 (dcN_0 dcg_325 :) rfl ?_
  refine AW.bipush (dcN_1 dcg_325 :) (by decide) (by decide) ?_
  refine AW.isub (dcN_2 dcg_325 :) ?_
  refine AW.iconst (dcN_3 dcg_325 :) ?_
  refine AW.aloadr_n 0 (dcN_4 dcg_325 :) rfl ?_
  refine AW.getI af_X10_46_10 sr_10_2 (dcN_5 dcg_325 :) ?_
  refine AW.iconst (dcN_6 dcg_325 :) ?_
  refine AW.isub (dcN_7 dcg_325 :) ?_
  refine AW.callN0 (As := [iv (x1 - 10), iv 0, iv ((g 10 2) - 1)]) (st := []) X_within_ok ns_X10_58 in_X11 cd_X11_within st_X11_within (by decide) (Nat.le_trans (by decide) hdd) rfl (Nat.le_of_ble_eq_true rfl) (dcN_8 dcg_325 :) rfl ?_
  refine AW.if_ne (tgt := 19) (dcN_9 dcg_325 :) (by decide) (fun c1 => ?_) (fun c1 => ?_)
  · replace h := hF h c1
    refine AW.iconst (dcN_12 dcg_325 :) ?_
    refine AW.istore_n (lv1 := [(2, iv 0), (0, rv z 10), (1, iv x1)]) (dcN_13 dcg_325 :) (by decide) rfl ?_
    refine AW.iconst (dcN_14 dcg_325 :) ?_
    refine AW.istore_n (lv1 := [(3, iv 0), (2, iv 0), (0, rv z 10), (1, iv x1)]) (dcN_15 dcg_325 :) (by decide) rfl ?_
    refine AW.sub (lv1 := [(0, rv z 10), (1, iv x1), (2, iv 0), (3, iv 0)]) [2, 3, 1, 0] rfl ?_
    exact Yard_dockedAt_b_ok hdd _ _ _ h
  · replace h := hT h c1
    refine AW.iconst (dcN_10 dcg_325 :) ?_
    exact AW.iret2 rfl (dcN_11 dcg_325 :) h rfl
theorem X_dock_ok {z : AZ} {x1 : Int} {g : AG} {r : Int × AG} (h : X_dock x1 g = some r) : AMf z yX11_dock cX11_dock 2 (some .int) 3 [rv z 0, iv x1] g r := by
  intro d hdd
  refine AM.of (by decide +kernel) (Nat.le_of_ble_eq_true rfl) ?_
  show AW z (RX11, cX11_dock, 2, (some .int)) d (QD (some .int) r) 0 [(0, rv z 0), (1, iv x1)] [] g
  unfold X_dock at h
  refine AW.aloadr_n 0 (dcN_0 dcg_427 :) rfl ?_
  refine AW.getR af_X11_79_0 sr_0_9 (dcN_1 dcg_427 :) ?_
  obtain ⟨r1, e2, h⟩ := hC h
  refine AW.callVv (As := []) (st := []) (Yard_orderDock_ok e2) cq_X11_299 cr_10_X10_orderDock (Nat.le_trans (by decide) hdd) rfl (dcN_2 dcg_427 :) rfl (Nat.le_of_ble_eq_true rfl) ?_
  refine AW.iload_n 1 (dcN_3 dcg_427 :) rfl ?_
  by_cases c3 : nw x1 = 0
  · replace h := hT h c3
    refine AW.tsIn (tgt := 36) 0 dX11_dock_8 c3 (by decide) (by decide) (by rfl) (by decide) ?_
    refine AW.aloadr_n 0 (dcN_0 dcg_428 :) rfl ?_
    refine AW.getR af_X11_79_0 sr_0_9 (dcN_1 dcg_428 :) ?_
    refine AW.getR af_X11_302_10 sr_10_4 (dcN_2 dcg_428 :) ?_
    refine AW.iconst (dcN_3 dcg_428 :) ?_
    refine AW.iald kc_100 sk_100 (by decide) (dcN_4 dcg_428 :) ?_
    exact AW.iret1 rfl (dcN_5 dcg_428 :) h rfl
  · replace h := hF h c3
    by_cases c4 : nw x1 = 1
    · replace h := hT h c4
      refine AW.tsIn (tgt := 46) 1 dX11_dock_8 c4 (by decide) (by decide) (by rfl) (by decide) ?_
      refine AW.aloadr_n 0 (dcN_6 dcg_428 :) rfl ?_
      refine AW.getR af_X11_79_0 sr_0_9 (dcN_7 dcg_428 :) ?_
      refine AW.getR af_X11_305_10 sr_10_5 (dcN_8 dcg_428 :) ?_
      refine AW.iconst (dcN_9 dcg_428 :) ?_
      refine AW.iald kc_101 sk_101 (by decide) (dcN_10 dcg_428 :) ?_
      exact AW.iret1 rfl (dcN_11 dcg_428 :) h rfl
    · replace h := hF h c4
      by_cases c5 : nw x1 = 2
      · replace h := hT h c5
        refine AW.tsIn (tgt := 56) 2 dX11_dock_8 c5 (by decide) (by decide) (by rfl) (by decide) ?_
        refine AW.aloadr_n 0 (dcN_12 dcg_428 :) rfl ?_
        refine AW.getR af_X11_79_0 sr_0_9 (dcN_13 dcg_428 :) ?_
        refine AW.getI af_X11_308_10 sr_10_2 (dcN_14 dcg_428 :) ?_
        exact AW.iret1 rfl (dcN_15 dcg_428 :) h rfl
      · replace h := hF h c5
        refine AW.tsOut (tgt := 64) dX11_dock_8 (by omega) (by decide) ?_
        refine AW.aloadr_n 0 (dcN_0 dcg_429 :) rfl ?_
        refine AW.getR af_X11_79_0 sr_0_9 (dcN_1 dcg_429 :) ?_
        refine AW.iload_n 1 (dcN_2 dcg_429 :) rfl ?_
        obtain ⟨r6, e7, h⟩ := hC h
        refine AW.callVi (As := [iv x1]) (st := []) (Yard_dockedAt_ok e7) cq_X11_311 cr_10_X10_dockedAt (Nat.le_trans (by decide) hdd) rfl (dcN_3 dcg_429 :) rfl (Nat.le_of_ble_eq_true rfl) ?_
        exact AW.iret1 rfl (dcN_4 dcg_429 :) h rfl
theorem Yard_addJob_ok {z : AZ} {x1 : Int} {g : AG} {r : Int × AG} (h : Yard_addJob x1 g = some r) : AMf z yX10_addJob cX10_addJob 2 (some .int) 0 [rv z 10, iv x1] g r := by
  intro d hdd
  refine AM.of (by decide +kernel) (Nat.le_of_ble_eq_true rfl) ?_
  show AW z (RX10, cX10_addJob, 2, (some .int)) d (QD (some .int) r) 0 [(0, rv z 10), (1, iv x1)] [] g
  unfold Yard_addJob at h
  refine AW.aloadr_n 0 (dcN_0 dcg_327 :) rfl ?_
  refine AW.getI af_X10_61_10 sr_10_7 (dcN_1 dcg_327 :) ?_
  refine AW.bipush (dcN_2 dcg_327 :) (by decide) (by decide) ?_
  refine AW.icmp_lt (tgt := 11) (dcN_3 dcg_327 :) (by decide) (fun c1 => ?_) (fun c1 => ?_)
  · replace h := hT h c1
    refine AW.aloadr_n 0 (dcN_6 dcg_327 :) rfl ?_
    refine AW.getR af_X10_30_10 sr_10_8 (dcN_7 dcg_327 :) ?_
    refine AW.aloadr_n 0 (dcN_8 dcg_327 :) rfl ?_
    refine AW.getI af_X10_61_10 sr_10_7 (dcN_9 dcg_327 :) ?_
    refine AW.iload_n 1 (dcN_10 dcg_327 :) rfl ?_
    obtain ⟨k2, h⟩ := hK h
    obtain ⟨g3, e4, h⟩ := hBe h
    refine AW.iast kc_103 sk_103 k2 (dcN_11 dcg_327 :) e4 ?_
    refine AW.aloadr_n 0 (dcN_0 dcg_328 :) rfl ?_
    refine AW.duprr (dcN_1 dcg_328 :) ?_
    refine AW.getI af_X10_61_10 sr_10_7 (dcN_2 dcg_328 :) ?_
    refine AW.iconst (dcN_3 dcg_328 :) ?_
    refine AW.iadd (dcN_4 dcg_328 :) ?_
    obtain ⟨g5, e6, h⟩ := hBe h
    refine AW.putI ap_X10_61_10 sr_10_7 (dcN_5 dcg_328 :) e6 ?_
    refine AW.aloadr_n 0 (dcN_6 dcg_328 :) rfl ?_
    refine AW.getI af_X10_61_10 sr_10_7 (dcN_7 dcg_328 :) ?_
    exact AW.iret1 rfl (dcN_8 dcg_328 :) h rfl
  · replace h := hF h c1
    refine AW.iconst (dcN_4 dcg_327 :) ?_
    exact AW.iret1 rfl (dcN_5 dcg_327 :) h rfl
theorem X_job_ok {z : AZ} {x1 : Int} {g : AG} {r : Int × AG} (h : X_job x1 g = some r) : AMf z yX11_job cX11_job 2 (some .int) 1 [rv z 0, iv x1] g r := by
  intro d hdd
  refine AM.of (by decide +kernel) (Nat.le_of_ble_eq_true rfl) ?_
  show AW z (RX11, cX11_job, 2, (some .int)) d (QD (some .int) r) 0 [(0, rv z 0), (1, iv x1)] [] g
  unfold X_job at h
  refine AW.iload_n 1 (dcN_0 dcg_430 :) rfl ?_
  refine AW.if_ne (tgt := 14) (dcN_1 dcg_430 :) (by decide) (fun c1 => ?_) (fun c1 => ?_)
  · replace h := hF h c1
    refine AW.iload_n 1 (dcN_8 dcg_430 :) rfl ?_
    refine AW.iconst (dcN_9 dcg_430 :) ?_
    refine AW.sipush (dcN_10 dcg_430 :) (by decide) (by decide) ?_
    refine AW.callSi (As := [iv x1, iv 1, iv 300]) (st := []) X_within_ok cq_X11_99 st_X11_within (Nat.le_trans (by decide) hdd) rfl (dcN_11 dcg_430 :) rfl (Nat.le_of_ble_eq_true rfl) ?_
    refine AW.if_ne (tgt := 27) (dcN_0 dcg_431 :) (by decide) (fun c2 => ?_) (fun c2 => ?_)
    · replace h := hF h c2
      refine AW.aloadr_n 0 (dcN_3 dcg_431 :) rfl ?_
      refine AW.getR af_X11_79_0 sr_0_9 (dcN_4 dcg_431 :) ?_
      refine AW.iload_n 1 (dcN_5 dcg_431 :) rfl ?_
      obtain ⟨r3, e4, h⟩ := hC h
      refine AW.callVi (As := [iv x1]) (st := []) (Yard_addJob_ok e4) cq_X11_317 cr_10_X10_addJob (Nat.le_trans (by decide) hdd) rfl (dcN_6 dcg_431 :) rfl (Nat.le_of_ble_eq_true rfl) ?_
      exact AW.iret1 rfl (dcN_7 dcg_431 :) h rfl
    · replace h := hT h c2
      refine AW.iconst (dcN_1 dcg_431 :) ?_
      exact AW.iret1 rfl (dcN_2 dcg_431 :) h rfl
  · replace h := hT h c1
    refine AW.aloadr_n 0 (dcN_2 dcg_430 :) rfl ?_
    refine AW.getR af_X11_79_0 sr_0_9 (dcN_3 dcg_430 :) ?_
    refine AW.iconst (dcN_4 dcg_430 :) ?_
    obtain ⟨g5, e6, h⟩ := hBe h
    refine AW.putI ap_X11_314_10 sr_10_7 (dcN_5 dcg_430 :) e6 ?_
    refine AW.iconst (dcN_6 dcg_430 :) ?_
    exact AW.iret1 rfl (dcN_7 dcg_430 :) h rfl
set_option synthInstance.maxHeartbeats 2000000 in
theorem Yard_workInOrder_b_ok {z : AZ} {d : Nat} (hdd : 1 ≤ d) {x1 : Int} : ∀ (tag : Nat) (x2 : Int) (x3 : Int) (x4 : Int) (g : AG) (r : Int × AG), Yard_workInOrder_b x1 tag x2 x3 x4 g = some r → (tag = 1 → AW z (RX10, cX10_workInOrder, 5, none) d (QD none r) 24 [(0, rv z 10), (1, iv x1), (2, iv x2)] [] g) ∧ (tag = 2 → AW z (RX10, cX10_workInOrder, 5, none) d (QD none r) 37 [(0, rv z 10), (1, iv x1), (2, iv x2), (3, iv x3), (4, iv x4)] [] g) := by
  refine Yard_workInOrder_b.partial_correctness x1 (fun tag x2 x3 x4 g r => (tag = 1 → AW z (RX10, cX10_workInOrder, 5, none) d (QD none r) 24 [(0, rv z 10), (1, iv x1), (2, iv x2)] [] g) ∧ (tag = 2 → AW z (RX10, cX10_workInOrder, 5, none) d (QD none r) 37 [(0, rv z 10), (1, iv x1), (2, iv x2), (3, iv x3), (4, iv x4)] [] g)) ?_
  intro fb9 ih tag x2 x3 x4 g r h
  refine ⟨fun h9 => ?_, fun h9 => ?_⟩
  · subst h9
    replace h := hT h rfl
    refine AW.iload_n 2 (dcN_12 dcg_329 :) rfl ?_
    refine AW.aloadr_n 0 (dcN_13 dcg_329 :) rfl ?_
    refine AW.getI af_X10_61_10 sr_10_7 (dcN_14 dcg_329 :) ?_
    refine AW.icmp_ge (tgt := 136) (dcN_15 dcg_329 :) (by decide) (fun c1 => ?_) (fun c1 => ?_)
    · replace h := hT h c1
      exact AW.vret1 rfl (dcN_2 dcg_333 :) h rfl
    · replace h := hF h c1
      refine AW.iconst (dcN_0 dcg_330 :) ?_
      refine AW.istore_n (lv1 := [(3, iv 0), (0, rv z 10), (1, iv x1), (2, iv x2)]) (dcN_1 dcg_330 :) (by decide) rfl ?_
      refine AW.iconst (dcN_2 dcg_330 :) ?_
      refine AW.istore (lv1 := [(4, iv 1), (3, iv 0), (0, rv z 10), (1, iv x1), (2, iv x2)]) (dcN_3 dcg_330 :) (by decide) rfl ?_
      refine AW.sub (lv1 := [(0, rv z 10), (1, iv x1), (2, iv x2), (3, iv 0), (4, iv 1)]) [2, 3, 4, 1, 0] rfl ?_
      exact (ih _ _ _ _ _ _ h).2 rfl
  · subst h9
    replace h := hF h (by decide)
    replace h := hT h rfl
    refine AW.iload 4 (dcN_4 dcg_330 :) rfl ?_
    refine AW.iload_n 1 (dcN_5 dcg_330 :) rfl ?_
    refine AW.icmp_ge (tgt := 72) (dcN_6 dcg_330 :) (by decide) (fun c1 => ?_) (fun c1 => ?_)
    · replace h := hT h c1
      refine AW.aloadr_n 0 (dcN_4 dcg_331 :) rfl ?_
      refine AW.getR af_X10_33_10 sr_10_9 (dcN_5 dcg_331 :) ?_
      refine AW.iload_n 3 (dcN_6 dcg_331 :) rfl ?_
      refine AW.dup2r (dcN_7 dcg_331 :) ?_
      obtain ⟨k2, h⟩ := hK h
      refine AW.iald kc_104 sk_104 k2 (dcN_8 dcg_331 :) ?_
      refine AW.aloadr_n 0 (dcN_9 dcg_331 :) rfl ?_
      refine AW.getR af_X10_30_10 sr_10_8 (dcN_10 dcg_331 :) ?_
      refine AW.iload_n 2 (dcN_11 dcg_331 :) rfl ?_
      obtain ⟨k3, h⟩ := hK h
      refine AW.iald kc_103 sk_103 k3 (dcN_12 dcg_331 :) ?_
      refine AW.iadd (dcN_13 dcg_331 :) ?_
      obtain ⟨g4, e5, h⟩ := hBe h
      refine AW.iast kc_104 sk_104 k2 (dcN_14 dcg_331 :) e5 ?_
      refine AW.aloadr_n 0 (dcN_15 dcg_331 :) rfl ?_
      refine AW.aloadr_n 0 (dcN_16 dcg_331 :) rfl ?_
      refine AW.getI af_X10_70_10 sr_10_13 (dcN_17 dcg_331 :) ?_
      refine AW.aloadr_n 0 (dcN_18 dcg_331 :) rfl ?_
      refine AW.getR af_X10_33_10 sr_10_9 (dcN_19 dcg_331 :) ?_
      refine AW.iload_n 3 (dcN_0 dcg_332 :) rfl ?_
      refine AW.iald kc_104 sk_104 k2 (dcN_1 dcg_332 :) ?_
      refine AW.mmax (st := [rv z 10]) cm_X10_76 mst_max mini mcd_max (Nat.le_trans (by decide) hdd) (Nat.le_of_ble_eq_true rfl) (dcN_2 dcg_332 :) ?_
      obtain ⟨g6, e7, h⟩ := hBe h
      refine AW.putI ap_X10_70_10 sr_10_13 (dcN_3 dcg_332 :) e7 ?_
      refine AW.aloadr_n 0 (dcN_4 dcg_332 :) rfl ?_
      refine AW.duprr (dcN_5 dcg_332 :) ?_
      refine AW.getI af_X10_73_10 sr_10_14 (dcN_6 dcg_332 :) ?_
      refine AW.aloadr_n 0 (dcN_7 dcg_332 :) rfl ?_
      refine AW.getR af_X10_33_10 sr_10_9 (dcN_8 dcg_332 :) ?_
      refine AW.iload_n 3 (dcN_9 dcg_332 :) rfl ?_
      refine AW.iald kc_104 sk_104 k2 (dcN_10 dcg_332 :) ?_
      refine AW.sipush (dcN_11 dcg_332 :) (by decide) (by decide) ?_
      obtain ⟨t8, e9, h⟩ := hBe h
      refine AW.join (tgt := 126) (lv1 := [(0, rv z 10), (1, iv x1), (2, iv x2), (3, iv x3), (4, iv x4)]) (st1 := [iv t8, iv (g6 10 14), rv z 10]) (g1 := g6) ?_ (fun J118 => ?_)
      · refine AW.iadd (dcN_16 dcg_332 :) ?_
        obtain ⟨g10, e11, h⟩ := hBe h
        refine AW.putI ap_X10_73_10 sr_10_14 (dcN_17 dcg_332 :) e11 ?_
        refine AW.iinc (lv1 := [(2, iv (x2 + 1)), (0, rv z 10), (1, iv x1), (3, iv x3), (4, iv x4)]) 2 (dcN_0 dcg_333 :) rfl (by decide) rfl ?_
        refine AW.goto (tgt := 24) (dcN_1 dcg_333 :) (by decide) ?_
        refine AW.sub (lv1 := [(0, rv z 10), (1, iv x1), (2, iv (x2 + 1))]) [1, 2, 0] rfl ?_
        exact (ih _ _ _ _ _ _ h).1 rfl
      refine AW.icmp_le (tgt := 125) (dcN_12 dcg_332 :) (by decide) (fun c12 => ?_) (fun c12 => ?_)
      · refine AW.iconst (dcN_15 dcg_332 :) ?_
        exact AW.val (e9.trans (if_pos c12)) J118
      · refine AW.iconst (dcN_13 dcg_332 :) ?_
        refine AW.goto (tgt := 126) (dcN_14 dcg_332 :) (by decide) ?_
        exact AW.val (e9.trans (if_neg c12)) J118
    · replace h := hF h c1
      refine AW.aloadr_n 0 (dcN_7 dcg_330 :) rfl ?_
      refine AW.getR af_X10_33_10 sr_10_9 (dcN_8 dcg_330 :) ?_
      refine AW.iload 4 (dcN_9 dcg_330 :) rfl ?_
      obtain ⟨k13, h⟩ := hK h
      refine AW.iald kc_104 sk_104 k13 (dcN_10 dcg_330 :) ?_
      refine AW.aloadr_n 0 (dcN_11 dcg_330 :) rfl ?_
      refine AW.getR af_X10_33_10 sr_10_9 (dcN_12 dcg_330 :) ?_
      refine AW.iload_n 3 (dcN_13 dcg_330 :) rfl ?_
      obtain ⟨k14, h⟩ := hK h
      refine AW.iald kc_104 sk_104 k14 (dcN_14 dcg_330 :) ?_
      obtain ⟨t15, e16, h⟩ := hBe h
      refine AW.join (tgt := 65) (lv1 := [(0, rv z 10), (1, iv x1), (2, iv x2), (3, iv x3), (4, iv x4)]) (st1 := [iv t15]) (g1 := g) ?_ (fun J56 => ?_)
      · refine AW.istore_n (lv1 := [(3, iv t15), (0, rv z 10), (1, iv x1), (2, iv x2), (4, iv x4)]) (dcN_1 dcg_331 :) (by decide) rfl ?_
        refine AW.iinc (lv1 := [(4, iv (x4 + 1)), (3, iv t15), (0, rv z 10), (1, iv x1), (2, iv x2)]) 4 (dcN_2 dcg_331 :) rfl (by decide) rfl ?_
        refine AW.goto (tgt := 37) (dcN_3 dcg_331 :) (by decide) ?_
        refine AW.sub (lv1 := [(0, rv z 10), (1, iv x1), (2, iv x2), (3, iv t15), (4, iv (x4 + 1))]) [2, 3, 4, 1, 0] rfl ?_
        exact (ih _ _ _ _ _ _ h).2 rfl
      refine AW.icmp_ge (tgt := 64) (dcN_15 dcg_330 :) (by decide) (fun c17 => ?_) (fun c17 => ?_)
      · refine AW.iload_n 3 (dcN_0 dcg_331 :) rfl ?_
        exact AW.val (e16.trans (if_pos c17)) J56
      · refine AW.iload 4 (dcN_16 dcg_330 :) rfl ?_
        refine AW.goto (tgt := 65) (dcN_17 dcg_330 :) (by decide) ?_
        exact AW.val (e16.trans (if_neg c17)) J56
theorem Yard_workInOrder_ok {z : AZ} {x1 : Int} {g : AG} {r : Int × AG} (h : Yard_workInOrder x1 g = some r) : AMf z yX10_workInOrder cX10_workInOrder 5 none 1 [rv z 10, iv x1] g r := by
  intro d hdd
  refine AM.of (by decide +kernel) (Nat.le_of_ble_eq_true rfl) ?_
  show AW z (RX10, cX10_workInOrder, 5, none) d (QD none r) 0 [(0, rv z 10), (1, iv x1)] [] g
  unfold Yard_workInOrder at h
  refine AW.aloadr_n 0 (dcN_0 dcg_329 :) rfl ?_
  refine AW.getR af_X10_33_10 sr_10_9 (dcN_1 dcg_329 :) ?_
  refine AW.sipush (dcN_2 dcg_329 :) (by decide) (by decide) ?_
  obtain ⟨g1, e2, h⟩ := hBe h
  refine AW.callSv (st := []) (fill_ok kc_104 sk_104 (by decide)) cf_X10_64 st_fill (Nat.le_trans (by decide) hdd) rfl (dcN_3 dcg_329 :) rfl (Nat.le_of_ble_eq_true rfl) ?_
  rw [← e2]
  refine AW.aloadr_n 0 (dcN_4 dcg_329 :) rfl ?_
  refine AW.sipush (dcN_5 dcg_329 :) (by decide) (by decide) ?_
  obtain ⟨g3, e4, h⟩ := hBe h
  refine AW.putI ap_X10_70_10 sr_10_13 (dcN_6 dcg_329 :) e4 ?_
  refine AW.aloadr_n 0 (dcN_7 dcg_329 :) rfl ?_
  refine AW.iconst (dcN_8 dcg_329 :) ?_
  obtain ⟨g5, e6, h⟩ := hBe h
  refine AW.putI ap_X10_73_10 sr_10_14 (dcN_9 dcg_329 :) e6 ?_
  refine AW.iconst (dcN_10 dcg_329 :) ?_
  refine AW.istore_n (lv1 := [(2, iv 0), (0, rv z 10), (1, iv x1)]) (dcN_11 dcg_329 :) (by decide) rfl ?_
  refine AW.sub (lv1 := [(0, rv z 10), (1, iv x1), (2, iv 0)]) [1, 2, 0] rfl ?_
  exact (Yard_workInOrder_b_ok hdd _ _ _ _ _ _ h).1 rfl
set_option synthInstance.maxHeartbeats 2000000 in
theorem Yard_shareNext_b_ok {z : AZ} {rec : Int → Int → Int → AG → Option (Int × AG)} {Dr : Nat} (hC9 : 1 ≤ Dr) (hrec : ∀ (x1 : Int) (x2 : Int) (x3 : Int) (g : AG) (r : Int × AG), rec x1 x2 x3 g = some r → AMf z yX10_shareNext cX10_shareNext 5 none Dr [rv z 10, iv x1, iv x2, iv x3] g r) {d : Nat} (hdd : Dr + 1 ≤ d) {x1 : Int} {x2 : Int} {x3 : Int} : ∀ (x4 : Int) (g : AG) (r : Int × AG), Yard_shareNext_b rec x1 x2 x3 x4 g = some r → AW z (RX10, cX10_shareNext, 5, none) d (QD none r) 43 [(0, rv z 10), (1, iv x1), (2, iv x2), (3, iv x3), (4, iv x4)] [] g := by
  refine Yard_shareNext_b.partial_correctness rec x1 x2 x3 (fun x4 g r => AW z (RX10, cX10_shareNext, 5, none) d (QD none r) 43 [(0, rv z 10), (1, iv x1), (2, iv x2), (3, iv x3), (4, iv x4)] [] g) ?_
  intro fb9 ih x4 g r h
  refine AW.iload 4 (dcN_6 dcg_336 :) rfl ?_
  refine AW.iload_n 2 (dcN_7 dcg_336 :) rfl ?_
  refine AW.icmp_ge (tgt := 114) (dcN_8 dcg_336 :) (by decide) (fun c1 => ?_) (fun c1 => ?_)
  · replace h := hT h c1
    exact AW.vret1 rfl (dcN_11 dcg_338 :) h rfl
  · replace h := hF h c1
    refine AW.aloadr_n 0 (dcN_9 dcg_336 :) rfl ?_
    refine AW.getR af_X10_36_10 sr_10_10 (dcN_10 dcg_336 :) ?_
    refine AW.iload_n 1 (dcN_11 dcg_336 :) rfl ?_
    refine AW.iload 4 (dcN_12 dcg_336 :) rfl ?_
    obtain ⟨k2, h⟩ := hK h
    obtain ⟨g3, e4, h⟩ := hBe h
    refine AW.iast kc_105 sk_105 k2 (dcN_13 dcg_336 :) e4 ?_
    refine AW.aloadr_n 0 (dcN_14 dcg_336 :) rfl ?_
    refine AW.getR af_X10_33_10 sr_10_9 (dcN_15 dcg_336 :) ?_
    refine AW.iload 4 (dcN_16 dcg_336 :) rfl ?_
    refine AW.dup2r (dcN_17 dcg_336 :) ?_
    obtain ⟨k5, h⟩ := hK h
    refine AW.iald kc_104 sk_104 k5 (dcN_0 dcg_337 :) ?_
    refine AW.aloadr_n 0 (dcN_1 dcg_337 :) rfl ?_
    refine AW.getR af_X10_30_10 sr_10_8 (dcN_2 dcg_337 :) ?_
    refine AW.iload_n 1 (dcN_3 dcg_337 :) rfl ?_
    refine AW.iald kc_103 sk_103 k2 (dcN_4 dcg_337 :) ?_
    refine AW.iadd (dcN_5 dcg_337 :) ?_
    obtain ⟨g6, e7, h⟩ := hBe h
    refine AW.iast kc_104 sk_104 k5 (dcN_6 dcg_337 :) e7 ?_
    refine AW.aloadr_n 0 (dcN_7 dcg_337 :) rfl ?_
    refine AW.iload_n 1 (dcN_8 dcg_337 :) rfl ?_
    refine AW.iconst (dcN_9 dcg_337 :) ?_
    refine AW.iadd (dcN_10 dcg_337 :) ?_
    refine AW.iload_n 2 (dcN_11 dcg_337 :) rfl ?_
    refine AW.iload_n 3 (dcN_12 dcg_337 :) rfl ?_
    refine AW.aloadr_n 0 (dcN_13 dcg_337 :) rfl ?_
    refine AW.getR af_X10_33_10 sr_10_9 (dcN_14 dcg_337 :) ?_
    refine AW.iload 4 (dcN_15 dcg_337 :) rfl ?_
    refine AW.iald kc_104 sk_104 k5 (dcN_16 dcg_337 :) ?_
    refine AW.mmax (st := [iv x2, iv (x1 + 1), rv z 10]) cm_X10_76 mst_max mini mcd_max (by omega) (Nat.le_of_ble_eq_true rfl) (dcN_17 dcg_337 :) ?_
    obtain ⟨r8, e9, h⟩ := hC h
    refine AW.callSv (As := [rv z 10, iv (x1 + 1), iv x2, iv (mxI x3 (g6 104 (ix x4)))]) (st := []) (hrec _ _ _ _ _ e9) cq_X10_85 st_X10_shareNext (by omega) rfl (dcN_18 dcg_337 :) rfl (Nat.le_of_ble_eq_true rfl) ?_
    refine AW.aloadr_n 0 (dcN_19 dcg_337 :) rfl ?_
    refine AW.getR af_X10_33_10 sr_10_9 (dcN_20 dcg_337 :) ?_
    refine AW.iload 4 (dcN_0 dcg_338 :) rfl ?_
    refine AW.dup2r (dcN_1 dcg_338 :) ?_
    refine AW.iald kc_104 sk_104 k5 (dcN_2 dcg_338 :) ?_
    refine AW.aloadr_n 0 (dcN_3 dcg_338 :) rfl ?_
    refine AW.getR af_X10_30_10 sr_10_8 (dcN_4 dcg_338 :) ?_
    refine AW.iload_n 1 (dcN_5 dcg_338 :) rfl ?_
    refine AW.iald kc_103 sk_103 k2 (dcN_6 dcg_338 :) ?_
    refine AW.isub (dcN_7 dcg_338 :) ?_
    obtain ⟨g10, e11, h⟩ := hBe h
    refine AW.iast kc_104 sk_104 k5 (dcN_8 dcg_338 :) e11 ?_
    refine AW.iinc (lv1 := [(4, iv (x4 + 1)), (0, rv z 10), (1, iv x1), (2, iv x2), (3, iv x3)]) 4 (dcN_9 dcg_338 :) rfl (by decide) rfl ?_
    refine AW.goto (tgt := 43) (dcN_10 dcg_338 :) (by decide) ?_
    refine AW.sub (lv1 := [(0, rv z 10), (1, iv x1), (2, iv x2), (3, iv x3), (4, iv (x4 + 1))]) [1, 2, 3, 4, 0] rfl ?_
    exact ih _ _ _ h
theorem Yard_shareNext_s_ok {z : AZ} {rec : Int → Int → Int → AG → Option (Int × AG)} {Dr : Nat} (hC9 : 1 ≤ Dr) (hrec : ∀ (x1 : Int) (x2 : Int) (x3 : Int) (g : AG) (r : Int × AG), rec x1 x2 x3 g = some r → AMf z yX10_shareNext cX10_shareNext 5 none Dr [rv z 10, iv x1, iv x2, iv x3] g r) {x1 : Int} {x2 : Int} {x3 : Int} {g : AG} {r : Int × AG} (h : Yard_shareNext_s rec x1 x2 x3 g = some r) : AMf z yX10_shareNext cX10_shareNext 5 none (Dr + 1) [rv z 10, iv x1, iv x2, iv x3] g r := by
  intro d hdd
  refine AM.of (by decide +kernel) (Nat.le_of_ble_eq_true rfl) ?_
  show AW z (RX10, cX10_shareNext, 5, none) d (QD none r) 0 [(0, rv z 10), (1, iv x1), (2, iv x2), (3, iv x3)] [] g
  unfold Yard_shareNext_s at h
  refine AW.iload_n 3 (dcN_0 dcg_335 :) rfl ?_
  refine AW.aloadr_n 0 (dcN_1 dcg_335 :) rfl ?_
  refine AW.getI af_X10_82_10 sr_10_12 (dcN_2 dcg_335 :) ?_
  refine AW.icmp_lt (tgt := 9) (dcN_3 dcg_335 :) (by decide) (fun c1 => ?_) (fun c1 => ?_)
  · replace h := hT h c1
    refine AW.iload_n 1 (dcN_5 dcg_335 :) rfl ?_
    refine AW.aloadr_n 0 (dcN_6 dcg_335 :) rfl ?_
    refine AW.getI af_X10_61_10 sr_10_7 (dcN_7 dcg_335 :) ?_
    refine AW.icmp_lt (tgt := 40) (dcN_8 dcg_335 :) (by decide) (fun c2 => ?_) (fun c2 => ?_)
    · replace h := hT h c2
      refine AW.iconst (dcN_4 dcg_336 :) ?_
      refine AW.istore (lv1 := [(4, iv 0), (0, rv z 10), (1, iv x1), (2, iv x2), (3, iv x3)]) (dcN_5 dcg_336 :) (by decide) rfl ?_
      refine AW.sub (lv1 := [(0, rv z 10), (1, iv x1), (2, iv x2), (3, iv x3), (4, iv 0)]) [1, 2, 3, 4, 0] rfl ?_
      exact Yard_shareNext_b_ok hC9 hrec hdd _ _ _ h
    · replace h := hF h c2
      refine AW.aloadr_n 0 (dcN_9 dcg_335 :) rfl ?_
      refine AW.iload_n 3 (dcN_10 dcg_335 :) rfl ?_
      obtain ⟨g3, e4, h⟩ := hBe h
      refine AW.putI ap_X10_82_10 sr_10_12 (dcN_11 dcg_335 :) e4 ?_
      refine AW.aloadr_n 0 (dcN_12 dcg_335 :) rfl ?_
      refine AW.getR af_X10_36_10 sr_10_10 (dcN_13 dcg_335 :) ?_
      refine AW.iconst (dcN_14 dcg_335 :) ?_
      refine AW.aloadr_n 0 (dcN_15 dcg_335 :) rfl ?_
      refine AW.getR af_X10_39_10 sr_10_11 (dcN_16 dcg_335 :) ?_
      refine AW.iconst (dcN_17 dcg_335 :) ?_
      refine AW.aloadr_n 0 (dcN_0 dcg_336 :) rfl ?_
      refine AW.getI af_X10_61_10 sr_10_7 (dcN_1 dcg_336 :) ?_
      obtain ⟨k5, h⟩ := hK h
      obtain ⟨g6, e7, h⟩ := hBe h
      refine AW.copyi cc_X10_89 ac_n ac_s ac_i kc_105 sk_105 kc_106 sk_106 ⟨by decide, by decide, k5.2.2.1, k5.2.2.2.1, k5.2.2.2.2⟩ (Nat.le_of_ble_eq_true rfl) (by omega) (dcN_2 dcg_336 :) e7 ?_
      exact AW.vret1 rfl (dcN_3 dcg_336 :) h rfl
  · replace h := hF h c1
    exact AW.vret1 rfl (dcN_4 dcg_335 :) h rfl
theorem Yard_shareNext_ok {z : AZ} {n : Nat} {x1 : Int} {x2 : Int} {x3 : Int} {g : AG} {r : Int × AG} (h : Yard_shareNext n x1 x2 x3 g = some r) : AMf z yX10_shareNext cX10_shareNext 5 none (1 + n * 1) [rv z 10, iv x1, iv x2, iv x3] g r := by
  induction n generalizing x1 x2 x3 g r with
  | zero => cases h
  | succ n ih =>
    have q := Yard_shareNext_s_ok (z := z) (Dr := 1 + n * 1) (Nat.le_add_right _ _) (fun x1 x2 x3 g r h9 => ih h9) h
    rw [show 1 + (n + 1) * 1 = 1 + n * 1 + 1 by rw [Nat.add_mul]; omega]
    exact q
theorem Yard_shareBest_ok {z : AZ} {x1 : Int} {g : AG} {r : Int × AG} (h : Yard_shareBest x1 g = some r) : AMf z yX10_shareBest cX10_shareBest 2 none 12 [rv z 10, iv x1] g r := by
  intro d hdd
  refine AM.of (by decide +kernel) (Nat.le_of_ble_eq_true rfl) ?_
  show AW z (RX10, cX10_shareBest, 2, none) d (QD none r) 0 [(0, rv z 10), (1, iv x1)] [] g
  unfold Yard_shareBest at h
  refine AW.aloadr_n 0 (dcN_0 dcg_334 :) rfl ?_
  refine AW.getR af_X10_33_10 sr_10_9 (dcN_1 dcg_334 :) ?_
  refine AW.sipush (dcN_2 dcg_334 :) (by decide) (by decide) ?_
  obtain ⟨g1, e2, h⟩ := hBe h
  refine AW.callSv (st := []) (fill_ok kc_104 sk_104 (by decide)) cf_X10_64 st_fill (Nat.le_trans (by decide) hdd) rfl (dcN_3 dcg_334 :) rfl (Nat.le_of_ble_eq_true rfl) ?_
  rw [← e2]
  refine AW.aloadr_n 0 (dcN_4 dcg_334 :) rfl ?_
  refine AW.sipush (dcN_5 dcg_334 :) (by decide) (by decide) ?_
  obtain ⟨g3, e4, h⟩ := hBe h
  refine AW.putI ap_X10_82_10 sr_10_12 (dcN_6 dcg_334 :) e4 ?_
  refine AW.aloadr_n 0 (dcN_7 dcg_334 :) rfl ?_
  refine AW.iconst (dcN_8 dcg_334 :) ?_
  refine AW.iload_n 1 (dcN_9 dcg_334 :) rfl ?_
  refine AW.sipush (dcN_10 dcg_334 :) (by decide) (by decide) ?_
  obtain ⟨r5, e6, h⟩ := hC h
  refine AW.callSv (As := [rv z 10, iv 0, iv x1, iv 600]) (st := []) ((Yard_shareNext_ok (n := 10)) e6) cq_X10_85 st_X10_shareNext (Nat.le_trans (by decide) hdd) rfl (dcN_11 dcg_334 :) rfl (Nat.le_of_ble_eq_true rfl) ?_
  exact AW.vret1 rfl dX10_shareBest_26 h rfl
