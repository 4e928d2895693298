theorem Bookings_canHave_ok {z : AZ} {x1 : Int} {x2 : Int} {g : AG} {r : Int} (h : Bookings_canHave x1 x2 g = some r) : AMf z yX1_canHave cX1_canHave 3 (some .boolean) 0 [rv z 9, iv x1, iv x2] g (r, g) := by
  intro d hdd
  refine AM.of (by decide +kernel) (Nat.le_of_ble_eq_true rfl) ?_
  show AW z (RX1, cX1_canHave, 3, (some .boolean)) d (QD (some .boolean) (r, g)) 0 [(0, rv z 9), (1, iv x1), (2, iv x2)] [] g
  unfold Bookings_canHave at h
  refine AW.aloadr_n 0 dX1_canHave_0 rfl ?_
  refine AW.getR af_X1_27_9 sr_9_6 dX1_canHave_1 ?_
  refine AW.iload_n 1 dX1_canHave_4 rfl ?_
  obtain ⟨k1, h⟩ := hK h
  refine AW.iald kc_90 sk_90 k1 dX1_canHave_5 ?_
  refine AW.aloadr_n 0 dX1_canHave_6 rfl ?_
  refine AW.getR af_X1_21_9 sr_9_3 dX1_canHave_7 ?_
  refine AW.iload_n 2 dX1_canHave_10 rfl ?_
  obtain ⟨k2, h⟩ := hK h
  refine AW.iald kc_88 sk_88 k2 dX1_canHave_11 ?_
  obtain ⟨r8, e9, h⟩ := hC h
  refine AW.join (tgt := 50) (lv1 := []) (st1 := [iv r8]) (g1 := g) ?_ (fun J12 => ?_)
  · obtain ⟨k10, h⟩ := hK h
    exact AW.zret2 rfl k10 dX1_canHave_50 h rfl
  replace h := e9
  refine AW.icmp_lt (tgt := 49) dX1_canHave_12 (by decide) (fun c3 => ?_) (fun c3 => ?_)
  · replace h := hT h c3
    refine AW.iconst dX1_canHave_49 ?_
    refine AW.sub (lv1 := []) [] rfl ?_
    cases h
    exact J12
  · replace h := hF h c3
    refine AW.aloadr_n 0 dX1_canHave_15 rfl ?_
    refine AW.getR af_X1_33_9 sr_9_8 dX1_canHave_16 ?_
    refine AW.iload_n 1 dX1_canHave_19 rfl ?_
    refine AW.iald kc_92 sk_92 k1 dX1_canHave_20 ?_
    refine AW.aloadr_n 0 dX1_canHave_21 rfl ?_
    refine AW.getR af_X1_9_9 sr_9_0 dX1_canHave_22 ?_
    refine AW.iload_n 2 dX1_canHave_25 rfl ?_
    refine AW.iald kc_85 sk_85 k2 dX1_canHave_26 ?_
    refine AW.icmp_ne (tgt := 49) dX1_canHave_27 (by decide) (fun c4 => ?_) (fun c4 => ?_)
    · replace h := hF h c4
      refine AW.iconst dX1_canHave_49 ?_
      refine AW.sub (lv1 := []) [] rfl ?_
      cases h
      exact J12
    · replace h := hT h c4
      refine AW.aloadr_n 0 dX1_canHave_30 rfl ?_
      refine AW.getR af_X1_36_9 sr_9_9 dX1_canHave_31 ?_
      refine AW.iload_n 1 dX1_canHave_34 rfl ?_
      refine AW.iald kc_93 sk_93 k1 dX1_canHave_35 ?_
      refine AW.aloadr_n 0 dX1_canHave_36 rfl ?_
      refine AW.getR af_X1_18_9 sr_9_2 dX1_canHave_37 ?_
      refine AW.iload_n 2 dX1_canHave_40 rfl ?_
      refine AW.iald kc_87 sk_87 k2 dX1_canHave_41 ?_
      obtain ⟨t5, e6, h⟩ := hBe h
      refine AW.join (tgt := 50) (lv1 := [(0, rv z 9), (1, iv x1), (2, iv x2)]) (st1 := [iv t5]) (g1 := g) ?_ (fun J42 => ?_)
      · refine AW.sub (lv1 := []) [] rfl ?_
        cases h
        exact J12
      refine AW.icmp_ge (tgt := 49) dX1_canHave_42 (by decide) (fun c7 => ?_) (fun c7 => ?_)
      · refine AW.iconst dX1_canHave_49 ?_
        exact AW.val (e6.trans (if_pos c7)) J42
      · refine AW.iconst dX1_canHave_45 ?_
        refine AW.goto (tgt := 50) dX1_canHave_46 (by decide) ?_
        exact AW.val (e6.trans (if_neg c7)) J42
set_option synthInstance.maxHeartbeats 2000000 in
theorem Bookings_giveNext_b_ok {z : AZ} {rec : Int → Int → AG → Option (Int × AG)} {Dr : Nat} (hC9 : 2 ≤ Dr) (hrec : ∀ (x1 : Int) (x2 : Int) (g : AG) (r : Int × AG), rec x1 x2 g = some r → AMf z yX1_giveNext cX1_giveNext 8 none Dr [rv z 9, iv x1, iv x2] g r) {d : Nat} (hdd : Dr + 1 ≤ d) {x1 : Int} {x2 : Int} : ∀ (tag : Nat) (x4 : Int) (x5 : Int) (g : AG) (r : Int × AG), Bookings_giveNext_b rec x1 x2 tag x4 x5 g = some r → (tag = 1 → AW z (RX1, cX1_giveNext, 8, none) d (QD none r) 37 [(0, rv z 9), (1, iv x1), (2, iv x2)] [] g) ∧ (tag = 2 → AW z (RX1, cX1_giveNext, 8, none) d (QD none r) 62 [(0, rv z 9), (1, iv x1), (2, iv x2), (4, iv x4), (5, iv x5)] [] g) := by
  refine Bookings_giveNext_b.partial_correctness rec x1 x2 (fun tag x4 x5 g r => (tag = 1 → AW z (RX1, cX1_giveNext, 8, none) d (QD none r) 37 [(0, rv z 9), (1, iv x1), (2, iv x2)] [] g) ∧ (tag = 2 → AW z (RX1, cX1_giveNext, 8, none) d (QD none r) 62 [(0, rv z 9), (1, iv x1), (2, iv x2), (4, iv x4), (5, iv x5)] [] g)) ?_
  intro fb9 ih tag x4 x5 g r h
  refine ⟨fun h9 => ?_, fun h9 => ?_⟩
  · subst h9
    replace h := hT h rfl
    refine AW.iload_n 1 dX1_giveNext_37 rfl ?_
    refine AW.aloadr_n 0 dX1_giveNext_38 rfl ?_
    refine AW.getI af_X1_48_9 sr_9_4 dX1_giveNext_39 ?_
    refine AW.icmp_lt (tgt := 51) dX1_giveNext_42 (by decide) (fun c1 => ?_) (fun c1 => ?_)
    · replace h := hT h c1
      refine AW.aloadr_n 0 dX1_giveNext_51 rfl ?_
      refine AW.getR af_X1_24_9 sr_9_5 dX1_giveNext_52 ?_
      refine AW.iload_n 1 dX1_giveNext_55 rfl ?_
      obtain ⟨k2, h⟩ := hK h
      refine AW.iald kc_89 sk_89 k2 dX1_giveNext_56 ?_
      refine AW.istore (lv1 := [(4, iv (g 89 (ix x1))), (0, rv z 9), (1, iv x1), (2, iv x2)]) dX1_giveNext_57 (by decide) rfl ?_
      refine AW.iconst dX1_giveNext_59 ?_
      refine AW.istore (lv1 := [(5, iv 0), (4, iv (g 89 (ix x1))), (0, rv z 9), (1, iv x1), (2, iv x2)]) dX1_giveNext_60 (by decide) rfl ?_
      refine AW.sub (lv1 := [(0, rv z 9), (1, iv x1), (2, iv x2), (4, iv (g 89 (ix x1))), (5, iv 0)]) [2, 3, 4, 1, 0] rfl ?_
      exact (ih _ _ _ _ _ h).2 rfl
    · replace h := hF h c1
      refine AW.aloadr_n 0 dX1_giveNext_45 rfl ?_
      refine AW.iload_n 2 dX1_giveNext_46 rfl ?_
      obtain ⟨r3, e4, h⟩ := hC h
      refine AW.callVv (As := [iv x2]) (st := []) (Bookings_compare_ok e4) cq_X1_85 cr_9_X1_compare (by omega) rfl dX1_giveNext_47 rfl (Nat.le_of_ble_eq_true rfl) ?_
      exact AW.vret1 rfl dX1_giveNext_50 h rfl
  · subst h9
    replace h := hF h (by decide)
    replace h := hT h rfl
    refine AW.iload 4 dX1_giveNext_62 rfl ?_
    refine AW.aloadr_n 0 dX1_giveNext_64 rfl ?_
    refine AW.getI af_X1_64_9 sr_9_10 dX1_giveNext_65 ?_
    refine AW.icmp_ge (tgt := 171) dX1_giveNext_68 (by decide) (fun c1 => ?_) (fun c1 => ?_)
    · replace h := hT h c1
      refine AW.aloadr_n 0 dX1_giveNext_171 rfl ?_
      refine AW.getR af_X1_42_9 sr_9_13 dX1_giveNext_172 ?_
      refine AW.iload 3 dX1_giveNext_175 rfl ?_
      refine AW.iconst dX1_giveNext_177 ?_
      obtain ⟨k2, h⟩ := hK h
      obtain ⟨g3, e4, h⟩ := hBe h
      refine AW.iast kc_95 sk_95 k2 dX1_giveNext_178 e4 ?_
      refine AW.aloadr_n 0 dX1_giveNext_179 rfl ?_
      refine AW.iload_n 1 dX1_giveNext_180 rfl ?_
      refine AW.iconst dX1_giveNext_181 ?_
      refine AW.iadd dX1_giveNext_182 ?_
      refine AW.iload_n 2 dX1_giveNext_183 rfl ?_
      obtain ⟨r5, e6, h⟩ := hC h
      refine AW.callSv (As := [rv z 9, iv (x1 + 1), iv x2]) (st := []) (hrec _ _ _ _ e6) cq_X1_77 st_X1_giveNext (by omega) rfl dX1_giveNext_184 rfl (Nat.le_of_ble_eq_true rfl) ?_
      exact AW.vret1 rfl dX1_giveNext_187 h rfl
    · replace h := hF h c1
      refine AW.aloadr_n 0 dX1_giveNext_71 rfl ?_
      refine AW.iload 4 dX1_giveNext_72 rfl ?_
      refine AW.iload 3 dX1_giveNext_74 rfl ?_
      obtain ⟨r7, e8, h⟩ := hC h
      refine AW.callVi (As := [iv x5, iv x4]) (st := []) (Bookings_canHave_ok e8) cq_X1_89 cr_9_X1_canHave (by omega) rfl dX1_giveNext_76 rfl (Nat.le_of_ble_eq_true rfl) ?_
      obtain ⟨r24, e25, h⟩ := hC h
      refine AW.join (tgt := 165) (lv1 := [(0, rv z 9), (1, iv x1), (2, iv x2), (4, iv x4), (5, iv x5)]) (st1 := []) (g1 := r24) ?_ (fun J79 => ?_)
      · refine AW.iinc (lv1 := [(5, iv (x5 + 1)), (0, rv z 9), (1, iv x1), (2, iv x2), (4, iv x4)]) 4 dX1_giveNext_165 rfl (by decide) rfl ?_
        refine AW.goto (tgt := 62) dX1_giveNext_168 (by decide) ?_
        refine AW.sub (lv1 := [(0, rv z 9), (1, iv x1), (2, iv x2), (4, iv x4), (5, iv (x5 + 1))]) [1, 2, 3, 4, 0] rfl ?_
        exact (ih _ _ _ _ _ h).2 rfl
      replace h := e25
      refine AW.if_eq (tgt := 165) dX1_giveNext_79 (by decide) (fun c9 => ?_) (fun c9 => ?_)
      · replace h := hT h c9
        cases h
        exact J79
      · replace h := hF h c9
        refine AW.aloadr_n 0 dX1_giveNext_82 rfl ?_
        refine AW.getR af_X1_33_9 sr_9_8 dX1_giveNext_83 ?_
        refine AW.iload 4 dX1_giveNext_86 rfl ?_
        obtain ⟨k10, h⟩ := hK h
        refine AW.iald kc_92 sk_92 k10 dX1_giveNext_88 ?_
        refine AW.istore (lv1 := [(6, iv (g 92 (ix x5))), (0, rv z 9), (1, iv x1), (2, iv x2), (4, iv x4), (5, iv x5)]) dX1_giveNext_89 (by decide) rfl ?_
        refine AW.aloadr_n 1 dX1_giveNext_91 rfl ?_
        refine AW.getR af_X1_36_9 sr_9_9 dX1_giveNext_92 ?_
        refine AW.iload 5 dX1_giveNext_95 rfl ?_
        refine AW.iald kc_93 sk_93 k10 dX1_giveNext_97 ?_
        refine AW.istore (lv1 := [(7, iv (g 93 (ix x5))), (6, iv (g 92 (ix x5))), (0, rv z 9), (1, iv x1), (2, iv x2), (4, iv x4), (5, iv x5)]) dX1_giveNext_98 (by decide) rfl ?_
        refine AW.aloadr_n 2 dX1_giveNext_100 rfl ?_
        refine AW.getR af_X1_42_9 sr_9_13 dX1_giveNext_101 ?_
        refine AW.iload 5 dX1_giveNext_104 rfl ?_
        refine AW.iload 6 dX1_giveNext_106 rfl ?_
        obtain ⟨k11, h⟩ := hK h
        obtain ⟨g12, e13, h⟩ := hBe h
        refine AW.iast kc_95 sk_95 k11 dX1_giveNext_108 e13 ?_
        refine AW.aloadr_n 2 dX1_giveNext_109 rfl ?_
        refine AW.getR af_X1_33_9 sr_9_8 dX1_giveNext_110 ?_
        refine AW.iload 6 dX1_giveNext_113 rfl ?_
        refine AW.aloadr_n 2 dX1_giveNext_115 rfl ?_
        refine AW.getR af_X1_15_9 sr_9_1 dX1_giveNext_116 ?_
        refine AW.iload 5 dX1_giveNext_119 rfl ?_
        refine AW.iald kc_86 sk_86 k11 dX1_giveNext_121 ?_
        obtain ⟨g14, e15, h⟩ := hBe h
        refine AW.iast kc_92 sk_92 k10 dX1_giveNext_122 e15 ?_
        refine AW.aloadr_n 2 dX1_giveNext_123 rfl ?_
        refine AW.getR af_X1_36_9 sr_9_9 dX1_giveNext_124 ?_
        refine AW.iload 6 dX1_giveNext_127 rfl ?_
        refine AW.aloadr_n 2 dX1_giveNext_129 rfl ?_
        refine AW.getR af_X1_18_9 sr_9_2 dX1_giveNext_130 ?_
        refine AW.iload 5 dX1_giveNext_133 rfl ?_
        refine AW.iald kc_87 sk_87 k11 dX1_giveNext_135 ?_
        obtain ⟨g16, e17, h⟩ := hBe h
        refine AW.iast kc_93 sk_93 k10 dX1_giveNext_136 e17 ?_
        refine AW.aloadr_n 2 dX1_giveNext_137 rfl ?_
        refine AW.iload_n 3 dX1_giveNext_138 rfl ?_
        refine AW.iconst dX1_giveNext_139 ?_
        refine AW.iadd dX1_giveNext_140 ?_
        refine AW.iload_n 4 dX1_giveNext_141 rfl ?_
        refine AW.iconst dX1_giveNext_142 ?_
        refine AW.iadd dX1_giveNext_143 ?_
        obtain ⟨r18, e19, h⟩ := hC h
        refine AW.callSv (As := [rv z 9, iv (x1 + 1), iv (x2 + 1)]) (st := []) (hrec _ _ _ _ e19) cq_X1_77 st_X1_giveNext (by omega) rfl dX1_giveNext_144 rfl (Nat.le_of_ble_eq_true rfl) ?_
        refine AW.aloadr_n 2 dX1_giveNext_147 rfl ?_
        refine AW.getR af_X1_33_9 sr_9_8 dX1_giveNext_148 ?_
        refine AW.iload 6 dX1_giveNext_151 rfl ?_
        refine AW.iload 1 dX1_giveNext_153 rfl ?_
        obtain ⟨g20, e21, h⟩ := hBe h
        refine AW.iast kc_92 sk_92 k10 dX1_giveNext_155 e21 ?_
        refine AW.aloadr_n 2 dX1_giveNext_156 rfl ?_
        refine AW.getR af_X1_36_9 sr_9_9 dX1_giveNext_157 ?_
        refine AW.iload 6 dX1_giveNext_160 rfl ?_
        refine AW.iload 0 dX1_giveNext_162 rfl ?_
        obtain ⟨g22, e23, h⟩ := hBe h
        refine AW.iast kc_93 sk_93 k10 dX1_giveNext_164 e23 ?_
        refine AW.sub (lv1 := [(0, rv z 9), (1, iv x1), (2, iv x2), (4, iv x4), (5, iv x5)]) [2, 3, 4, 5, 6] rfl ?_
        cases h
        exact J79
theorem Bookings_giveNext_s_ok {z : AZ} {rec : Int → Int → AG → Option (Int × AG)} {Dr : Nat} (hC9 : 2 ≤ Dr) (hrec : ∀ (x1 : Int) (x2 : Int) (g : AG) (r : Int × AG), rec x1 x2 g = some r → AMf z yX1_giveNext cX1_giveNext 8 none Dr [rv z 9, iv x1, iv x2] g r) {x1 : Int} {x2 : Int} {g : AG} {r : Int × AG} (h : Bookings_giveNext_s rec x1 x2 g = some r) : AMf z yX1_giveNext cX1_giveNext 8 none (Dr + 1) [rv z 9, iv x1, iv x2] g r := by
  intro d hdd
  refine AM.of (by decide +kernel) (Nat.le_of_ble_eq_true rfl) ?_
  show AW z (RX1, cX1_giveNext, 8, none) d (QD none r) 0 [(0, rv z 9), (1, iv x1), (2, iv x2)] [] g
  unfold Bookings_giveNext_s at h
  refine AW.iload_n 2 dX1_giveNext_0 rfl ?_
  refine AW.aloadr_n 0 dX1_giveNext_1 rfl ?_
  refine AW.getR af_X1_39_9 sr_9_12 dX1_giveNext_2 ?_
  refine AW.iload_n 1 dX1_giveNext_5 rfl ?_
  obtain ⟨k1, h⟩ := hK h
  refine AW.iald kc_94 sk_94 k1 dX1_giveNext_6 ?_
  refine AW.iadd dX1_giveNext_7 ?_
  refine AW.istore_n (lv1 := [(3, iv (x2 + (g 94 (ix x1)))), (0, rv z 9), (1, iv x1), (2, iv x2)]) dX1_giveNext_8 (by decide) rfl ?_
  refine AW.iload_n 0 dX1_giveNext_9 rfl ?_
  refine AW.aloadr_n 1 dX1_giveNext_10 rfl ?_
  refine AW.getI af_X1_67_9 sr_9_15 dX1_giveNext_11 ?_
  refine AW.icmp_lt (tgt := 36) dX1_giveNext_14 (by decide) (fun c2 => ?_) (fun c2 => ?_)
  · replace h := hT h c2
    exact AW.vret1 rfl dX1_giveNext_36 h rfl
  · replace h := hF h c2
    refine AW.iload_n 0 dX1_giveNext_17 rfl ?_
    refine AW.aloadr_n 1 dX1_giveNext_18 rfl ?_
    refine AW.getI af_X1_67_9 sr_9_15 dX1_giveNext_19 ?_
    refine AW.icmp_ne (tgt := 37) dX1_giveNext_22 (by decide) (fun c3 => ?_) (fun c3 => ?_)
    · replace h := hF h c3
      refine AW.sub (lv1 := [(0, rv z 9), (1, iv x1), (2, iv x2)]) [1, 2, 3] rfl ?_
      exact (Bookings_giveNext_b_ok hC9 hrec hdd _ _ _ _ _ h).1 rfl
    · replace h := hT h c3
      refine AW.aloadr_n 1 dX1_giveNext_25 rfl ?_
      refine AW.getI af_X1_70_9 sr_9_16 dX1_giveNext_26 ?_
      refine AW.aloadr_n 1 dX1_giveNext_29 rfl ?_
      refine AW.getI af_X1_64_9 sr_9_10 dX1_giveNext_30 ?_
      refine AW.icmp_lt (tgt := 37) dX1_giveNext_33 (by decide) (fun c4 => ?_) (fun c4 => ?_)
      · replace h := hT h c4
        refine AW.sub (lv1 := [(0, rv z 9), (1, iv x1), (2, iv x2)]) [1, 2, 3] rfl ?_
        exact (Bookings_giveNext_b_ok hC9 hrec hdd _ _ _ _ _ h).1 rfl
      · replace h := hF h c4
        exact AW.vret1 rfl dX1_giveNext_36 h rfl
theorem Bookings_giveNext_ok {z : AZ} {n : Nat} {x1 : Int} {x2 : Int} {g : AG} {r : Int × AG} (h : Bookings_giveNext n x1 x2 g = some r) : AMf z yX1_giveNext cX1_giveNext 8 none (2 + n * 1) [rv z 9, iv x1, iv x2] g r := by
  induction n generalizing x1 x2 g r with
  | zero => cases h
  | succ n ih =>
    have q := Bookings_giveNext_s_ok (z := z) (Dr := 2 + n * 1) (Nat.le_add_right _ _) (fun x1 x2 g r h9 => ih h9) h
    rw [show 2 + (n + 1) * 1 = 2 + n * 1 + 1 by rw [Nat.add_mul]; omega]
    exact q
set_option synthInstance.maxHeartbeats 2000000 in
theorem Bookings_giveBest_b_ok {z : AZ} {d : Nat} (hdd : 13 ≤ d) : ∀ (tag : Nat) (x2 : Int) (g : AG) (r : Int × AG), Bookings_giveBest_b tag x2 g = some r → (tag = 1 → AW z (RX1, cX1_giveBest, 3, none) d (QD none r) 35 [(0, rv z 9), (2, iv x2)] [] g) ∧ (tag = 2 → AW z (RX1, cX1_giveBest, 3, none) d (QD none r) 85 [(0, rv z 9), (2, iv x2)] [] g) := by
  refine Bookings_giveBest_b.partial_correctness (fun tag x2 g r => (tag = 1 → AW z (RX1, cX1_giveBest, 3, none) d (QD none r) 35 [(0, rv z 9), (2, iv x2)] [] g) ∧ (tag = 2 → AW z (RX1, cX1_giveBest, 3, none) d (QD none r) 85 [(0, rv z 9), (2, iv x2)] [] g)) ?_
  intro fb9 ih tag x2 g r h
  refine ⟨fun h9 => ?_, fun h9 => ?_⟩
  · subst h9
    replace h := hT h rfl
    refine AW.iload_n 1 dX1_giveBest_35 rfl ?_
    refine AW.aloadr_n 0 dX1_giveBest_36 rfl ?_
    refine AW.getI af_X1_64_9 sr_9_10 dX1_giveBest_37 ?_
    refine AW.icmp_ge (tgt := 68) dX1_giveBest_40 (by decide) (fun c1 => ?_) (fun c1 => ?_)
    · replace h := hT h c1
      refine AW.aloadr_n 0 dX1_giveBest_68 rfl ?_
      refine AW.getR af_X1_39_9 sr_9_12 dX1_giveBest_69 ?_
      refine AW.aloadr_n 0 dX1_giveBest_72 rfl ?_
      refine AW.getI af_X1_48_9 sr_9_4 dX1_giveBest_73 ?_
      refine AW.iconst dX1_giveBest_76 ?_
      obtain ⟨k2, h⟩ := hK h
      obtain ⟨g3, e4, h⟩ := hBe h
      refine AW.iast kc_94 sk_94 k2 dX1_giveBest_77 e4 ?_
      refine AW.aloadr_n 0 dX1_giveBest_78 rfl ?_
      refine AW.getI af_X1_48_9 sr_9_4 dX1_giveBest_79 ?_
      refine AW.iconst dX1_giveBest_82 ?_
      refine AW.isub dX1_giveBest_83 ?_
      refine AW.istore_n (lv1 := [(2, iv ((g3 9 4) - 1)), (0, rv z 9)]) dX1_giveBest_84 (by decide) rfl ?_
      refine AW.sub (lv1 := [(0, rv z 9), (2, iv ((g3 9 4) - 1))]) [1, 0] rfl ?_
      exact (ih _ _ _ _ h).2 rfl
    · replace h := hF h c1
      refine AW.aloadr_n 0 dX1_giveBest_43 rfl ?_
      refine AW.getR af_X1_33_9 sr_9_8 dX1_giveBest_44 ?_
      refine AW.iload_n 1 dX1_giveBest_47 rfl ?_
      refine AW.aloadr_n 0 dX1_giveBest_48 rfl ?_
      refine AW.getR af_X1_30_9 sr_9_7 dX1_giveBest_49 ?_
      refine AW.iload_n 1 dX1_giveBest_52 rfl ?_
      obtain ⟨k5, h⟩ := hK h
      refine AW.iald kc_91 sk_91 k5 dX1_giveBest_53 ?_
      obtain ⟨g6, e7, h⟩ := hBe h
      refine AW.iast kc_92 sk_92 k5 dX1_giveBest_54 e7 ?_
      refine AW.aloadr_n 0 dX1_giveBest_55 rfl ?_
      refine AW.getR af_X1_36_9 sr_9_9 dX1_giveBest_56 ?_
      refine AW.iload_n 1 dX1_giveBest_59 rfl ?_
      refine AW.iconst dX1_giveBest_60 ?_
      obtain ⟨g8, e9, h⟩ := hBe h
      refine AW.iast kc_93 sk_93 k5 dX1_giveBest_61 e9 ?_
      refine AW.iinc (lv1 := [(2, iv (x2 + 1)), (0, rv z 9)]) 1 dX1_giveBest_62 rfl (by decide) rfl ?_
      refine AW.goto (tgt := 35) dX1_giveBest_65 (by decide) ?_
      refine AW.sub (lv1 := [(0, rv z 9), (2, iv (x2 + 1))]) [1, 0] rfl ?_
      exact (ih _ _ _ _ h).1 rfl
  · subst h9
    replace h := hF h (by decide)
    replace h := hT h rfl
    refine AW.iload_n 1 dX1_giveBest_85 rfl ?_
    refine AW.if_lt (tgt := 128) dX1_giveBest_86 (by decide) (fun c1 => ?_) (fun c1 => ?_)
    · replace h := hT h c1
      refine AW.aloadr_n 0 dX1_giveBest_128 rfl ?_
      refine AW.iconst dX1_giveBest_129 ?_
      refine AW.iconst dX1_giveBest_130 ?_
      obtain ⟨r2, e3, h⟩ := hC h
      refine AW.callSv (As := [rv z 9, iv 0, iv 0]) (st := []) ((Bookings_giveNext_ok (n := 10)) e3) cq_X1_77 st_X1_giveNext (Nat.le_trans (by decide) hdd) rfl dX1_giveBest_131 rfl (Nat.le_of_ble_eq_true rfl) ?_
      exact AW.vret1 rfl dX1_giveBest_134 h rfl
    · replace h := hF h c1
      refine AW.aloadr_n 0 dX1_giveBest_89 rfl ?_
      refine AW.getR af_X1_39_9 sr_9_12 dX1_giveBest_90 ?_
      refine AW.iload_n 1 dX1_giveBest_93 rfl ?_
      refine AW.aloadr_n 0 dX1_giveBest_94 rfl ?_
      refine AW.getR af_X1_39_9 sr_9_12 dX1_giveBest_95 ?_
      refine AW.iload_n 1 dX1_giveBest_98 rfl ?_
      refine AW.iconst dX1_giveBest_99 ?_
      refine AW.iadd dX1_giveBest_100 ?_
      obtain ⟨k4, h⟩ := hK h
      refine AW.iald kc_94 sk_94 k4 dX1_giveBest_101 ?_
      refine AW.aloadr_n 0 dX1_giveBest_102 rfl ?_
      refine AW.aloadr_n 0 dX1_giveBest_103 rfl ?_
      refine AW.getR af_X1_24_9 sr_9_5 dX1_giveBest_104 ?_
      refine AW.iload_n 1 dX1_giveBest_107 rfl ?_
      obtain ⟨k5, h⟩ := hK h
      refine AW.iald kc_89 sk_89 k5 dX1_giveBest_108 ?_
      obtain ⟨r6, e7, h⟩ := hC h
      refine AW.callVi (As := [iv (g 89 (ix x2))]) (st := [iv (g 94 (ix (x2 + 1))), iv x2, rv z 94]) (Bookings_canEverBeGiven_ok e7) cq_X1_73 cr_9_X1_canEverBeGiven (Nat.le_trans (by decide) hdd) rfl dX1_giveBest_109 rfl (Nat.le_of_ble_eq_true rfl) ?_
      obtain ⟨t8, e9, h⟩ := hBe h
      refine AW.join (tgt := 120) (lv1 := [(0, rv z 9), (2, iv x2)]) (st1 := [iv t8, iv (g 94 (ix (x2 + 1))), iv x2, rv z 94]) (g1 := g) ?_ (fun J112 => ?_)
      · refine AW.iadd dX1_giveBest_120 ?_
        obtain ⟨k10, h⟩ := hK h
        obtain ⟨g11, e12, h⟩ := hBe h
        refine AW.iast kc_94 sk_94 k10 dX1_giveBest_121 e12 ?_
        refine AW.iinc (lv1 := [(2, iv (x2 + (-1))), (0, rv z 9)]) 1 dX1_giveBest_122 rfl (by decide) rfl ?_
        refine AW.goto (tgt := 85) dX1_giveBest_125 (by decide) ?_
        refine AW.sub (lv1 := [(0, rv z 9), (2, iv (x2 + (-1)))]) [1, 0] rfl ?_
        exact (ih _ _ _ _ h).2 rfl
      refine AW.if_eq (tgt := 119) dX1_giveBest_112 (by decide) (fun c13 => ?_) (fun c13 => ?_)
      · refine AW.iconst dX1_giveBest_119 ?_
        exact AW.val (e9.trans (if_pos c13)) J112
      · refine AW.iconst dX1_giveBest_115 ?_
        refine AW.goto (tgt := 120) dX1_giveBest_116 (by decide) ?_
        exact AW.val (e9.trans (if_neg c13)) J112
theorem Bookings_giveBest_ok {z : AZ} {x1 : Int} {g : AG} {r : Int × AG} (h : Bookings_giveBest x1 g = some r) : AMf z yX1_giveBest cX1_giveBest 3 none 13 [rv z 9, iv x1] g r := by
  intro d hdd
  refine AM.of (by decide +kernel) (Nat.le_of_ble_eq_true rfl) ?_
  show AW z (RX1, cX1_giveBest, 3, none) d (QD none r) 0 [(0, rv z 9), (1, iv x1)] [] g
  unfold Bookings_giveBest at h
  refine AW.iload_n 1 dX1_giveBest_0 rfl ?_
  refine AW.aloadr_n 0 dX1_giveBest_1 rfl ?_
  refine AW.getI af_X1_52_9 sr_9_11 dX1_giveBest_2 ?_
  refine AW.icmp_ne (tgt := 9) dX1_giveBest_5 (by decide) (fun c1 => ?_) (fun c1 => ?_)
  · replace h := hF h c1
    refine AW.aloadr_n 0 dX1_giveBest_9 rfl ?_
    refine AW.iload_n 1 dX1_giveBest_10 rfl ?_
    refine AW.iconst dX1_giveBest_11 ?_
    refine AW.mmin (st := [rv z 9]) cm_X1_58 mst_min mini mcd_min (Nat.le_trans (by decide) hdd) (Nat.le_of_ble_eq_true rfl) dX1_giveBest_12 ?_
    obtain ⟨g2, e3, h⟩ := hBe h
    refine AW.putI ap_X1_64_9 sr_9_10 dX1_giveBest_15 e3 ?_
    refine AW.aloadr_n 0 dX1_giveBest_18 rfl ?_
    refine AW.iload_n 1 dX1_giveBest_19 rfl ?_
    obtain ⟨g4, e5, h⟩ := hBe h
    refine AW.putI ap_X1_52_9 sr_9_11 dX1_giveBest_20 e5 ?_
    refine AW.aloadr_n 0 dX1_giveBest_23 rfl ?_
    refine AW.iconst dX1_giveBest_24 ?_
    obtain ⟨g6, e7, h⟩ := hBe h
    refine AW.putI ap_X1_67_9 sr_9_15 dX1_giveBest_25 e7 ?_
    refine AW.aloadr_n 0 dX1_giveBest_28 rfl ?_
    refine AW.iconst dX1_giveBest_29 ?_
    obtain ⟨g8, e9, h⟩ := hBe h
    refine AW.putI ap_X1_70_9 sr_9_16 dX1_giveBest_30 e9 ?_
    refine AW.iconst dX1_giveBest_33 ?_
    refine AW.istore_n (lv1 := [(2, iv 0), (0, rv z 9), (1, iv x1)]) dX1_giveBest_34 (by decide) rfl ?_
    refine AW.sub (lv1 := [(0, rv z 9), (2, iv 0)]) [1, 0] rfl ?_
    exact (Bookings_giveBest_b_ok hdd _ _ _ _ h).1 rfl
  · replace h := hT h c1
    exact AW.vret1 rfl dX1_giveBest_8 h rfl
theorem X_given_ok {z : AZ} {x1 : Int} {x2 : Int} {g : AG} {r : Int × AG} (h : X_given x1 x2 g = some r) : AMf z yX11_given cX11_given 3 (some .int) 14 [rv z 0, iv x1, iv x2] g r := by
  intro d hdd
  refine AM.of (by decide +kernel) (Nat.le_of_ble_eq_true rfl) ?_
  show AW z (RX11, cX11_given, 3, (some .int)) d (QD (some .int) r) 0 [(0, rv z 0), (1, iv x1), (2, iv x2)] [] g
  unfold X_given at h
  refine AW.iload_n 1 dX11_given_0 rfl ?_
  refine AW.iconst dX11_given_1 ?_
  refine AW.iconst dX11_given_2 ?_
  refine AW.callSi (As := [iv x1, iv 1, iv 4]) (st := []) X_within_ok cq_X11_99 st_X11_within (Nat.le_trans (by decide) hdd) rfl dX11_given_3 rfl (Nat.le_of_ble_eq_true rfl) ?_
  refine AW.if_eq (tgt := 20) dX11_given_6 (by decide) (fun c1 => ?_) (fun c1 => ?_)
  · replace h := hT h c1
    refine AW.iconst dX11_given_20 ?_
    exact AW.iret1 rfl dX11_given_21 h rfl
  · replace h := hF h c1
    refine AW.iload_n 1 dX11_given_9 rfl ?_
    refine AW.aloadr_n 0 dX11_given_10 rfl ?_
    refine AW.getR af_X11_49_0 sr_0_5 dX11_given_11 ?_
    refine AW.getI af_X11_103_6 sr_6_7 dX11_given_14 ?_
    refine AW.icmp_le (tgt := 22) dX11_given_17 (by decide) (fun c2 => ?_) (fun c2 => ?_)
    · replace h := hT h c2
      refine AW.aloadr_n 0 dX11_given_22 rfl ?_
      refine AW.iload_n 1 dX11_given_23 rfl ?_
      obtain ⟨r3, e4, h⟩ := hC h
      refine AW.callVv (As := [iv x1]) (st := []) (X_hireFirst_ok e4) cq_X11_271 cr_0_X11_hireFirst (Nat.le_trans (by decide) hdd) rfl dX11_given_24 rfl (Nat.le_of_ble_eq_true rfl) ?_
      refine AW.aloadr_n 0 dX11_given_27 rfl ?_
      refine AW.getR af_X11_72_0 sr_0_8 dX11_given_28 ?_
      refine AW.iload_n 1 dX11_given_31 rfl ?_
      obtain ⟨r5, e6, h⟩ := hC h
      refine AW.callVv (As := [iv x1]) (st := []) (Bookings_giveBest_ok e6) cq_X11_274 cr_9_X1_giveBest (Nat.le_trans (by decide) hdd) rfl dX11_given_32 rfl (Nat.le_of_ble_eq_true rfl) ?_
      refine AW.iload_n 2 dX11_given_35 rfl ?_
      refine AW.if_ne (tgt := 47) dX11_given_36 (by decide) (fun c7 => ?_) (fun c7 => ?_)
      · replace h := hF h c7
        refine AW.iload_n 2 dX11_given_47 rfl ?_
        refine AW.iconst dX11_given_48 ?_
        refine AW.icmp_ne (tgt := 60) dX11_given_49 (by decide) (fun c8 => ?_) (fun c8 => ?_)
        · replace h := hF h c8
          refine AW.iload_n 2 dX11_given_60 rfl ?_
          refine AW.bipush dX11_given_61 (by decide) (by decide) ?_
          refine AW.icmp_lt (tgt := 80) dX11_given_63 (by decide) (fun c9 => ?_) (fun c9 => ?_)
          · replace h := hT h c9
            refine AW.iconst dX11_given_80 ?_
            exact AW.iret1 rfl dX11_given_81 h rfl
          · replace h := hF h c9
            refine AW.iload_n 2 dX11_given_66 rfl ?_
            refine AW.bipush dX11_given_67 (by decide) (by decide) ?_
            refine AW.isub dX11_given_69 ?_
            refine AW.aloadr_n 0 dX11_given_70 rfl ?_
            refine AW.getR af_X11_72_0 sr_0_8 dX11_given_71 ?_
            refine AW.getI af_X11_283_9 sr_9_4 dX11_given_74 ?_
            refine AW.icmp_lt (tgt := 82) dX11_given_77 (by decide) (fun c10 => ?_) (fun c10 => ?_)
            · replace h := hT h c10
              refine AW.aloadr_n 0 dX11_given_82 rfl ?_
              refine AW.getR af_X11_72_0 sr_0_8 dX11_given_83 ?_
              refine AW.getR af_X11_284_9 sr_9_14 dX11_given_86 ?_
              refine AW.iload_n 2 dX11_given_89 rfl ?_
              refine AW.bipush dX11_given_90 (by decide) (by decide) ?_
              refine AW.isub dX11_given_92 ?_
              obtain ⟨k11, h⟩ := hK h
              refine AW.iald kc_96 sk_96 k11 dX11_given_93 ?_
              exact AW.iret1 rfl dX11_given_94 h rfl
            · replace h := hF h c10
              refine AW.iconst dX11_given_80 ?_
              exact AW.iret1 rfl dX11_given_81 h rfl
        · replace h := hT h c8
          refine AW.aloadr_n 0 dX11_given_52 rfl ?_
          refine AW.getR af_X11_72_0 sr_0_8 dX11_given_53 ?_
          refine AW.getI af_X11_280_9 sr_9_16 dX11_given_56 ?_
          exact AW.iret1 rfl dX11_given_59 h rfl
      · replace h := hT h c7
        refine AW.aloadr_n 0 dX11_given_39 rfl ?_
        refine AW.getR af_X11_72_0 sr_0_8 dX11_given_40 ?_
        refine AW.getI af_X11_277_9 sr_9_15 dX11_given_43 ?_
        exact AW.iret1 rfl dX11_given_46 h rfl
    · replace h := hF h c2
      refine AW.iconst dX11_given_20 ?_
      exact AW.iret1 rfl dX11_given_21 h rfl
theorem X_more_ok {z : AZ} {x1 : Int} {x2 : Int} {x3 : Int} {g : AG} {r : Int × AG} (h : X_more x1 x2 x3 g = some r) : AMf z yX11_more cX11_more 5 (some .int) 14 [rv z 0, iv x1, iv x2, iv x3] g r := by
  intro d hdd
  refine AM.of (by decide +kernel) (Nat.le_of_ble_eq_true rfl) ?_
  show AW z (RX11, cX11_more, 5, (some .int)) d (QD (some .int) r) 0 [(0, rv z 0), (1, iv x1), (2, iv x2), (3, iv x3)] [] g
  unfold X_more at h
  refine AW.iload_n 1 dX11_more_0 rfl ?_
  refine AW.iconst dX11_more_1 ?_
  refine AW.iconst dX11_more_2 ?_
  refine AW.callSi (As := [iv x1, iv 1, iv 3]) (st := []) X_within_ok cq_X11_99 st_X11_within (Nat.le_trans (by decide) hdd) rfl dX11_more_3 rfl (Nat.le_of_ble_eq_true rfl) ?_
  refine AW.if_eq (tgt := 20) dX11_more_6 (by decide) (fun c1 => ?_) (fun c1 => ?_)
  · replace h := hT h c1
    refine AW.iconst dX11_more_20 ?_
    exact AW.iret1 rfl dX11_more_21 h rfl
  · replace h := hF h c1
    refine AW.iload_n 1 dX11_more_9 rfl ?_
    refine AW.aloadr_n 0 dX11_more_10 rfl ?_
    refine AW.getR af_X11_49_0 sr_0_5 dX11_more_11 ?_
    refine AW.getI af_X11_103_6 sr_6_7 dX11_more_14 ?_
    refine AW.icmp_le (tgt := 22) dX11_more_17 (by decide) (fun c2 => ?_) (fun c2 => ?_)
    · replace h := hT h c2
      refine AW.iload_n 2 dX11_more_22 rfl ?_
      refine AW.callSi (As := [iv x2]) (st := []) X_isBerths_ok cq_X11_143 st_X11_isBerths (Nat.le_trans (by decide) hdd) rfl dX11_more_23 rfl (Nat.le_of_ble_eq_true rfl) ?_
      refine AW.if_eq (tgt := 36) dX11_more_26 (by decide) (fun c3 => ?_) (fun c3 => ?_)
      · replace h := hT h c3
        refine AW.iconst dX11_more_36 ?_
        exact AW.iret1 rfl dX11_more_37 h rfl
      · replace h := hF h c3
        refine AW.iload_n 3 dX11_more_29 rfl ?_
        refine AW.callSi (As := [iv x3]) (st := []) X_isPoint_ok cq_X11_111 st_X11_isPoint (Nat.le_trans (by decide) hdd) rfl dX11_more_30 rfl (Nat.le_of_ble_eq_true rfl) ?_
        refine AW.if_ne (tgt := 38) dX11_more_33 (by decide) (fun c4 => ?_) (fun c4 => ?_)
        · replace h := hF h c4
          refine AW.aloadr_n 0 dX11_more_38 rfl ?_
          refine AW.iload_n 1 dX11_more_39 rfl ?_
          obtain ⟨r5, e6, h⟩ := hC h
          refine AW.callVv (As := [iv x1]) (st := []) (X_hireFirst_ok e6) cq_X11_271 cr_0_X11_hireFirst (Nat.le_trans (by decide) hdd) rfl dX11_more_40 rfl (Nat.le_of_ble_eq_true rfl) ?_
          refine AW.aloadr_n 0 dX11_more_43 rfl ?_
          refine AW.getR af_X11_72_0 sr_0_8 dX11_more_44 ?_
          refine AW.iload_n 1 dX11_more_47 rfl ?_
          refine AW.iload_n 2 dX11_more_48 rfl ?_
          refine AW.iload_n 3 dX11_more_49 rfl ?_
          obtain ⟨r7, e8, h⟩ := hC h
          refine AW.callVv (As := [iv x1, iv x2, iv x3]) (st := []) (Bookings_hire_ok e8) cq_X11_293 cr_9_X1_hire (Nat.le_trans (by decide) hdd) rfl dX11_more_50 rfl (Nat.le_of_ble_eq_true rfl) ?_
          refine AW.aloadr_n 0 dX11_more_53 rfl ?_
          refine AW.getR af_X11_72_0 sr_0_8 dX11_more_54 ?_
          refine AW.iload_n 1 dX11_more_57 rfl ?_
          obtain ⟨r9, e10, h⟩ := hC h
          refine AW.callVv (As := [iv x1]) (st := []) (Bookings_giveBest_ok e10) cq_X11_274 cr_9_X1_giveBest (Nat.le_trans (by decide) hdd) rfl dX11_more_58 rfl (Nat.le_of_ble_eq_true rfl) ?_
          refine AW.aloadr_n 0 dX11_more_61 rfl ?_
          refine AW.getR af_X11_72_0 sr_0_8 dX11_more_62 ?_
          refine AW.getI af_X11_277_9 sr_9_15 dX11_more_65 ?_
          refine AW.istore (lv1 := [(4, iv (r9.2 9 15)), (0, rv z 0), (1, iv x1), (2, iv x2), (3, iv x3)]) dX11_more_68 (by decide) rfl ?_
          refine AW.aloadr_n 1 dX11_more_70 rfl ?_
          refine AW.getR af_X11_72_0 sr_0_8 dX11_more_71 ?_
          refine AW.iload_n 2 dX11_more_74 rfl ?_
          refine AW.iconst dX11_more_75 ?_
          refine AW.iadd dX11_more_76 ?_
          obtain ⟨r11, e12, h⟩ := hC h
          refine AW.callVv (As := [iv (x1 + 1)]) (st := []) (Bookings_giveBest_ok e12) cq_X11_274 cr_9_X1_giveBest (Nat.le_trans (by decide) hdd) rfl dX11_more_77 rfl (Nat.le_of_ble_eq_true rfl) ?_
          refine AW.aloadr_n 1 dX11_more_80 rfl ?_
          refine AW.getR af_X11_72_0 sr_0_8 dX11_more_81 ?_
          refine AW.getI af_X11_277_9 sr_9_15 dX11_more_84 ?_
          refine AW.iload 0 dX11_more_87 rfl ?_
          refine AW.isub dX11_more_89 ?_
          exact AW.iret1 rfl dX11_more_90 h rfl
        · replace h := hT h c4
          refine AW.iconst dX11_more_36 ?_
          exact AW.iret1 rfl dX11_more_37 h rfl
    · replace h := hF h c2
      refine AW.iconst dX11_more_20 ?_
      exact AW.iret1 rfl dX11_more_21 h rfl
set_option synthInstance.maxHeartbeats 2000000 in
theorem Yard_othersInDock_b_ok {z : AZ} {d : Nat} (hdd : 0 ≤ d) {x1 : Int} {g : AG} : ∀ (x2 : Int) (x3 : Int) (r : Int), Yard_othersInDock_b x1 g x2 x3 = some r → AW z (RX10, cX10_othersInDock, 4, (some .int)) d (QD (some .int) (r, g)) 4 [(0, rv z 10), (1, iv x1), (2, iv x2), (3, iv x3)] [] g := by
  refine Yard_othersInDock_b.partial_correctness x1 g (fun x2 x3 r => AW z (RX10, cX10_othersInDock, 4, (some .int)) d (QD (some .int) (r, g)) 4 [(0, rv z 10), (1, iv x1), (2, iv x2), (3, iv x3)] [] g) ?_
  intro fb9 ih x2 x3 r h
  refine AW.iload_n 3 dX10_othersInDock_4 rfl ?_
  refine AW.bipush dX10_othersInDock_5 (by decide) (by decide) ?_
  refine AW.icmp_ge (tgt := 38) dX10_othersInDock_7 (by decide) (fun c1 => ?_) (fun c1 => ?_)
  · replace h := hT h c1
    refine AW.iload_n 2 dX10_othersInDock_38 rfl ?_
    exact AW.iret2 rfl dX10_othersInDock_39 h rfl
  · replace h := hF h c1
    refine AW.iload_n 2 dX10_othersInDock_10 rfl ?_
    refine AW.iload_n 3 dX10_othersInDock_11 rfl ?_
    refine AW.iload_n 1 dX10_othersInDock_12 rfl ?_
    obtain ⟨r7, e8, h⟩ := hC h
    refine AW.join (tgt := 30) (lv1 := [(0, rv z 10), (1, iv x1), (3, iv x3)]) (st1 := [iv r7, iv x2]) (g1 := g) ?_ (fun J13 => ?_)
    · refine AW.iadd dX10_othersInDock_30 ?_
      refine AW.istore_n (lv1 := [(2, iv (x2 + r7)), (0, rv z 10), (1, iv x1), (3, iv x3)]) dX10_othersInDock_31 (by decide) rfl ?_
      refine AW.iinc (lv1 := [(3, iv (x3 + 1)), (2, iv (x2 + r7)), (0, rv z 10), (1, iv x1)]) 3 dX10_othersInDock_32 rfl (by decide) rfl ?_
      refine AW.goto (tgt := 4) dX10_othersInDock_35 (by decide) ?_
      refine AW.sub (lv1 := [(0, rv z 10), (1, iv x1), (2, iv (x2 + r7)), (3, iv (x3 + 1))]) [2, 3, 1, 0] rfl ?_
      exact ih _ _ _ h
    replace h := e8
    refine AW.icmp_eq (tgt := 29) dX10_othersInDock_13 (by decide) (fun c2 => ?_) (fun c2 => ?_)
    · replace h := hT h c2
      refine AW.iconst dX10_othersInDock_29 ?_
      refine AW.sub (lv1 := [(0, rv z 10), (1, iv x1), (3, iv x3)]) [0, 1, 3] rfl ?_
      cases h
      exact J13
    · replace h := hF h c2
      refine AW.aloadr_n 0 dX10_othersInDock_16 rfl ?_
      refine AW.getR af_X10_15_10 sr_10_1 dX10_othersInDock_17 ?_
      refine AW.iload_n 3 dX10_othersInDock_20 rfl ?_
      obtain ⟨k3, h⟩ := hK h
      refine AW.iald kc_98 sk_98 k3 dX10_othersInDock_21 ?_
      obtain ⟨t4, e5, h⟩ := hBe h
      refine AW.join (tgt := 30) (lv1 := [(0, rv z 10), (1, iv x1), (2, iv x2), (3, iv x3)]) (st1 := [iv t4, iv x2]) (g1 := g) ?_ (fun J22 => ?_)
      · refine AW.sub (lv1 := [(0, rv z 10), (1, iv x1), (3, iv x3)]) [0, 1, 3] rfl ?_
        cases h
        exact J13
      refine AW.if_le (tgt := 29) dX10_othersInDock_22 (by decide) (fun c6 => ?_) (fun c6 => ?_)
      · refine AW.iconst dX10_othersInDock_29 ?_
        exact AW.val (e5.trans (if_pos c6)) J22
      · refine AW.iconst dX10_othersInDock_25 ?_
        refine AW.goto (tgt := 30) dX10_othersInDock_26 (by decide) ?_
        exact AW.val (e5.trans (if_neg c6)) J22
theorem Yard_othersInDock_ok {z : AZ} {x1 : Int} {g : AG} {r : Int} (h : Yard_othersInDock x1 g = some r) : AMf z yX10_othersInDock cX10_othersInDock 4 (some .int) 0 [rv z 10, iv x1] g (r, g) := by
  intro d hdd
  refine AM.of (by decide +kernel) (Nat.le_of_ble_eq_true rfl) ?_
  show AW z (RX10, cX10_othersInDock, 4, (some .int)) d (QD (some .int) (r, g)) 0 [(0, rv z 10), (1, iv x1)] [] g
  unfold Yard_othersInDock at h
  refine AW.iconst dX10_othersInDock_0 ?_
  refine AW.istore_n (lv1 := [(2, iv 0), (0, rv z 10), (1, iv x1)]) dX10_othersInDock_1 (by decide) rfl ?_
  refine AW.iconst dX10_othersInDock_2 ?_
  refine AW.istore_n (lv1 := [(3, iv 0), (2, iv 0), (0, rv z 10), (1, iv x1)]) dX10_othersInDock_3 (by decide) rfl ?_
  refine AW.sub (lv1 := [(0, rv z 10), (1, iv x1), (2, iv 0), (3, iv 0)]) [2, 3, 1, 0] rfl ?_
  exact Yard_othersInDock_b_ok hdd _ _ _ h
theorem Yard_tellDock_ok {z : AZ} {x1 : Int} {x2 : Int} {x3 : Int} {g : AG} {r : Int × AG} (h : Yard_tellDock x1 x2 x3 g = some r) : AMf z yX10_tellDock cX10_tellDock 4 (some .boolean) 1 [rv z 10, iv x1, iv x2, iv x3] g r := by
  intro d hdd
  refine AM.of (by decide +kernel) (Nat.le_of_ble_eq_true rfl) ?_
  show AW z (RX10, cX10_tellDock, 4, (some .boolean)) d (QD (some .boolean) r) 0 [(0, rv z 10), (1, iv x1), (2, iv x2), (3, iv x3)] [] g
  unfold Yard_tellDock at h
  refine AW.aloadr_n 0 dX10_tellDock_0 rfl ?_
  refine AW.iload_n 1 dX10_tellDock_1 rfl ?_
  obtain ⟨r1, e2, h⟩ := hC h
  refine AW.callVi (As := [iv x1]) (st := []) (Yard_othersInDock_ok e2) cq_X10_42 cr_10_X10_othersInDock (Nat.le_trans (by decide) hdd) rfl dX10_tellDock_2 rfl (Nat.le_of_ble_eq_true rfl) ?_
  refine AW.bipush dX10_tellDock_5 (by decide) (by decide) ?_
  refine AW.icmp_lt (tgt := 12) dX10_tellDock_7 (by decide) (fun c3 => ?_) (fun c3 => ?_)
  · replace h := hT h c3
    refine AW.aloadr_n 0 dX10_tellDock_12 rfl ?_
    refine AW.getR af_X10_9_10 sr_10_0 dX10_tellDock_13 ?_
    refine AW.iload_n 1 dX10_tellDock_16 rfl ?_
    refine AW.iload_n 2 dX10_tellDock_17 rfl ?_
    obtain ⟨k4, h⟩ := hK h
    obtain ⟨g5, e6, h⟩ := hBe h
    refine AW.iast kc_97 sk_97 k4 dX10_tellDock_18 e6 ?_
    refine AW.aloadr_n 0 dX10_tellDock_19 rfl ?_
    refine AW.getR af_X10_15_10 sr_10_1 dX10_tellDock_20 ?_
    refine AW.iload_n 1 dX10_tellDock_23 rfl ?_
    refine AW.iload_n 3 dX10_tellDock_24 rfl ?_
    obtain ⟨g7, e8, h⟩ := hBe h
    refine AW.iast kc_98 sk_98 k4 dX10_tellDock_25 e8 ?_
    refine AW.iconst dX10_tellDock_26 ?_
    exact AW.zret1 rfl (Or.inr rfl) dX10_tellDock_27 h rfl
  · replace h := hF h c3
    refine AW.iconst dX10_tellDock_10 ?_
    exact AW.zret1 rfl (Or.inl rfl) dX10_tellDock_11 h rfl
theorem X_gas_ok {z : AZ} {x1 : Int} {x2 : Int} {x3 : Int} {g : AG} {r : Int × AG} (h : X_gas x1 x2 x3 g = some r) : AMf z yX11_gas cX11_gas 4 (some .boolean) 2 [rv z 0, iv x1, iv x2, iv x3] g r := by
  intro d hdd
  refine AM.of (by decide +kernel) (Nat.le_of_ble_eq_true rfl) ?_
  show AW z (RX11, cX11_gas, 4, (some .boolean)) d (QD (some .boolean) r) 0 [(0, rv z 0), (1, iv x1), (2, iv x2), (3, iv x3)] [] g
  unfold X_gas at h
  refine AW.aloadr_n 0 dX11_gas_0 rfl ?_
  refine AW.iload_n 1 dX11_gas_1 rfl ?_
  refine AW.callVi (As := [iv x1]) (st := []) X_isBoat_ok cq_X11_107 cr_0_X11_isBoat (Nat.le_trans (by decide) hdd) rfl dX11_gas_2 rfl (Nat.le_of_ble_eq_true rfl) ?_
  refine AW.if_eq (tgt := 29) dX11_gas_5 (by decide) (fun c1 => ?_) (fun c1 => ?_)
  · replace h := hT h c1
    refine AW.iconst dX11_gas_29 ?_
    exact AW.zret1 rfl (Or.inl rfl) dX11_gas_30 h rfl
  · replace h := hF h c1
    refine AW.iload_n 2 dX11_gas_8 rfl ?_
    refine AW.iconst dX11_gas_9 ?_
    refine AW.sipush dX11_gas_10 (by decide) (by decide) ?_
    refine AW.callSi (As := [iv x2, iv 0, iv 999]) (st := []) X_within_ok cq_X11_99 st_X11_within (Nat.le_trans (by decide) hdd) rfl dX11_gas_13 rfl (Nat.le_of_ble_eq_true rfl) ?_
    refine AW.if_eq (tgt := 29) dX11_gas_16 (by decide) (fun c2 => ?_) (fun c2 => ?_)
    · replace h := hT h c2
      refine AW.iconst dX11_gas_29 ?_
      exact AW.zret1 rfl (Or.inl rfl) dX11_gas_30 h rfl
    · replace h := hF h c2
      refine AW.iload_n 3 dX11_gas_19 rfl ?_
      refine AW.iconst dX11_gas_20 ?_
      refine AW.bipush dX11_gas_21 (by decide) (by decide) ?_
      refine AW.callSi (As := [iv x3, iv 0, iv 60]) (st := []) X_within_ok cq_X11_99 st_X11_within (Nat.le_trans (by decide) hdd) rfl dX11_gas_23 rfl (Nat.le_of_ble_eq_true rfl) ?_
      refine AW.if_ne (tgt := 31) dX11_gas_26 (by decide) (fun c3 => ?_) (fun c3 => ?_)
      · replace h := hF h c3
        refine AW.aloadr_n 0 dX11_gas_31 rfl ?_
        refine AW.getR af_X11_79_0 sr_0_9 dX11_gas_32 ?_
        refine AW.iload_n 1 dX11_gas_35 rfl ?_
        refine AW.iload_n 2 dX11_gas_36 rfl ?_
        refine AW.iload_n 3 dX11_gas_37 rfl ?_
        obtain ⟨r4, e5, h⟩ := hC h
        refine AW.callVi (As := [iv x1, iv x2, iv x3]) (st := []) (Yard_tellDock_ok e5) cq_X11_296 cr_10_X10_tellDock (Nat.le_trans (by decide) hdd) rfl dX11_gas_38 rfl (Nat.le_of_ble_eq_true rfl) ?_
        obtain ⟨k6, h⟩ := hK h
        exact AW.zret1 rfl k6 dX11_gas_41 h rfl
      · replace h := hT h c3
        refine AW.iconst dX11_gas_29 ?_
        exact AW.zret1 rfl (Or.inl rfl) dX11_gas_30 h rfl
theorem Yard_isBetter_ok {z : AZ} {x1 : Int} {x2 : Int} {x3 : Int} {g : AG} {r : Int} (h : Yard_isBetter x1 x2 x3 g = some r) : AMf z yX10_isBetter cX10_isBetter 4 (some .boolean) 0 [rv z 10, iv x1, iv x2, iv x3] g (r, g) := by
  intro d hdd
  refine AM.of (by decide +kernel) (Nat.le_of_ble_eq_true rfl) ?_
  show AW z (RX10, cX10_isBetter, 4, (some .boolean)) d (QD (some .boolean) (r, g)) 0 [(0, rv z 10), (1, iv x1), (2, iv x2), (3, iv x3)] [] g
  unfold Yard_isBetter at h
  refine AW.aloadr_n 0 dX10_isBetter_0 rfl ?_
  refine AW.getR af_X10_27_10 sr_10_6 dX10_isBetter_1 ?_
  refine AW.iload_n 1 dX10_isBetter_4 rfl ?_
  obtain ⟨k1, h⟩ := hK h
  refine AW.iald kc_102 sk_102 k1 dX10_isBetter_5 ?_
  refine AW.iconst dX10_isBetter_6 ?_
  obtain ⟨r8, e9, h⟩ := hC h
  refine AW.join (tgt := 45) (lv1 := []) (st1 := [iv r8]) (g1 := g) ?_ (fun J7 => ?_)
  · obtain ⟨k10, h⟩ := hK h
    exact AW.zret2 rfl k10 dX10_isBetter_45 h rfl
  replace h := e9
  refine AW.icmp_eq (tgt := 40) dX10_isBetter_7 (by decide) (fun c2 => ?_) (fun c2 => ?_)
  · replace h := hT h c2
    refine AW.iconst dX10_isBetter_40 ?_
    refine AW.goto (tgt := 45) dX10_isBetter_41 (by decide) ?_
    refine AW.sub (lv1 := []) [] rfl ?_
    cases h
    exact J7
  · replace h := hF h c2
    refine AW.iload_n 2 dX10_isBetter_10 rfl ?_
    refine AW.aloadr_n 0 dX10_isBetter_11 rfl ?_
    refine AW.getR af_X10_21_10 sr_10_4 dX10_isBetter_12 ?_
    refine AW.iload_n 1 dX10_isBetter_15 rfl ?_
    refine AW.iald kc_100 sk_100 k1 dX10_isBetter_16 ?_
    refine AW.icmp_lt (tgt := 40) dX10_isBetter_17 (by decide) (fun c3 => ?_) (fun c3 => ?_)
    · replace h := hT h c3
      refine AW.iconst dX10_isBetter_40 ?_
      refine AW.goto (tgt := 45) dX10_isBetter_41 (by decide) ?_
      refine AW.sub (lv1 := []) [] rfl ?_
      cases h
      exact J7
    · replace h := hF h c3
      refine AW.iload_n 2 dX10_isBetter_20 rfl ?_
      refine AW.aloadr_n 0 dX10_isBetter_21 rfl ?_
      refine AW.getR af_X10_21_10 sr_10_4 dX10_isBetter_22 ?_
      refine AW.iload_n 1 dX10_isBetter_25 rfl ?_
      refine AW.iald kc_100 sk_100 k1 dX10_isBetter_26 ?_
      refine AW.icmp_ne (tgt := 44) dX10_isBetter_27 (by decide) (fun c4 => ?_) (fun c4 => ?_)
      · replace h := hF h c4
        refine AW.iconst dX10_isBetter_44 ?_
        refine AW.sub (lv1 := []) [] rfl ?_
        cases h
        exact J7
      · replace h := hT h c4
        refine AW.iload_n 3 dX10_isBetter_30 rfl ?_
        refine AW.aloadr_n 0 dX10_isBetter_31 rfl ?_
        refine AW.getR af_X10_24_10 sr_10_5 dX10_isBetter_32 ?_
        refine AW.iload_n 1 dX10_isBetter_35 rfl ?_
        refine AW.iald kc_101 sk_101 k1 dX10_isBetter_36 ?_
        obtain ⟨t5, e6, h⟩ := hBe h
        refine AW.join (tgt := 45) (lv1 := [(0, rv z 10), (1, iv x1), (2, iv x2), (3, iv x3)]) (st1 := [iv t5]) (g1 := g) ?_ (fun J37 => ?_)
        · refine AW.sub (lv1 := []) [] rfl ?_
          cases h
          exact J7
        refine AW.icmp_ge (tgt := 44) dX10_isBetter_37 (by decide) (fun c7 => ?_) (fun c7 => ?_)
        · refine AW.iconst dX10_isBetter_44 ?_
          exact AW.val (e6.trans (if_pos c7)) J37
        · refine AW.iconst dX10_isBetter_40 ?_
          refine AW.goto (tgt := 45) dX10_isBetter_41 (by decide) ?_
          exact AW.val (e6.trans (if_neg c7)) J37
set_option synthInstance.maxHeartbeats 2000000 in
theorem Yard_chooseNext_b_ok {z : AZ} {d : Nat} (hdd : 1 ≤ d) {x1 : Int} : ∀ (tag : Nat) (x2 : Int) (x3 : Int) (g : AG) (r : Int × AG), Yard_chooseNext_b x1 tag x2 x3 g = some r → (tag = 1 → AW z (RX10, cX10_chooseNext, 7, none) d (QD none r) 4 [(0, rv z 10), (1, iv x1), (2, iv x2), (3, iv x3)] [] g) ∧ (tag = 2 → AW z (RX10, cX10_chooseNext, 7, none) d (QD none r) 53 [(0, rv z 10), (1, iv x1), (2, iv x2), (3, iv x3)] [] g) := by
  refine Yard_chooseNext_b.partial_correctness x1 (fun tag x2 x3 g r => (tag = 1 → AW z (RX10, cX10_chooseNext, 7, none) d (QD none r) 4 [(0, rv z 10), (1, iv x1), (2, iv x2), (3, iv x3)] [] g) ∧ (tag = 2 → AW z (RX10, cX10_chooseNext, 7, none) d (QD none r) 53 [(0, rv z 10), (1, iv x1), (2, iv x2), (3, iv x3)] [] g)) ?_
  intro fb9 ih tag x2 x3 g r h
  refine ⟨fun h9 => ?_, fun h9 => ?_⟩
  · subst h9
    replace h := hT h rfl
    refine AW.iload_n 3 dX10_chooseNext_4 rfl ?_
    refine AW.aloadr_n 0 dX10_chooseNext_5 rfl ?_
    refine AW.getI af_X10_46_10 sr_10_2 dX10_chooseNext_6 ?_
    refine AW.icmp_ge (tgt := 44) dX10_chooseNext_9 (by decide) (fun c1 => ?_) (fun c1 => ?_)
    · replace h := hT h c1
      refine AW.aloadr_n 0 dX10_chooseNext_44 rfl ?_
      refine AW.getR af_X10_27_10 sr_10_6 dX10_chooseNext_45 ?_
      refine AW.iload_n 1 dX10_chooseNext_48 rfl ?_
      refine AW.iconst dX10_chooseNext_49 ?_
      obtain ⟨k2, h⟩ := hK h
      obtain ⟨g3, e4, h⟩ := hBe h
      refine AW.iast kc_102 sk_102 k2 dX10_chooseNext_50 e4 ?_
      refine AW.iconst dX10_chooseNext_51 ?_
      refine AW.istore_n (lv1 := [(3, iv 0), (0, rv z 10), (1, iv x1), (2, iv x2)]) dX10_chooseNext_52 (by decide) rfl ?_
      refine AW.sub (lv1 := [(0, rv z 10), (1, iv x1), (2, iv x2), (3, iv 0)]) [1, 2, 3, 0] rfl ?_
      exact (ih _ _ _ _ _ h).2 rfl
    · replace h := hF h c1
      refine AW.iload_n 2 dX10_chooseNext_12 rfl ?_
      refine AW.iload_n 1 dX10_chooseNext_13 rfl ?_
      refine AW.iload_n 3 dX10_chooseNext_14 rfl ?_
      refine AW.ishr dX10_chooseNext_15 ?_
      refine AW.iconst dX10_chooseNext_16 ?_
      refine AW.iand dX10_chooseNext_17 ?_
      obtain ⟨r8, e9, h⟩ := hC h
      refine AW.join (tgt := 36) (lv1 := [(0, rv z 10), (1, iv x1), (3, iv x3)]) (st1 := [iv r8.1, iv x2]) (g1 := r8.2) ?_ (fun J18 => ?_)
      · refine AW.iadd dX10_chooseNext_36 ?_
        refine AW.istore_n (lv1 := [(2, iv (x2 + r8.1)), (0, rv z 10), (1, iv x1), (3, iv x3)]) dX10_chooseNext_37 (by decide) rfl ?_
        refine AW.iinc (lv1 := [(3, iv (x3 + 1)), (2, iv (x2 + r8.1)), (0, rv z 10), (1, iv x1)]) 3 dX10_chooseNext_38 rfl (by decide) rfl ?_
        refine AW.goto (tgt := 4) dX10_chooseNext_41 (by decide) ?_
        refine AW.sub (lv1 := [(0, rv z 10), (1, iv x1), (2, iv (x2 + r8.1)), (3, iv (x3 + 1))]) [2, 3, 1, 0] rfl ?_
        exact (ih _ _ _ _ _ h).1 rfl
      replace h := e9
      refine AW.if_eq (tgt := 35) dX10_chooseNext_18 (by decide) (fun c5 => ?_) (fun c5 => ?_)
      · replace h := hT h c5
        refine AW.iconst dX10_chooseNext_35 ?_
        refine AW.sub (lv1 := [(0, rv z 10), (1, iv x1), (3, iv x3)]) [0, 1, 3] rfl ?_
        cases h
        exact J18
      · replace h := hF h c5
        refine AW.aloadr_n 0 dX10_chooseNext_21 rfl ?_
        refine AW.getR af_X10_15_10 sr_10_1 dX10_chooseNext_22 ?_
        refine AW.aloadr_n 0 dX10_chooseNext_25 rfl ?_
        refine AW.getR af_X10_18_10 sr_10_3 dX10_chooseNext_26 ?_
        refine AW.iload_n 3 dX10_chooseNext_29 rfl ?_
        obtain ⟨k6, h⟩ := hK h
        refine AW.iald kc_99 sk_99 k6 dX10_chooseNext_30 ?_
        obtain ⟨k7, h⟩ := hK h
        refine AW.iald kc_98 sk_98 k7 dX10_chooseNext_31 ?_
        refine AW.goto (tgt := 36) dX10_chooseNext_32 (by decide) ?_
        refine AW.sub (lv1 := [(0, rv z 10), (1, iv x1), (3, iv x3)]) [0, 1, 3] rfl ?_
        cases h
        exact J18
  · subst h9
    replace h := hF h (by decide)
    replace h := hT h rfl
    refine AW.iload_n 3 dX10_chooseNext_53 rfl ?_
    refine AW.aloadr_n 0 dX10_chooseNext_54 rfl ?_
    refine AW.getI af_X10_46_10 sr_10_2 dX10_chooseNext_55 ?_
    refine AW.icmp_ge (tgt := 174) dX10_chooseNext_58 (by decide) (fun c1 => ?_) (fun c1 => ?_)
    · replace h := hT h c1
      exact AW.vret1 rfl dX10_chooseNext_174 h rfl
    · replace h := hF h c1
      refine AW.iload_n 1 dX10_chooseNext_61 rfl ?_
      refine AW.iload_n 3 dX10_chooseNext_62 rfl ?_
      refine AW.ishr dX10_chooseNext_63 ?_
      refine AW.iconst dX10_chooseNext_64 ?_
      refine AW.iand dX10_chooseNext_65 ?_
      obtain ⟨r21, e22, h⟩ := hC h
      refine AW.join (tgt := 168) (lv1 := [(0, rv z 10), (1, iv x1), (2, iv x2), (3, iv x3)]) (st1 := []) (g1 := r21) ?_ (fun J66 => ?_)
      · refine AW.iinc (lv1 := [(3, iv (x3 + 1)), (0, rv z 10), (1, iv x1), (2, iv x2)]) 3 dX10_chooseNext_168 rfl (by decide) rfl ?_
        refine AW.goto (tgt := 53) dX10_chooseNext_171 (by decide) ?_
        refine AW.sub (lv1 := [(0, rv z 10), (1, iv x1), (2, iv x2), (3, iv (x3 + 1))]) [1, 2, 3, 0] rfl ?_
        exact (ih _ _ _ _ _ h).2 rfl
      replace h := e22
      refine AW.if_ne (tgt := 168) dX10_chooseNext_66 (by decide) (fun c2 => ?_) (fun c2 => ?_)
      · replace h := hF h c2
        cases h
        exact J66
      · replace h := hT h c2
        refine AW.iload_n 2 dX10_chooseNext_69 rfl ?_
        refine AW.aloadr_n 0 dX10_chooseNext_70 rfl ?_
        refine AW.getR af_X10_15_10 sr_10_1 dX10_chooseNext_71 ?_
        refine AW.aloadr_n 0 dX10_chooseNext_74 rfl ?_
        refine AW.getR af_X10_18_10 sr_10_3 dX10_chooseNext_75 ?_
        refine AW.iload_n 3 dX10_chooseNext_78 rfl ?_
        obtain ⟨k3, h⟩ := hK h
        refine AW.iald kc_99 sk_99 k3 dX10_chooseNext_79 ?_
        obtain ⟨k4, h⟩ := hK h
        refine AW.iald kc_98 sk_98 k4 dX10_chooseNext_80 ?_
        refine AW.iadd dX10_chooseNext_81 ?_
        refine AW.istore (lv1 := [(4, iv (x2 + (g 98 (ix (g 99 (ix x3)))))), (0, rv z 10), (1, iv x1), (2, iv x2), (3, iv x3)]) dX10_chooseNext_82 (by decide) rfl ?_
        refine AW.aloadr_n 1 dX10_chooseNext_84 rfl ?_
        refine AW.getR af_X10_21_10 sr_10_4 dX10_chooseNext_85 ?_
        refine AW.iload_n 2 dX10_chooseNext_88 rfl ?_
        refine AW.iconst dX10_chooseNext_89 ?_
        refine AW.iload_n 4 dX10_chooseNext_90 rfl ?_
        refine AW.ishl dX10_chooseNext_91 ?_
        refine AW.ior dX10_chooseNext_92 ?_
        obtain ⟨k5, h⟩ := hK h
        refine AW.iald kc_100 sk_100 k5 dX10_chooseNext_93 ?_
        refine AW.iload 0 dX10_chooseNext_94 rfl ?_
        refine AW.aloadr_n 1 dX10_chooseNext_96 rfl ?_
        refine AW.getR af_X10_9_10 sr_10_0 dX10_chooseNext_97 ?_
        refine AW.aloadr_n 1 dX10_chooseNext_100 rfl ?_
        refine AW.getR af_X10_18_10 sr_10_3 dX10_chooseNext_101 ?_
        refine AW.iload_n 4 dX10_chooseNext_104 rfl ?_
        refine AW.iald kc_99 sk_99 k3 dX10_chooseNext_105 ?_
        refine AW.iald kc_97 sk_97 k4 dX10_chooseNext_106 ?_
        obtain ⟨t6, e7, h⟩ := hBe h
        refine AW.join (tgt := 115) (lv1 := [(4, iv (x2 + (g 98 (ix (g 99 (ix x3)))))), (0, rv z 10), (1, iv x1), (2, iv x2), (3, iv x3)]) (st1 := [iv t6, iv (g 100 (ix (orI x1 (shlI 1 x3))))]) (g1 := g) ?_ (fun J107 => ?_)
        · refine AW.iadd dX10_chooseNext_115 ?_
          refine AW.istore (lv1 := [(5, iv ((g 100 (ix (orI x1 (shlI 1 x3)))) + t6)), (4, iv (x2 + (g 98 (ix (g 99 (ix x3)))))), (0, rv z 10), (1, iv x1), (2, iv x2), (3, iv x3)]) dX10_chooseNext_116 (by decide) rfl ?_
          refine AW.aloadr_n 2 dX10_chooseNext_118 rfl ?_
          refine AW.getR af_X10_24_10 sr_10_5 dX10_chooseNext_119 ?_
          refine AW.iload_n 3 dX10_chooseNext_122 rfl ?_
          refine AW.iconst dX10_chooseNext_123 ?_
          refine AW.iload_n 5 dX10_chooseNext_124 rfl ?_
          refine AW.ishl dX10_chooseNext_125 ?_
          refine AW.ior dX10_chooseNext_126 ?_
          refine AW.iald kc_101 sk_101 k5 dX10_chooseNext_127 ?_
          refine AW.iload 1 dX10_chooseNext_128 rfl ?_
          refine AW.iadd dX10_chooseNext_130 ?_
          obtain ⟨t8, e9, h⟩ := hBe h
          refine AW.val e9 ?_
          refine AW.istore (lv1 := [(6, iv t8), (5, iv ((g 100 (ix (orI x1 (shlI 1 x3)))) + t6)), (4, iv (x2 + (g 98 (ix (g 99 (ix x3)))))), (0, rv z 10), (1, iv x1), (2, iv x2), (3, iv x3)]) dX10_chooseNext_131 (by decide) rfl ?_
          refine AW.aloadr_n 3 dX10_chooseNext_133 rfl ?_
          refine AW.iload_n 4 dX10_chooseNext_134 rfl ?_
          refine AW.iload 1 dX10_chooseNext_135 rfl ?_
          refine AW.iload 0 dX10_chooseNext_137 rfl ?_
          obtain ⟨r10, e11, h⟩ := hC h
          refine AW.callVi (As := [iv x1, iv ((g 100 (ix (orI x1 (shlI 1 x3)))) + t6), iv t8]) (st := []) (Yard_isBetter_ok e11) cq_X10_54 cr_10_X10_isBetter (Nat.le_trans (by decide) hdd) rfl dX10_chooseNext_139 rfl (Nat.le_of_ble_eq_true rfl) ?_
          refine AW.if_eq (tgt := 168) dX10_chooseNext_142 (by decide) (fun c12 => ?_) (fun c12 => ?_)
          · replace h := hT h c12
            refine AW.sub (lv1 := [(0, rv z 10), (1, iv x1), (2, iv x2), (3, iv x3)]) [3, 4, 5, 6] rfl ?_
            cases h
            exact J66
          · replace h := hF h c12
            refine AW.aloadr_n 3 dX10_chooseNext_145 rfl ?_
            refine AW.getR af_X10_21_10 sr_10_4 dX10_chooseNext_146 ?_
            refine AW.iload_n 4 dX10_chooseNext_149 rfl ?_
            refine AW.iload 1 dX10_chooseNext_150 rfl ?_
            obtain ⟨k13, h⟩ := hK h
            obtain ⟨g14, e15, h⟩ := hBe h
            refine AW.iast kc_100 sk_100 k13 dX10_chooseNext_152 e15 ?_
            refine AW.aloadr_n 3 dX10_chooseNext_153 rfl ?_
            refine AW.getR af_X10_24_10 sr_10_5 dX10_chooseNext_154 ?_
            refine AW.iload_n 4 dX10_chooseNext_157 rfl ?_
            refine AW.iload 0 dX10_chooseNext_158 rfl ?_
            obtain ⟨g16, e17, h⟩ := hBe h
            refine AW.iast kc_101 sk_101 k13 dX10_chooseNext_160 e17 ?_
            refine AW.aloadr_n 3 dX10_chooseNext_161 rfl ?_
            refine AW.getR af_X10_27_10 sr_10_6 dX10_chooseNext_162 ?_
            refine AW.iload_n 4 dX10_chooseNext_165 rfl ?_
            refine AW.iload_n 6 dX10_chooseNext_166 rfl ?_
            obtain ⟨g18, e19, h⟩ := hBe h
            refine AW.iast kc_102 sk_102 k13 dX10_chooseNext_167 e19 ?_
            refine AW.sub (lv1 := [(0, rv z 10), (1, iv x1), (2, iv x2), (3, iv x3)]) [3, 4, 5, 6] rfl ?_
            cases h
            exact J66
        refine AW.icmp_le (tgt := 114) dX10_chooseNext_107 (by decide) (fun c20 => ?_) (fun c20 => ?_)
        · refine AW.iconst dX10_chooseNext_114 ?_
          exact AW.val (e7.trans (if_pos c20)) J107
        · refine AW.iconst dX10_chooseNext_110 ?_
          refine AW.goto (tgt := 115) dX10_chooseNext_111 (by decide) ?_
          exact AW.val (e7.trans (if_neg c20)) J107
theorem Yard_chooseNext_ok {z : AZ} {x1 : Int} {g : AG} {r : Int × AG} (h : Yard_chooseNext x1 g = some r) : AMf z yX10_chooseNext cX10_chooseNext 7 none 1 [rv z 10, iv x1] g r := by
  intro d hdd
  refine AM.of (by decide +kernel) (Nat.le_of_ble_eq_true rfl) ?_
  show AW z (RX10, cX10_chooseNext, 7, none) d (QD none r) 0 [(0, rv z 10), (1, iv x1)] [] g
  unfold Yard_chooseNext at h
  refine AW.iconst dX10_chooseNext_0 ?_
  refine AW.istore_n (lv1 := [(2, iv 0), (0, rv z 10), (1, iv x1)]) dX10_chooseNext_1 (by decide) rfl ?_
  refine AW.iconst dX10_chooseNext_2 ?_
  refine AW.istore_n (lv1 := [(3, iv 0), (2, iv 0), (0, rv z 10), (1, iv x1)]) dX10_chooseNext_3 (by decide) rfl ?_
  refine AW.sub (lv1 := [(0, rv z 10), (1, iv x1), (2, iv 0), (3, iv 0)]) [2, 3, 1, 0] rfl ?_
  exact (Yard_chooseNext_b_ok hdd _ _ _ _ _ h).1 rfl
set_option synthInstance.maxHeartbeats 2000000 in
theorem Yard_orderDock_b_ok {z : AZ} {d : Nat} (hdd : 2 ≤ d) : ∀ (tag : Nat) (x1 : Int) (x2 : Int) (g : AG) (r : Int × AG), Yard_orderDock_b tag x1 x2 g = some r → (tag = 1 → AW z (RX10, cX10_orderDock, 3, none) d (QD none r) 7 [(0, rv z 10), (1, iv x1)] [] g) ∧ (tag = 2 → AW z (RX10, cX10_orderDock, 3, none) d (QD none r) 84 [(0, rv z 10), (2, iv x2)] [] g) := by
  refine Yard_orderDock_b.partial_correctness (fun tag x1 x2 g r => (tag = 1 → AW z (RX10, cX10_orderDock, 3, none) d (QD none r) 7 [(0, rv z 10), (1, iv x1)] [] g) ∧ (tag = 2 → AW z (RX10, cX10_orderDock, 3, none) d (QD none r) 84 [(0, rv z 10), (2, iv x2)] [] g)) ?_
  intro fb9 ih tag x1 x2 g r h
  refine ⟨fun h9 => ?_, fun h9 => ?_⟩
  · subst h9
    replace h := hT h rfl
    refine AW.iload_n 1 dX10_orderDock_7 rfl ?_
    refine AW.bipush dX10_orderDock_8 (by decide) (by decide) ?_
    refine AW.icmp_ge (tgt := 57) dX10_orderDock_10 (by decide) (fun c1 => ?_) (fun c1 => ?_)
    · replace h := hT h c1
      refine AW.iconst dX10_orderDock_57 ?_
      refine AW.aloadr_n 0 dX10_orderDock_58 rfl ?_
      refine AW.getI af_X10_46_10 sr_10_2 dX10_orderDock_59 ?_
      refine AW.ishl dX10_orderDock_62 ?_
      refine AW.iconst dX10_orderDock_63 ?_
      refine AW.isub dX10_orderDock_64 ?_
      refine AW.istore_n (lv1 := [(1, iv ((shlI 1 (g 10 2)) - 1)), (0, rv z 10)]) dX10_orderDock_65 (by decide) rfl ?_
      refine AW.aloadr_n 1 dX10_orderDock_66 rfl ?_
      refine AW.getR af_X10_21_10 sr_10_4 dX10_orderDock_67 ?_
      refine AW.iload_n 0 dX10_orderDock_70 rfl ?_
      refine AW.iconst dX10_orderDock_71 ?_
      obtain ⟨k2, h⟩ := hK h
      obtain ⟨g3, e4, h⟩ := hBe h
      refine AW.iast kc_100 sk_100 k2 dX10_orderDock_72 e4 ?_
      refine AW.aloadr_n 1 dX10_orderDock_73 rfl ?_
      refine AW.getR af_X10_24_10 sr_10_5 dX10_orderDock_74 ?_
      refine AW.iload_n 0 dX10_orderDock_77 rfl ?_
      refine AW.iconst dX10_orderDock_78 ?_
      obtain ⟨g5, e6, h⟩ := hBe h
      refine AW.iast kc_101 sk_101 k2 dX10_orderDock_79 e6 ?_
      refine AW.iload_n 0 dX10_orderDock_80 rfl ?_
      refine AW.iconst dX10_orderDock_81 ?_
      refine AW.isub dX10_orderDock_82 ?_
      refine AW.istore_n (lv1 := [(2, iv (((shlI 1 (g 10 2)) - 1) - 1)), (1, iv ((shlI 1 (g 10 2)) - 1)), (0, rv z 10)]) dX10_orderDock_83 (by decide) rfl ?_
      refine AW.sub (lv1 := [(0, rv z 10), (2, iv (((shlI 1 (g 10 2)) - 1) - 1))]) [2, 0] rfl ?_
      exact (ih _ _ _ _ _ h).2 rfl
    · replace h := hF h c1
      refine AW.aloadr_n 0 dX10_orderDock_13 rfl ?_
      refine AW.getR af_X10_15_10 sr_10_1 dX10_orderDock_14 ?_
      refine AW.iload_n 1 dX10_orderDock_17 rfl ?_
      obtain ⟨k7, h⟩ := hK h
      refine AW.iald kc_98 sk_98 k7 dX10_orderDock_18 ?_
      obtain ⟨r15, e16, h⟩ := hC h
      refine AW.join (tgt := 51) (lv1 := [(0, rv z 10), (1, iv x1)]) (st1 := []) (g1 := r15) ?_ (fun J19 => ?_)
      · refine AW.iinc (lv1 := [(1, iv (x1 + 1)), (0, rv z 10)]) 1 dX10_orderDock_51 rfl (by decide) rfl ?_
        refine AW.goto (tgt := 7) dX10_orderDock_54 (by decide) ?_
        refine AW.sub (lv1 := [(0, rv z 10), (1, iv (x1 + 1))]) [1, 0] rfl ?_
        exact (ih _ _ _ _ _ h).1 rfl
      replace h := e16
      refine AW.if_le (tgt := 51) dX10_orderDock_19 (by decide) (fun c8 => ?_) (fun c8 => ?_)
      · replace h := hT h c8
        cases h
        exact J19
      · replace h := hF h c8
        refine AW.aloadr_n 0 dX10_orderDock_22 rfl ?_
        refine AW.getI af_X10_46_10 sr_10_2 dX10_orderDock_23 ?_
        refine AW.bipush dX10_orderDock_26 (by decide) (by decide) ?_
        refine AW.icmp_ge (tgt := 51) dX10_orderDock_28 (by decide) (fun c9 => ?_) (fun c9 => ?_)
        · replace h := hT h c9
          cases h
          exact J19
        · replace h := hF h c9
          refine AW.aloadr_n 0 dX10_orderDock_31 rfl ?_
          refine AW.getR af_X10_18_10 sr_10_3 dX10_orderDock_32 ?_
          refine AW.aloadr_n 0 dX10_orderDock_35 rfl ?_
          refine AW.getI af_X10_46_10 sr_10_2 dX10_orderDock_36 ?_
          refine AW.iload_n 1 dX10_orderDock_39 rfl ?_
          obtain ⟨k10, h⟩ := hK h
          obtain ⟨g11, e12, h⟩ := hBe h
          refine AW.iast kc_99 sk_99 k10 dX10_orderDock_40 e12 ?_
          refine AW.aloadr_n 0 dX10_orderDock_41 rfl ?_
          refine AW.duprr dX10_orderDock_42 ?_
          refine AW.getI af_X10_46_10 sr_10_2 dX10_orderDock_43 ?_
          refine AW.iconst dX10_orderDock_46 ?_
          refine AW.iadd dX10_orderDock_47 ?_
          obtain ⟨g13, e14, h⟩ := hBe h
          refine AW.putI ap_X10_46_10 sr_10_2 dX10_orderDock_48 e14 ?_
          cases h
          exact J19
  · subst h9
    replace h := hF h (by decide)
    replace h := hT h rfl
    refine AW.iload_n 1 dX10_orderDock_84 rfl ?_
    refine AW.if_lt (tgt := 99) dX10_orderDock_85 (by decide) (fun c1 => ?_) (fun c1 => ?_)
    · replace h := hT h c1
      exact AW.vret1 rfl dX10_orderDock_99 h rfl
    · replace h := hF h c1
      refine AW.aloadr_n 0 dX10_orderDock_88 rfl ?_
      refine AW.iload_n 1 dX10_orderDock_89 rfl ?_
      obtain ⟨r2, e3, h⟩ := hC h
      refine AW.callVv (As := [iv x2]) (st := []) (Yard_chooseNext_ok e3) cq_X10_50 cr_10_X10_chooseNext (Nat.le_trans (by decide) hdd) rfl dX10_orderDock_90 rfl (Nat.le_of_ble_eq_true rfl) ?_
      refine AW.iinc (lv1 := [(2, iv (x2 + (-1))), (0, rv z 10)]) 1 dX10_orderDock_93 rfl (by decide) rfl ?_
      refine AW.goto (tgt := 84) dX10_orderDock_96 (by decide) ?_
      refine AW.sub (lv1 := [(0, rv z 10), (2, iv (x2 + (-1)))]) [1, 0] rfl ?_
      exact (ih _ _ _ _ _ h).2 rfl
theorem Yard_orderDock_ok {z : AZ} {g : AG} {r : Int × AG} (h : Yard_orderDock g = some r) : AMf z yX10_orderDock cX10_orderDock 3 none 2 [rv z 10] g r := by
  intro d hdd
  refine AM.of (by decide +kernel) (Nat.le_of_ble_eq_true rfl) ?_
  show AW z (RX10, cX10_orderDock, 3, none) d (QD none r) 0 [(0, rv z 10)] [] g
  unfold Yard_orderDock at h
  refine AW.aloadr_n 0 dX10_orderDock_0 rfl ?_
  refine AW.iconst dX10_orderDock_1 ?_
  obtain ⟨g1, e2, h⟩ := hBe h
  refine AW.putI ap_X10_46_10 sr_10_2 dX10_orderDock_2 e2 ?_
  refine AW.iconst dX10_orderDock_5 ?_
  refine AW.istore_n (lv1 := [(1, iv 0), (0, rv z 10)]) dX10_orderDock_6 (by decide) rfl ?_
  refine AW.sub (lv1 := [(0, rv z 10), (1, iv 0)]) [1, 0] rfl ?_
  exact (Yard_orderDock_b_ok hdd _ _ _ _ _ h).1 rfl
set_option synthInstance.maxHeartbeats 2000000 in
theorem Yard_dockedAt_b_ok {z : AZ} {d : Nat} (hdd : 1 ≤ d) {x1 : Int} {g : AG} : ∀ (x2 : Int) (x3 : Int) (r : Int), Yard_dockedAt_b x1 g x2 x3 = some r → AW z (RX10, cX10_dockedAt, 4, (some .int)) d (QD (some .int) (r, g)) 23 [(0, rv z 10), (1, iv x1), (2, iv x2), (3, iv x3)] [] g := by
  refine Yard_dockedAt_b.partial_correctness x1 g (fun x2 x3 r => AW z (RX10, cX10_dockedAt, 4, (some .int)) d (QD (some .int) (r, g)) 23 [(0, rv z 10), (1, iv x1), (2, iv x2), (3, iv x3)] [] g) ?_
  intro fb9 ih x2 x3 r h
  refine AW.iload_n 3 dX10_dockedAt_23 rfl ?_
  refine AW.iload_n 1 dX10_dockedAt_24 rfl ?_
  refine AW.bipush dX10_dockedAt_25 (by decide) (by decide) ?_
  refine AW.isub dX10_dockedAt_27 ?_
  refine AW.icmp_ge (tgt := 48) dX10_dockedAt_28 (by decide) (fun c1 => ?_) (fun c1 => ?_)
  · replace h := hT h c1
    refine AW.aloadr_n 0 dX10_dockedAt_48 rfl ?_
    refine AW.getR af_X10_18_10 sr_10_3 dX10_dockedAt_49 ?_
    refine AW.aloadr_n 0 dX10_dockedAt_52 rfl ?_
    refine AW.getR af_X10_27_10 sr_10_6 dX10_dockedAt_53 ?_
    refine AW.iload_n 2 dX10_dockedAt_56 rfl ?_
    obtain ⟨k2, h⟩ := hK h
    refine AW.iald kc_102 sk_102 k2 dX10_dockedAt_57 ?_
    obtain ⟨k3, h⟩ := hK h
    refine AW.iald kc_99 sk_99 k3 dX10_dockedAt_58 ?_
    exact AW.iret2 rfl dX10_dockedAt_59 h rfl
  · replace h := hF h c1
    refine AW.iload_n 2 dX10_dockedAt_31 rfl ?_
    refine AW.iconst dX10_dockedAt_32 ?_
    refine AW.aloadr_n 0 dX10_dockedAt_33 rfl ?_
    refine AW.getR af_X10_27_10 sr_10_6 dX10_dockedAt_34 ?_
    refine AW.iload_n 2 dX10_dockedAt_37 rfl ?_
    obtain ⟨k4, h⟩ := hK h
    refine AW.iald kc_102 sk_102 k4 dX10_dockedAt_38 ?_
    refine AW.ishl dX10_dockedAt_39 ?_
    refine AW.ior dX10_dockedAt_40 ?_
    refine AW.istore_n (lv1 := [(2, iv (orI x2 (shlI 1 (g 102 (ix x2))))), (0, rv z 10), (1, iv x1), (3, iv x3)]) dX10_dockedAt_41 (by decide) rfl ?_
    refine AW.iinc (lv1 := [(3, iv (x3 + 1)), (2, iv (orI x2 (shlI 1 (g 102 (ix x2))))), (0, rv z 10), (1, iv x1)]) 3 dX10_dockedAt_42 rfl (by decide) rfl ?_
    refine AW.goto (tgt := 23) dX10_dockedAt_45 (by decide) ?_
    refine AW.sub (lv1 := [(0, rv z 10), (1, iv x1), (2, iv (orI x2 (shlI 1 (g 102 (ix x2))))), (3, iv (x3 + 1))]) [2, 3, 1, 0] rfl ?_
    exact ih _ _ _ h
theorem Yard_dockedAt_ok {z : AZ} {x1 : Int} {g : AG} {r : Int} (h : Yard_dockedAt x1 g = some r) : AMf z yX10_dockedAt cX10_dockedAt 4 (some .int) 1 [rv z 10, iv x1] g (r, g) := by
  intro d hdd
  refine AM.of (by decide +kernel) (Nat.le_of_ble_eq_true rfl) ?_
  show AW z (RX10, cX10_dockedAt, 4, (some .int)) d (QD (some .int) (r, g)) 0 [(0, rv z 10), (1, iv x1)] [] g
  unfold Yard_dockedAt at h
  refine AW.iload_n 1 dX10_dockedAt_0 rfl ?_
  refine AW.bipush dX10_dockedAt_1 (by decide) (by decide) ?_
  refine AW.isub dX10_dockedAt_3 ?_
  refine AW.iconst dX10_dockedAt_4 ?_
  refine AW.aloadr_n 0 dX10_dockedAt_5 rfl ?_
  refine AW.getI af_X10_46_10 sr_10_2 dX10_dockedAt_6 ?_
  refine AW.iconst dX10_dockedAt_9 ?_
  refine AW.isub dX10_dockedAt_10 ?_
  refine AW.callN0 (As := [iv (x1 - 10), iv 0, iv ((g 10 2) - 1)]) (st := []) X_within_ok ns_X10_58 in_X11 cd_X11_within st_X11_within (by decide) (Nat.le_trans (by decide) hdd) rfl (Nat.le_of_ble_eq_true rfl) dX10_dockedAt_11 rfl ?_
  refine AW.if_ne (tgt := 19) dX10_dockedAt_14 (by decide) (fun c1 => ?_) (fun c1 => ?_)
  · replace h := hF h c1
    refine AW.iconst dX10_dockedAt_19 ?_
    refine AW.istore_n (lv1 := [(2, iv 0), (0, rv z 10), (1, iv x1)]) dX10_dockedAt_20 (by decide) rfl ?_
    refine AW.iconst dX10_dockedAt_21 ?_
    refine AW.istore_n (lv1 := [(3, iv 0), (2, iv 0), (0, rv z 10), (1, iv x1)]) dX10_dockedAt_22 (by decide) rfl ?_
    refine AW.sub (lv1 := [(0, rv z 10), (1, iv x1), (2, iv 0), (3, iv 0)]) [2, 3, 1, 0] rfl ?_
    exact Yard_dockedAt_b_ok hdd _ _ _ h
  · replace h := hT h c1
    refine AW.iconst dX10_dockedAt_17 ?_
    exact AW.iret2 rfl dX10_dockedAt_18 h rfl
theorem X_dock_ok {z : AZ} {x1 : Int} {g : AG} {r : Int × AG} (h : X_dock x1 g = some r) : AMf z yX11_dock cX11_dock 2 (some .int) 3 [rv z 0, iv x1] g r := by
  intro d hdd
  refine AM.of (by decide +kernel) (Nat.le_of_ble_eq_true rfl) ?_
  show AW z (RX11, cX11_dock, 2, (some .int)) d (QD (some .int) r) 0 [(0, rv z 0), (1, iv x1)] [] g
  unfold X_dock at h
  refine AW.aloadr_n 0 dX11_dock_0 rfl ?_
  refine AW.getR af_X11_79_0 sr_0_9 dX11_dock_1 ?_
  obtain ⟨r1, e2, h⟩ := hC h
  refine AW.callVv (As := []) (st := []) (Yard_orderDock_ok e2) cq_X11_299 cr_10_X10_orderDock (Nat.le_trans (by decide) hdd) rfl dX11_dock_4 rfl (Nat.le_of_ble_eq_true rfl) ?_
  refine AW.iload_n 1 dX11_dock_7 rfl ?_
  by_cases c3 : nw x1 = 0
  · replace h := hT h c3
    refine AW.tsIn (tgt := 36) 0 dX11_dock_8 c3 (by decide) (by decide) (by rfl) (by decide) ?_
    refine AW.aloadr_n 0 dX11_dock_36 rfl ?_
    refine AW.getR af_X11_79_0 sr_0_9 dX11_dock_37 ?_
    refine AW.getR af_X11_302_10 sr_10_4 dX11_dock_40 ?_
    refine AW.iconst dX11_dock_43 ?_
    refine AW.iald kc_100 sk_100 (by decide) dX11_dock_44 ?_
    exact AW.iret1 rfl dX11_dock_45 h rfl
  · replace h := hF h c3
    by_cases c4 : nw x1 = 1
    · replace h := hT h c4
      refine AW.tsIn (tgt := 46) 1 dX11_dock_8 c4 (by decide) (by decide) (by rfl) (by decide) ?_
      refine AW.aloadr_n 0 dX11_dock_46 rfl ?_
      refine AW.getR af_X11_79_0 sr_0_9 dX11_dock_47 ?_
      refine AW.getR af_X11_305_10 sr_10_5 dX11_dock_50 ?_
      refine AW.iconst dX11_dock_53 ?_
      refine AW.iald kc_101 sk_101 (by decide) dX11_dock_54 ?_
      exact AW.iret1 rfl dX11_dock_55 h rfl
    · replace h := hF h c4
      by_cases c5 : nw x1 = 2
      · replace h := hT h c5
        refine AW.tsIn (tgt := 56) 2 dX11_dock_8 c5 (by decide) (by decide) (by rfl) (by decide) ?_
        refine AW.aloadr_n 0 dX11_dock_56 rfl ?_
        refine AW.getR af_X11_79_0 sr_0_9 dX11_dock_57 ?_
        refine AW.getI af_X11_308_10 sr_10_2 dX11_dock_60 ?_
        exact AW.iret1 rfl dX11_dock_63 h rfl
      · replace h := hF h c5
        refine AW.tsOut (tgt := 64) dX11_dock_8 (by omega) (by decide) ?_
        refine AW.aloadr_n 0 dX11_dock_64 rfl ?_
        refine AW.getR af_X11_79_0 sr_0_9 dX11_dock_65 ?_
        refine AW.iload_n 1 dX11_dock_68 rfl ?_
        obtain ⟨r6, e7, h⟩ := hC h
        refine AW.callVi (As := [iv x1]) (st := []) (Yard_dockedAt_ok e7) cq_X11_311 cr_10_X10_dockedAt (Nat.le_trans (by decide) hdd) rfl dX11_dock_69 rfl (Nat.le_of_ble_eq_true rfl) ?_
        exact AW.iret1 rfl dX11_dock_72 h rfl
theorem Yard_addJob_ok {z : AZ} {x1 : Int} {g : AG} {r : Int × AG} (h : Yard_addJob x1 g = some r) : AMf z yX10_addJob cX10_addJob 2 (some .int) 0 [rv z 10, iv x1] g r := by
  intro d hdd
  refine AM.of (by decide +kernel) (Nat.le_of_ble_eq_true rfl) ?_
  show AW z (RX10, cX10_addJob, 2, (some .int)) d (QD (some .int) r) 0 [(0, rv z 10), (1, iv x1)] [] g
  unfold Yard_addJob at h
  refine AW.aloadr_n 0 dX10_addJob_0 rfl ?_
  refine AW.getI af_X10_61_10 sr_10_7 dX10_addJob_1 ?_
  refine AW.bipush dX10_addJob_4 (by decide) (by decide) ?_
  refine AW.icmp_lt (tgt := 11) dX10_addJob_6 (by decide) (fun c1 => ?_) (fun c1 => ?_)
  · replace h := hT h c1
    refine AW.aloadr_n 0 dX10_addJob_11 rfl ?_
    refine AW.getR af_X10_30_10 sr_10_8 dX10_addJob_12 ?_
    refine AW.aloadr_n 0 dX10_addJob_15 rfl ?_
    refine AW.getI af_X10_61_10 sr_10_7 dX10_addJob_16 ?_
    refine AW.iload_n 1 dX10_addJob_19 rfl ?_
    obtain ⟨k2, h⟩ := hK h
    obtain ⟨g3, e4, h⟩ := hBe h
    refine AW.iast kc_103 sk_103 k2 dX10_addJob_20 e4 ?_
    refine AW.aloadr_n 0 dX10_addJob_21 rfl ?_
    refine AW.duprr dX10_addJob_22 ?_
    refine AW.getI af_X10_61_10 sr_10_7 dX10_addJob_23 ?_
    refine AW.iconst dX10_addJob_26 ?_
    refine AW.iadd dX10_addJob_27 ?_
    obtain ⟨g5, e6, h⟩ := hBe h
    refine AW.putI ap_X10_61_10 sr_10_7 dX10_addJob_28 e6 ?_
    refine AW.aloadr_n 0 dX10_addJob_31 rfl ?_
    refine AW.getI af_X10_61_10 sr_10_7 dX10_addJob_32 ?_
    exact AW.iret1 rfl dX10_addJob_35 h rfl
  · replace h := hF h c1
    refine AW.iconst dX10_addJob_9 ?_
    exact AW.iret1 rfl dX10_addJob_10 h rfl
theorem X_job_ok {z : AZ} {x1 : Int} {g : AG} {r : Int × AG} (h : X_job x1 g = some r) : AMf z yX11_job cX11_job 2 (some .int) 1 [rv z 0, iv x1] g r := by
  intro d hdd
  refine AM.of (by decide +kernel) (Nat.le_of_ble_eq_true rfl) ?_
  show AW z (RX11, cX11_job, 2, (some .int)) d (QD (some .int) r) 0 [(0, rv z 0), (1, iv x1)] [] g
  unfold X_job at h
  refine AW.iload_n 1 dX11_job_0 rfl ?_
  refine AW.if_ne (tgt := 14) dX11_job_1 (by decide) (fun c1 => ?_) (fun c1 => ?_)
  · replace h := hF h c1
    refine AW.iload_n 1 dX11_job_14 rfl ?_
    refine AW.iconst dX11_job_15 ?_
    refine AW.sipush dX11_job_16 (by decide) (by decide) ?_
    refine AW.callSi (As := [iv x1, iv 1, iv 300]) (st := []) X_within_ok cq_X11_99 st_X11_within (Nat.le_trans (by decide) hdd) rfl dX11_job_19 rfl (Nat.le_of_ble_eq_true rfl) ?_
    refine AW.if_ne (tgt := 27) dX11_job_22 (by decide) (fun c2 => ?_) (fun c2 => ?_)
    · replace h := hF h c2
      refine AW.aloadr_n 0 dX11_job_27 rfl ?_
      refine AW.getR af_X11_79_0 sr_0_9 dX11_job_28 ?_
      refine AW.iload_n 1 dX11_job_31 rfl ?_
      obtain ⟨r3, e4, h⟩ := hC h
      refine AW.callVi (As := [iv x1]) (st := []) (Yard_addJob_ok e4) cq_X11_317 cr_10_X10_addJob (Nat.le_trans (by decide) hdd) rfl dX11_job_32 rfl (Nat.le_of_ble_eq_true rfl) ?_
      exact AW.iret1 rfl dX11_job_35 h rfl
    · replace h := hT h c2
      refine AW.iconst dX11_job_25 ?_
      exact AW.iret1 rfl dX11_job_26 h rfl
  · replace h := hT h c1
    refine AW.aloadr_n 0 dX11_job_4 rfl ?_
    refine AW.getR af_X11_79_0 sr_0_9 dX11_job_5 ?_
    refine AW.iconst dX11_job_8 ?_
    obtain ⟨g5, e6, h⟩ := hBe h
    refine AW.putI ap_X11_314_10 sr_10_7 dX11_job_9 e6 ?_
    refine AW.iconst dX11_job_12 ?_
    exact AW.iret1 rfl dX11_job_13 h rfl
set_option synthInstance.maxHeartbeats 2000000 in
theorem Yard_workInOrder_b_ok {z : AZ} {d : Nat} (hdd : 1 ≤ d) {x1 : Int} : ∀ (tag : Nat) (x2 : Int) (x3 : Int) (x4 : Int) (g : AG) (r : Int × AG), Yard_workInOrder_b x1 tag x2 x3 x4 g = some r → (tag = 1 → AW z (RX10, cX10_workInOrder, 5, none) d (QD none r) 24 [(0, rv z 10), (1, iv x1), (2, iv x2)] [] g) ∧ (tag = 2 → AW z (RX10, cX10_workInOrder, 5, none) d (QD none r) 37 [(0, rv z 10), (1, iv x1), (2, iv x2), (3, iv x3), (4, iv x4)] [] g) := by
  refine Yard_workInOrder_b.partial_correctness x1 (fun tag x2 x3 x4 g r => (tag = 1 → AW z (RX10, cX10_workInOrder, 5, none) d (QD none r) 24 [(0, rv z 10), (1, iv x1), (2, iv x2)] [] g) ∧ (tag = 2 → AW z (RX10, cX10_workInOrder, 5, none) d (QD none r) 37 [(0, rv z 10), (1, iv x1), (2, iv x2), (3, iv x3), (4, iv x4)] [] g)) ?_
  intro fb9 ih tag x2 x3 x4 g r h
  refine ⟨fun h9 => ?_, fun h9 => ?_⟩
  · subst h9
    replace h := hT h rfl
    refine AW.iload_n 2 dX10_workInOrder_24 rfl ?_
    refine AW.aloadr_n 0 dX10_workInOrder_25 rfl ?_
    refine AW.getI af_X10_61_10 sr_10_7 dX10_workInOrder_26 ?_
    refine AW.icmp_ge (tgt := 136) dX10_workInOrder_29 (by decide) (fun c1 => ?_) (fun c1 => ?_)
    · replace h := hT h c1
      exact AW.vret1 rfl dX10_workInOrder_136 h rfl
    · replace h := hF h c1
      refine AW.iconst dX10_workInOrder_32 ?_
      refine AW.istore_n (lv1 := [(3, iv 0), (0, rv z 10), (1, iv x1), (2, iv x2)]) dX10_workInOrder_33 (by decide) rfl ?_
      refine AW.iconst dX10_workInOrder_34 ?_
      refine AW.istore (lv1 := [(4, iv 1), (3, iv 0), (0, rv z 10), (1, iv x1), (2, iv x2)]) dX10_workInOrder_35 (by decide) rfl ?_
      refine AW.sub (lv1 := [(0, rv z 10), (1, iv x1), (2, iv x2), (3, iv 0), (4, iv 1)]) [2, 3, 4, 1, 0] rfl ?_
      exact (ih _ _ _ _ _ _ h).2 rfl
  · subst h9
    replace h := hF h (by decide)
    replace h := hT h rfl
    refine AW.iload 4 dX10_workInOrder_37 rfl ?_
    refine AW.iload_n 1 dX10_workInOrder_39 rfl ?_
    refine AW.icmp_ge (tgt := 72) dX10_workInOrder_40 (by decide) (fun c1 => ?_) (fun c1 => ?_)
    · replace h := hT h c1
      refine AW.aloadr_n 0 dX10_workInOrder_72 rfl ?_
      refine AW.getR af_X10_33_10 sr_10_9 dX10_workInOrder_73 ?_
      refine AW.iload_n 3 dX10_workInOrder_76 rfl ?_
      refine AW.dup2r dX10_workInOrder_77 ?_
      obtain ⟨k2, h⟩ := hK h
      refine AW.iald kc_104 sk_104 k2 dX10_workInOrder_78 ?_
      refine AW.aloadr_n 0 dX10_workInOrder_79 rfl ?_
      refine AW.getR af_X10_30_10 sr_10_8 dX10_workInOrder_80 ?_
      refine AW.iload_n 2 dX10_workInOrder_83 rfl ?_
      obtain ⟨k3, h⟩ := hK h
      refine AW.iald kc_103 sk_103 k3 dX10_workInOrder_84 ?_
      refine AW.iadd dX10_workInOrder_85 ?_
      obtain ⟨g4, e5, h⟩ := hBe h
      refine AW.iast kc_104 sk_104 k2 dX10_workInOrder_86 e5 ?_
      refine AW.aloadr_n 0 dX10_workInOrder_87 rfl ?_
      refine AW.aloadr_n 0 dX10_workInOrder_88 rfl ?_
      refine AW.getI af_X10_70_10 sr_10_13 dX10_workInOrder_89 ?_
      refine AW.aloadr_n 0 dX10_workInOrder_92 rfl ?_
      refine AW.getR af_X10_33_10 sr_10_9 dX10_workInOrder_93 ?_
      refine AW.iload_n 3 dX10_workInOrder_96 rfl ?_
      refine AW.iald kc_104 sk_104 k2 dX10_workInOrder_97 ?_
      refine AW.mmax (st := [rv z 10]) cm_X10_76 mst_max mini mcd_max (Nat.le_trans (by decide) hdd) (Nat.le_of_ble_eq_true rfl) dX10_workInOrder_98 ?_
      obtain ⟨g6, e7, h⟩ := hBe h
      refine AW.putI ap_X10_70_10 sr_10_13 dX10_workInOrder_101 e7 ?_
      refine AW.aloadr_n 0 dX10_workInOrder_104 rfl ?_
      refine AW.duprr dX10_workInOrder_105 ?_
      refine AW.getI af_X10_73_10 sr_10_14 dX10_workInOrder_106 ?_
      refine AW.aloadr_n 0 dX10_workInOrder_109 rfl ?_
      refine AW.getR af_X10_33_10 sr_10_9 dX10_workInOrder_110 ?_
      refine AW.iload_n 3 dX10_workInOrder_113 rfl ?_
      refine AW.iald kc_104 sk_104 k2 dX10_workInOrder_114 ?_
      refine AW.sipush dX10_workInOrder_115 (by decide) (by decide) ?_
      obtain ⟨t8, e9, h⟩ := hBe h
      refine AW.join (tgt := 126) (lv1 := [(0, rv z 10), (1, iv x1), (2, iv x2), (3, iv x3), (4, iv x4)]) (st1 := [iv t8, iv (g6 10 14), rv z 10]) (g1 := g6) ?_ (fun J118 => ?_)
      · refine AW.iadd dX10_workInOrder_126 ?_
        obtain ⟨g10, e11, h⟩ := hBe h
        refine AW.putI ap_X10_73_10 sr_10_14 dX10_workInOrder_127 e11 ?_
        refine AW.iinc (lv1 := [(2, iv (x2 + 1)), (0, rv z 10), (1, iv x1), (3, iv x3), (4, iv x4)]) 2 dX10_workInOrder_130 rfl (by decide) rfl ?_
        refine AW.goto (tgt := 24) dX10_workInOrder_133 (by decide) ?_
        refine AW.sub (lv1 := [(0, rv z 10), (1, iv x1), (2, iv (x2 + 1))]) [1, 2, 0] rfl ?_
        exact (ih _ _ _ _ _ _ h).1 rfl
      refine AW.icmp_le (tgt := 125) dX10_workInOrder_118 (by decide) (fun c12 => ?_) (fun c12 => ?_)
      · refine AW.iconst dX10_workInOrder_125 ?_
        exact AW.val (e9.trans (if_pos c12)) J118
      · refine AW.iconst dX10_workInOrder_121 ?_
        refine AW.goto (tgt := 126) dX10_workInOrder_122 (by decide) ?_
        exact AW.val (e9.trans (if_neg c12)) J118
    · replace h := hF h c1
      refine AW.aloadr_n 0 dX10_workInOrder_43 rfl ?_
      refine AW.getR af_X10_33_10 sr_10_9 dX10_workInOrder_44 ?_
      refine AW.iload 4 dX10_workInOrder_47 rfl ?_
      obtain ⟨k13, h⟩ := hK h
      refine AW.iald kc_104 sk_104 k13 dX10_workInOrder_49 ?_
      refine AW.aloadr_n 0 dX10_workInOrder_50 rfl ?_
      refine AW.getR af_X10_33_10 sr_10_9 dX10_workInOrder_51 ?_
      refine AW.iload_n 3 dX10_workInOrder_54 rfl ?_
      obtain ⟨k14, h⟩ := hK h
      refine AW.iald kc_104 sk_104 k14 dX10_workInOrder_55 ?_
      obtain ⟨t15, e16, h⟩ := hBe h
      refine AW.join (tgt := 65) (lv1 := [(0, rv z 10), (1, iv x1), (2, iv x2), (3, iv x3), (4, iv x4)]) (st1 := [iv t15]) (g1 := g) ?_ (fun J56 => ?_)
      · refine AW.istore_n (lv1 := [(3, iv t15), (0, rv z 10), (1, iv x1), (2, iv x2), (4, iv x4)]) dX10_workInOrder_65 (by decide) rfl ?_
        refine AW.iinc (lv1 := [(4, iv (x4 + 1)), (3, iv t15), (0, rv z 10), (1, iv x1), (2, iv x2)]) 4 dX10_workInOrder_66 rfl (by decide) rfl ?_
        refine AW.goto (tgt := 37) dX10_workInOrder_69 (by decide) ?_
        refine AW.sub (lv1 := [(0, rv z 10), (1, iv x1), (2, iv x2), (3, iv t15), (4, iv (x4 + 1))]) [2, 3, 4, 1, 0] rfl ?_
        exact (ih _ _ _ _ _ _ h).2 rfl
      refine AW.icmp_ge (tgt := 64) dX10_workInOrder_56 (by decide) (fun c17 => ?_) (fun c17 => ?_)
      · refine AW.iload_n 3 dX10_workInOrder_64 rfl ?_
        exact AW.val (e16.trans (if_pos c17)) J56
      · refine AW.iload 4 dX10_workInOrder_59 rfl ?_
        refine AW.goto (tgt := 65) dX10_workInOrder_61 (by decide) ?_
        exact AW.val (e16.trans (if_neg c17)) J56
theorem Yard_workInOrder_ok {z : AZ} {x1 : Int} {g : AG} {r : Int × AG} (h : Yard_workInOrder x1 g = some r) : AMf z yX10_workInOrder cX10_workInOrder 5 none 1 [rv z 10, iv x1] g r := by
  intro d hdd
  refine AM.of (by decide +kernel) (Nat.le_of_ble_eq_true rfl) ?_
  show AW z (RX10, cX10_workInOrder, 5, none) d (QD none r) 0 [(0, rv z 10), (1, iv x1)] [] g
  unfold Yard_workInOrder at h
  refine AW.aloadr_n 0 dX10_workInOrder_0 rfl ?_
  refine AW.getR af_X10_33_10 sr_10_9 dX10_workInOrder_1 ?_
  refine AW.sipush dX10_workInOrder_4 (by decide) (by decide) ?_
  obtain ⟨g1, e2, h⟩ := hBe h
  refine AW.callSv (st := []) (fill_ok kc_104 sk_104 (by decide)) cf_X10_64 st_fill (Nat.le_trans (by decide) hdd) rfl dX10_workInOrder_7 rfl (Nat.le_of_ble_eq_true rfl) ?_
  rw [← e2]
  refine AW.aloadr_n 0 dX10_workInOrder_10 rfl ?_
  refine AW.sipush dX10_workInOrder_11 (by decide) (by decide) ?_
  obtain ⟨g3, e4, h⟩ := hBe h
  refine AW.putI ap_X10_70_10 sr_10_13 dX10_workInOrder_14 e4 ?_
  refine AW.aloadr_n 0 dX10_workInOrder_17 rfl ?_
  refine AW.iconst dX10_workInOrder_18 ?_
  obtain ⟨g5, e6, h⟩ := hBe h
  refine AW.putI ap_X10_73_10 sr_10_14 dX10_workInOrder_19 e6 ?_
  refine AW.iconst dX10_workInOrder_22 ?_
  refine AW.istore_n (lv1 := [(2, iv 0), (0, rv z 10), (1, iv x1)]) dX10_workInOrder_23 (by decide) rfl ?_
  refine AW.sub (lv1 := [(0, rv z 10), (1, iv x1), (2, iv 0)]) [1, 2, 0] rfl ?_
  exact (Yard_workInOrder_b_ok hdd _ _ _ _ _ _ h).1 rfl
set_option synthInstance.maxHeartbeats 2000000 in
theorem Yard_shareNext_b_ok {z : AZ} {rec : Int → Int → Int → AG → Option (Int × AG)} {Dr : Nat} (hC9 : 1 ≤ Dr) (hrec : ∀ (x1 : Int) (x2 : Int) (x3 : Int) (g : AG) (r : Int × AG), rec x1 x2 x3 g = some r → AMf z yX10_shareNext cX10_shareNext 5 none Dr [rv z 10, iv x1, iv x2, iv x3] g r) {d : Nat} (hdd : Dr + 1 ≤ d) {x1 : Int} {x2 : Int} {x3 : Int} : ∀ (x4 : Int) (g : AG) (r : Int × AG), Yard_shareNext_b rec x1 x2 x3 x4 g = some r → AW z (RX10, cX10_shareNext, 5, none) d (QD none r) 43 [(0, rv z 10), (1, iv x1), (2, iv x2), (3, iv x3), (4, iv x4)] [] g := by
  refine Yard_shareNext_b.partial_correctness rec x1 x2 x3 (fun x4 g r => AW z (RX10, cX10_shareNext, 5, none) d (QD none r) 43 [(0, rv z 10), (1, iv x1), (2, iv x2), (3, iv x3), (4, iv x4)] [] g) ?_
  intro fb9 ih x4 g r h
  refine AW.iload 4 dX10_shareNext_43 rfl ?_
  refine AW.iload_n 2 dX10_shareNext_45 rfl ?_
  refine AW.icmp_ge (tgt := 114) dX10_shareNext_46 (by decide) (fun c1 => ?_) (fun c1 => ?_)
  · replace h := hT h c1
    exact AW.vret1 rfl dX10_shareNext_114 h rfl
  · replace h := hF h c1
    refine AW.aloadr_n 0 dX10_shareNext_49 rfl ?_
    refine AW.getR af_X10_36_10 sr_10_10 dX10_shareNext_50 ?_
    refine AW.iload_n 1 dX10_shareNext_53 rfl ?_
    refine AW.iload 4 dX10_shareNext_54 rfl ?_
    obtain ⟨k2, h⟩ := hK h
    obtain ⟨g3, e4, h⟩ := hBe h
    refine AW.iast kc_105 sk_105 k2 dX10_shareNext_56 e4 ?_
    refine AW.aloadr_n 0 dX10_shareNext_57 rfl ?_
    refine AW.getR af_X10_33_10 sr_10_9 dX10_shareNext_58 ?_
    refine AW.iload 4 dX10_shareNext_61 rfl ?_
    refine AW.dup2r dX10_shareNext_63 ?_
    obtain ⟨k5, h⟩ := hK h
    refine AW.iald kc_104 sk_104 k5 dX10_shareNext_64 ?_
    refine AW.aloadr_n 0 dX10_shareNext_65 rfl ?_
    refine AW.getR af_X10_30_10 sr_10_8 dX10_shareNext_66 ?_
    refine AW.iload_n 1 dX10_shareNext_69 rfl ?_
    refine AW.iald kc_103 sk_103 k2 dX10_shareNext_70 ?_
    refine AW.iadd dX10_shareNext_71 ?_
    obtain ⟨g6, e7, h⟩ := hBe h
    refine AW.iast kc_104 sk_104 k5 dX10_shareNext_72 e7 ?_
    refine AW.aloadr_n 0 dX10_shareNext_73 rfl ?_
    refine AW.iload_n 1 dX10_shareNext_74 rfl ?_
    refine AW.iconst dX10_shareNext_75 ?_
    refine AW.iadd dX10_shareNext_76 ?_
    refine AW.iload_n 2 dX10_shareNext_77 rfl ?_
    refine AW.iload_n 3 dX10_shareNext_78 rfl ?_
    refine AW.aloadr_n 0 dX10_shareNext_79 rfl ?_
    refine AW.getR af_X10_33_10 sr_10_9 dX10_shareNext_80 ?_
    refine AW.iload 4 dX10_shareNext_83 rfl ?_
    refine AW.iald kc_104 sk_104 k5 dX10_shareNext_85 ?_
    refine AW.mmax (st := [iv x2, iv (x1 + 1), rv z 10]) cm_X10_76 mst_max mini mcd_max (by omega) (Nat.le_of_ble_eq_true rfl) dX10_shareNext_86 ?_
    obtain ⟨r8, e9, h⟩ := hC h
    refine AW.callSv (As := [rv z 10, iv (x1 + 1), iv x2, iv (mxI x3 (g6 104 (ix x4)))]) (st := []) (hrec _ _ _ _ _ e9) cq_X10_85 st_X10_shareNext (by omega) rfl dX10_shareNext_89 rfl (Nat.le_of_ble_eq_true rfl) ?_
    refine AW.aloadr_n 0 dX10_shareNext_92 rfl ?_
    refine AW.getR af_X10_33_10 sr_10_9 dX10_shareNext_93 ?_
    refine AW.iload 4 dX10_shareNext_96 rfl ?_
    refine AW.dup2r dX10_shareNext_98 ?_
    refine AW.iald kc_104 sk_104 k5 dX10_shareNext_99 ?_
    refine AW.aloadr_n 0 dX10_shareNext_100 rfl ?_
    refine AW.getR af_X10_30_10 sr_10_8 dX10_shareNext_101 ?_
    refine AW.iload_n 1 dX10_shareNext_104 rfl ?_
    refine AW.iald kc_103 sk_103 k2 dX10_shareNext_105 ?_
    refine AW.isub dX10_shareNext_106 ?_
    obtain ⟨g10, e11, h⟩ := hBe h
    refine AW.iast kc_104 sk_104 k5 dX10_shareNext_107 e11 ?_
    refine AW.iinc (lv1 := [(4, iv (x4 + 1)), (0, rv z 10), (1, iv x1), (2, iv x2), (3, iv x3)]) 4 dX10_shareNext_108 rfl (by decide) rfl ?_
    refine AW.goto (tgt := 43) dX10_shareNext_111 (by decide) ?_
    refine AW.sub (lv1 := [(0, rv z 10), (1, iv x1), (2, iv x2), (3, iv x3), (4, iv (x4 + 1))]) [1, 2, 3, 4, 0] rfl ?_
    exact ih _ _ _ h
theorem Yard_shareNext_s_ok {z : AZ} {rec : Int → Int → Int → AG → Option (Int × AG)} {Dr : Nat} (hC9 : 1 ≤ Dr) (hrec : ∀ (x1 : Int) (x2 : Int) (x3 : Int) (g : AG) (r : Int × AG), rec x1 x2 x3 g = some r → AMf z yX10_shareNext cX10_shareNext 5 none Dr [rv z 10, iv x1, iv x2, iv x3] g r) {x1 : Int} {x2 : Int} {x3 : Int} {g : AG} {r : Int × AG} (h : Yard_shareNext_s rec x1 x2 x3 g = some r) : AMf z yX10_shareNext cX10_shareNext 5 none (Dr + 1) [rv z 10, iv x1, iv x2, iv x3] g r := by
  intro d hdd
  refine AM.of (by decide +kernel) (Nat.le_of_ble_eq_true rfl) ?_
  show AW z (RX10, cX10_shareNext, 5, none) d (QD none r) 0 [(0, rv z 10), (1, iv x1), (2, iv x2), (3, iv x3)] [] g
  unfold Yard_shareNext_s at h
  refine AW.iload_n 3 dX10_shareNext_0 rfl ?_
  refine AW.aloadr_n 0 dX10_shareNext_1 rfl ?_
  refine AW.getI af_X10_82_10 sr_10_12 dX10_shareNext_2 ?_
  refine AW.icmp_lt (tgt := 9) dX10_shareNext_5 (by decide) (fun c1 => ?_) (fun c1 => ?_)
  · replace h := hT h c1
    refine AW.iload_n 1 dX10_shareNext_9 rfl ?_
    refine AW.aloadr_n 0 dX10_shareNext_10 rfl ?_
    refine AW.getI af_X10_61_10 sr_10_7 dX10_shareNext_11 ?_
    refine AW.icmp_lt (tgt := 40) dX10_shareNext_14 (by decide) (fun c2 => ?_) (fun c2 => ?_)
    · replace h := hT h c2
      refine AW.iconst dX10_shareNext_40 ?_
      refine AW.istore (lv1 := [(4, iv 0), (0, rv z 10), (1, iv x1), (2, iv x2), (3, iv x3)]) dX10_shareNext_41 (by decide) rfl ?_
      refine AW.sub (lv1 := [(0, rv z 10), (1, iv x1), (2, iv x2), (3, iv x3), (4, iv 0)]) [1, 2, 3, 4, 0] rfl ?_
      exact Yard_shareNext_b_ok hC9 hrec hdd _ _ _ h
    · replace h := hF h c2
      refine AW.aloadr_n 0 dX10_shareNext_17 rfl ?_
      refine AW.iload_n 3 dX10_shareNext_18 rfl ?_
      obtain ⟨g3, e4, h⟩ := hBe h
      refine AW.putI ap_X10_82_10 sr_10_12 dX10_shareNext_19 e4 ?_
      refine AW.aloadr_n 0 dX10_shareNext_22 rfl ?_
      refine AW.getR af_X10_36_10 sr_10_10 dX10_shareNext_23 ?_
      refine AW.iconst dX10_shareNext_26 ?_
      refine AW.aloadr_n 0 dX10_shareNext_27 rfl ?_
      refine AW.getR af_X10_39_10 sr_10_11 dX10_shareNext_28 ?_
      refine AW.iconst dX10_shareNext_31 ?_
      refine AW.aloadr_n 0 dX10_shareNext_32 rfl ?_
      refine AW.getI af_X10_61_10 sr_10_7 dX10_shareNext_33 ?_
      obtain ⟨k5, h⟩ := hK h
      obtain ⟨g6, e7, h⟩ := hBe h
      refine AW.copyi cc_X10_89 ac_n ac_s ac_i kc_105 sk_105 kc_106 sk_106 ⟨by decide, by decide, k5.2.2.1, k5.2.2.2.1, k5.2.2.2.2⟩ (Nat.le_of_ble_eq_true rfl) (by omega) dX10_shareNext_36 e7 ?_
      exact AW.vret1 rfl dX10_shareNext_39 h rfl
  · replace h := hF h c1
    exact AW.vret1 rfl dX10_shareNext_8 h rfl
theorem Yard_shareNext_ok {z : AZ} {n : Nat} {x1 : Int} {x2 : Int} {x3 : Int} {g : AG} {r : Int × AG} (h : Yard_shareNext n x1 x2 x3 g = some r) : AMf z yX10_shareNext cX10_shareNext 5 none (1 + n * 1) [rv z 10, iv x1, iv x2, iv x3] g r := by
  induction n generalizing x1 x2 x3 g r with
  | zero => cases h
  | succ n ih =>
    have q := Yard_shareNext_s_ok (z := z) (Dr := 1 + n * 1) (Nat.le_add_right _ _) (fun x1 x2 x3 g r h9 => ih h9) h
    rw [show 1 + (n + 1) * 1 = 1 + n * 1 + 1 by rw [Nat.add_mul]; omega]
    exact q
theorem Yard_shareBest_ok {z : AZ} {x1 : Int} {g : AG} {r : Int × AG} (h : Yard_shareBest x1 g = some r) : AMf z yX10_shareBest cX10_shareBest 2 none 12 [rv z 10, iv x1] g r := by
  intro d hdd
  refine AM.of (by decide +kernel) (Nat.le_of_ble_eq_true rfl) ?_
  show AW z (RX10, cX10_shareBest, 2, none) d (QD none r) 0 [(0, rv z 10), (1, iv x1)] [] g
  unfold Yard_shareBest at h
  refine AW.aloadr_n 0 dX10_shareBest_0 rfl ?_
  refine AW.getR af_X10_33_10 sr_10_9 dX10_shareBest_1 ?_
  refine AW.sipush dX10_shareBest_4 (by decide) (by decide) ?_
  obtain ⟨g1, e2, h⟩ := hBe h
  refine AW.callSv (st := []) (fill_ok kc_104 sk_104 (by decide)) cf_X10_64 st_fill (Nat.le_trans (by decide) hdd) rfl dX10_shareBest_7 rfl (Nat.le_of_ble_eq_true rfl) ?_
  rw [← e2]
  refine AW.aloadr_n 0 dX10_shareBest_10 rfl ?_
  refine AW.sipush dX10_shareBest_11 (by decide) (by decide) ?_
  obtain ⟨g3, e4, h⟩ := hBe h
  refine AW.putI ap_X10_82_10 sr_10_12 dX10_shareBest_14 e4 ?_
  refine AW.aloadr_n 0 dX10_shareBest_17 rfl ?_
  refine AW.iconst dX10_shareBest_18 ?_
  refine AW.iload_n 1 dX10_shareBest_19 rfl ?_
  refine AW.sipush dX10_shareBest_20 (by decide) (by decide) ?_
  obtain ⟨r5, e6, h⟩ := hC h
  refine AW.callSv (As := [rv z 10, iv 0, iv x1, iv 600]) (st := []) ((Yard_shareNext_ok (n := 10)) e6) cq_X10_85 st_X10_shareNext (Nat.le_trans (by decide) hdd) rfl dX10_shareBest_23 rfl (Nat.le_of_ble_eq_true rfl) ?_
  exact AW.vret1 rfl dX10_shareBest_26 h rfl
