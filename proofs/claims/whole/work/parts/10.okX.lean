theorem X_within_ok {z : AZ} {x0 : Int} {x1 : Int} {x2 : Int} {g : AG} : AMf z yX11_within cX11_within 3 (some .boolean) 0 [iv x0, iv x1, iv x2] g ((X_within x0 x1 x2), g) := by
  intro d hdd
  refine AM.of (by decide +kernel) (Nat.le_of_ble_eq_true rfl) ?_
  show AW z (RX11, cX11_within, 3, (some .boolean)) d (QD (some .boolean) ((X_within x0 x1 x2), g)) 0 [(0, iv x0), (1, iv x1), (2, iv x2)] [] g
  refine AW.iload_n 0 dX11_within_0 rfl ?_
  refine AW.iload_n 1 dX11_within_1 rfl ?_
  refine AW.join (tgt := 15) (lv1 := [(0, iv x0), (1, iv x1), (2, iv x2)]) (st1 := [iv (if nw x0 < nw x1 then 0 else (if nw x2 < nw x0 then 0 else 1))]) (g1 := g) ?_ (fun J2 => ?_)
  · exact AW.zret rfl (by (repeat' split) <;> first | exact Or.inl rfl | exact Or.inr rfl) dX11_within_15 ⟨congrArg (fun v => some (iv v)) (show X_within x0 x1 x2  = (if nw x0 < nw x1 then 0 else (if nw x2 < nw x0 then 0 else 1)) from rfl).symm, rfl⟩
  refine AW.icmp_lt (tgt := 14) dX11_within_2 (by decide) (fun c1 => ?_) (fun c1 => ?_)
  · refine AW.iconst dX11_within_14 ?_
    exact AW.val (if_pos c1) J2
  · refine AW.iload_n 0 dX11_within_5 rfl ?_
    refine AW.iload_n 2 dX11_within_6 rfl ?_
    refine AW.icmp_gt (tgt := 14) dX11_within_7 (by decide) (fun c2 => ?_) (fun c2 => ?_)
    · refine AW.iconst dX11_within_14 ?_
      exact AW.val ((if_neg c1).trans (if_pos c2)) J2
    · refine AW.iconst dX11_within_10 ?_
      refine AW.goto (tgt := 15) dX11_within_11 (by decide) ?_
      exact AW.val ((if_neg c1).trans (if_neg c2)) J2
theorem X_stretch_ok {z : AZ} {x1 : Int} {x2 : Int} {x3 : Int} {x4 : Int} {g : AG} {r : Int × AG} (h : X_stretch x1 x2 x3 x4 g = some r) : AMf z yX11_stretch cX11_stretch 5 (some .boolean) 1 [rv z 0, iv x1, iv x2, iv x3, iv x4] g r := by
  intro d hdd
  refine AM.of (by decide +kernel) (Nat.le_of_ble_eq_true rfl) ?_
  show AW z (RX11, cX11_stretch, 5, (some .boolean)) d (QD (some .boolean) r) 0 [(0, rv z 0), (1, iv x1), (2, iv x2), (3, iv x3), (4, iv x4)] [] g
  unfold X_stretch at h
  refine AW.iload_n 1 dX11_stretch_0 rfl ?_
  refine AW.iconst dX11_stretch_1 ?_
  refine AW.bipush dX11_stretch_2 (by decide) (by decide) ?_
  refine AW.callSi (As := [iv x1, iv 0, iv 14]) (st := []) X_within_ok cq_X11_99 st_X11_within (Nat.le_trans (by decide) hdd) rfl dX11_stretch_4 rfl (Nat.le_of_ble_eq_true rfl) ?_
  refine AW.if_eq (tgt := 21) dX11_stretch_7 (by decide) (fun c1 => ?_) (fun c1 => ?_)
  · replace h := hT h c1
    refine AW.iconst dX11_stretch_21 ?_
    exact AW.zret1 rfl (Or.inl rfl) dX11_stretch_22 h rfl
  · replace h := hF h c1
    refine AW.iload 4 dX11_stretch_10 rfl ?_
    refine AW.iconst dX11_stretch_12 ?_
    refine AW.bipush dX11_stretch_13 (by decide) (by decide) ?_
    refine AW.callSi (As := [iv x4, iv 1, iv 99]) (st := []) X_within_ok cq_X11_99 st_X11_within (Nat.le_trans (by decide) hdd) rfl dX11_stretch_15 rfl (Nat.le_of_ble_eq_true rfl) ?_
    refine AW.if_ne (tgt := 23) dX11_stretch_18 (by decide) (fun c2 => ?_) (fun c2 => ?_)
    · replace h := hF h c2
      refine AW.iload_n 2 dX11_stretch_23 rfl ?_
      refine AW.iconst dX11_stretch_24 ?_
      refine AW.bipush dX11_stretch_25 (by decide) (by decide) ?_
      refine AW.callSi (As := [iv x2, iv 0, iv 9]) (st := []) X_within_ok cq_X11_99 st_X11_within (Nat.le_trans (by decide) hdd) rfl dX11_stretch_27 rfl (Nat.le_of_ble_eq_true rfl) ?_
      refine AW.if_eq (tgt := 43) dX11_stretch_30 (by decide) (fun c3 => ?_) (fun c3 => ?_)
      · replace h := hT h c3
        refine AW.iconst dX11_stretch_43 ?_
        exact AW.zret1 rfl (Or.inl rfl) dX11_stretch_44 h rfl
      · replace h := hF h c3
        refine AW.iload_n 3 dX11_stretch_33 rfl ?_
        refine AW.iconst dX11_stretch_34 ?_
        refine AW.bipush dX11_stretch_35 (by decide) (by decide) ?_
        refine AW.callSi (As := [iv x3, iv 0, iv 9]) (st := []) X_within_ok cq_X11_99 st_X11_within (Nat.le_trans (by decide) hdd) rfl dX11_stretch_37 rfl (Nat.le_of_ble_eq_true rfl) ?_
        refine AW.if_ne (tgt := 45) dX11_stretch_40 (by decide) (fun c4 => ?_) (fun c4 => ?_)
        · replace h := hF h c4
          refine AW.aloadr_n 0 dX11_stretch_45 rfl ?_
          refine AW.getR af_X11_12_0 sr_0_0 dX11_stretch_46 ?_
          refine AW.getR af_X11_117_1 sr_1_0 dX11_stretch_49 ?_
          refine AW.iload_n 1 dX11_stretch_52 rfl ?_
          refine AW.iload_n 2 dX11_stretch_53 rfl ?_
          obtain ⟨k5, h⟩ := hK h
          obtain ⟨g6, e7, h⟩ := hBe h
          refine AW.iast kc_13 sk_13 k5 dX11_stretch_54 e7 ?_
          refine AW.aloadr_n 0 dX11_stretch_55 rfl ?_
          refine AW.getR af_X11_12_0 sr_0_0 dX11_stretch_56 ?_
          refine AW.getR af_X11_121_1 sr_1_1 dX11_stretch_59 ?_
          refine AW.iload_n 1 dX11_stretch_62 rfl ?_
          refine AW.iload_n 3 dX11_stretch_63 rfl ?_
          obtain ⟨g8, e9, h⟩ := hBe h
          refine AW.iast kc_14 sk_14 k5 dX11_stretch_64 e9 ?_
          refine AW.aloadr_n 0 dX11_stretch_65 rfl ?_
          refine AW.getR af_X11_12_0 sr_0_0 dX11_stretch_66 ?_
          refine AW.getR af_X11_124_1 sr_1_2 dX11_stretch_69 ?_
          refine AW.iload_n 1 dX11_stretch_72 rfl ?_
          refine AW.iload 4 dX11_stretch_73 rfl ?_
          obtain ⟨g10, e11, h⟩ := hBe h
          refine AW.iast kc_15 sk_15 k5 dX11_stretch_75 e11 ?_
          refine AW.iconst dX11_stretch_76 ?_
          exact AW.zret1 rfl (Or.inr rfl) dX11_stretch_77 h rfl
        · replace h := hT h c4
          refine AW.iconst dX11_stretch_43 ?_
          exact AW.zret1 rfl (Or.inl rfl) dX11_stretch_44 h rfl
    · replace h := hT h c2
      refine AW.iconst dX11_stretch_21 ?_
      exact AW.zret1 rfl (Or.inl rfl) dX11_stretch_22 h rfl
theorem Rules_askDay_ok {z : AZ} {x1 : Int} {x2 : Int} {g : AG} {r : Int × AG} (h : Rules_askDay x1 x2 g = some r) : AMf z yX6_askDay cX6_askDay 3 none 1 [rv z 2, iv x1, iv x2] g r := by
  intro d hdd
  refine AM.of (by decide +kernel) (Nat.le_of_ble_eq_true rfl) ?_
  show AW z (RX6, cX6_askDay, 3, none) d (QD none r) 0 [(0, rv z 2), (1, iv x1), (2, iv x2)] [] g
  unfold Rules_askDay at h
  refine AW.aloadr_n 0 dX6_askDay_0 rfl ?_
  refine AW.getR af_X6_42_2 sr_2_13 dX6_askDay_1 ?_
  refine AW.iconst dX6_askDay_4 ?_
  obtain ⟨g1, e2, h⟩ := hBe h
  refine AW.callSv (st := []) (fill_ok kc_27 sk_27 (by decide)) cf_X6_58 st_fill (Nat.le_trans (by decide) hdd) rfl dX6_askDay_5 rfl (Nat.le_of_ble_eq_true rfl) ?_
  rw [← e2]
  refine AW.aloadr_n 0 dX6_askDay_8 rfl ?_
  refine AW.getR af_X6_42_2 sr_2_13 dX6_askDay_9 ?_
  refine AW.iconst dX6_askDay_12 ?_
  refine AW.iload_n 1 dX6_askDay_13 rfl ?_
  refine AW.bipush dX6_askDay_14 (by decide) (by decide) ?_
  refine AW.irem dX6_askDay_16 (by decide) ?_
  obtain ⟨g3, e4, h⟩ := hBe h
  refine AW.iast kc_27 sk_27 (by decide) dX6_askDay_17 e4 ?_
  refine AW.aloadr_n 0 dX6_askDay_18 rfl ?_
  refine AW.getR af_X6_42_2 sr_2_13 dX6_askDay_19 ?_
  refine AW.iconst dX6_askDay_22 ?_
  refine AW.iload_n 1 dX6_askDay_23 rfl ?_
  refine AW.bipush dX6_askDay_24 (by decide) (by decide) ?_
  refine AW.idiv dX6_askDay_26 (by decide) ?_
  obtain ⟨g5, e6, h⟩ := hBe h
  refine AW.iast kc_27 sk_27 (by decide) dX6_askDay_27 e6 ?_
  refine AW.aloadr_n 0 dX6_askDay_28 rfl ?_
  refine AW.getR af_X6_42_2 sr_2_13 dX6_askDay_29 ?_
  refine AW.iconst dX6_askDay_32 ?_
  refine AW.iload_n 2 dX6_askDay_33 rfl ?_
  obtain ⟨g7, e8, h⟩ := hBe h
  refine AW.iast kc_27 sk_27 (by decide) dX6_askDay_34 e8 ?_
  exact AW.vret1 rfl dX6_askDay_35 h rfl
theorem Rules_both_ok {z : AZ} {x0 : Int} {x1 : Int} {x2 : Int} {g : AG} : AMf z yX6_both cX6_both 3 (some .int) 0 [iv x0, iv x1, iv x2] g ((Rules_both x0 x1 x2), g) := by
  intro d hdd
  refine AM.of (by decide +kernel) (Nat.le_of_ble_eq_true rfl) ?_
  show AW z (RX6, cX6_both, 3, (some .int)) d (QD (some .int) ((Rules_both x0 x1 x2), g)) 0 [(0, iv x0), (1, iv x1), (2, iv x2)] [] g
  refine AW.iload_n 0 dX6_both_0 rfl ?_
  by_cases c1 : nw x0 = 42
  · refine AW.lsw (tgt := 76) dX6_both_1 (by decide) c1 (by rfl) (by decide) ?_
    refine AW.iload_n 1 dX6_both_76 rfl ?_
    refine AW.iload_n 2 dX6_both_77 rfl ?_
    refine AW.imul dX6_both_78 ?_
    exact AW.iret rfl dX6_both_79 ⟨congrArg (fun v => some (iv v)) (show Rules_both x0 x1 x2  = (x1 * x2) from ((if_pos c1))).symm, rfl⟩
  · by_cases c2 : nw x0 = 43
    · refine AW.lsw (tgt := 68) dX6_both_1 (by decide) c2 (by rfl) (by decide) ?_
      refine AW.iload_n 1 dX6_both_68 rfl ?_
      refine AW.iload_n 2 dX6_both_69 rfl ?_
      refine AW.iadd dX6_both_70 ?_
      exact AW.iret rfl dX6_both_71 ⟨congrArg (fun v => some (iv v)) (show Rules_both x0 x1 x2  = (x1 + x2) from (((if_neg c1).trans (if_pos c2)))).symm, rfl⟩
    · by_cases c3 : nw x0 = 45
      · refine AW.lsw (tgt := 72) dX6_both_1 (by decide) c3 (by rfl) (by decide) ?_
        refine AW.iload_n 1 dX6_both_72 rfl ?_
        refine AW.iload_n 2 dX6_both_73 rfl ?_
        refine AW.isub dX6_both_74 ?_
        exact AW.iret rfl dX6_both_75 ⟨congrArg (fun v => some (iv v)) (show Rules_both x0 x1 x2  = (x1 - x2) from (((if_neg c1).trans ((if_neg c2).trans (if_pos c3))))).symm, rfl⟩
      · by_cases c4 : nw x0 = 60
        · refine AW.lsw (tgt := 80) dX6_both_1 (by decide) c4 (by rfl) (by decide) ?_
          refine AW.iload_n 1 dX6_both_80 rfl ?_
          refine AW.iload_n 2 dX6_both_81 rfl ?_
          refine AW.join (tgt := 90) (lv1 := [(0, iv x0), (1, iv x1), (2, iv x2)]) (st1 := [iv (if nw x2 ≤ nw x1 then 0 else 1)]) (g1 := g) ?_ (fun J82 => ?_)
          · exact AW.iret rfl dX6_both_90 ⟨congrArg (fun v => some (iv v)) (show Rules_both x0 x1 x2  = (if nw x2 ≤ nw x1 then 0 else 1) from (((if_neg c1).trans ((if_neg c2).trans ((if_neg c3).trans (if_pos c4)))))).symm, rfl⟩
          refine AW.icmp_ge (tgt := 89) dX6_both_82 (by decide) (fun c5 => ?_) (fun c5 => ?_)
          · refine AW.iconst dX6_both_89 ?_
            exact AW.val (if_pos c5) J82
          · refine AW.iconst dX6_both_85 ?_
            refine AW.goto (tgt := 90) dX6_both_86 (by decide) ?_
            exact AW.val (if_neg c5) J82
        · by_cases c6 : nw x0 = 61
          · refine AW.lsw (tgt := 91) dX6_both_1 (by decide) c6 (by rfl) (by decide) ?_
            refine AW.iload_n 1 dX6_both_91 rfl ?_
            refine AW.iload_n 2 dX6_both_92 rfl ?_
            refine AW.join (tgt := 101) (lv1 := [(0, iv x0), (1, iv x1), (2, iv x2)]) (st1 := [iv (if nw x1 = nw x2 then 1 else 0)]) (g1 := g) ?_ (fun J93 => ?_)
            · exact AW.iret rfl dX6_both_101 ⟨congrArg (fun v => some (iv v)) (show Rules_both x0 x1 x2  = (if nw x1 = nw x2 then 1 else 0) from (((if_neg c1).trans ((if_neg c2).trans ((if_neg c3).trans ((if_neg c4).trans (if_pos c6))))))).symm, rfl⟩
            refine AW.icmp_ne (tgt := 100) dX6_both_93 (by decide) (fun c7 => ?_) (fun c7 => ?_)
            · refine AW.iconst dX6_both_100 ?_
              exact AW.val (if_neg c7) J93
            · refine AW.iconst dX6_both_96 ?_
              refine AW.goto (tgt := 101) dX6_both_97 (by decide) ?_
              exact AW.val (if_pos c7) J93
          · by_cases c8 : nw x0 = 62
            · refine AW.lsw (tgt := 102) dX6_both_1 (by decide) c8 (by rfl) (by decide) ?_
              refine AW.iload_n 1 dX6_both_102 rfl ?_
              refine AW.iload_n 2 dX6_both_103 rfl ?_
              refine AW.join (tgt := 112) (lv1 := [(0, iv x0), (1, iv x1), (2, iv x2)]) (st1 := [iv (if nw x1 ≤ nw x2 then 0 else 1)]) (g1 := g) ?_ (fun J104 => ?_)
              · exact AW.iret rfl dX6_both_112 ⟨congrArg (fun v => some (iv v)) (show Rules_both x0 x1 x2  = (if nw x1 ≤ nw x2 then 0 else 1) from (((if_neg c1).trans ((if_neg c2).trans ((if_neg c3).trans ((if_neg c4).trans ((if_neg c6).trans (if_pos c8)))))))).symm, rfl⟩
              refine AW.icmp_le (tgt := 111) dX6_both_104 (by decide) (fun c9 => ?_) (fun c9 => ?_)
              · refine AW.iconst dX6_both_111 ?_
                exact AW.val (if_pos c9) J104
              · refine AW.iconst dX6_both_107 ?_
                refine AW.goto (tgt := 112) dX6_both_108 (by decide) ?_
                exact AW.val (if_neg c9) J104
            · by_cases c10 : nw x0 = 109
              · refine AW.lsw (tgt := 113) dX6_both_1 (by decide) c10 (by rfl) (by decide) ?_
                refine AW.iload_n 1 dX6_both_113 rfl ?_
                refine AW.iload_n 2 dX6_both_114 rfl ?_
                refine AW.iand dX6_both_115 ?_
                exact AW.iret rfl dX6_both_116 ⟨congrArg (fun v => some (iv v)) (show Rules_both x0 x1 x2  = (andI x1 x2) from (((if_neg c1).trans ((if_neg c2).trans ((if_neg c3).trans ((if_neg c4).trans ((if_neg c6).trans ((if_neg c8).trans (if_pos c10))))))))).symm, rfl⟩
              · refine AW.lsw (tgt := 117) dX6_both_1 (by decide) rfl ((if_neg (fun q => c1 q.symm)).trans ((if_neg (fun q => c2 q.symm)).trans ((if_neg (fun q => c3 q.symm)).trans ((if_neg (fun q => c4 q.symm)).trans ((if_neg (fun q => c6 q.symm)).trans ((if_neg (fun q => c8 q.symm)).trans ((if_neg (fun q => c10 q.symm)).trans rfl))))))) (by decide) ?_
                refine AW.iload_n 1 dX6_both_117 rfl ?_
                refine AW.iload_n 2 dX6_both_118 rfl ?_
                refine AW.ior dX6_both_119 ?_
                exact AW.iret rfl dX6_both_120 ⟨congrArg (fun v => some (iv v)) (show Rules_both x0 x1 x2  = (orI x1 x2) from (((if_neg c1).trans ((if_neg c2).trans ((if_neg c3).trans ((if_neg c4).trans ((if_neg c6).trans ((if_neg c8).trans (if_neg c10))))))))).symm, rfl⟩
theorem Rules_askedOf_ok {z : AZ} {x1 : Int} {g : AG} {r : Int × AG} (h : Rules_askedOf x1 g = some r) : AMf z yX6_askedOf cX6_askedOf 2 (some .int) 1 [rv z 2, iv x1] g r := by
  intro d hdd
  refine AM.of (by decide +kernel) (Nat.le_of_ble_eq_true rfl) ?_
  show AW z (RX6, cX6_askedOf, 2, (some .int)) d (QD (some .int) r) 0 [(0, rv z 2), (1, iv x1)] [] g
  unfold Rules_askedOf at h
  refine AW.iload_n 1 dX6_askedOf_0 rfl ?_
  refine AW.iconst dX6_askedOf_1 ?_
  refine AW.bipush dX6_askedOf_2 (by decide) (by decide) ?_
  refine AW.callN0 (As := [iv x1, iv 0, iv 8]) (st := []) X_within_ok ns_X6_78 in_X11 cd_X11_within st_X11_within (by decide) (Nat.le_trans (by decide) hdd) rfl (Nat.le_of_ble_eq_true rfl) dX6_askedOf_4 rfl ?_
  obtain ⟨r3, e4, h⟩ := hC h
  refine AW.join (tgt := 20) (lv1 := []) (st1 := [iv r3.1]) (g1 := r3.2) ?_ (fun J7 => ?_)
  · exact AW.iret1 rfl dX6_askedOf_20 h rfl
  replace h := e4
  refine AW.if_eq (tgt := 19) dX6_askedOf_7 (by decide) (fun c1 => ?_) (fun c1 => ?_)
  · replace h := hT h c1
    refine AW.iconst dX6_askedOf_19 ?_
    refine AW.sub (lv1 := []) [] rfl ?_
    cases h
    exact J7
  · replace h := hF h c1
    refine AW.aloadr_n 0 dX6_askedOf_10 rfl ?_
    refine AW.getR af_X6_42_2 sr_2_13 dX6_askedOf_11 ?_
    refine AW.iload_n 1 dX6_askedOf_14 rfl ?_
    obtain ⟨k2, h⟩ := hK h
    refine AW.iald kc_27 sk_27 k2 dX6_askedOf_15 ?_
    refine AW.goto (tgt := 20) dX6_askedOf_16 (by decide) ?_
    refine AW.sub (lv1 := []) [] rfl ?_
    cases h
    exact J7
theorem Rules_alone_ok {z : AZ} {x0 : Int} {x1 : Int} {x2 : Int} {g : AG} {r : Int × AG} (h : Rules_alone x0 x1 x2 g = some r) : AMf z yX6_alone cX6_alone 3 (some .int) 0 [iv x0, iv x1, iv x2] g r := by
  intro d hdd
  refine AM.of (by decide +kernel) (Nat.le_of_ble_eq_true rfl) ?_
  show AW z (RX6, cX6_alone, 3, (some .int)) d (QD (some .int) r) 0 [(0, iv x0), (1, iv x1), (2, iv x2)] [] g
  unfold Rules_alone at h
  refine AW.iload_n 0 dX6_alone_0 rfl ?_
  refine AW.bipush dX6_alone_1 (by decide) (by decide) ?_
  refine AW.icmp_ne (tgt := 10) dX6_alone_3 (by decide) (fun c1 => ?_) (fun c1 => ?_)
  · replace h := hF h c1
    refine AW.iload_n 2 dX6_alone_10 rfl ?_
    obtain ⟨r4, e5, h⟩ := hC h
    refine AW.join (tgt := 21) (lv1 := []) (st1 := [iv r4.1]) (g1 := r4.2) ?_ (fun J11 => ?_)
    · exact AW.iret1 rfl dX6_alone_21 h rfl
    replace h := e5
    refine AW.if_ne (tgt := 18) dX6_alone_11 (by decide) (fun c2 => ?_) (fun c2 => ?_)
    · replace h := hF h c2
      refine AW.iload_n 1 dX6_alone_18 rfl ?_
      refine AW.iload_n 2 dX6_alone_19 rfl ?_
      obtain ⟨k3, h⟩ := hK h
      refine AW.idiv dX6_alone_20 k3 ?_
      refine AW.sub (lv1 := []) [] rfl ?_
      cases h
      exact J11
    · replace h := hT h c2
      refine AW.iconst dX6_alone_14 ?_
      refine AW.goto (tgt := 21) dX6_alone_15 (by decide) ?_
      refine AW.sub (lv1 := []) [] rfl ?_
      cases h
      exact J11
  · replace h := hT h c1
    refine AW.iconst dX6_alone_6 ?_
    refine AW.iload_n 1 dX6_alone_7 rfl ?_
    refine AW.isub dX6_alone_8 ?_
    exact AW.iret1 rfl dX6_alone_9 h rfl
set_option synthInstance.maxHeartbeats 2000000 in
theorem Rules_run_b_ok {z : AZ} {d : Nat} (hdd : 2 ≤ d) {x2 : Int} : ∀ (tag : Nat) (x3 : Int) (x4 : Int) (x5 : Int) (g : AG) (r : Int × AG), Rules_run_b x2 tag x3 x4 x5 g = some r → (tag = 1 → AW z (RX6, cX6_run, 6, (some .int)) d (QD (some .int) r) 5 [(0, rv z 2), (2, iv x2), (3, iv x3), (4, iv x4)] [] g) ∧ (tag = 2 → AW z (RX6, cX6_run, 6, (some .int)) d (QD (some .int) r) 32 [(0, rv z 2), (2, iv x2), (3, iv x3), (4, iv x4), (5, iv x5)] [] g) ∧ (tag = 3 → AW z (RX6, cX6_run, 6, (some .int)) d (QD (some .int) r) 96 [(0, rv z 2), (2, iv x2), (3, iv x3), (4, iv x4), (5, iv x5)] [] g) ∧ (tag = 4 → AW z (RX6, cX6_run, 6, (some .int)) d (QD (some .int) r) 171 [(0, rv z 2), (2, iv x2), (3, iv x3), (4, iv x4)] [] g) := by
  refine Rules_run_b.partial_correctness x2 (fun tag x3 x4 x5 g r => (tag = 1 → AW z (RX6, cX6_run, 6, (some .int)) d (QD (some .int) r) 5 [(0, rv z 2), (2, iv x2), (3, iv x3), (4, iv x4)] [] g) ∧ (tag = 2 → AW z (RX6, cX6_run, 6, (some .int)) d (QD (some .int) r) 32 [(0, rv z 2), (2, iv x2), (3, iv x3), (4, iv x4), (5, iv x5)] [] g) ∧ (tag = 3 → AW z (RX6, cX6_run, 6, (some .int)) d (QD (some .int) r) 96 [(0, rv z 2), (2, iv x2), (3, iv x3), (4, iv x4), (5, iv x5)] [] g) ∧ (tag = 4 → AW z (RX6, cX6_run, 6, (some .int)) d (QD (some .int) r) 171 [(0, rv z 2), (2, iv x2), (3, iv x3), (4, iv x4)] [] g)) ?_
  intro fb9 ih tag x3 x4 x5 g r h
  refine ⟨fun h9 => ?_, fun h9 => ?_, fun h9 => ?_, fun h9 => ?_⟩
  · subst h9
    replace h := hT h rfl
    refine AW.iload 3 dX6_run_5 rfl ?_
    refine AW.iload_n 1 dX6_run_7 rfl ?_
    refine AW.icmp_ge (tgt := 177) dX6_run_8 (by decide) (fun c1 => ?_) (fun c1 => ?_)
    · replace h := hT h c1
      refine AW.iload_n 2 dX6_run_177 rfl ?_
      obtain ⟨r4, e5, h⟩ := hC h
      refine AW.join (tgt := 193) (lv1 := []) (st1 := [iv r4.1]) (g1 := r4.2) ?_ (fun J178 => ?_)
      · exact AW.iret1 rfl dX6_run_193 h rfl
      replace h := e5
      refine AW.if_le (tgt := 192) dX6_run_178 (by decide) (fun c2 => ?_) (fun c2 => ?_)
      · replace h := hT h c2
        refine AW.iconst dX6_run_192 ?_
        refine AW.sub (lv1 := []) [] rfl ?_
        cases h
        exact J178
      · replace h := hF h c2
        refine AW.aloadr_n 0 dX6_run_181 rfl ?_
        refine AW.getR af_X6_45_2 sr_2_14 dX6_run_182 ?_
        refine AW.iload_n 2 dX6_run_185 rfl ?_
        refine AW.iconst dX6_run_186 ?_
        refine AW.isub dX6_run_187 ?_
        obtain ⟨k3, h⟩ := hK h
        refine AW.iald kc_28 sk_28 k3 dX6_run_188 ?_
        refine AW.goto (tgt := 193) dX6_run_189 (by decide) ?_
        refine AW.sub (lv1 := []) [] rfl ?_
        cases h
        exact J178
    · replace h := hF h c1
      refine AW.aloadr_n 0 dX6_run_11 rfl ?_
      refine AW.getR af_X6_9_2 sr_2_0 dX6_run_12 ?_
      refine AW.iload 3 dX6_run_15 rfl ?_
      obtain ⟨k6, h⟩ := hK h
      refine AW.iald kc_17 sk_17 k6 dX6_run_17 ?_
      refine AW.istore (lv1 := [(5, iv (g 17 (ix x4))), (0, rv z 2), (2, iv x2), (3, iv x3), (4, iv x4)]) dX6_run_18 (by decide) rfl ?_
      refine AW.iload 0 dX6_run_20 rfl ?_
      refine AW.iconst dX6_run_22 ?_
      refine AW.icmp_eq (tgt := 32) dX6_run_23 (by decide) (fun c7 => ?_) (fun c7 => ?_)
      · replace h := hT h c7
        refine AW.sub (lv1 := [(0, rv z 2), (2, iv x2), (3, iv x3), (4, iv x4), (5, iv (g 17 (ix x4)))]) [1, 2, 3, 4, 0] rfl ?_
        exact (ih _ _ _ _ _ _ h).2.1 rfl
      · replace h := hF h c7
        refine AW.iload 0 dX6_run_26 rfl ?_
        refine AW.iconst dX6_run_28 ?_
        refine AW.icmp_ne (tgt := 82) dX6_run_29 (by decide) (fun c8 => ?_) (fun c8 => ?_)
        · replace h := hF h c8
          refine AW.iload 0 dX6_run_82 rfl ?_
          refine AW.bipush dX6_run_84 (by decide) (by decide) ?_
          refine AW.icmp_eq (tgt := 96) dX6_run_86 (by decide) (fun c9 => ?_) (fun c9 => ?_)
          · replace h := hT h c9
            refine AW.sub (lv1 := [(0, rv z 2), (2, iv x2), (3, iv x3), (4, iv x4), (5, iv (g 17 (ix x4)))]) [1, 2, 3, 4, 0] rfl ?_
            exact (ih _ _ _ _ _ _ h).2.2.1 rfl
          · replace h := hF h c9
            refine AW.iload 0 dX6_run_89 rfl ?_
            refine AW.bipush dX6_run_91 (by decide) (by decide) ?_
            refine AW.icmp_ne (tgt := 134) dX6_run_93 (by decide) (fun c10 => ?_) (fun c10 => ?_)
            · replace h := hF h c10
              refine AW.iload_n 3 dX6_run_134 rfl ?_
              refine AW.iconst dX6_run_135 ?_
              refine AW.icmp_ge (tgt := 141) dX6_run_136 (by decide) (fun c11 => ?_) (fun c11 => ?_)
              · replace h := hT h c11
                refine AW.iinc (lv1 := [(3, iv (x3 + (-1))), (5, iv (g 17 (ix x4))), (0, rv z 2), (2, iv x2), (4, iv x4)]) 3 dX6_run_141 rfl (by decide) rfl ?_
                refine AW.aloadr_n 2 dX6_run_144 rfl ?_
                refine AW.getR af_X6_45_2 sr_2_14 dX6_run_145 ?_
                refine AW.iload_n 0 dX6_run_148 rfl ?_
                refine AW.iconst dX6_run_149 ?_
                refine AW.isub dX6_run_150 ?_
                refine AW.iload 1 dX6_run_151 rfl ?_
                refine AW.aloadr_n 2 dX6_run_153 rfl ?_
                refine AW.getR af_X6_45_2 sr_2_14 dX6_run_154 ?_
                refine AW.iload_n 0 dX6_run_157 rfl ?_
                refine AW.iconst dX6_run_158 ?_
                refine AW.isub dX6_run_159 ?_
                obtain ⟨k12, h⟩ := hK h
                refine AW.iald kc_28 sk_28 k12 dX6_run_160 ?_
                refine AW.aloadr_n 2 dX6_run_161 rfl ?_
                refine AW.getR af_X6_45_2 sr_2_14 dX6_run_162 ?_
                refine AW.iload_n 0 dX6_run_165 rfl ?_
                obtain ⟨k13, h⟩ := hK h
                refine AW.iald kc_28 sk_28 k13 dX6_run_166 ?_
                refine AW.callSi (As := [iv (g 17 (ix x4)), iv (g 28 (ix ((x3 + (-1)) - 1))), iv (g 28 (ix (x3 + (-1))))]) (st := [iv ((x3 + (-1)) - 1), rv z 28]) Rules_both_ok cq_X6_90 st_X6_both (Nat.le_trans (by decide) hdd) rfl dX6_run_167 rfl (Nat.le_of_ble_eq_true rfl) ?_
                obtain ⟨g14, e15, h⟩ := hBe h
                refine AW.iast kc_28 sk_28 k12 dX6_run_170 e15 ?_
                refine AW.sub (lv1 := [(0, rv z 2), (2, iv x2), (3, iv (x3 + (-1))), (4, iv x4)]) [2, 3, 0, 4] rfl ?_
                exact (ih _ _ _ _ _ _ h).2.2.2 rfl
              · replace h := hF h c11
                refine AW.iconst dX6_run_139 ?_
                exact AW.iret1 rfl dX6_run_140 h rfl
            · replace h := hT h c10
              refine AW.sub (lv1 := [(0, rv z 2), (2, iv x2), (3, iv x3), (4, iv x4), (5, iv (g 17 (ix x4)))]) [1, 2, 3, 4, 0] rfl ?_
              exact (ih _ _ _ _ _ _ h).2.2.1 rfl
        · replace h := hT h c8
          refine AW.sub (lv1 := [(0, rv z 2), (2, iv x2), (3, iv x3), (4, iv x4), (5, iv (g 17 (ix x4)))]) [1, 2, 3, 4, 0] rfl ?_
          exact (ih _ _ _ _ _ _ h).2.1 rfl
  · subst h9
    replace h := hF h (by decide)
    replace h := hT h rfl
    refine AW.iload_n 2 dX6_run_32 rfl ?_
    refine AW.aloadr_n 0 dX6_run_33 rfl ?_
    refine AW.getR af_X6_45_2 sr_2_14 dX6_run_34 ?_
    refine AW.alen kc_28 sk_28 dX6_run_37 ?_
    refine AW.icmp_lt (tgt := 43) dX6_run_38 (by decide) (fun c1 => ?_) (fun c1 => ?_)
    · replace h := hT h c1
      refine AW.aloadr_n 0 dX6_run_43 rfl ?_
      refine AW.getR af_X6_45_2 sr_2_14 dX6_run_44 ?_
      refine AW.iload_n 2 dX6_run_47 rfl ?_
      refine AW.iload 4 dX6_run_48 rfl ?_
      refine AW.iconst dX6_run_50 ?_
      obtain ⟨r7, e8, h⟩ := hC h
      refine AW.join (tgt := 75) (lv1 := [(0, rv z 2), (2, iv x2), (3, iv x3), (4, iv x4)]) (st1 := [iv r7.1, iv x3, rv z 28]) (g1 := r7.2) ?_ (fun J51 => ?_)
      · obtain ⟨k9, h⟩ := hK h
        obtain ⟨g10, e11, h⟩ := hBe h
        refine AW.iast kc_28 sk_28 k9 dX6_run_75 e11 ?_
        refine AW.iinc (lv1 := [(3, iv (x3 + 1)), (0, rv z 2), (2, iv x2), (4, iv x4)]) 2 dX6_run_76 rfl (by decide) rfl ?_
        refine AW.goto (tgt := 171) dX6_run_79 (by decide) ?_
        refine AW.sub (lv1 := [(0, rv z 2), (2, iv x2), (3, iv (x3 + 1)), (4, iv x4)]) [1, 2, 0, 3] rfl ?_
        exact (ih _ _ _ _ _ _ h).2.2.2 rfl
      replace h := e8
      refine AW.icmp_ne (tgt := 64) dX6_run_51 (by decide) (fun c2 => ?_) (fun c2 => ?_)
      · replace h := hF h c2
        refine AW.aloadr_n 0 dX6_run_64 rfl ?_
        refine AW.aloadr_n 0 dX6_run_65 rfl ?_
        refine AW.getR af_X6_15_2 sr_2_1 dX6_run_66 ?_
        refine AW.iload 3 dX6_run_69 rfl ?_
        obtain ⟨k3, h⟩ := hK h
        refine AW.iald kc_18 sk_18 k3 dX6_run_71 ?_
        obtain ⟨r4, e5, h⟩ := hC h
        refine AW.callVi (As := [iv (g 18 (ix x4))]) (st := [iv x3, rv z 28]) (Rules_askedOf_ok e5) cq_X6_82 cr_2_X6_askedOf (Nat.le_trans (by decide) hdd) rfl dX6_run_72 rfl (Nat.le_of_ble_eq_true rfl) ?_
        refine AW.sub (lv1 := [(0, rv z 2), (2, iv x2), (3, iv x3), (4, iv x4)]) [0, 1, 2, 3] rfl ?_
        cases h
        exact J51
      · replace h := hT h c2
        refine AW.aloadr_n 0 dX6_run_54 rfl ?_
        refine AW.getR af_X6_15_2 sr_2_1 dX6_run_55 ?_
        refine AW.iload 3 dX6_run_58 rfl ?_
        obtain ⟨k6, h⟩ := hK h
        refine AW.iald kc_18 sk_18 k6 dX6_run_60 ?_
        refine AW.goto (tgt := 75) dX6_run_61 (by decide) ?_
        refine AW.sub (lv1 := [(0, rv z 2), (2, iv x2), (3, iv x3), (4, iv x4)]) [0, 1, 2, 3] rfl ?_
        cases h
        exact J51
    · replace h := hF h c1
      refine AW.iconst dX6_run_41 ?_
      exact AW.iret1 rfl dX6_run_42 h rfl
  · subst h9
    replace h := hF h (by decide)
    replace h := hF h (by decide)
    replace h := hT h rfl
    refine AW.iload_n 2 dX6_run_96 rfl ?_
    refine AW.iconst dX6_run_97 ?_
    refine AW.icmp_ge (tgt := 103) dX6_run_98 (by decide) (fun c1 => ?_) (fun c1 => ?_)
    · replace h := hT h c1
      refine AW.aloadr_n 0 dX6_run_103 rfl ?_
      refine AW.getR af_X6_45_2 sr_2_14 dX6_run_104 ?_
      refine AW.iload_n 2 dX6_run_107 rfl ?_
      refine AW.iconst dX6_run_108 ?_
      refine AW.isub dX6_run_109 ?_
      refine AW.iload 4 dX6_run_110 rfl ?_
      refine AW.aloadr_n 0 dX6_run_112 rfl ?_
      refine AW.getR af_X6_45_2 sr_2_14 dX6_run_113 ?_
      refine AW.iload_n 2 dX6_run_116 rfl ?_
      refine AW.iconst dX6_run_117 ?_
      refine AW.isub dX6_run_118 ?_
      obtain ⟨k2, h⟩ := hK h
      refine AW.iald kc_28 sk_28 k2 dX6_run_119 ?_
      refine AW.aloadr_n 0 dX6_run_120 rfl ?_
      refine AW.getR af_X6_15_2 sr_2_1 dX6_run_121 ?_
      refine AW.iload 3 dX6_run_124 rfl ?_
      obtain ⟨k3, h⟩ := hK h
      refine AW.iald kc_18 sk_18 k3 dX6_run_126 ?_
      obtain ⟨r4, e5, h⟩ := hC h
      refine AW.callSi (As := [iv x5, iv (g 28 (ix (x3 - 1))), iv (g 18 (ix x4))]) (st := [iv (x3 - 1), rv z 28]) (Rules_alone_ok e5) cq_X6_86 st_X6_alone (Nat.le_trans (by decide) hdd) rfl dX6_run_127 rfl (Nat.le_of_ble_eq_true rfl) ?_
      obtain ⟨g6, e7, h⟩ := hBe h
      refine AW.iast kc_28 sk_28 k2 dX6_run_130 e7 ?_
      refine AW.goto (tgt := 171) dX6_run_131 (by decide) ?_
      refine AW.sub (lv1 := [(0, rv z 2), (2, iv x2), (3, iv x3), (4, iv x4)]) [0, 1, 2, 3] rfl ?_
      exact (ih _ _ _ _ _ _ h).2.2.2 rfl
    · replace h := hF h c1
      refine AW.iconst dX6_run_101 ?_
      exact AW.iret1 rfl dX6_run_102 h rfl
  · subst h9
    replace h := hF h (by decide)
    replace h := hF h (by decide)
    replace h := hF h (by decide)
    replace h := hT h rfl
    refine AW.iinc (lv1 := [(4, iv (x4 + 1)), (0, rv z 2), (2, iv x2), (3, iv x3)]) 3 dX6_run_171 rfl (by decide) rfl ?_
    refine AW.goto (tgt := 5) dX6_run_174 (by decide) ?_
    refine AW.sub (lv1 := [(0, rv z 2), (2, iv x2), (3, iv x3), (4, iv (x4 + 1))]) [1, 2, 3, 0] rfl ?_
    exact (ih _ _ _ _ _ _ h).1 rfl
theorem Rules_run_ok {z : AZ} {x1 : Int} {x2 : Int} {g : AG} {r : Int × AG} (h : Rules_run x1 x2 g = some r) : AMf z yX6_run cX6_run 6 (some .int) 2 [rv z 2, iv x1, iv x2] g r := by
  intro d hdd
  refine AM.of (by decide +kernel) (Nat.le_of_ble_eq_true rfl) ?_
  show AW z (RX6, cX6_run, 6, (some .int)) d (QD (some .int) r) 0 [(0, rv z 2), (1, iv x1), (2, iv x2)] [] g
  unfold Rules_run at h
  refine AW.iconst dX6_run_0 ?_
  refine AW.istore_n (lv1 := [(3, iv 0), (0, rv z 2), (1, iv x1), (2, iv x2)]) dX6_run_1 (by decide) rfl ?_
  refine AW.iload_n 2 dX6_run_2 rfl ?_
  refine AW.istore (lv1 := [(4, iv x1), (3, iv 0), (0, rv z 2), (1, iv x1), (2, iv x2)]) dX6_run_3 (by decide) rfl ?_
  refine AW.sub (lv1 := [(0, rv z 2), (2, iv x2), (3, iv 0), (4, iv x1)]) [2, 4, 1, 0] rfl ?_
  exact (Rules_run_b_ok hdd _ _ _ _ _ _ h).1 rfl
set_option synthInstance.maxHeartbeats 2000000 in
theorem Rules_serving_b_ok {z : AZ} {d : Nat} (hdd : 3 ≤ d) {x1 : Int} : ∀ (tag : Nat) (x2 : Int) (g : AG) (r : Int × AG), Rules_serving_b x1 tag x2 g = some r → (tag = 1 → AW z (RX6, cX6_serving, 3, (some .int)) d (QD (some .int) r) 2 [(0, rv z 2), (1, iv x1), (2, iv x2)] [] g) ∧ (tag = 2 → AW z (RX6, cX6_serving, 3, (some .int)) d (QD (some .int) r) 56 [(0, rv z 2), (1, iv x1), (2, iv x2)] [] g) := by
  refine Rules_serving_b.partial_correctness x1 (fun tag x2 g r => (tag = 1 → AW z (RX6, cX6_serving, 3, (some .int)) d (QD (some .int) r) 2 [(0, rv z 2), (1, iv x1), (2, iv x2)] [] g) ∧ (tag = 2 → AW z (RX6, cX6_serving, 3, (some .int)) d (QD (some .int) r) 56 [(0, rv z 2), (1, iv x1), (2, iv x2)] [] g)) ?_
  intro fb9 ih tag x2 g r h
  refine ⟨fun h9 => ?_, fun h9 => ?_⟩
  · subst h9
    replace h := hT h rfl
    refine AW.iload_n 2 dX6_serving_2 rfl ?_
    refine AW.aloadr_n 0 dX6_serving_3 rfl ?_
    refine AW.getI af_X6_52_2 sr_2_3 dX6_serving_4 ?_
    refine AW.icmp_ge (tgt := 62) dX6_serving_7 (by decide) (fun c1 => ?_) (fun c1 => ?_)
    · replace h := hT h c1
      refine AW.iconst dX6_serving_62 ?_
      exact AW.iret1 rfl dX6_serving_63 h rfl
    · replace h := hF h c1
      refine AW.aloadr_n 0 dX6_serving_10 rfl ?_
      refine AW.getR af_X6_18_2 sr_2_4 dX6_serving_11 ?_
      refine AW.iload_n 2 dX6_serving_14 rfl ?_
      obtain ⟨k2, h⟩ := hK h
      refine AW.iald kc_19 sk_19 k2 dX6_serving_15 ?_
      refine AW.iload_n 1 dX6_serving_16 rfl ?_
      refine AW.icmp_ne (tgt := 56) dX6_serving_17 (by decide) (fun c3 => ?_) (fun c3 => ?_)
      · replace h := hF h c3
        exact (ih _ _ _ _ h).2 rfl
      · replace h := hT h c3
        refine AW.aloadr_n 0 dX6_serving_20 rfl ?_
        refine AW.getR af_X6_24_2 sr_2_6 dX6_serving_21 ?_
        refine AW.iload_n 2 dX6_serving_24 rfl ?_
        refine AW.iald kc_21 sk_21 k2 dX6_serving_25 ?_
        refine AW.aloadr_n 0 dX6_serving_26 rfl ?_
        refine AW.getR af_X6_27_2 sr_2_7 dX6_serving_27 ?_
        refine AW.iload_n 2 dX6_serving_30 rfl ?_
        refine AW.iald kc_22 sk_22 k2 dX6_serving_31 ?_
        refine AW.icmp_eq (tgt := 54) dX6_serving_32 (by decide) (fun c4 => ?_) (fun c4 => ?_)
        · replace h := hT h c4
          refine AW.iload_n 2 dX6_serving_54 rfl ?_
          exact AW.iret1 rfl dX6_serving_55 h rfl
        · replace h := hF h c4
          refine AW.aloadr_n 0 dX6_serving_35 rfl ?_
          refine AW.aloadr_n 0 dX6_serving_36 rfl ?_
          refine AW.getR af_X6_24_2 sr_2_6 dX6_serving_37 ?_
          refine AW.iload_n 2 dX6_serving_40 rfl ?_
          refine AW.iald kc_21 sk_21 k2 dX6_serving_41 ?_
          refine AW.aloadr_n 0 dX6_serving_42 rfl ?_
          refine AW.getR af_X6_27_2 sr_2_7 dX6_serving_43 ?_
          refine AW.iload_n 2 dX6_serving_46 rfl ?_
          refine AW.iald kc_22 sk_22 k2 dX6_serving_47 ?_
          obtain ⟨r5, e6, h⟩ := hC h
          refine AW.callVi (As := [iv (g 21 (ix x2)), iv (g 22 (ix x2))]) (st := []) (Rules_run_ok e6) cq_X6_74 cr_2_X6_run (Nat.le_trans (by decide) hdd) rfl dX6_serving_48 rfl (Nat.le_of_ble_eq_true rfl) ?_
          refine AW.if_eq (tgt := 56) dX6_serving_51 (by decide) (fun c7 => ?_) (fun c7 => ?_)
          · replace h := hT h c7
            exact (ih _ _ _ _ h).2 rfl
          · replace h := hF h c7
            refine AW.iload_n 2 dX6_serving_54 rfl ?_
            exact AW.iret1 rfl dX6_serving_55 h rfl
  · subst h9
    replace h := hF h (by decide)
    replace h := hT h rfl
    refine AW.iinc (lv1 := [(2, iv (x2 + 1)), (0, rv z 2), (1, iv x1)]) 2 dX6_serving_56 rfl (by decide) rfl ?_
    refine AW.goto (tgt := 2) dX6_serving_59 (by decide) ?_
    refine AW.sub (lv1 := [(0, rv z 2), (1, iv x1), (2, iv (x2 + 1))]) [1, 2, 0] rfl ?_
    exact (ih _ _ _ _ h).1 rfl
theorem Rules_serving_ok {z : AZ} {x1 : Int} {g : AG} {r : Int × AG} (h : Rules_serving x1 g = some r) : AMf z yX6_serving cX6_serving 3 (some .int) 3 [rv z 2, iv x1] g r := by
  intro d hdd
  refine AM.of (by decide +kernel) (Nat.le_of_ble_eq_true rfl) ?_
  show AW z (RX6, cX6_serving, 3, (some .int)) d (QD (some .int) r) 0 [(0, rv z 2), (1, iv x1)] [] g
  unfold Rules_serving at h
  refine AW.iconst dX6_serving_0 ?_
  refine AW.istore_n (lv1 := [(2, iv 0), (0, rv z 2), (1, iv x1)]) dX6_serving_1 (by decide) rfl ?_
  refine AW.sub (lv1 := [(0, rv z 2), (1, iv x1), (2, iv 0)]) [1, 2, 0] rfl ?_
  exact (Rules_serving_b_ok hdd _ _ _ _ h).1 rfl
set_option synthInstance.maxHeartbeats 2000000 in
theorem Voyage_learnHours_b_ok {z : AZ} {d : Nat} (hdd : 4 ≤ d) : ∀ (x1 : Int) (g : AG) (r : Int × AG), Voyage_learnHours_b x1 g = some r → AW z (RX9, cX9_learnHours, 3, none) d (QD none r) 2 [(0, rv z 5), (1, iv x1)] [] g := by
  refine Voyage_learnHours_b.partial_correctness (fun x1 g r => AW z (RX9, cX9_learnHours, 3, none) d (QD none r) 2 [(0, rv z 5), (1, iv x1)] [] g) ?_
  intro fb9 ih x1 g r h
  refine AW.iload_n 1 dX9_learnHours_2 rfl ?_
  refine AW.bipush dX9_learnHours_3 (by decide) (by decide) ?_
  refine AW.icmp_ge (tgt := 88) dX9_learnHours_5 (by decide) (fun c1 => ?_) (fun c1 => ?_)
  · replace h := hT h c1
    exact AW.vret1 rfl dX9_learnHours_88 h rfl
  · replace h := hF h c1
    refine AW.aloadr_n 0 dX9_learnHours_8 rfl ?_
    refine AW.getR af_X9_28_5 sr_5_1 dX9_learnHours_9 ?_
    refine AW.iload_n 1 dX9_learnHours_12 rfl ?_
    refine AW.aloadr_n 0 dX9_learnHours_13 rfl ?_
    refine AW.getR af_X9_24_5 sr_5_0 dX9_learnHours_14 ?_
    refine AW.getI af_X9_38_1 sr_1_5 dX9_learnHours_17 ?_
    obtain ⟨r2, e3, h⟩ := hC h
    refine AW.callVv (As := [iv x1, iv (g 1 5)]) (st := []) (Rules_askDay_ok e3) cq_X9_44 cr_2_X6_askDay (Nat.le_trans (by decide) hdd) rfl dX9_learnHours_20 rfl (Nat.le_of_ble_eq_true rfl) ?_
    refine AW.aloadr_n 0 dX9_learnHours_23 rfl ?_
    refine AW.getR af_X9_28_5 sr_5_1 dX9_learnHours_24 ?_
    refine AW.bipush dX9_learnHours_27 (by decide) (by decide) ?_
    obtain ⟨r4, e5, h⟩ := hC h
    refine AW.callVi (As := [iv 100]) (st := []) (Rules_serving_ok e5) cq_X9_50 cr_2_X6_serving (Nat.le_trans (by decide) hdd) rfl dX9_learnHours_29 rfl (Nat.le_of_ble_eq_true rfl) ?_
    refine AW.istore_n (lv1 := [(2, iv r4.1), (0, rv z 5), (1, iv x1)]) dX9_learnHours_32 (by decide) rfl ?_
    refine AW.aloadr_n 1 dX9_learnHours_33 rfl ?_
    refine AW.getR af_X9_9_5 sr_5_2 dX9_learnHours_34 ?_
    refine AW.iload_n 2 dX9_learnHours_37 rfl ?_
    refine AW.iload_n 0 dX9_learnHours_38 rfl ?_
    refine AW.iconst dX9_learnHours_39 ?_
    obtain ⟨r8, e9, h⟩ := hC h
    refine AW.join (tgt := 56) (lv1 := [(0, rv z 5), (1, iv x1), (2, iv r4.1)]) (st1 := [iv r8.1, iv x1, rv z 44]) (g1 := r8.2) ?_ (fun J40 => ?_)
    · obtain ⟨k10, h⟩ := hK h
      obtain ⟨g11, e12, h⟩ := hBe h
      refine AW.iast kc_44 sk_44 k10 dX9_learnHours_56 e12 ?_
      refine AW.aloadr_n 0 dX9_learnHours_57 rfl ?_
      refine AW.getR af_X9_15_5 sr_5_3 dX9_learnHours_58 ?_
      refine AW.iload_n 1 dX9_learnHours_61 rfl ?_
      refine AW.iload_n 2 dX9_learnHours_62 rfl ?_
      refine AW.iconst dX9_learnHours_63 ?_
      obtain ⟨r15, e16, h⟩ := hC h
      refine AW.join (tgt := 81) (lv1 := [(0, rv z 5), (1, iv x1)]) (st1 := [iv r15.1, iv x1, rv z 45]) (g1 := r15.2) ?_ (fun J64 => ?_)
      · obtain ⟨g17, e18, h⟩ := hBe h
        refine AW.iast kc_45 sk_45 k10 dX9_learnHours_81 e18 ?_
        refine AW.iinc (lv1 := [(1, iv (x1 + 1)), (0, rv z 5)]) 1 dX9_learnHours_82 rfl (by decide) rfl ?_
        refine AW.goto (tgt := 2) dX9_learnHours_85 (by decide) ?_
        refine AW.sub (lv1 := [(0, rv z 5), (1, iv (x1 + 1))]) [1, 0] rfl ?_
        exact ih _ _ _ h
      replace h := e16
      refine AW.icmp_ne (tgt := 72) dX9_learnHours_64 (by decide) (fun c13 => ?_) (fun c13 => ?_)
      · replace h := hF h c13
        refine AW.aloadr_n 0 dX9_learnHours_72 rfl ?_
        refine AW.getR af_X9_28_5 sr_5_1 dX9_learnHours_73 ?_
        refine AW.getR af_X9_57_2 sr_2_9 dX9_learnHours_76 ?_
        refine AW.iload_n 2 dX9_learnHours_79 rfl ?_
        obtain ⟨k14, h⟩ := hK h
        refine AW.iald kc_24 sk_24 k14 dX9_learnHours_80 ?_
        refine AW.sub (lv1 := [(0, rv z 5), (1, iv x1)]) [0, 1] rfl ?_
        cases h
        exact J64
      · replace h := hT h c13
        refine AW.bipush dX9_learnHours_67 (by decide) (by decide) ?_
        refine AW.goto (tgt := 81) dX9_learnHours_69 (by decide) ?_
        refine AW.sub (lv1 := [(0, rv z 5), (1, iv x1)]) [0, 1] rfl ?_
        cases h
        exact J64
    replace h := e9
    refine AW.icmp_ne (tgt := 47) dX9_learnHours_40 (by decide) (fun c6 => ?_) (fun c6 => ?_)
    · replace h := hF h c6
      refine AW.aloadr_n 1 dX9_learnHours_47 rfl ?_
      refine AW.getR af_X9_28_5 sr_5_1 dX9_learnHours_48 ?_
      refine AW.getR af_X9_54_2 sr_2_8 dX9_learnHours_51 ?_
      refine AW.iload_n 0 dX9_learnHours_54 rfl ?_
      obtain ⟨k7, h⟩ := hK h
      refine AW.iald kc_23 sk_23 k7 dX9_learnHours_55 ?_
      refine AW.sub (lv1 := [(0, rv z 5), (1, iv x1), (2, iv r4.1)]) [1, 2, 0] rfl ?_
      cases h
      exact J40
    · replace h := hT h c6
      refine AW.iconst dX9_learnHours_43 ?_
      refine AW.goto (tgt := 56) dX9_learnHours_44 (by decide) ?_
      refine AW.sub (lv1 := [(0, rv z 5), (1, iv x1), (2, iv r4.1)]) [1, 2, 0] rfl ?_
      cases h
      exact J40
theorem Voyage_learnHours_ok {z : AZ} {g : AG} {r : Int × AG} (h : Voyage_learnHours g = some r) : AMf z yX9_learnHours cX9_learnHours 3 none 4 [rv z 5] g r := by
  intro d hdd
  refine AM.of (by decide +kernel) (Nat.le_of_ble_eq_true rfl) ?_
  show AW z (RX9, cX9_learnHours, 3, none) d (QD none r) 0 [(0, rv z 5)] [] g
  unfold Voyage_learnHours at h
  refine AW.iconst dX9_learnHours_0 ?_
  refine AW.istore_n (lv1 := [(1, iv 0), (0, rv z 5)]) dX9_learnHours_1 (by decide) rfl ?_
  refine AW.sub (lv1 := [(0, rv z 5), (1, iv 0)]) [1, 0] rfl ?_
  exact Voyage_learnHours_b_ok hdd _ _ _ h
theorem X_water_ok {z : AZ} {x1 : Int} {g : AG} {r : Int × AG} (h : X_water x1 g = some r) : AMf z yX11_water cX11_water 2 (some .boolean) 5 [rv z 0, iv x1] g r := by
  intro d hdd
  refine AM.of (by decide +kernel) (Nat.le_of_ble_eq_true rfl) ?_
  show AW z (RX11, cX11_water, 2, (some .boolean)) d (QD (some .boolean) r) 0 [(0, rv z 0), (1, iv x1)] [] g
  unfold X_water at h
  refine AW.iload_n 1 dX11_water_0 rfl ?_
  refine AW.iconst dX11_water_1 ?_
  refine AW.sipush dX11_water_2 (by decide) (by decide) ?_
  refine AW.callSi (As := [iv x1, iv 0, iv 999]) (st := []) X_within_ok cq_X11_99 st_X11_within (Nat.le_trans (by decide) hdd) rfl dX11_water_5 rfl (Nat.le_of_ble_eq_true rfl) ?_
  refine AW.if_ne (tgt := 13) dX11_water_8 (by decide) (fun c1 => ?_) (fun c1 => ?_)
  · replace h := hF h c1
    refine AW.aloadr_n 0 dX11_water_13 rfl ?_
    refine AW.getR af_X11_12_0 sr_0_0 dX11_water_14 ?_
    refine AW.iload_n 1 dX11_water_17 rfl ?_
    obtain ⟨g2, e3, h⟩ := hBe h
    refine AW.putI ap_X11_127_1 sr_1_5 dX11_water_18 e3 ?_
    refine AW.aloadr_n 0 dX11_water_21 rfl ?_
    refine AW.getR af_X11_40_0 sr_0_4 dX11_water_22 ?_
    obtain ⟨r4, e5, h⟩ := hC h
    refine AW.callVv (As := []) (st := []) (Voyage_learnHours_ok e5) cq_X11_130 cr_5_X9_learnHours (Nat.le_trans (by decide) hdd) rfl dX11_water_25 rfl (Nat.le_of_ble_eq_true rfl) ?_
    refine AW.iconst dX11_water_28 ?_
    exact AW.zret1 rfl (Or.inr rfl) dX11_water_29 h rfl
  · replace h := hT h c1
    refine AW.iconst dX11_water_11 ?_
    exact AW.zret1 rfl (Or.inl rfl) dX11_water_12 h rfl
set_option synthInstance.maxHeartbeats 2000000 in
theorem Canal_stop_b_ok {z : AZ} {d : Nat} (hdd : 0 ≤ d) {x1 : Int} {x3 : Int} : ∀ (x4 : Int) (g : AG) (r : Int × AG), Canal_stop_b x1 x3 x4 g = some r → AW z (RX2, cX2_stop, 5, none) d (QD none r) 3 [(0, rv z 1), (1, iv x1), (3, iv x3), (4, iv x4)] [] g := by
  refine Canal_stop_b.partial_correctness x1 x3 (fun x4 g r => AW z (RX2, cX2_stop, 5, none) d (QD none r) 3 [(0, rv z 1), (1, iv x1), (3, iv x3), (4, iv x4)] [] g) ?_
  intro fb9 ih x4 g r h
  refine AW.iload 3 dX2_stop_3 rfl ?_
  refine AW.iload_n 2 dX2_stop_5 rfl ?_
  refine AW.icmp_gt (tgt := 28) dX2_stop_6 (by decide) (fun c1 => ?_) (fun c1 => ?_)
  · replace h := hT h c1
    refine AW.aloadr_n 0 dX2_stop_28 rfl ?_
    refine AW.duprr dX2_stop_29 ?_
    refine AW.getI af_X2_34_1 sr_1_4 dX2_stop_30 ?_
    refine AW.iconst dX2_stop_33 ?_
    refine AW.iadd dX2_stop_34 ?_
    obtain ⟨g2, e3, h⟩ := hBe h
    refine AW.putI ap_X2_34_1 sr_1_4 dX2_stop_35 e3 ?_
    exact AW.vret1 rfl dX2_stop_38 h rfl
  · replace h := hF h c1
    refine AW.aloadr_n 0 dX2_stop_9 rfl ?_
    refine AW.getR af_X2_21_1 sr_1_3 dX2_stop_10 ?_
    refine AW.iload_n 1 dX2_stop_13 rfl ?_
    refine AW.dup2r dX2_stop_14 ?_
    obtain ⟨k4, h⟩ := hK h
    refine AW.iald kc_16 sk_16 k4 dX2_stop_15 ?_
    refine AW.iconst dX2_stop_16 ?_
    refine AW.iload 3 dX2_stop_17 rfl ?_
    refine AW.ishl dX2_stop_19 ?_
    refine AW.ior dX2_stop_20 ?_
    obtain ⟨g5, e6, h⟩ := hBe h
    refine AW.iast kc_16 sk_16 k4 dX2_stop_21 e6 ?_
    refine AW.iinc (lv1 := [(4, iv (x4 + 1)), (0, rv z 1), (1, iv x1), (3, iv x3)]) 3 dX2_stop_22 rfl (by decide) rfl ?_
    refine AW.goto (tgt := 3) dX2_stop_25 (by decide) ?_
    refine AW.sub (lv1 := [(0, rv z 1), (1, iv x1), (3, iv x3), (4, iv (x4 + 1))]) [1, 2, 3, 0] rfl ?_
    exact ih _ _ _ h
theorem Canal_stop_ok {z : AZ} {x1 : Int} {x2 : Int} {x3 : Int} {g : AG} {r : Int × AG} (h : Canal_stop x1 x2 x3 g = some r) : AMf z yX2_stop cX2_stop 5 none 0 [rv z 1, iv x1, iv x2, iv x3] g r := by
  intro d hdd
  refine AM.of (by decide +kernel) (Nat.le_of_ble_eq_true rfl) ?_
  show AW z (RX2, cX2_stop, 5, none) d (QD none r) 0 [(0, rv z 1), (1, iv x1), (2, iv x2), (3, iv x3)] [] g
  unfold Canal_stop at h
  refine AW.iload_n 2 dX2_stop_0 rfl ?_
  refine AW.istore (lv1 := [(4, iv x2), (0, rv z 1), (1, iv x1), (2, iv x2), (3, iv x3)]) dX2_stop_1 (by decide) rfl ?_
  refine AW.sub (lv1 := [(0, rv z 1), (1, iv x1), (3, iv x3), (4, iv x2)]) [1, 2, 4, 0] rfl ?_
  exact Canal_stop_b_ok hdd _ _ _ h
theorem Canal_reopen_ok {z : AZ} {g : AG} {r : Int × AG} (h : Canal_reopen g = some r) : AMf z yX2_reopen cX2_reopen 1 none 1 [rv z 1] g r := by
  intro d hdd
  refine AM.of (by decide +kernel) (Nat.le_of_ble_eq_true rfl) ?_
  show AW z (RX2, cX2_reopen, 1, none) d (QD none r) 0 [(0, rv z 1)] [] g
  unfold Canal_reopen at h
  refine AW.aloadr_n 0 dX2_reopen_0 rfl ?_
  refine AW.getR af_X2_21_1 sr_1_3 dX2_reopen_1 ?_
  refine AW.iconst dX2_reopen_4 ?_
  obtain ⟨g1, e2, h⟩ := hBe h
  refine AW.callSv (st := []) (fill_ok kc_16 sk_16 (by decide)) cf_X2_28 st_fill (Nat.le_trans (by decide) hdd) rfl dX2_reopen_5 rfl (Nat.le_of_ble_eq_true rfl) ?_
  rw [← e2]
  refine AW.aloadr_n 0 dX2_reopen_8 rfl ?_
  refine AW.iconst dX2_reopen_9 ?_
  obtain ⟨g3, e4, h⟩ := hBe h
  refine AW.putI ap_X2_34_1 sr_1_4 dX2_reopen_10 e4 ?_
  exact AW.vret1 rfl dX2_reopen_13 h rfl
theorem X_stoppage_ok {z : AZ} {x1 : Int} {x2 : Int} {x3 : Int} {g : AG} {r : Int × AG} (h : X_stoppage x1 x2 x3 g = some r) : AMf z yX11_stoppage cX11_stoppage 4 (some .int) 2 [rv z 0, iv x1, iv x2, iv x3] g r := by
  intro d hdd
  refine AM.of (by decide +kernel) (Nat.le_of_ble_eq_true rfl) ?_
  show AW z (RX11, cX11_stoppage, 4, (some .int)) d (QD (some .int) r) 0 [(0, rv z 0), (1, iv x1), (2, iv x2), (3, iv x3)] [] g
  unfold X_stoppage at h
  refine AW.iload_n 1 dX11_stoppage_0 rfl ?_
  refine AW.iconst dX11_stoppage_1 ?_
  refine AW.icmp_ne (tgt := 14) dX11_stoppage_2 (by decide) (fun c1 => ?_) (fun c1 => ?_)
  · replace h := hF h c1
    refine AW.iload_n 1 dX11_stoppage_14 rfl ?_
    refine AW.iconst dX11_stoppage_15 ?_
    refine AW.bipush dX11_stoppage_16 (by decide) (by decide) ?_
    refine AW.callSi (As := [iv x1, iv 0, iv 14]) (st := []) X_within_ok cq_X11_99 st_X11_within (Nat.le_trans (by decide) hdd) rfl dX11_stoppage_18 rfl (Nat.le_of_ble_eq_true rfl) ?_
    refine AW.if_eq (tgt := 39) dX11_stoppage_21 (by decide) (fun c2 => ?_) (fun c2 => ?_)
    · replace h := hT h c2
      refine AW.iconst dX11_stoppage_39 ?_
      exact AW.iret1 rfl dX11_stoppage_40 h rfl
    · replace h := hF h c2
      refine AW.iload_n 2 dX11_stoppage_24 rfl ?_
      refine AW.if_lt (tgt := 39) dX11_stoppage_25 (by decide) (fun c3 => ?_) (fun c3 => ?_)
      · replace h := hT h c3
        refine AW.iconst dX11_stoppage_39 ?_
        exact AW.iret1 rfl dX11_stoppage_40 h rfl
      · replace h := hF h c3
        refine AW.iload_n 2 dX11_stoppage_28 rfl ?_
        refine AW.iload_n 3 dX11_stoppage_29 rfl ?_
        refine AW.icmp_gt (tgt := 39) dX11_stoppage_30 (by decide) (fun c4 => ?_) (fun c4 => ?_)
        · replace h := hT h c4
          refine AW.iconst dX11_stoppage_39 ?_
          exact AW.iret1 rfl dX11_stoppage_40 h rfl
        · replace h := hF h c4
          refine AW.iload_n 3 dX11_stoppage_33 rfl ?_
          refine AW.bipush dX11_stoppage_34 (by decide) (by decide) ?_
          refine AW.icmp_lt (tgt := 41) dX11_stoppage_36 (by decide) (fun c5 => ?_) (fun c5 => ?_)
          · replace h := hT h c5
            refine AW.aloadr_n 0 dX11_stoppage_41 rfl ?_
            refine AW.getR af_X11_12_0 sr_0_0 dX11_stoppage_42 ?_
            refine AW.getI af_X11_136_1 sr_1_4 dX11_stoppage_45 ?_
            refine AW.bipush dX11_stoppage_48 (by decide) (by decide) ?_
            refine AW.icmp_lt (tgt := 55) dX11_stoppage_50 (by decide) (fun c6 => ?_) (fun c6 => ?_)
            · replace h := hT h c6
              refine AW.aloadr_n 0 dX11_stoppage_55 rfl ?_
              refine AW.getR af_X11_12_0 sr_0_0 dX11_stoppage_56 ?_
              refine AW.iload_n 1 dX11_stoppage_59 rfl ?_
              refine AW.iload_n 2 dX11_stoppage_60 rfl ?_
              refine AW.iload_n 3 dX11_stoppage_61 rfl ?_
              obtain ⟨r7, e8, h⟩ := hC h
              refine AW.callVv (As := [iv x1, iv x2, iv x3]) (st := []) (Canal_stop_ok e8) cq_X11_139 cr_1_X2_stop (Nat.le_trans (by decide) hdd) rfl dX11_stoppage_62 rfl (Nat.le_of_ble_eq_true rfl) ?_
              refine AW.aloadr_n 0 dX11_stoppage_65 rfl ?_
              refine AW.getR af_X11_12_0 sr_0_0 dX11_stoppage_66 ?_
              refine AW.getI af_X11_136_1 sr_1_4 dX11_stoppage_69 ?_
              exact AW.iret1 rfl dX11_stoppage_72 h rfl
            · replace h := hF h c6
              refine AW.iconst dX11_stoppage_53 ?_
              exact AW.iret1 rfl dX11_stoppage_54 h rfl
          · replace h := hF h c5
            refine AW.iconst dX11_stoppage_39 ?_
            exact AW.iret1 rfl dX11_stoppage_40 h rfl
  · replace h := hT h c1
    refine AW.aloadr_n 0 dX11_stoppage_5 rfl ?_
    refine AW.getR af_X11_12_0 sr_0_0 dX11_stoppage_6 ?_
    obtain ⟨r9, e10, h⟩ := hC h
    refine AW.callVv (As := []) (st := []) (Canal_reopen_ok e10) cq_X11_133 cr_1_X2_reopen (Nat.le_trans (by decide) hdd) rfl dX11_stoppage_9 rfl (Nat.le_of_ble_eq_true rfl) ?_
    refine AW.iconst dX11_stoppage_12 ?_
    exact AW.iret1 rfl dX11_stoppage_13 h rfl
theorem X_isBerths_ok {z : AZ} {x0 : Int} {g : AG} : AMf z yX11_isBerths cX11_isBerths 1 (some .boolean) 1 [iv x0] g ((X_isBerths x0), g) := by
  intro d hdd
  refine AM.of (by decide +kernel) (Nat.le_of_ble_eq_true rfl) ?_
  show AW z (RX11, cX11_isBerths, 1, (some .boolean)) d (QD (some .boolean) ((X_isBerths x0), g)) 0 [(0, iv x0)] [] g
  refine AW.iload_n 0 dX11_isBerths_0 rfl ?_
  refine AW.iconst dX11_isBerths_1 ?_
  refine AW.bipush dX11_isBerths_2 (by decide) (by decide) ?_
  refine AW.callSi (As := [iv x0, iv 2, iv 12]) (st := []) X_within_ok cq_X11_99 st_X11_within (Nat.le_trans (by decide) hdd) rfl dX11_isBerths_4 rfl (Nat.le_of_ble_eq_true rfl) ?_
  exact AW.zret rfl X_within_01 dX11_isBerths_7 ⟨congrArg (fun v => some (iv v)) (show X_isBerths x0  = (X_within x0 2 12) from rfl).symm, rfl⟩
theorem X_isPoint_ok {z : AZ} {x0 : Int} {g : AG} : AMf z yX11_isPoint cX11_isPoint 1 (some .boolean) 1 [iv x0] g ((X_isPoint x0), g) := by
  intro d hdd
  refine AM.of (by decide +kernel) (Nat.le_of_ble_eq_true rfl) ?_
  show AW z (RX11, cX11_isPoint, 1, (some .boolean)) d (QD (some .boolean) ((X_isPoint x0), g)) 0 [(0, iv x0)] [] g
  refine AW.iload_n 0 dX11_isPoint_0 rfl ?_
  refine AW.iconst dX11_isPoint_1 ?_
  refine AW.bipush dX11_isPoint_2 (by decide) (by decide) ?_
  refine AW.callSi (As := [iv x0, iv 0, iv 15]) (st := []) X_within_ok cq_X11_99 st_X11_within (Nat.le_trans (by decide) hdd) rfl dX11_isPoint_4 rfl (Nat.le_of_ble_eq_true rfl) ?_
  exact AW.zret rfl X_within_01 dX11_isPoint_7 ⟨congrArg (fun v => some (iv v)) (show X_isPoint x0  = (X_within x0 0 15) from rfl).symm, rfl⟩
theorem Boats_add_ok {z : AZ} {x1 : Int} {x2 : Int} {x3 : Int} {x4 : Int} {g : AG} {r : Int × AG} (h : Boats_add x1 x2 x3 x4 g = some r) : AMf z yX0_add cX0_add 5 (some .int) 0 [rv z 6, iv x1, iv x2, iv x3, iv x4] g r := by
  intro d hdd
  refine AM.of (by decide +kernel) (Nat.le_of_ble_eq_true rfl) ?_
  show AW z (RX0, cX0_add, 5, (some .int)) d (QD (some .int) r) 0 [(0, rv z 6), (1, iv x1), (2, iv x2), (3, iv x3), (4, iv x4)] [] g
  unfold Boats_add at h
  refine AW.aloadr_n 0 dX0_add_0 rfl ?_
  refine AW.getI af_X0_50_6 sr_6_7 dX0_add_1 ?_
  refine AW.bipush dX0_add_4 (by decide) (by decide) ?_
  refine AW.icmp_lt (tgt := 11) dX0_add_6 (by decide) (fun c1 => ?_) (fun c1 => ?_)
  · replace h := hT h c1
    refine AW.aloadr_n 0 dX0_add_11 rfl ?_
    refine AW.getR af_X0_9_6 sr_6_3 dX0_add_12 ?_
    refine AW.aloadr_n 0 dX0_add_15 rfl ?_
    refine AW.getI af_X0_50_6 sr_6_7 dX0_add_16 ?_
    refine AW.iload_n 1 dX0_add_19 rfl ?_
    obtain ⟨k2, h⟩ := hK h
    obtain ⟨g3, e4, h⟩ := hBe h
    refine AW.iast kc_48 sk_48 k2 dX0_add_20 e4 ?_
    refine AW.aloadr_n 0 dX0_add_21 rfl ?_
    refine AW.getR af_X0_15_6 sr_6_4 dX0_add_22 ?_
    refine AW.aloadr_n 0 dX0_add_25 rfl ?_
    refine AW.getI af_X0_50_6 sr_6_7 dX0_add_26 ?_
    refine AW.iload_n 2 dX0_add_29 rfl ?_
    obtain ⟨k5, h⟩ := hK h
    obtain ⟨g6, e7, h⟩ := hBe h
    refine AW.iast kc_49 sk_49 k5 dX0_add_30 e7 ?_
    refine AW.aloadr_n 0 dX0_add_31 rfl ?_
    refine AW.getR af_X0_18_6 sr_6_5 dX0_add_32 ?_
    refine AW.aloadr_n 0 dX0_add_35 rfl ?_
    refine AW.getI af_X0_50_6 sr_6_7 dX0_add_36 ?_
    refine AW.iload_n 3 dX0_add_39 rfl ?_
    obtain ⟨k8, h⟩ := hK h
    obtain ⟨g9, e10, h⟩ := hBe h
    refine AW.iast kc_50 sk_50 k8 dX0_add_40 e10 ?_
    refine AW.aloadr_n 0 dX0_add_41 rfl ?_
    refine AW.getR af_X0_21_6 sr_6_6 dX0_add_42 ?_
    refine AW.aloadr_n 0 dX0_add_45 rfl ?_
    refine AW.getI af_X0_50_6 sr_6_7 dX0_add_46 ?_
    refine AW.iload 4 dX0_add_49 rfl ?_
    obtain ⟨k11, h⟩ := hK h
    obtain ⟨g12, e13, h⟩ := hBe h
    refine AW.iast kc_51 sk_51 k11 dX0_add_51 e13 ?_
    refine AW.aloadr_n 0 dX0_add_52 rfl ?_
    refine AW.duprr dX0_add_53 ?_
    refine AW.getI af_X0_50_6 sr_6_7 dX0_add_54 ?_
    refine AW.iconst dX0_add_57 ?_
    refine AW.iadd dX0_add_58 ?_
    obtain ⟨g14, e15, h⟩ := hBe h
    refine AW.putI ap_X0_50_6 sr_6_7 dX0_add_59 e15 ?_
    refine AW.aloadr_n 0 dX0_add_62 rfl ?_
    refine AW.getI af_X0_50_6 sr_6_7 dX0_add_63 ?_
    refine AW.iconst dX0_add_66 ?_
    refine AW.isub dX0_add_67 ?_
    exact AW.iret1 rfl dX0_add_68 h rfl
  · replace h := hF h c1
    refine AW.iconst dX0_add_9 ?_
    exact AW.iret1 rfl dX0_add_10 h rfl
theorem X_boat_ok {z : AZ} {x1 : Int} {x2 : Int} {x3 : Int} {x4 : Int} {g : AG} {r : Int × AG} (h : X_boat x1 x2 x3 x4 g = some r) : AMf z yX11_boat cX11_boat 5 (some .int) 2 [rv z 0, iv x1, iv x2, iv x3, iv x4] g r := by
  intro d hdd
  refine AM.of (by decide +kernel) (Nat.le_of_ble_eq_true rfl) ?_
  show AW z (RX11, cX11_boat, 5, (some .int)) d (QD (some .int) r) 0 [(0, rv z 0), (1, iv x1), (2, iv x2), (3, iv x3), (4, iv x4)] [] g
  unfold X_boat at h
  refine AW.iload_n 1 dX11_boat_0 rfl ?_
  refine AW.callSi (As := [iv x1]) (st := []) X_isBerths_ok cq_X11_143 st_X11_isBerths (Nat.le_trans (by decide) hdd) rfl dX11_boat_1 rfl (Nat.le_of_ble_eq_true rfl) ?_
  refine AW.if_eq (tgt := 17) dX11_boat_4 (by decide) (fun c1 => ?_) (fun c1 => ?_)
  · replace h := hT h c1
    refine AW.iconst dX11_boat_17 ?_
    exact AW.iret1 rfl dX11_boat_18 h rfl
  · replace h := hF h c1
    refine AW.iload_n 2 dX11_boat_7 rfl ?_
    refine AW.iconst dX11_boat_8 ?_
    refine AW.bipush dX11_boat_9 (by decide) (by decide) ?_
    refine AW.callSi (As := [iv x2, iv 0, iv 99]) (st := []) X_within_ok cq_X11_99 st_X11_within (Nat.le_trans (by decide) hdd) rfl dX11_boat_11 rfl (Nat.le_of_ble_eq_true rfl) ?_
    refine AW.if_ne (tgt := 19) dX11_boat_14 (by decide) (fun c2 => ?_) (fun c2 => ?_)
    · replace h := hF h c2
      refine AW.iload_n 3 dX11_boat_19 rfl ?_
      refine AW.callSi (As := [iv x3]) (st := []) X_isPoint_ok cq_X11_111 st_X11_isPoint (Nat.le_trans (by decide) hdd) rfl dX11_boat_20 rfl (Nat.le_of_ble_eq_true rfl) ?_
      refine AW.if_eq (tgt := 37) dX11_boat_23 (by decide) (fun c3 => ?_) (fun c3 => ?_)
      · replace h := hT h c3
        refine AW.iconst dX11_boat_37 ?_
        exact AW.iret1 rfl dX11_boat_38 h rfl
      · replace h := hF h c3
        refine AW.iload 4 dX11_boat_26 rfl ?_
        refine AW.iconst dX11_boat_28 ?_
        refine AW.bipush dX11_boat_29 (by decide) (by decide) ?_
        refine AW.callSi (As := [iv x4, iv 0, iv 60]) (st := []) X_within_ok cq_X11_99 st_X11_within (Nat.le_trans (by decide) hdd) rfl dX11_boat_31 rfl (Nat.le_of_ble_eq_true rfl) ?_
        refine AW.if_ne (tgt := 39) dX11_boat_34 (by decide) (fun c4 => ?_) (fun c4 => ?_)
        · replace h := hF h c4
          refine AW.aloadr_n 0 dX11_boat_39 rfl ?_
          refine AW.getR af_X11_49_0 sr_0_5 dX11_boat_40 ?_
          refine AW.iload_n 1 dX11_boat_43 rfl ?_
          refine AW.iload_n 2 dX11_boat_44 rfl ?_
          refine AW.iload_n 3 dX11_boat_45 rfl ?_
          refine AW.iload 4 dX11_boat_46 rfl ?_
          obtain ⟨r5, e6, h⟩ := hC h
          refine AW.callVi (As := [iv x1, iv x2, iv x3, iv x4]) (st := []) (Boats_add_ok e6) cq_X11_146 cr_6_X0_add (Nat.le_trans (by decide) hdd) rfl dX11_boat_48 rfl (Nat.le_of_ble_eq_true rfl) ?_
          exact AW.iret1 rfl dX11_boat_51 h rfl
        · replace h := hT h c4
          refine AW.iconst dX11_boat_37 ?_
          exact AW.iret1 rfl dX11_boat_38 h rfl
    · replace h := hT h c2
      refine AW.iconst dX11_boat_17 ?_
      exact AW.iret1 rfl dX11_boat_18 h rfl
set_option synthInstance.maxHeartbeats 2000000 in
theorem Parser_put_b_ok {z : AZ} {d : Nat} (hdd : 0 ≤ d) {x1 : Int} : ∀ (x2 : Int) (g : AG) (r : Int × AG), Parser_put_b x1 x2 g = some r → AW z (RX4, cX4_put, 3, none) d (QD none r) 3 [(0, rv z 4), (1, iv x1), (2, iv x2)] [] g := by
  refine Parser_put_b.partial_correctness x1 (fun x2 g r => AW z (RX4, cX4_put, 3, none) d (QD none r) 3 [(0, rv z 4), (1, iv x1), (2, iv x2)] [] g) ?_
  intro fb9 ih x2 g r h
  refine AW.iload_n 2 dX4_put_3 rfl ?_
  refine AW.if_lt (tgt := 49) dX4_put_4 (by decide) (fun c1 => ?_) (fun c1 => ?_)
  · replace h := hT h c1
    exact AW.vret1 rfl dX4_put_49 h rfl
  · replace h := hF h c1
    refine AW.aloadr_n 0 dX4_put_7 rfl ?_
    refine AW.getI af_X4_29_4 sr_4_2 dX4_put_8 ?_
    refine AW.sipush dX4_put_11 (by decide) (by decide) ?_
    obtain ⟨r8, e9, h⟩ := hC h
    refine AW.join (tgt := 43) (lv1 := [(0, rv z 4), (1, iv x1), (2, iv x2)]) (st1 := []) (g1 := r8) ?_ (fun J14 => ?_)
    · refine AW.iinc (lv1 := [(2, iv (x2 + (-8))), (0, rv z 4), (1, iv x1)]) 2 dX4_put_43 rfl (by decide) rfl ?_
      refine AW.goto (tgt := 3) dX4_put_46 (by decide) ?_
      refine AW.sub (lv1 := [(0, rv z 4), (1, iv x1), (2, iv (x2 + (-8)))]) [1, 2, 0] rfl ?_
      exact ih _ _ _ h
    replace h := e9
    refine AW.icmp_ge (tgt := 43) dX4_put_14 (by decide) (fun c2 => ?_) (fun c2 => ?_)
    · replace h := hT h c2
      cases h
      exact J14
    · replace h := hF h c2
      refine AW.aloadr_n 0 dX4_put_17 rfl ?_
      refine AW.getR af_X4_9_4 sr_4_1 dX4_put_18 ?_
      refine AW.aloadr_n 0 dX4_put_21 rfl ?_
      refine AW.getI af_X4_29_4 sr_4_2 dX4_put_22 ?_
      refine AW.iload_n 1 dX4_put_25 rfl ?_
      refine AW.iload_n 2 dX4_put_26 rfl ?_
      refine AW.iushr dX4_put_27 ?_
      refine AW.sipush dX4_put_28 (by decide) (by decide) ?_
      refine AW.iand dX4_put_31 ?_
      obtain ⟨k3, h⟩ := hK h
      obtain ⟨g4, e5, h⟩ := hBe h
      refine AW.iast kc_41 sk_41 k3 dX4_put_32 e5 ?_
      refine AW.aloadr_n 0 dX4_put_33 rfl ?_
      refine AW.duprr dX4_put_34 ?_
      refine AW.getI af_X4_29_4 sr_4_2 dX4_put_35 ?_
      refine AW.iconst dX4_put_38 ?_
      refine AW.iadd dX4_put_39 ?_
      obtain ⟨g6, e7, h⟩ := hBe h
      refine AW.putI ap_X4_29_4 sr_4_2 dX4_put_40 e7 ?_
      cases h
      exact J14
theorem Parser_put_ok {z : AZ} {x1 : Int} {g : AG} {r : Int × AG} (h : Parser_put x1 g = some r) : AMf z yX4_put cX4_put 3 none 0 [rv z 4, iv x1] g r := by
  intro d hdd
  refine AM.of (by decide +kernel) (Nat.le_of_ble_eq_true rfl) ?_
  show AW z (RX4, cX4_put, 3, none) d (QD none r) 0 [(0, rv z 4), (1, iv x1)] [] g
  unfold Parser_put at h
  refine AW.bipush dX4_put_0 (by decide) (by decide) ?_
  refine AW.istore_n (lv1 := [(2, iv 24), (0, rv z 4), (1, iv x1)]) dX4_put_2 (by decide) rfl ?_
  refine AW.sub (lv1 := [(0, rv z 4), (1, iv x1), (2, iv 24)]) [1, 2, 0] rfl ?_
  exact Parser_put_b_ok hdd _ _ _ h
theorem X_feed_ok {z : AZ} {x1 : Int} {x2 : Int} {x3 : Int} {x4 : Int} {x5 : Int} {g : AG} {r : Int × AG} (h : X_feed x1 x2 x3 x4 x5 g = some r) : AMf z yX11_feed cX11_feed 6 (some .int) 1 [rv z 0, iv x1, iv x2, iv x3, iv x4, iv x5] g r := by
  intro d hdd
  refine AM.of (by decide +kernel) (Nat.le_of_ble_eq_true rfl) ?_
  show AW z (RX11, cX11_feed, 6, (some .int)) d (QD (some .int) r) 0 [(0, rv z 0), (1, iv x1), (2, iv x2), (3, iv x3), (4, iv x4), (5, iv x5)] [] g
  unfold X_feed at h
  refine AW.aloadr_n 0 dX11_feed_0 rfl ?_
  refine AW.getR af_X11_31_0 sr_0_3 dX11_feed_1 ?_
  refine AW.getI af_X11_150_4 sr_4_2 dX11_feed_4 ?_
  refine AW.bipush dX11_feed_7 (by decide) (by decide) ?_
  refine AW.iadd dX11_feed_9 ?_
  refine AW.sipush dX11_feed_10 (by decide) (by decide) ?_
  refine AW.icmp_le (tgt := 18) dX11_feed_13 (by decide) (fun c1 => ?_) (fun c1 => ?_)
  · replace h := hT h c1
    refine AW.aloadr_n 0 dX11_feed_18 rfl ?_
    refine AW.getR af_X11_31_0 sr_0_3 dX11_feed_19 ?_
    refine AW.iload_n 1 dX11_feed_22 rfl ?_
    obtain ⟨r2, e3, h⟩ := hC h
    refine AW.callVv (As := [iv x1]) (st := []) (Parser_put_ok e3) cq_X11_153 cr_4_X4_put (Nat.le_trans (by decide) hdd) rfl dX11_feed_23 rfl (Nat.le_of_ble_eq_true rfl) ?_
    refine AW.aloadr_n 0 dX11_feed_26 rfl ?_
    refine AW.getR af_X11_31_0 sr_0_3 dX11_feed_27 ?_
    refine AW.iload_n 2 dX11_feed_30 rfl ?_
    obtain ⟨r4, e5, h⟩ := hC h
    refine AW.callVv (As := [iv x2]) (st := []) (Parser_put_ok e5) cq_X11_153 cr_4_X4_put (Nat.le_trans (by decide) hdd) rfl dX11_feed_31 rfl (Nat.le_of_ble_eq_true rfl) ?_
    refine AW.aloadr_n 0 dX11_feed_34 rfl ?_
    refine AW.getR af_X11_31_0 sr_0_3 dX11_feed_35 ?_
    refine AW.iload_n 3 dX11_feed_38 rfl ?_
    obtain ⟨r6, e7, h⟩ := hC h
    refine AW.callVv (As := [iv x3]) (st := []) (Parser_put_ok e7) cq_X11_153 cr_4_X4_put (Nat.le_trans (by decide) hdd) rfl dX11_feed_39 rfl (Nat.le_of_ble_eq_true rfl) ?_
    refine AW.aloadr_n 0 dX11_feed_42 rfl ?_
    refine AW.getR af_X11_31_0 sr_0_3 dX11_feed_43 ?_
    refine AW.iload 4 dX11_feed_46 rfl ?_
    obtain ⟨r8, e9, h⟩ := hC h
    refine AW.callVv (As := [iv x4]) (st := []) (Parser_put_ok e9) cq_X11_153 cr_4_X4_put (Nat.le_trans (by decide) hdd) rfl dX11_feed_48 rfl (Nat.le_of_ble_eq_true rfl) ?_
    refine AW.aloadr_n 0 dX11_feed_51 rfl ?_
    refine AW.getR af_X11_31_0 sr_0_3 dX11_feed_52 ?_
    refine AW.iload 5 dX11_feed_55 rfl ?_
    obtain ⟨r10, e11, h⟩ := hC h
    refine AW.callVv (As := [iv x5]) (st := []) (Parser_put_ok e11) cq_X11_153 cr_4_X4_put (Nat.le_trans (by decide) hdd) rfl dX11_feed_57 rfl (Nat.le_of_ble_eq_true rfl) ?_
    refine AW.aloadr_n 0 dX11_feed_60 rfl ?_
    refine AW.getR af_X11_31_0 sr_0_3 dX11_feed_61 ?_
    refine AW.getI af_X11_150_4 sr_4_2 dX11_feed_64 ?_
    exact AW.iret1 rfl dX11_feed_67 h rfl
  · replace h := hF h c1
    refine AW.iconst dX11_feed_16 ?_
    exact AW.iret1 rfl dX11_feed_17 h rfl
theorem X_end_ok {z : AZ} {x1 : Int} {g : AG} {r : Int × AG} (h : X_end x1 g = some r) : AMf z yX11_end cX11_end 2 (some .boolean) 0 [rv z 0, iv x1] g r := by
  intro d hdd
  refine AM.of (by decide +kernel) (Nat.le_of_ble_eq_true rfl) ?_
  show AW z (RX11, cX11_end, 2, (some .boolean)) d (QD (some .boolean) r) 0 [(0, rv z 0), (1, iv x1)] [] g
  unfold X_end at h
  refine AW.iload_n 1 dX11_end_0 rfl ?_
  refine AW.if_lt (tgt := 15) dX11_end_1 (by decide) (fun c1 => ?_) (fun c1 => ?_)
  · replace h := hT h c1
    refine AW.iconst dX11_end_15 ?_
    exact AW.zret1 rfl (Or.inl rfl) dX11_end_16 h rfl
  · replace h := hF h c1
    refine AW.iload_n 1 dX11_end_4 rfl ?_
    refine AW.aloadr_n 0 dX11_end_5 rfl ?_
    refine AW.getR af_X11_31_0 sr_0_3 dX11_end_6 ?_
    refine AW.getI af_X11_150_4 sr_4_2 dX11_end_9 ?_
    refine AW.icmp_le (tgt := 17) dX11_end_12 (by decide) (fun c2 => ?_) (fun c2 => ?_)
    · replace h := hT h c2
      refine AW.aloadr_n 0 dX11_end_17 rfl ?_
      refine AW.getR af_X11_31_0 sr_0_3 dX11_end_18 ?_
      refine AW.iload_n 1 dX11_end_21 rfl ?_
      obtain ⟨g3, e4, h⟩ := hBe h
      refine AW.putI ap_X11_150_4 sr_4_2 dX11_end_22 e4 ?_
      refine AW.iconst dX11_end_25 ?_
      exact AW.zret1 rfl (Or.inr rfl) dX11_end_26 h rfl
    · replace h := hF h c2
      refine AW.iconst dX11_end_15 ?_
      exact AW.zret1 rfl (Or.inl rfl) dX11_end_16 h rfl
theorem Rules_clear_ok {z : AZ} {g : AG} {r : Int × AG} (h : Rules_clear g = some r) : AMf z yX6_clear cX6_clear 1 none 1 [rv z 3] g r := by
  intro d hdd
  refine AM.of (by decide +kernel) (Nat.le_of_ble_eq_true rfl) ?_
  show AW z (RX6, cX6_clear, 1, none) d (QD none r) 0 [(0, rv z 3)] [] g
  unfold Rules_clear at h
  refine AW.aloadr_n 0 dX6_clear_0 rfl ?_
  refine AW.iconst dX6_clear_1 ?_
  obtain ⟨g1, e2, h⟩ := hBe h
  refine AW.putI ap_X6_48_3 sr_3_2 dX6_clear_2 e2 ?_
  refine AW.aloadr_n 0 dX6_clear_5 rfl ?_
  refine AW.iconst dX6_clear_6 ?_
  obtain ⟨g3, e4, h⟩ := hBe h
  refine AW.putI ap_X6_52_3 sr_3_3 dX6_clear_7 e4 ?_
  refine AW.aloadr_n 0 dX6_clear_10 rfl ?_
  refine AW.iconst dX6_clear_11 ?_
  obtain ⟨g5, e6, h⟩ := hBe h
  refine AW.putI ap_X6_55_3 sr_3_10 dX6_clear_12 e6 ?_
  refine AW.aloadr_n 0 dX6_clear_15 rfl ?_
  refine AW.getR af_X6_36_3 sr_3_11 dX6_clear_16 ?_
  refine AW.iconst dX6_clear_19 ?_
  obtain ⟨g7, e8, h⟩ := hBe h
  refine AW.callSv (st := []) (fill_ok kc_37 sk_37 (by decide)) cf_X6_58 st_fill (Nat.le_trans (by decide) hdd) rfl dX6_clear_20 rfl (Nat.le_of_ble_eq_true rfl) ?_
  rw [← e8]
  refine AW.aloadr_n 0 dX6_clear_23 rfl ?_
  refine AW.getR af_X6_39_3 sr_3_12 dX6_clear_24 ?_
  refine AW.iconst dX6_clear_27 ?_
  obtain ⟨g9, e10, h⟩ := hBe h
  refine AW.callSv (st := []) (fill_ok kc_38 sk_38 (by decide)) cf_X6_58 st_fill (Nat.le_trans (by decide) hdd) rfl dX6_clear_28 rfl (Nat.le_of_ble_eq_true rfl) ?_
  rw [← e10]
  exact AW.vret1 rfl dX6_clear_31 h rfl
theorem Parser_isLetter_ok {z : AZ} {x0 : Int} {g : AG} : AMf z yX4_isLetter cX4_isLetter 1 (some .boolean) 1 [iv x0] g ((Parser_isLetter x0), g) := by
  intro d hdd
  refine AM.of (by decide +kernel) (Nat.le_of_ble_eq_true rfl) ?_
  show AW z (RX4, cX4_isLetter, 1, (some .boolean)) d (QD (some .boolean) ((Parser_isLetter x0), g)) 0 [(0, iv x0)] [] g
  refine AW.iload_n 0 dX4_isLetter_0 rfl ?_
  refine AW.bipush dX4_isLetter_1 (by decide) (by decide) ?_
  refine AW.bipush dX4_isLetter_3 (by decide) (by decide) ?_
  refine AW.callN0 (As := [iv x0, iv 97, iv 122]) (st := []) X_within_ok ns_X4_87 in_X11 cd_X11_within st_X11_within (by decide) (Nat.le_trans (by decide) hdd) rfl (Nat.le_of_ble_eq_true rfl) dX4_isLetter_5 rfl ?_
  refine AW.join (tgt := 27) (lv1 := [(0, iv x0)]) (st1 := [iv (if nw (X_within x0 97 122) = 0 then (if nw (X_within x0 65 90) = 0 then 0 else 1) else 1)]) (g1 := g) ?_ (fun J8 => ?_)
  · exact AW.zret rfl (by (repeat' split) <;> first | exact Or.inl rfl | exact Or.inr rfl) dX4_isLetter_27 ⟨congrArg (fun v => some (iv v)) (show Parser_isLetter x0  = (if nw (X_within x0 97 122) = 0 then (if nw (X_within x0 65 90) = 0 then 0 else 1) else 1) from rfl).symm, rfl⟩
  refine AW.if_ne (tgt := 22) dX4_isLetter_8 (by decide) (fun c1 => ?_) (fun c1 => ?_)
  · refine AW.iconst dX4_isLetter_22 ?_
    refine AW.goto (tgt := 27) dX4_isLetter_23 (by decide) ?_
    exact AW.val (if_neg c1) J8
  · refine AW.iload_n 0 dX4_isLetter_11 rfl ?_
    refine AW.bipush dX4_isLetter_12 (by decide) (by decide) ?_
    refine AW.bipush dX4_isLetter_14 (by decide) (by decide) ?_
    refine AW.callN0 (As := [iv x0, iv 65, iv 90]) (st := []) X_within_ok ns_X4_87 in_X11 cd_X11_within st_X11_within (by decide) (Nat.le_trans (by decide) hdd) rfl (Nat.le_of_ble_eq_true rfl) dX4_isLetter_16 rfl ?_
    refine AW.if_eq (tgt := 26) dX4_isLetter_19 (by decide) (fun c2 => ?_) (fun c2 => ?_)
    · refine AW.iconst dX4_isLetter_26 ?_
      exact AW.val ((if_pos c1).trans (if_pos c2)) J8
    · refine AW.iconst dX4_isLetter_22 ?_
      refine AW.goto (tgt := 27) dX4_isLetter_23 (by decide) ?_
      exact AW.val ((if_pos c1).trans (if_neg c2)) J8
theorem Parser_isDigit_ok {z : AZ} {x0 : Int} {g : AG} : AMf z yX4_isDigit cX4_isDigit 1 (some .boolean) 1 [iv x0] g ((Parser_isDigit x0), g) := by
  intro d hdd
  refine AM.of (by decide +kernel) (Nat.le_of_ble_eq_true rfl) ?_
  show AW z (RX4, cX4_isDigit, 1, (some .boolean)) d (QD (some .boolean) ((Parser_isDigit x0), g)) 0 [(0, iv x0)] [] g
  refine AW.iload_n 0 dX4_isDigit_0 rfl ?_
  refine AW.bipush dX4_isDigit_1 (by decide) (by decide) ?_
  refine AW.bipush dX4_isDigit_3 (by decide) (by decide) ?_
  refine AW.callN0 (As := [iv x0, iv 48, iv 57]) (st := []) X_within_ok ns_X4_87 in_X11 cd_X11_within st_X11_within (by decide) (Nat.le_trans (by decide) hdd) rfl (Nat.le_of_ble_eq_true rfl) dX4_isDigit_5 rfl ?_
  exact AW.zret rfl X_within_01 dX4_isDigit_8 ⟨congrArg (fun v => some (iv v)) (show Parser_isDigit x0  = (X_within x0 48 57) from rfl).symm, rfl⟩
theorem Parser_add_ok {z : AZ} {x1 : Int} {x2 : Int} {g : AG} {r : Int × AG} (h : Parser_add x1 x2 g = some r) : AMf z yX4_add cX4_add 3 none 0 [rv z 4, iv x1, iv x2] g r := by
  intro d hdd
  refine AM.of (by decide +kernel) (Nat.le_of_ble_eq_true rfl) ?_
  show AW z (RX4, cX4_add, 3, none) d (QD none r) 0 [(0, rv z 4), (1, iv x1), (2, iv x2)] [] g
  unfold Parser_add at h
  refine AW.aloadr_n 0 dX4_add_0 rfl ?_
  refine AW.getI af_X4_52_4 sr_4_5 dX4_add_1 ?_
  refine AW.aloadr_n 0 dX4_add_4 rfl ?_
  refine AW.getR af_X4_15_4 sr_4_3 dX4_add_5 ?_
  refine AW.alen kc_42 sk_42 dX4_add_8 ?_
  obtain ⟨r10, e11, h⟩ := hC h
  refine AW.join (tgt := 42) (lv1 := []) (st1 := []) (g1 := r10) ?_ (fun J9 => ?_)
  · exact AW.vret1 rfl dX4_add_42 h rfl
  replace h := e11
  refine AW.icmp_ge (tgt := 42) dX4_add_9 (by decide) (fun c1 => ?_) (fun c1 => ?_)
  · replace h := hT h c1
    refine AW.sub (lv1 := []) [] rfl ?_
    cases h
    exact J9
  · replace h := hF h c1
    refine AW.aloadr_n 0 dX4_add_12 rfl ?_
    refine AW.getR af_X4_15_4 sr_4_3 dX4_add_13 ?_
    refine AW.aloadr_n 0 dX4_add_16 rfl ?_
    refine AW.getI af_X4_52_4 sr_4_5 dX4_add_17 ?_
    refine AW.iload_n 1 dX4_add_20 rfl ?_
    obtain ⟨k2, h⟩ := hK h
    obtain ⟨g3, e4, h⟩ := hBe h
    refine AW.iast kc_42 sk_42 k2 dX4_add_21 e4 ?_
    refine AW.aloadr_n 0 dX4_add_22 rfl ?_
    refine AW.getR af_X4_18_4 sr_4_4 dX4_add_23 ?_
    refine AW.aloadr_n 0 dX4_add_26 rfl ?_
    refine AW.getI af_X4_52_4 sr_4_5 dX4_add_27 ?_
    refine AW.iload_n 2 dX4_add_30 rfl ?_
    obtain ⟨k5, h⟩ := hK h
    obtain ⟨g6, e7, h⟩ := hBe h
    refine AW.iast kc_43 sk_43 k5 dX4_add_31 e7 ?_
    refine AW.aloadr_n 0 dX4_add_32 rfl ?_
    refine AW.duprr dX4_add_33 ?_
    refine AW.getI af_X4_52_4 sr_4_5 dX4_add_34 ?_
    refine AW.iconst dX4_add_37 ?_
    refine AW.iadd dX4_add_38 ?_
    obtain ⟨g8, e9, h⟩ := hBe h
    refine AW.putI ap_X4_52_4 sr_4_5 dX4_add_39 e9 ?_
    refine AW.sub (lv1 := []) [] rfl ?_
    cases h
    exact J9
set_option synthInstance.maxHeartbeats 2000000 in
theorem Parser_endOfDigits_b_ok {z : AZ} {d : Nat} (hdd : 2 ≤ d) {g : AG} : ∀ (x2 : Int) (x3 : Int) (r : Int × AG), Parser_endOfDigits_b g x2 x3 = some r → AW z (RX4, cX4_endOfDigits, 4, (some .int)) d (QD (some .int) r) 4 [(0, rv z 4), (2, iv x2), (3, iv x3)] [] g := by
  refine Parser_endOfDigits_b.partial_correctness g (fun x2 x3 r => AW z (RX4, cX4_endOfDigits, 4, (some .int)) d (QD (some .int) r) 4 [(0, rv z 4), (2, iv x2), (3, iv x3)] [] g) ?_
  intro fb9 ih x2 x3 r h
  refine AW.iload_n 2 dX4_endOfDigits_4 rfl ?_
  refine AW.aloadr_n 0 dX4_endOfDigits_5 rfl ?_
  refine AW.getI af_X4_29_4 sr_4_2 dX4_endOfDigits_6 ?_
  refine AW.icmp_ge (tgt := 34) dX4_endOfDigits_9 (by decide) (fun c1 => ?_) (fun c1 => ?_)
  · replace h := hT h c1
    refine AW.iload_n 1 dX4_endOfDigits_34 rfl ?_
    exact AW.iret1 rfl dX4_endOfDigits_35 h rfl
  · replace h := hF h c1
    refine AW.aloadr_n 0 dX4_endOfDigits_12 rfl ?_
    refine AW.getR af_X4_9_4 sr_4_1 dX4_endOfDigits_13 ?_
    refine AW.iload_n 2 dX4_endOfDigits_16 rfl ?_
    obtain ⟨k2, h⟩ := hK h
    refine AW.iald kc_41 sk_41 k2 dX4_endOfDigits_17 ?_
    refine AW.callSi (As := [iv (g 41 (ix x3))]) (st := []) Parser_isDigit_ok cq_X4_71 st_X4_isDigit (Nat.le_trans (by decide) hdd) rfl dX4_endOfDigits_18 rfl (Nat.le_of_ble_eq_true rfl) ?_
    refine AW.if_eq (tgt := 34) dX4_endOfDigits_21 (by decide) (fun c3 => ?_) (fun c3 => ?_)
    · replace h := hT h c3
      refine AW.iload_n 1 dX4_endOfDigits_34 rfl ?_
      exact AW.iret1 rfl dX4_endOfDigits_35 h rfl
    · replace h := hF h c3
      refine AW.iload_n 2 dX4_endOfDigits_24 rfl ?_
      refine AW.iconst dX4_endOfDigits_25 ?_
      refine AW.iadd dX4_endOfDigits_26 ?_
      refine AW.istore_n (lv1 := [(2, iv (x3 + 1)), (0, rv z 4), (3, iv x3)]) dX4_endOfDigits_27 (by decide) rfl ?_
      refine AW.iinc (lv1 := [(3, iv (x3 + 1)), (2, iv (x3 + 1)), (0, rv z 4)]) 2 dX4_endOfDigits_28 rfl (by decide) rfl ?_
      refine AW.goto (tgt := 4) dX4_endOfDigits_31 (by decide) ?_
      refine AW.sub (lv1 := [(0, rv z 4), (2, iv (x3 + 1)), (3, iv (x3 + 1))]) [2, 1, 0] rfl ?_
      exact ih _ _ _ h
theorem Parser_endOfDigits_ok {z : AZ} {x1 : Int} {g : AG} {r : Int × AG} (h : Parser_endOfDigits x1 g = some r) : AMf z yX4_endOfDigits cX4_endOfDigits 4 (some .int) 2 [rv z 4, iv x1] g r := by
  intro d hdd
  refine AM.of (by decide +kernel) (Nat.le_of_ble_eq_true rfl) ?_
  show AW z (RX4, cX4_endOfDigits, 4, (some .int)) d (QD (some .int) r) 0 [(0, rv z 4), (1, iv x1)] [] g
  unfold Parser_endOfDigits at h
  refine AW.iload_n 1 dX4_endOfDigits_0 rfl ?_
  refine AW.istore_n (lv1 := [(2, iv x1), (0, rv z 4), (1, iv x1)]) dX4_endOfDigits_1 (by decide) rfl ?_
  refine AW.iload_n 2 dX4_endOfDigits_2 rfl ?_
  refine AW.istore_n (lv1 := [(3, iv x1), (2, iv x1), (0, rv z 4), (1, iv x1)]) dX4_endOfDigits_3 (by decide) rfl ?_
  refine AW.sub (lv1 := [(0, rv z 4), (2, iv x1), (3, iv x1)]) [2, 1, 0] rfl ?_
  exact Parser_endOfDigits_b_ok hdd _ _ _ h
set_option synthInstance.maxHeartbeats 2000000 in
theorem Parser_numberOf_b_ok {z : AZ} {d : Nat} (hdd : 0 ≤ d) {x2 : Int} {g : AG} : ∀ (x3 : Int) (x4 : Int) (r : Int × AG), Parser_numberOf_b x2 g x3 x4 = some r → AW z (RX4, cX4_numberOf, 5, (some .int)) d (QD (some .int) r) 14 [(0, rv z 4), (2, iv x2), (3, iv x3), (4, iv x4)] [] g := by
  refine Parser_numberOf_b.partial_correctness x2 g (fun x3 x4 r => AW z (RX4, cX4_numberOf, 5, (some .int)) d (QD (some .int) r) 14 [(0, rv z 4), (2, iv x2), (3, iv x3), (4, iv x4)] [] g) ?_
  intro fb9 ih x3 x4 r h
  refine AW.iload 3 dX4_numberOf_14 rfl ?_
  refine AW.iload_n 1 dX4_numberOf_16 rfl ?_
  refine AW.icmp_ge (tgt := 42) dX4_numberOf_17 (by decide) (fun c1 => ?_) (fun c1 => ?_)
  · replace h := hT h c1
    refine AW.sipush dX4_numberOf_42 (by decide) (by decide) ?_
    refine AW.iload_n 2 dX4_numberOf_45 rfl ?_
    refine AW.iadd dX4_numberOf_46 ?_
    exact AW.iret1 rfl dX4_numberOf_47 h rfl
  · replace h := hF h c1
    refine AW.iload_n 2 dX4_numberOf_20 rfl ?_
    refine AW.bipush dX4_numberOf_21 (by decide) (by decide) ?_
    refine AW.imul dX4_numberOf_23 ?_
    refine AW.aloadr_n 0 dX4_numberOf_24 rfl ?_
    refine AW.getR af_X4_9_4 sr_4_1 dX4_numberOf_25 ?_
    refine AW.iload 3 dX4_numberOf_28 rfl ?_
    obtain ⟨k2, h⟩ := hK h
    refine AW.iald kc_41 sk_41 k2 dX4_numberOf_30 ?_
    refine AW.iadd dX4_numberOf_31 ?_
    refine AW.bipush dX4_numberOf_32 (by decide) (by decide) ?_
    refine AW.isub dX4_numberOf_34 ?_
    refine AW.istore_n (lv1 := [(3, iv (((x3 * 10) + (g 41 (ix x4))) - 48)), (0, rv z 4), (2, iv x2), (4, iv x4)]) dX4_numberOf_35 (by decide) rfl ?_
    refine AW.iinc (lv1 := [(4, iv (x4 + 1)), (3, iv (((x3 * 10) + (g 41 (ix x4))) - 48)), (0, rv z 4), (2, iv x2)]) 3 dX4_numberOf_36 rfl (by decide) rfl ?_
    refine AW.goto (tgt := 14) dX4_numberOf_39 (by decide) ?_
    refine AW.sub (lv1 := [(0, rv z 4), (2, iv x2), (3, iv (((x3 * 10) + (g 41 (ix x4))) - 48)), (4, iv (x4 + 1))]) [2, 3, 1, 0] rfl ?_
    exact ih _ _ _ h
theorem Parser_numberOf_ok {z : AZ} {x1 : Int} {x2 : Int} {g : AG} {r : Int × AG} (h : Parser_numberOf x1 x2 g = some r) : AMf z yX4_numberOf cX4_numberOf 5 (some .int) 0 [rv z 4, iv x1, iv x2] g r := by
  intro d hdd
  refine AM.of (by decide +kernel) (Nat.le_of_ble_eq_true rfl) ?_
  show AW z (RX4, cX4_numberOf, 5, (some .int)) d (QD (some .int) r) 0 [(0, rv z 4), (1, iv x1), (2, iv x2)] [] g
  unfold Parser_numberOf at h
  refine AW.iload_n 2 dX4_numberOf_0 rfl ?_
  refine AW.iload_n 1 dX4_numberOf_1 rfl ?_
  refine AW.isub dX4_numberOf_2 ?_
  refine AW.iconst dX4_numberOf_3 ?_
  refine AW.icmp_le (tgt := 9) dX4_numberOf_4 (by decide) (fun c1 => ?_) (fun c1 => ?_)
  · replace h := hT h c1
    refine AW.iconst dX4_numberOf_9 ?_
    refine AW.istore_n (lv1 := [(3, iv 0), (0, rv z 4), (1, iv x1), (2, iv x2)]) dX4_numberOf_10 (by decide) rfl ?_
    refine AW.iload_n 2 dX4_numberOf_11 rfl ?_
    refine AW.istore (lv1 := [(4, iv x1), (3, iv 0), (0, rv z 4), (1, iv x1), (2, iv x2)]) dX4_numberOf_12 (by decide) rfl ?_
    refine AW.sub (lv1 := [(0, rv z 4), (2, iv x2), (3, iv 0), (4, iv x1)]) [2, 4, 1, 0] rfl ?_
    exact Parser_numberOf_b_ok hdd _ _ _ h
  · replace h := hF h c1
    refine AW.iconst dX4_numberOf_7 ?_
    exact AW.iret1 rfl dX4_numberOf_8 h rfl
set_option synthInstance.maxHeartbeats 2000000 in
theorem Parser_endOfWord_b_ok {z : AZ} {d : Nat} (hdd : 2 ≤ d) {g : AG} : ∀ (x2 : Int) (x3 : Int) (r : Int × AG), Parser_endOfWord_b g x2 x3 = some r → AW z (RX4, cX4_endOfWord, 4, (some .int)) d (QD (some .int) r) 4 [(0, rv z 4), (2, iv x2), (3, iv x3)] [] g := by
  refine Parser_endOfWord_b.partial_correctness g (fun x2 x3 r => AW z (RX4, cX4_endOfWord, 4, (some .int)) d (QD (some .int) r) 4 [(0, rv z 4), (2, iv x2), (3, iv x3)] [] g) ?_
  intro fb9 ih x2 x3 r h
  refine AW.iload_n 2 dX4_endOfWord_4 rfl ?_
  refine AW.aloadr_n 0 dX4_endOfWord_5 rfl ?_
  refine AW.getI af_X4_29_4 sr_4_2 dX4_endOfWord_6 ?_
  refine AW.icmp_ge (tgt := 34) dX4_endOfWord_9 (by decide) (fun c1 => ?_) (fun c1 => ?_)
  · replace h := hT h c1
    refine AW.iload_n 1 dX4_endOfWord_34 rfl ?_
    exact AW.iret1 rfl dX4_endOfWord_35 h rfl
  · replace h := hF h c1
    refine AW.aloadr_n 0 dX4_endOfWord_12 rfl ?_
    refine AW.getR af_X4_9_4 sr_4_1 dX4_endOfWord_13 ?_
    refine AW.iload_n 2 dX4_endOfWord_16 rfl ?_
    obtain ⟨k2, h⟩ := hK h
    refine AW.iald kc_41 sk_41 k2 dX4_endOfWord_17 ?_
    refine AW.callSi (As := [iv (g 41 (ix x3))]) (st := []) Parser_isLetter_ok cq_X4_55 st_X4_isLetter (Nat.le_trans (by decide) hdd) rfl dX4_endOfWord_18 rfl (Nat.le_of_ble_eq_true rfl) ?_
    refine AW.if_eq (tgt := 34) dX4_endOfWord_21 (by decide) (fun c3 => ?_) (fun c3 => ?_)
    · replace h := hT h c3
      refine AW.iload_n 1 dX4_endOfWord_34 rfl ?_
      exact AW.iret1 rfl dX4_endOfWord_35 h rfl
    · replace h := hF h c3
      refine AW.iload_n 2 dX4_endOfWord_24 rfl ?_
      refine AW.iconst dX4_endOfWord_25 ?_
      refine AW.iadd dX4_endOfWord_26 ?_
      refine AW.istore_n (lv1 := [(2, iv (x3 + 1)), (0, rv z 4), (3, iv x3)]) dX4_endOfWord_27 (by decide) rfl ?_
      refine AW.iinc (lv1 := [(3, iv (x3 + 1)), (2, iv (x3 + 1)), (0, rv z 4)]) 2 dX4_endOfWord_28 rfl (by decide) rfl ?_
      refine AW.goto (tgt := 4) dX4_endOfWord_31 (by decide) ?_
      refine AW.sub (lv1 := [(0, rv z 4), (2, iv (x3 + 1)), (3, iv (x3 + 1))]) [2, 1, 0] rfl ?_
      exact ih _ _ _ h
theorem Parser_endOfWord_ok {z : AZ} {x1 : Int} {g : AG} {r : Int × AG} (h : Parser_endOfWord x1 g = some r) : AMf z yX4_endOfWord cX4_endOfWord 4 (some .int) 2 [rv z 4, iv x1] g r := by
  intro d hdd
  refine AM.of (by decide +kernel) (Nat.le_of_ble_eq_true rfl) ?_
  show AW z (RX4, cX4_endOfWord, 4, (some .int)) d (QD (some .int) r) 0 [(0, rv z 4), (1, iv x1)] [] g
  unfold Parser_endOfWord at h
  refine AW.iload_n 1 dX4_endOfWord_0 rfl ?_
  refine AW.istore_n (lv1 := [(2, iv x1), (0, rv z 4), (1, iv x1)]) dX4_endOfWord_1 (by decide) rfl ?_
  refine AW.iload_n 2 dX4_endOfWord_2 rfl ?_
  refine AW.istore_n (lv1 := [(3, iv x1), (2, iv x1), (0, rv z 4), (1, iv x1)]) dX4_endOfWord_3 (by decide) rfl ?_
  refine AW.sub (lv1 := [(0, rv z 4), (2, iv x1), (3, iv x1)]) [2, 1, 0] rfl ?_
  exact Parser_endOfWord_b_ok hdd _ _ _ h
set_option synthInstance.maxHeartbeats 2000000 in
theorem Parser_isSame_b_ok {z : AZ} {d : Nat} (hdd : 5 ≤ d) {x1 : Int} {x2 : Int} {x3 : Int} {g : AG} : ∀ (x4 : Int) (r : Int × AG), Parser_isSame_b x1 x2 x3 g x4 = some r → AW z (RX4, cX4_isSame, 5, (some .boolean)) d (QD (some .boolean) r) 3 [(0, rv z 4), (1, iv x1), (2, iv x2), (3, iv x3), (4, iv x4)] [] g := by
  refine Parser_isSame_b.partial_correctness x1 x2 x3 g (fun x4 r => AW z (RX4, cX4_isSame, 5, (some .boolean)) d (QD (some .boolean) r) 3 [(0, rv z 4), (1, iv x1), (2, iv x2), (3, iv x3), (4, iv x4)] [] g) ?_
  intro fb9 ih x4 r h
  refine AW.iload 4 dX4_isSame_3 rfl ?_
  refine AW.iload_n 3 dX4_isSame_5 rfl ?_
  refine AW.icmp_ge (tgt := 38) dX4_isSame_6 (by decide) (fun c1 => ?_) (fun c1 => ?_)
  · replace h := hT h c1
    refine AW.iconst dX4_isSame_38 ?_
    exact AW.zret1 rfl (Or.inr rfl) dX4_isSame_39 h rfl
  · replace h := hF h c1
    refine AW.aloadr_n 0 dX4_isSame_9 rfl ?_
    refine AW.getR af_X4_9_4 sr_4_1 dX4_isSame_10 ?_
    refine AW.iload_n 1 dX4_isSame_13 rfl ?_
    refine AW.iload 4 dX4_isSame_14 rfl ?_
    refine AW.iadd dX4_isSame_16 ?_
    obtain ⟨k2, h⟩ := hK h
    refine AW.iald kc_41 sk_41 k2 dX4_isSame_17 ?_
    refine AW.ldcS dX4_isSame_18 sw_X4_91 ?_
    refine AW.iload_n 2 dX4_isSame_20 rfl ?_
    refine AW.iload 4 dX4_isSame_21 rfl ?_
    refine AW.iadd dX4_isSame_23 ?_
    obtain ⟨k3, h⟩ := hK h
    refine AW.strCh cq_X4_96 (by decide) k3 (Nat.le_trans (by decide) hdd) dX4_isSame_24 (Nat.le_of_ble_eq_true rfl) ?_
    refine AW.icmp_eq (tgt := 32) dX4_isSame_27 (by decide) (fun c4 => ?_) (fun c4 => ?_)
    · replace h := hT h c4
      refine AW.iinc (lv1 := [(4, iv (x4 + 1)), (0, rv z 4), (1, iv x1), (2, iv x2), (3, iv x3)]) 4 dX4_isSame_32 rfl (by decide) rfl ?_
      refine AW.goto (tgt := 3) dX4_isSame_35 (by decide) ?_
      refine AW.sub (lv1 := [(0, rv z 4), (1, iv x1), (2, iv x2), (3, iv x3), (4, iv (x4 + 1))]) [1, 2, 3, 4, 0] rfl ?_
      exact ih _ _ h
    · replace h := hF h c4
      refine AW.iconst dX4_isSame_30 ?_
      exact AW.zret1 rfl (Or.inl rfl) dX4_isSame_31 h rfl
theorem Parser_isSame_ok {z : AZ} {x1 : Int} {x2 : Int} {x3 : Int} {g : AG} {r : Int × AG} (h : Parser_isSame x1 x2 x3 g = some r) : AMf z yX4_isSame cX4_isSame 5 (some .boolean) 5 [rv z 4, iv x1, iv x2, iv x3] g r := by
  intro d hdd
  refine AM.of (by decide +kernel) (Nat.le_of_ble_eq_true rfl) ?_
  show AW z (RX4, cX4_isSame, 5, (some .boolean)) d (QD (some .boolean) r) 0 [(0, rv z 4), (1, iv x1), (2, iv x2), (3, iv x3)] [] g
  unfold Parser_isSame at h
  refine AW.iconst dX4_isSame_0 ?_
  refine AW.istore (lv1 := [(4, iv 0), (0, rv z 4), (1, iv x1), (2, iv x2), (3, iv x3)]) dX4_isSame_1 (by decide) rfl ?_
  refine AW.sub (lv1 := [(0, rv z 4), (1, iv x1), (2, iv x2), (3, iv x3), (4, iv 0)]) [1, 2, 3, 4, 0] rfl ?_
  exact Parser_isSame_b_ok hdd _ _ h
set_option synthInstance.maxHeartbeats 2000000 in
theorem Parser_wordOf_b_ok {z : AZ} {d : Nat} (hdd : 6 ≤ d) {x1 : Int} {x2 : Int} : ∀ (tag : Nat) (x3 : Int) (x4 : Int) (x5 : Int) (g : AG) (r : Int × AG), Parser_wordOf_b x1 x2 tag x3 x4 x5 g = some r → (tag = 1 → AW z (RX4, cX4_wordOf, 6, (some .int)) d (QD (some .int) r) 9 [(0, rv z 4), (1, iv x1), (2, iv x2), (3, iv x3), (4, iv x4), (5, iv x5)] [] g) ∧ (tag = 2 → AW z (RX4, cX4_wordOf, 6, (some .int)) d (QD (some .int) r) 59 [(0, rv z 4), (1, iv x1), (2, iv x2), (3, iv x3), (5, iv x5)] [] g) ∧ (tag = 3 → AW z (RX4, cX4_wordOf, 6, (some .int)) d (QD (some .int) r) 68 [(0, rv z 4), (1, iv x1), (2, iv x2), (3, iv x3), (4, iv x4), (5, iv x5)] [] g) := by
  refine Parser_wordOf_b.partial_correctness x1 x2 (fun tag x3 x4 x5 g r => (tag = 1 → AW z (RX4, cX4_wordOf, 6, (some .int)) d (QD (some .int) r) 9 [(0, rv z 4), (1, iv x1), (2, iv x2), (3, iv x3), (4, iv x4), (5, iv x5)] [] g) ∧ (tag = 2 → AW z (RX4, cX4_wordOf, 6, (some .int)) d (QD (some .int) r) 59 [(0, rv z 4), (1, iv x1), (2, iv x2), (3, iv x3), (5, iv x5)] [] g) ∧ (tag = 3 → AW z (RX4, cX4_wordOf, 6, (some .int)) d (QD (some .int) r) 68 [(0, rv z 4), (1, iv x1), (2, iv x2), (3, iv x3), (4, iv x4), (5, iv x5)] [] g)) ?_
  intro fb9 ih tag x3 x4 x5 g r h
  refine ⟨fun h9 => ?_, fun h9 => ?_, fun h9 => ?_⟩
  · subst h9
    replace h := hT h rfl
    refine AW.iload 5 dX4_wordOf_9 rfl ?_
    refine AW.ldcS dX4_wordOf_11 sw_X4_91 ?_
    refine AW.strLen cq_X4_93 (by decide) (Nat.le_trans (by decide) hdd) dX4_wordOf_13 (Nat.le_of_ble_eq_true rfl) ?_
    refine AW.icmp_ge (tgt := 74) dX4_wordOf_16 (by decide) (fun c1 => ?_) (fun c1 => ?_)
    · replace h := hT h c1
      refine AW.iconst dX4_wordOf_74 ?_
      exact AW.iret1 rfl dX4_wordOf_75 h rfl
    · replace h := hF h c1
      refine AW.ldcS dX4_wordOf_19 sw_X4_91 ?_
      refine AW.iload 5 dX4_wordOf_21 rfl ?_
      obtain ⟨k2, h⟩ := hK h
      refine AW.strCh cq_X4_96 (by decide) k2 (Nat.le_trans (by decide) hdd) dX4_wordOf_23 (Nat.le_of_ble_eq_true rfl) ?_
      refine AW.bipush dX4_wordOf_26 (by decide) (by decide) ?_
      refine AW.icmp_ne (tgt := 68) dX4_wordOf_28 (by decide) (fun c3 => ?_) (fun c3 => ?_)
      · replace h := hF h c3
        exact (ih _ _ _ _ _ _ h).2.2 rfl
      · replace h := hT h c3
        refine AW.iload 5 dX4_wordOf_31 rfl ?_
        refine AW.iload 4 dX4_wordOf_33 rfl ?_
        refine AW.isub dX4_wordOf_35 ?_
        refine AW.iload_n 2 dX4_wordOf_36 rfl ?_
        refine AW.iload_n 1 dX4_wordOf_37 rfl ?_
        refine AW.isub dX4_wordOf_38 ?_
        refine AW.icmp_ne (tgt := 59) dX4_wordOf_39 (by decide) (fun c4 => ?_) (fun c4 => ?_)
        · replace h := hF h c4
          refine AW.sub (lv1 := [(0, rv z 4), (1, iv x1), (2, iv x2), (3, iv x3), (5, iv x5)]) [0, 1, 2, 3, 5] rfl ?_
          exact (ih _ _ _ _ _ _ h).2.1 rfl
        · replace h := hT h c4
          refine AW.aloadr_n 0 dX4_wordOf_42 rfl ?_
          refine AW.iload_n 1 dX4_wordOf_43 rfl ?_
          refine AW.iload 4 dX4_wordOf_44 rfl ?_
          refine AW.iload 5 dX4_wordOf_46 rfl ?_
          refine AW.iload 4 dX4_wordOf_48 rfl ?_
          refine AW.isub dX4_wordOf_50 ?_
          obtain ⟨r5, e6, h⟩ := hC h
          refine AW.callVi (As := [iv x1, iv x4, iv (x5 - x4)]) (st := []) (Parser_isSame_ok e6) cq_X4_100 cr_4_X4_isSame (Nat.le_trans (by decide) hdd) rfl dX4_wordOf_51 rfl (Nat.le_of_ble_eq_true rfl) ?_
          refine AW.if_eq (tgt := 59) dX4_wordOf_54 (by decide) (fun c7 => ?_) (fun c7 => ?_)
          · replace h := hT h c7
            refine AW.sub (lv1 := [(0, rv z 4), (1, iv x1), (2, iv x2), (3, iv x3), (5, iv x5)]) [0, 1, 2, 3, 5] rfl ?_
            exact (ih _ _ _ _ _ _ h).2.1 rfl
          · replace h := hF h c7
            refine AW.iload_n 3 dX4_wordOf_57 rfl ?_
            exact AW.iret1 rfl dX4_wordOf_58 h rfl
  · subst h9
    replace h := hF h (by decide)
    replace h := hT h rfl
    refine AW.iinc (lv1 := [(3, iv (x3 + 1)), (0, rv z 4), (1, iv x1), (2, iv x2), (5, iv x5)]) 3 dX4_wordOf_59 rfl (by decide) rfl ?_
    refine AW.iload 4 dX4_wordOf_62 rfl ?_
    refine AW.iconst dX4_wordOf_64 ?_
    refine AW.iadd dX4_wordOf_65 ?_
    refine AW.istore (lv1 := [(4, iv (x5 + 1)), (3, iv (x3 + 1)), (0, rv z 4), (1, iv x1), (2, iv x2), (5, iv x5)]) dX4_wordOf_66 (by decide) rfl ?_
    refine AW.sub (lv1 := [(0, rv z 4), (1, iv x1), (2, iv x2), (3, iv (x3 + 1)), (4, iv (x5 + 1)), (5, iv x5)]) [2, 3, 4, 1, 0, 5] rfl ?_
    exact (ih _ _ _ _ _ _ h).2.2 rfl
  · subst h9
    replace h := hF h (by decide)
    replace h := hF h (by decide)
    replace h := hT h rfl
    refine AW.iinc (lv1 := [(5, iv (x5 + 1)), (0, rv z 4), (1, iv x1), (2, iv x2), (3, iv x3), (4, iv x4)]) 5 dX4_wordOf_68 rfl (by decide) rfl ?_
    refine AW.goto (tgt := 9) dX4_wordOf_71 (by decide) ?_
    refine AW.sub (lv1 := [(0, rv z 4), (1, iv x1), (2, iv x2), (3, iv x3), (4, iv x4), (5, iv (x5 + 1))]) [1, 2, 3, 4, 5, 0] rfl ?_
    exact (ih _ _ _ _ _ _ h).1 rfl
theorem Parser_wordOf_ok {z : AZ} {x1 : Int} {x2 : Int} {g : AG} {r : Int × AG} (h : Parser_wordOf x1 x2 g = some r) : AMf z yX4_wordOf cX4_wordOf 6 (some .int) 6 [rv z 4, iv x1, iv x2] g r := by
  intro d hdd
  refine AM.of (by decide +kernel) (Nat.le_of_ble_eq_true rfl) ?_
  show AW z (RX4, cX4_wordOf, 6, (some .int)) d (QD (some .int) r) 0 [(0, rv z 4), (1, iv x1), (2, iv x2)] [] g
  unfold Parser_wordOf at h
  refine AW.bipush dX4_wordOf_0 (by decide) (by decide) ?_
  refine AW.istore_n (lv1 := [(3, iv 100), (0, rv z 4), (1, iv x1), (2, iv x2)]) dX4_wordOf_2 (by decide) rfl ?_
  refine AW.iconst dX4_wordOf_3 ?_
  refine AW.istore (lv1 := [(4, iv 0), (3, iv 100), (0, rv z 4), (1, iv x1), (2, iv x2)]) dX4_wordOf_4 (by decide) rfl ?_
  refine AW.iconst dX4_wordOf_6 ?_
  refine AW.istore (lv1 := [(5, iv 0), (4, iv 0), (3, iv 100), (0, rv z 4), (1, iv x1), (2, iv x2)]) dX4_wordOf_7 (by decide) rfl ?_
  refine AW.sub (lv1 := [(0, rv z 4), (1, iv x1), (2, iv x2), (3, iv 100), (4, iv 0), (5, iv 0)]) [3, 4, 5, 2, 1, 0] rfl ?_
  exact (Parser_wordOf_b_ok hdd _ _ _ _ _ _ h).1 rfl
set_option synthInstance.maxHeartbeats 2000000 in
theorem Parser_scan_b_ok {z : AZ} {d : Nat} (hdd : 7 ≤ d) : ∀ (tag : Nat) (x1 : Int) (x2 : Int) (g : AG) (r : Int × AG), Parser_scan_b tag x1 x2 g = some r → (tag = 1 → AW z (RX4, cX4_scan, 5, none) d (QD none r) 9 [(0, rv z 4), (1, iv x1), (2, iv x2)] [] g) ∧ (tag = 2 → AW z (RX4, cX4_scan, 5, none) d (QD none r) 135 [(0, rv z 4)] [] g) := by
  refine Parser_scan_b.partial_correctness (fun tag x1 x2 g r => (tag = 1 → AW z (RX4, cX4_scan, 5, none) d (QD none r) 9 [(0, rv z 4), (1, iv x1), (2, iv x2)] [] g) ∧ (tag = 2 → AW z (RX4, cX4_scan, 5, none) d (QD none r) 135 [(0, rv z 4)] [] g)) ?_
  intro fb9 ih tag x1 x2 g r h
  refine ⟨fun h9 => ?_, fun h9 => ?_⟩
  · subst h9
    replace h := hT h rfl
    refine AW.iload_n 2 dX4_scan_9 rfl ?_
    refine AW.sipush dX4_scan_10 (by decide) (by decide) ?_
    refine AW.icmp_ge (tgt := 135) dX4_scan_13 (by decide) (fun c1 => ?_) (fun c1 => ?_)
    · replace h := hT h c1
      refine AW.sub (lv1 := [(0, rv z 4)]) [0] rfl ?_
      exact (ih _ _ _ _ _ h).2 rfl
    · replace h := hF h c1
      refine AW.iload_n 1 dX4_scan_16 rfl ?_
      refine AW.aloadr_n 0 dX4_scan_17 rfl ?_
      refine AW.getI af_X4_29_4 sr_4_2 dX4_scan_18 ?_
      refine AW.icmp_ge (tgt := 135) dX4_scan_21 (by decide) (fun c2 => ?_) (fun c2 => ?_)
      · replace h := hT h c2
        refine AW.sub (lv1 := [(0, rv z 4)]) [0] rfl ?_
        exact (ih _ _ _ _ _ h).2 rfl
      · replace h := hF h c2
        refine AW.aloadr_n 0 dX4_scan_24 rfl ?_
        refine AW.getR af_X4_9_4 sr_4_1 dX4_scan_25 ?_
        refine AW.iload_n 1 dX4_scan_28 rfl ?_
        obtain ⟨k3, h⟩ := hK h
        refine AW.iald kc_41 sk_41 k3 dX4_scan_29 ?_
        refine AW.istore_n (lv1 := [(3, iv (g 41 (ix x1))), (0, rv z 4), (1, iv x1), (2, iv x2)]) dX4_scan_30 (by decide) rfl ?_
        refine AW.iload_n 2 dX4_scan_31 rfl ?_
        refine AW.iconst dX4_scan_32 ?_
        refine AW.iadd dX4_scan_33 ?_
        refine AW.istore (lv1 := [(4, iv (x1 + 1)), (3, iv (g 41 (ix x1))), (0, rv z 4), (1, iv x1), (2, iv x2)]) dX4_scan_34 (by decide) rfl ?_
        refine AW.iload_n 1 dX4_scan_36 rfl ?_
        refine AW.callSi (As := [iv (g 41 (ix x1))]) (st := []) Parser_isLetter_ok cq_X4_55 st_X4_isLetter (Nat.le_trans (by decide) hdd) rfl dX4_scan_37 rfl (Nat.le_of_ble_eq_true rfl) ?_
        obtain ⟨r25, e26, h⟩ := hC h
        refine AW.join (tgt := 126) (lv1 := [(0, rv z 4), (2, iv x2), (4, iv r25.1)]) (st1 := []) (g1 := r25.2) ?_ (fun J40 => ?_)
        · refine AW.iload 2 dX4_scan_126 rfl ?_
          refine AW.istore_n (lv1 := [(1, iv r25.1), (0, rv z 4), (2, iv x2), (4, iv r25.1)]) dX4_scan_128 (by decide) rfl ?_
          refine AW.iinc (lv1 := [(2, iv (x2 + 1)), (1, iv r25.1), (0, rv z 4), (4, iv r25.1)]) 2 dX4_scan_129 rfl (by decide) rfl ?_
          refine AW.goto (tgt := 9) dX4_scan_132 (by decide) ?_
          refine AW.sub (lv1 := [(0, rv z 4), (1, iv r25.1), (2, iv (x2 + 1))]) [2, 1, 0] rfl ?_
          exact (ih _ _ _ _ _ h).1 rfl
        replace h := e26
        refine AW.if_eq (tgt := 65) dX4_scan_40 (by decide) (fun c4 => ?_) (fun c4 => ?_)
        · replace h := hT h c4
          refine AW.iload_n 1 dX4_scan_65 rfl ?_
          refine AW.callSi (As := [iv (g 41 (ix x1))]) (st := []) Parser_isDigit_ok cq_X4_71 st_X4_isDigit (Nat.le_trans (by decide) hdd) rfl dX4_scan_66 rfl (Nat.le_of_ble_eq_true rfl) ?_
          refine AW.if_eq (tgt := 94) dX4_scan_69 (by decide) (fun c5 => ?_) (fun c5 => ?_)
          · replace h := hT h c5
            refine AW.iload_n 1 dX4_scan_94 rfl ?_
            refine AW.bipush dX4_scan_95 (by decide) (by decide) ?_
            refine AW.icmp_eq (tgt := 126) dX4_scan_97 (by decide) (fun c6 => ?_) (fun c6 => ?_)
            · replace h := hT h c6
              refine AW.sub (lv1 := [(0, rv z 4), (2, iv x2), (4, iv (x1 + 1))]) [2, 4, 0] rfl ?_
              cases h
              exact J40
            · replace h := hF h c6
              refine AW.iload_n 1 dX4_scan_100 rfl ?_
              refine AW.bipush dX4_scan_101 (by decide) (by decide) ?_
              refine AW.icmp_eq (tgt := 126) dX4_scan_103 (by decide) (fun c7 => ?_) (fun c7 => ?_)
              · replace h := hT h c7
                refine AW.sub (lv1 := [(0, rv z 4), (2, iv x2), (4, iv (x1 + 1))]) [2, 4, 0] rfl ?_
                cases h
                exact J40
              · replace h := hF h c7
                refine AW.aloadr_n 2 dX4_scan_106 rfl ?_
                refine AW.ldcS dX4_scan_107 sw_X4_80 ?_
                refine AW.iload_n 1 dX4_scan_109 rfl ?_
                refine AW.i2c dX4_scan_110 ?_
                refine AW.strIx cq_X4_82 (by decide) (Nat.le_trans (by decide) hdd) dX4_scan_111 (Nat.le_of_ble_eq_true rfl) ?_
                obtain ⟨t8, e9, h⟩ := hBe h
                refine AW.join (tgt := 122) (lv1 := [(4, iv (x1 + 1)), (3, iv (g 41 (ix x1))), (0, rv z 4), (1, iv x1), (2, iv x2)]) (st1 := [iv t8, rv z 4]) (g1 := g) ?_ (fun J114 => ?_)
                · refine AW.iload_n 3 dX4_scan_122 rfl ?_
                  obtain ⟨r10, e11, h⟩ := hC h
                  refine AW.callVv (As := [iv t8, iv x1]) (st := []) (Parser_add_ok e11) cq_X4_67 cr_4_X4_add (Nat.le_trans (by decide) hdd) rfl dX4_scan_123 rfl (Nat.le_of_ble_eq_true rfl) ?_
                  refine AW.sub (lv1 := [(0, rv z 4), (2, iv x2), (4, iv (x1 + 1))]) [2, 4, 0] rfl ?_
                  cases h
                  exact J40
                refine AW.if_lt (tgt := 121) dX4_scan_114 (by decide) (fun c12 => ?_) (fun c12 => ?_)
                · refine AW.iconst dX4_scan_121 ?_
                  exact AW.val (e9.trans (if_pos c12)) J114
                · refine AW.iload_n 1 dX4_scan_117 rfl ?_
                  refine AW.goto (tgt := 122) dX4_scan_118 (by decide) ?_
                  exact AW.val (e9.trans (if_neg c12)) J114
          · replace h := hF h c5
            refine AW.aloadr_n 2 dX4_scan_72 rfl ?_
            refine AW.iload_n 3 dX4_scan_73 rfl ?_
            obtain ⟨r13, e14, h⟩ := hC h
            refine AW.callVi (As := [iv x1]) (st := []) (Parser_endOfDigits_ok e14) cq_X4_74 cr_4_X4_endOfDigits (Nat.le_trans (by decide) hdd) rfl dX4_scan_74 rfl (Nat.le_of_ble_eq_true rfl) ?_
            refine AW.istore (lv1 := [(4, iv r13.1), (3, iv (g 41 (ix x1))), (0, rv z 4), (1, iv x1), (2, iv x2)]) dX4_scan_77 (by decide) rfl ?_
            refine AW.aloadr_n 2 dX4_scan_79 rfl ?_
            refine AW.aloadr_n 2 dX4_scan_80 rfl ?_
            refine AW.iload_n 3 dX4_scan_81 rfl ?_
            refine AW.iload 0 dX4_scan_82 rfl ?_
            obtain ⟨r15, e16, h⟩ := hC h
            refine AW.callVi (As := [iv x1, iv r13.1]) (st := [rv z 4]) (Parser_numberOf_ok e16) cq_X4_77 cr_4_X4_numberOf (Nat.le_trans (by decide) hdd) rfl dX4_scan_84 rfl (Nat.le_of_ble_eq_true rfl) ?_
            refine AW.iload_n 3 dX4_scan_87 rfl ?_
            obtain ⟨r17, e18, h⟩ := hC h
            refine AW.callVv (As := [iv r15.1, iv x1]) (st := []) (Parser_add_ok e18) cq_X4_67 cr_4_X4_add (Nat.le_trans (by decide) hdd) rfl dX4_scan_88 rfl (Nat.le_of_ble_eq_true rfl) ?_
            refine AW.goto (tgt := 126) dX4_scan_91 (by decide) ?_
            refine AW.sub (lv1 := [(0, rv z 4), (2, iv x2), (4, iv r13.1)]) [2, 4, 0] rfl ?_
            cases h
            exact J40
        · replace h := hF h c4
          refine AW.aloadr_n 2 dX4_scan_43 rfl ?_
          refine AW.iload_n 3 dX4_scan_44 rfl ?_
          obtain ⟨r19, e20, h⟩ := hC h
          refine AW.callVi (As := [iv x1]) (st := []) (Parser_endOfWord_ok e20) cq_X4_59 cr_4_X4_endOfWord (Nat.le_trans (by decide) hdd) rfl dX4_scan_45 rfl (Nat.le_of_ble_eq_true rfl) ?_
          refine AW.istore (lv1 := [(4, iv r19.1), (3, iv (g 41 (ix x1))), (0, rv z 4), (1, iv x1), (2, iv x2)]) dX4_scan_48 (by decide) rfl ?_
          refine AW.aloadr_n 2 dX4_scan_50 rfl ?_
          refine AW.aloadr_n 2 dX4_scan_51 rfl ?_
          refine AW.iload_n 3 dX4_scan_52 rfl ?_
          refine AW.iload 0 dX4_scan_53 rfl ?_
          obtain ⟨r21, e22, h⟩ := hC h
          refine AW.callVi (As := [iv x1, iv r19.1]) (st := [rv z 4]) (Parser_wordOf_ok e22) cq_X4_63 cr_4_X4_wordOf (Nat.le_trans (by decide) hdd) rfl dX4_scan_55 rfl (Nat.le_of_ble_eq_true rfl) ?_
          refine AW.iload_n 3 dX4_scan_58 rfl ?_
          obtain ⟨r23, e24, h⟩ := hC h
          refine AW.callVv (As := [iv r21.1, iv x1]) (st := []) (Parser_add_ok e24) cq_X4_67 cr_4_X4_add (Nat.le_trans (by decide) hdd) rfl dX4_scan_59 rfl (Nat.le_of_ble_eq_true rfl) ?_
          refine AW.goto (tgt := 126) dX4_scan_62 (by decide) ?_
          refine AW.sub (lv1 := [(0, rv z 4), (2, iv x2), (4, iv r19.1)]) [2, 4, 0] rfl ?_
          cases h
          exact J40
  · subst h9
    replace h := hF h (by decide)
    replace h := hT h rfl
    refine AW.aloadr_n 0 dX4_scan_135 rfl ?_
    refine AW.iconst dX4_scan_136 ?_
    refine AW.aloadr_n 0 dX4_scan_137 rfl ?_
    refine AW.getI af_X4_29_4 sr_4_2 dX4_scan_138 ?_
    obtain ⟨r1, e2, h⟩ := hC h
    refine AW.callVv (As := [iv 0, iv (g 4 2)]) (st := []) (Parser_add_ok e2) cq_X4_67 cr_4_X4_add (Nat.le_trans (by decide) hdd) rfl dX4_scan_141 rfl (Nat.le_of_ble_eq_true rfl) ?_
    exact AW.vret1 rfl dX4_scan_144 h rfl
theorem Parser_scan_ok {z : AZ} {g : AG} {r : Int × AG} (h : Parser_scan g = some r) : AMf z yX4_scan cX4_scan 5 none 7 [rv z 4] g r := by
  intro d hdd
  refine AM.of (by decide +kernel) (Nat.le_of_ble_eq_true rfl) ?_
  show AW z (RX4, cX4_scan, 5, none) d (QD none r) 0 [(0, rv z 4)] [] g
  unfold Parser_scan at h
  refine AW.aloadr_n 0 dX4_scan_0 rfl ?_
  refine AW.iconst dX4_scan_1 ?_
  obtain ⟨g1, e2, h⟩ := hBe h
  refine AW.putI ap_X4_52_4 sr_4_5 dX4_scan_2 e2 ?_
  refine AW.iconst dX4_scan_5 ?_
  refine AW.istore_n (lv1 := [(1, iv 0), (0, rv z 4)]) dX4_scan_6 (by decide) rfl ?_
  refine AW.iconst dX4_scan_7 ?_
  refine AW.istore_n (lv1 := [(2, iv 0), (1, iv 0), (0, rv z 4)]) dX4_scan_8 (by decide) rfl ?_
  refine AW.sub (lv1 := [(0, rv z 4), (1, iv 0), (2, iv 0)]) [2, 1, 0] rfl ?_
  exact (Parser_scan_b_ok hdd _ _ _ _ _ h).1 rfl
theorem Parser_goOn_ok {z : AZ} {g : AG} {r : Int × AG} (h : Parser_goOn g = some r) : AMf z yX4_goOn cX4_goOn 1 none 0 [rv z 4] g r := by
  intro d hdd
  refine AM.of (by decide +kernel) (Nat.le_of_ble_eq_true rfl) ?_
  show AW z (RX4, cX4_goOn, 1, none) d (QD none r) 0 [(0, rv z 4)] [] g
  unfold Parser_goOn at h
  refine AW.aloadr_n 0 dX4_goOn_0 rfl ?_
  refine AW.getI af_X4_35_4 sr_4_6 dX4_goOn_1 ?_
  refine AW.aloadr_n 0 dX4_goOn_4 rfl ?_
  refine AW.getI af_X4_52_4 sr_4_5 dX4_goOn_5 ?_
  refine AW.iconst dX4_goOn_8 ?_
  refine AW.isub dX4_goOn_9 ?_
  obtain ⟨r4, e5, h⟩ := hC h
  refine AW.join (tgt := 23) (lv1 := []) (st1 := []) (g1 := r4) ?_ (fun J10 => ?_)
  · exact AW.vret1 rfl dX4_goOn_23 h rfl
  replace h := e5
  refine AW.icmp_ge (tgt := 23) dX4_goOn_10 (by decide) (fun c1 => ?_) (fun c1 => ?_)
  · replace h := hT h c1
    refine AW.sub (lv1 := []) [] rfl ?_
    cases h
    exact J10
  · replace h := hF h c1
    refine AW.aloadr_n 0 dX4_goOn_13 rfl ?_
    refine AW.duprr dX4_goOn_14 ?_
    refine AW.getI af_X4_35_4 sr_4_6 dX4_goOn_15 ?_
    refine AW.iconst dX4_goOn_18 ?_
    refine AW.iadd dX4_goOn_19 ?_
    obtain ⟨g2, e3, h⟩ := hBe h
    refine AW.putI ap_X4_35_4 sr_4_6 dX4_goOn_20 e3 ?_
    refine AW.sub (lv1 := []) [] rfl ?_
    cases h
    exact J10
theorem Parser_fail_ok {z : AZ} {x1 : Int} {g : AG} {r : Int × AG} (h : Parser_fail x1 g = some r) : AMf z yX4_fail cX4_fail 2 none 0 [rv z 4, iv x1] g r := by
  intro d hdd
  refine AM.of (by decide +kernel) (Nat.le_of_ble_eq_true rfl) ?_
  show AW z (RX4, cX4_fail, 2, none) d (QD none r) 0 [(0, rv z 4), (1, iv x1)] [] g
  unfold Parser_fail at h
  refine AW.aloadr_n 0 dX4_fail_0 rfl ?_
  refine AW.getI af_X4_32_4 sr_4_7 dX4_fail_1 ?_
  obtain ⟨r7, e8, h⟩ := hC h
  refine AW.join (tgt := 25) (lv1 := []) (st1 := []) (g1 := r7) ?_ (fun J4 => ?_)
  · exact AW.vret1 rfl dX4_fail_25 h rfl
  replace h := e8
  refine AW.if_ne (tgt := 25) dX4_fail_4 (by decide) (fun c1 => ?_) (fun c1 => ?_)
  · replace h := hF h c1
    refine AW.sub (lv1 := []) [] rfl ?_
    cases h
    exact J4
  · replace h := hT h c1
    refine AW.aloadr_n 0 dX4_fail_7 rfl ?_
    refine AW.iload_n 1 dX4_fail_8 rfl ?_
    obtain ⟨g2, e3, h⟩ := hBe h
    refine AW.putI ap_X4_32_4 sr_4_7 dX4_fail_9 e3 ?_
    refine AW.aloadr_n 0 dX4_fail_12 rfl ?_
    refine AW.aloadr_n 0 dX4_fail_13 rfl ?_
    refine AW.getR af_X4_18_4 sr_4_4 dX4_fail_14 ?_
    refine AW.aloadr_n 0 dX4_fail_17 rfl ?_
    refine AW.getI af_X4_35_4 sr_4_6 dX4_fail_18 ?_
    obtain ⟨k4, h⟩ := hK h
    refine AW.iald kc_43 sk_43 k4 dX4_fail_21 ?_
    obtain ⟨g5, e6, h⟩ := hBe h
    refine AW.putI ap_X4_21_4 sr_4_8 dX4_fail_22 e6 ?_
    refine AW.sub (lv1 := []) [] rfl ?_
    cases h
    exact J4
theorem Rules_put_ok {z : AZ} {x1 : Int} {x2 : Int} {g : AG} {r : Int × AG} (h : Rules_put x1 x2 g = some r) : AMf z yX6_put cX6_put 3 none 0 [rv z 3, iv x1, iv x2] g r := by
  intro d hdd
  refine AM.of (by decide +kernel) (Nat.le_of_ble_eq_true rfl) ?_
  show AW z (RX6, cX6_put, 3, none) d (QD none r) 0 [(0, rv z 3), (1, iv x1), (2, iv x2)] [] g
  unfold Rules_put at h
  refine AW.aloadr_n 0 dX6_put_0 rfl ?_
  refine AW.getI af_X6_48_3 sr_3_2 dX6_put_1 ?_
  refine AW.sipush dX6_put_4 (by decide) (by decide) ?_
  obtain ⟨r10, e11, h⟩ := hC h
  refine AW.join (tgt := 40) (lv1 := []) (st1 := []) (g1 := r10) ?_ (fun J7 => ?_)
  · exact AW.vret1 rfl dX6_put_40 h rfl
  replace h := e11
  refine AW.icmp_ge (tgt := 40) dX6_put_7 (by decide) (fun c1 => ?_) (fun c1 => ?_)
  · replace h := hT h c1
    refine AW.sub (lv1 := []) [] rfl ?_
    cases h
    exact J7
  · replace h := hF h c1
    refine AW.aloadr_n 0 dX6_put_10 rfl ?_
    refine AW.getR af_X6_9_3 sr_3_0 dX6_put_11 ?_
    refine AW.aloadr_n 0 dX6_put_14 rfl ?_
    refine AW.getI af_X6_48_3 sr_3_2 dX6_put_15 ?_
    refine AW.iload_n 1 dX6_put_18 rfl ?_
    obtain ⟨k2, h⟩ := hK h
    obtain ⟨g3, e4, h⟩ := hBe h
    refine AW.iast kc_29 sk_29 k2 dX6_put_19 e4 ?_
    refine AW.aloadr_n 0 dX6_put_20 rfl ?_
    refine AW.getR af_X6_15_3 sr_3_1 dX6_put_21 ?_
    refine AW.aloadr_n 0 dX6_put_24 rfl ?_
    refine AW.getI af_X6_48_3 sr_3_2 dX6_put_25 ?_
    refine AW.iload_n 2 dX6_put_28 rfl ?_
    obtain ⟨k5, h⟩ := hK h
    obtain ⟨g6, e7, h⟩ := hBe h
    refine AW.iast kc_30 sk_30 k5 dX6_put_29 e7 ?_
    refine AW.aloadr_n 0 dX6_put_30 rfl ?_
    refine AW.duprr dX6_put_31 ?_
    refine AW.getI af_X6_48_3 sr_3_2 dX6_put_32 ?_
    refine AW.iconst dX6_put_35 ?_
    refine AW.iadd dX6_put_36 ?_
    obtain ⟨g8, e9, h⟩ := hBe h
    refine AW.putI ap_X6_48_3 sr_3_2 dX6_put_37 e9 ?_
    refine AW.sub (lv1 := []) [] rfl ?_
    cases h
    exact J7
set_option synthInstance.maxHeartbeats 2000000 in
theorem Parser_readUnit_b_ok {z : AZ} {d : Nat} (hdd : 1 ≤ d) {g : AG} : ∀ (r : Int × AG), Parser_readUnit_b g = some r → AW z (RX4, cX4_readUnit, 2, none) d (QD none r) 73 [(0, rv z 4)] [] g := by
  refine Parser_readUnit_b.partial_correctness g (fun r => AW z (RX4, cX4_readUnit, 2, none) d (QD none r) 73 [(0, rv z 4)] [] g) ?_
  intro fb9 ih r h
  refine AW.aloadr_n 0 dX4_readUnit_73 rfl ?_
  obtain ⟨r1, e2, h⟩ := hC h
  refine AW.callVv (As := []) (st := []) (Parser_goOn_ok e2) cq_X4_107 cr_4_X4_goOn (Nat.le_trans (by decide) hdd) rfl dX4_readUnit_74 rfl (Nat.le_of_ble_eq_true rfl) ?_
  exact AW.vret1 rfl dX4_readUnit_77 h rfl
theorem Parser_readUnit_ok {z : AZ} {g : AG} {r : Int × AG} (h : Parser_readUnit g = some r) : AMf z yX4_readUnit cX4_readUnit 2 none 1 [rv z 4] g r := by
  intro d hdd
  refine AM.of (by decide +kernel) (Nat.le_of_ble_eq_true rfl) ?_
  show AW z (RX4, cX4_readUnit, 2, none) d (QD none r) 0 [(0, rv z 4)] [] g
  unfold Parser_readUnit at h
  refine AW.aloadr_n 0 dX4_readUnit_0 rfl ?_
  refine AW.getR af_X4_15_4 sr_4_3 dX4_readUnit_1 ?_
  refine AW.aloadr_n 0 dX4_readUnit_4 rfl ?_
  refine AW.getI af_X4_35_4 sr_4_6 dX4_readUnit_5 ?_
  obtain ⟨k1, h⟩ := hK h
  refine AW.iald kc_42 sk_42 k1 dX4_readUnit_8 ?_
  refine AW.istore_n (lv1 := [(1, iv (g 42 (ix (g 4 6)))), (0, rv z 4)]) dX4_readUnit_9 (by decide) rfl ?_
  refine AW.aloadr_n 1 dX4_readUnit_10 rfl ?_
  refine AW.getI af_X4_32_4 sr_4_7 dX4_readUnit_11 ?_
  refine AW.if_eq (tgt := 18) dX4_readUnit_14 (by decide) (fun c2 => ?_) (fun c2 => ?_)
  · replace h := hT h c2
    refine AW.iload_n 0 dX4_readUnit_18 rfl ?_
    refine AW.sipush dX4_readUnit_19 (by decide) (by decide) ?_
    refine AW.icmp_lt (tgt := 41) dX4_readUnit_22 (by decide) (fun c3 => ?_) (fun c3 => ?_)
    · replace h := hT h c3
      refine AW.iload_n 0 dX4_readUnit_41 rfl ?_
      refine AW.bipush dX4_readUnit_42 (by decide) (by decide) ?_
      refine AW.bipush dX4_readUnit_44 (by decide) (by decide) ?_
      refine AW.callN0 (As := [iv (g 42 (ix (g 4 6))), iv 111, iv 119]) (st := []) X_within_ok ns_X4_87 in_X11 cd_X11_within st_X11_within (by decide) (Nat.le_trans (by decide) hdd) rfl (Nat.le_of_ble_eq_true rfl) dX4_readUnit_46 rfl ?_
      refine AW.if_eq (tgt := 67) dX4_readUnit_49 (by decide) (fun c4 => ?_) (fun c4 => ?_)
      · replace h := hT h c4
        refine AW.aloadr_n 1 dX4_readUnit_67 rfl ?_
        refine AW.iconst dX4_readUnit_68 ?_
        obtain ⟨r5, e6, h⟩ := hC h
        refine AW.callVv (As := [iv 1]) (st := []) (Parser_fail_ok e6) cq_X4_103 cr_4_X4_fail (Nat.le_trans (by decide) hdd) rfl dX4_readUnit_69 rfl (Nat.le_of_ble_eq_true rfl) ?_
        exact AW.vret1 rfl dX4_readUnit_72 h rfl
      · replace h := hF h c4
        refine AW.aloadr_n 1 dX4_readUnit_52 rfl ?_
        refine AW.getR af_X4_25_4 sr_4_0 dX4_readUnit_53 ?_
        refine AW.iconst dX4_readUnit_56 ?_
        refine AW.iload_n 0 dX4_readUnit_57 rfl ?_
        refine AW.bipush dX4_readUnit_58 (by decide) (by decide) ?_
        refine AW.isub dX4_readUnit_60 ?_
        obtain ⟨r7, e8, h⟩ := hC h
        refine AW.callVv (As := [iv 3, iv ((g 42 (ix (g 4 6))) - 111)]) (st := []) (Rules_put_ok e8) cq_X4_164 cr_3_X6_put (Nat.le_trans (by decide) hdd) rfl dX4_readUnit_61 rfl (Nat.le_of_ble_eq_true rfl) ?_
        refine AW.goto (tgt := 73) dX4_readUnit_64 (by decide) ?_
        refine AW.sub (lv1 := [(0, rv z 4)]) [1] rfl ?_
        exact Parser_readUnit_b_ok hdd _ h
    · replace h := hF h c3
      refine AW.aloadr_n 1 dX4_readUnit_25 rfl ?_
      refine AW.getR af_X4_25_4 sr_4_0 dX4_readUnit_26 ?_
      refine AW.iconst dX4_readUnit_29 ?_
      refine AW.iload_n 0 dX4_readUnit_30 rfl ?_
      refine AW.sipush dX4_readUnit_31 (by decide) (by decide) ?_
      refine AW.isub dX4_readUnit_34 ?_
      obtain ⟨r9, e10, h⟩ := hC h
      refine AW.callVv (As := [iv 2, iv ((g 42 (ix (g 4 6))) - 1000)]) (st := []) (Rules_put_ok e10) cq_X4_164 cr_3_X6_put (Nat.le_trans (by decide) hdd) rfl dX4_readUnit_35 rfl (Nat.le_of_ble_eq_true rfl) ?_
      refine AW.goto (tgt := 73) dX4_readUnit_38 (by decide) ?_
      refine AW.sub (lv1 := [(0, rv z 4)]) [1] rfl ?_
      exact Parser_readUnit_b_ok hdd _ h
  · replace h := hF h c2
    exact AW.vret1 rfl dX4_readUnit_17 h rfl
theorem Parser_is_ok {z : AZ} {x1 : Int} {g : AG} {r : Int × AG} (h : Parser_is x1 g = some r) : AMf z yX4_is cX4_is 2 (some .boolean) 0 [rv z 4, iv x1] g r := by
  intro d hdd
  refine AM.of (by decide +kernel) (Nat.le_of_ble_eq_true rfl) ?_
  show AW z (RX4, cX4_is, 2, (some .boolean)) d (QD (some .boolean) r) 0 [(0, rv z 4), (1, iv x1)] [] g
  unfold Parser_is at h
  refine AW.aloadr_n 0 dX4_is_0 rfl ?_
  refine AW.getI af_X4_32_4 sr_4_7 dX4_is_1 ?_
  obtain ⟨r6, e7, h⟩ := hC h
  refine AW.join (tgt := 25) (lv1 := []) (st1 := [iv r6.1]) (g1 := r6.2) ?_ (fun J4 => ?_)
  · obtain ⟨k8, h⟩ := hK h
    exact AW.zret1 rfl k8 dX4_is_25 h rfl
  replace h := e7
  refine AW.if_ne (tgt := 24) dX4_is_4 (by decide) (fun c1 => ?_) (fun c1 => ?_)
  · replace h := hF h c1
    refine AW.iconst dX4_is_24 ?_
    refine AW.sub (lv1 := []) [] rfl ?_
    cases h
    exact J4
  · replace h := hT h c1
    refine AW.aloadr_n 0 dX4_is_7 rfl ?_
    refine AW.getR af_X4_15_4 sr_4_3 dX4_is_8 ?_
    refine AW.aloadr_n 0 dX4_is_11 rfl ?_
    refine AW.getI af_X4_35_4 sr_4_6 dX4_is_12 ?_
    obtain ⟨k2, h⟩ := hK h
    refine AW.iald kc_42 sk_42 k2 dX4_is_15 ?_
    refine AW.iload_n 1 dX4_is_16 rfl ?_
    obtain ⟨t3, e4, h⟩ := hBe h
    refine AW.join (tgt := 25) (lv1 := [(0, rv z 4), (1, iv x1)]) (st1 := [iv t3]) (g1 := g) ?_ (fun J17 => ?_)
    · refine AW.sub (lv1 := []) [] rfl ?_
      cases h
      exact J4
    refine AW.icmp_ne (tgt := 24) dX4_is_17 (by decide) (fun c5 => ?_) (fun c5 => ?_)
    · refine AW.iconst dX4_is_24 ?_
      exact AW.val (e4.trans (if_neg c5)) J17
    · refine AW.iconst dX4_is_20 ?_
      refine AW.goto (tgt := 25) dX4_is_21 (by decide) ?_
      exact AW.val (e4.trans (if_pos c5)) J17
theorem Parser_readPart_ok {z : AZ} {g : AG} {r : Int × AG} (h : Parser_readPart g = some r) : AMf z yX4_readPart cX4_readPart 2 none 1 [rv z 4] g r := by
  intro d hdd
  refine AM.of (by decide +kernel) (Nat.le_of_ble_eq_true rfl) ?_
  show AW z (RX4, cX4_readPart, 2, none) d (QD none r) 0 [(0, rv z 4)] [] g
  unfold Parser_readPart at h
  refine AW.aloadr_n 0 dX4_readPart_0 rfl ?_
  refine AW.getR af_X4_15_4 sr_4_3 dX4_readPart_1 ?_
  refine AW.aloadr_n 0 dX4_readPart_4 rfl ?_
  refine AW.getI af_X4_35_4 sr_4_6 dX4_readPart_5 ?_
  obtain ⟨k1, h⟩ := hK h
  refine AW.iald kc_42 sk_42 k1 dX4_readPart_8 ?_
  refine AW.sipush dX4_readPart_9 (by decide) (by decide) ?_
  refine AW.isub dX4_readPart_12 ?_
  refine AW.istore_n (lv1 := [(1, iv ((g 42 (ix (g 4 6))) - 1000)), (0, rv z 4)]) dX4_readPart_13 (by decide) rfl ?_
  refine AW.iload_n 0 dX4_readPart_14 rfl ?_
  obtain ⟨r12, e13, h⟩ := hC h
  refine AW.join (tgt := 52) (lv1 := []) (st1 := []) (g1 := r12) ?_ (fun J15 => ?_)
  · exact AW.vret1 rfl dX4_readPart_52 h rfl
  replace h := e13
  refine AW.if_ge (tgt := 26) dX4_readPart_15 (by decide) (fun c2 => ?_) (fun c2 => ?_)
  · replace h := hT h c2
    refine AW.iload_n 0 dX4_readPart_26 rfl ?_
    refine AW.if_ne (tgt := 38) dX4_readPart_27 (by decide) (fun c3 => ?_) (fun c3 => ?_)
    · replace h := hF h c3
      refine AW.aloadr_n 1 dX4_readPart_38 rfl ?_
      refine AW.getR af_X4_25_4 sr_4_0 dX4_readPart_39 ?_
      refine AW.bipush dX4_readPart_42 (by decide) (by decide) ?_
      refine AW.iload_n 0 dX4_readPart_44 rfl ?_
      obtain ⟨r4, e5, h⟩ := hC h
      refine AW.callVv (As := [iv 47, iv ((g 42 (ix (g 4 6))) - 1000)]) (st := []) (Rules_put_ok e5) cq_X4_164 cr_3_X6_put (Nat.le_trans (by decide) hdd) rfl dX4_readPart_45 rfl (Nat.le_of_ble_eq_true rfl) ?_
      refine AW.aloadr_n 1 dX4_readPart_48 rfl ?_
      obtain ⟨r6, e7, h⟩ := hC h
      refine AW.callVv (As := []) (st := []) (Parser_goOn_ok e7) cq_X4_107 cr_4_X4_goOn (Nat.le_trans (by decide) hdd) rfl dX4_readPart_49 rfl (Nat.le_of_ble_eq_true rfl) ?_
      refine AW.sub (lv1 := []) [] rfl ?_
      cases h
      exact J15
    · replace h := hT h c3
      refine AW.aloadr_n 1 dX4_readPart_30 rfl ?_
      refine AW.iconst dX4_readPart_31 ?_
      obtain ⟨r8, e9, h⟩ := hC h
      refine AW.callVv (As := [iv 2]) (st := []) (Parser_fail_ok e9) cq_X4_103 cr_4_X4_fail (Nat.le_trans (by decide) hdd) rfl dX4_readPart_32 rfl (Nat.le_of_ble_eq_true rfl) ?_
      refine AW.goto (tgt := 52) dX4_readPart_35 (by decide) ?_
      refine AW.sub (lv1 := []) [] rfl ?_
      cases h
      exact J15
  · replace h := hF h c2
    refine AW.aloadr_n 1 dX4_readPart_18 rfl ?_
    refine AW.iconst dX4_readPart_19 ?_
    obtain ⟨r10, e11, h⟩ := hC h
    refine AW.callVv (As := [iv 1]) (st := []) (Parser_fail_ok e11) cq_X4_103 cr_4_X4_fail (Nat.le_trans (by decide) hdd) rfl dX4_readPart_20 rfl (Nat.le_of_ble_eq_true rfl) ?_
    refine AW.goto (tgt := 52) dX4_readPart_23 (by decide) ?_
    refine AW.sub (lv1 := []) [] rfl ?_
    cases h
    exact J15
set_option synthInstance.maxHeartbeats 2000000 in
theorem Parser_readProduct_b_ok {z : AZ} {d : Nat} (hdd : 2 ≤ d) : ∀ (tag : Nat) (x1 : Int) (g : AG) (r : Int × AG), Parser_readProduct_b tag x1 g = some r → (tag = 1 → AW z (RX4, cX4_readProduct, 3, none) d (QD none r) 6 [(0, rv z 4), (1, iv x1)] [] g) ∧ (tag = 2 → AW z (RX4, cX4_readProduct, 3, none) d (QD none r) 31 [(0, rv z 4), (1, iv x1)] [] g) := by
  refine Parser_readProduct_b.partial_correctness (fun tag x1 g r => (tag = 1 → AW z (RX4, cX4_readProduct, 3, none) d (QD none r) 6 [(0, rv z 4), (1, iv x1)] [] g) ∧ (tag = 2 → AW z (RX4, cX4_readProduct, 3, none) d (QD none r) 31 [(0, rv z 4), (1, iv x1)] [] g)) ?_
  intro fb9 ih tag x1 g r h
  refine ⟨fun h9 => ?_, fun h9 => ?_⟩
  · subst h9
    replace h := hT h rfl
    refine AW.iload_n 1 dX4_readProduct_6 rfl ?_
    refine AW.sipush dX4_readProduct_7 (by decide) (by decide) ?_
    refine AW.icmp_ge (tgt := 73) dX4_readProduct_10 (by decide) (fun c1 => ?_) (fun c1 => ?_)
    · replace h := hT h c1
      exact AW.vret1 rfl dX4_readProduct_73 h rfl
    · replace h := hF h c1
      refine AW.aloadr_n 0 dX4_readProduct_13 rfl ?_
      refine AW.bipush dX4_readProduct_14 (by decide) (by decide) ?_
      obtain ⟨r2, e3, h⟩ := hC h
      refine AW.callVi (As := [iv 42]) (st := []) (Parser_is_ok e3) cq_X4_137 cr_4_X4_is (Nat.le_trans (by decide) hdd) rfl dX4_readProduct_16 rfl (Nat.le_of_ble_eq_true rfl) ?_
      refine AW.if_ne (tgt := 31) dX4_readProduct_19 (by decide) (fun c4 => ?_) (fun c4 => ?_)
      · replace h := hF h c4
        exact (ih _ _ _ _ h).2 rfl
      · replace h := hT h c4
        refine AW.aloadr_n 0 dX4_readProduct_22 rfl ?_
        refine AW.bipush dX4_readProduct_23 (by decide) (by decide) ?_
        obtain ⟨r5, e6, h⟩ := hC h
        refine AW.callVi (As := [iv 47]) (st := []) (Parser_is_ok e6) cq_X4_137 cr_4_X4_is (Nat.le_trans (by decide) hdd) rfl dX4_readProduct_25 rfl (Nat.le_of_ble_eq_true rfl) ?_
        refine AW.if_eq (tgt := 73) dX4_readProduct_28 (by decide) (fun c7 => ?_) (fun c7 => ?_)
        · replace h := hT h c7
          exact AW.vret1 rfl dX4_readProduct_73 h rfl
        · replace h := hF h c7
          exact (ih _ _ _ _ h).2 rfl
  · subst h9
    replace h := hF h (by decide)
    replace h := hT h rfl
    refine AW.aloadr_n 0 dX4_readProduct_31 rfl ?_
    refine AW.bipush dX4_readProduct_32 (by decide) (by decide) ?_
    obtain ⟨r1, e2, h⟩ := hC h
    refine AW.callVi (As := [iv 42]) (st := []) (Parser_is_ok e2) cq_X4_137 cr_4_X4_is (Nat.le_trans (by decide) hdd) rfl dX4_readProduct_34 rfl (Nat.le_of_ble_eq_true rfl) ?_
    refine AW.istore_n (lv1 := [(2, iv r1.1), (0, rv z 4), (1, iv x1)]) dX4_readProduct_37 (by decide) rfl ?_
    refine AW.aloadr_n 1 dX4_readProduct_38 rfl ?_
    obtain ⟨r3, e4, h⟩ := hC h
    refine AW.callVv (As := []) (st := []) (Parser_goOn_ok e4) cq_X4_107 cr_4_X4_goOn (Nat.le_trans (by decide) hdd) rfl dX4_readProduct_39 rfl (Nat.le_of_ble_eq_true rfl) ?_
    refine AW.iload_n 0 dX4_readProduct_42 rfl ?_
    obtain ⟨r12, e13, h⟩ := hC h
    refine AW.join (tgt := 67) (lv1 := [(0, rv z 4), (1, iv x1)]) (st1 := []) (g1 := r12) ?_ (fun J43 => ?_)
    · refine AW.iinc (lv1 := [(1, iv (x1 + 1)), (0, rv z 4)]) 1 dX4_readProduct_67 rfl (by decide) rfl ?_
      refine AW.goto (tgt := 6) dX4_readProduct_70 (by decide) ?_
      refine AW.sub (lv1 := [(0, rv z 4), (1, iv (x1 + 1))]) [1, 0] rfl ?_
      exact (ih _ _ _ _ h).1 rfl
    replace h := e13
    refine AW.if_eq (tgt := 63) dX4_readProduct_43 (by decide) (fun c5 => ?_) (fun c5 => ?_)
    · replace h := hT h c5
      refine AW.aloadr_n 1 dX4_readProduct_63 rfl ?_
      obtain ⟨r6, e7, h⟩ := hC h
      refine AW.callVv (As := []) (st := []) (Parser_readPart_ok e7) cq_X4_182 cr_4_X4_readPart (Nat.le_trans (by decide) hdd) rfl dX4_readProduct_64 rfl (Nat.le_of_ble_eq_true rfl) ?_
      refine AW.sub (lv1 := [(0, rv z 4), (1, iv x1)]) [1, 2] rfl ?_
      cases h
      exact J43
    · replace h := hF h c5
      refine AW.aloadr_n 1 dX4_readProduct_46 rfl ?_
      obtain ⟨r8, e9, h⟩ := hC h
      refine AW.callVv (As := []) (st := []) (Parser_readUnit_ok e9) cq_X4_179 cr_4_X4_readUnit (Nat.le_trans (by decide) hdd) rfl dX4_readProduct_47 rfl (Nat.le_of_ble_eq_true rfl) ?_
      refine AW.aloadr_n 1 dX4_readProduct_50 rfl ?_
      refine AW.getR af_X4_25_4 sr_4_0 dX4_readProduct_51 ?_
      refine AW.bipush dX4_readProduct_54 (by decide) (by decide) ?_
      refine AW.iconst dX4_readProduct_56 ?_
      obtain ⟨r10, e11, h⟩ := hC h
      refine AW.callVv (As := [iv 42, iv 0]) (st := []) (Rules_put_ok e11) cq_X4_164 cr_3_X6_put (Nat.le_trans (by decide) hdd) rfl dX4_readProduct_57 rfl (Nat.le_of_ble_eq_true rfl) ?_
      refine AW.goto (tgt := 67) dX4_readProduct_60 (by decide) ?_
      refine AW.sub (lv1 := [(0, rv z 4), (1, iv x1)]) [1, 2] rfl ?_
      cases h
      exact J43
theorem Parser_readProduct_ok {z : AZ} {g : AG} {r : Int × AG} (h : Parser_readProduct g = some r) : AMf z yX4_readProduct cX4_readProduct 3 none 2 [rv z 4] g r := by
  intro d hdd
  refine AM.of (by decide +kernel) (Nat.le_of_ble_eq_true rfl) ?_
  show AW z (RX4, cX4_readProduct, 3, none) d (QD none r) 0 [(0, rv z 4)] [] g
  unfold Parser_readProduct at h
  refine AW.aloadr_n 0 dX4_readProduct_0 rfl ?_
  obtain ⟨r1, e2, h⟩ := hC h
  refine AW.callVv (As := []) (st := []) (Parser_readUnit_ok e2) cq_X4_179 cr_4_X4_readUnit (Nat.le_trans (by decide) hdd) rfl dX4_readProduct_1 rfl (Nat.le_of_ble_eq_true rfl) ?_
  refine AW.iconst dX4_readProduct_4 ?_
  refine AW.istore_n (lv1 := [(1, iv 0), (0, rv z 4)]) dX4_readProduct_5 (by decide) rfl ?_
  refine AW.sub (lv1 := [(0, rv z 4), (1, iv 0)]) [1, 0] rfl ?_
  exact (Parser_readProduct_b_ok hdd _ _ _ _ h).1 rfl
set_option synthInstance.maxHeartbeats 2000000 in
theorem Parser_readSum_b_ok {z : AZ} {d : Nat} (hdd : 3 ≤ d) : ∀ (tag : Nat) (x1 : Int) (g : AG) (r : Int × AG), Parser_readSum_b tag x1 g = some r → (tag = 1 → AW z (RX4, cX4_readSum, 3, none) d (QD none r) 6 [(0, rv z 4), (1, iv x1)] [] g) ∧ (tag = 2 → AW z (RX4, cX4_readSum, 3, none) d (QD none r) 31 [(0, rv z 4), (1, iv x1)] [] g) := by
  refine Parser_readSum_b.partial_correctness (fun tag x1 g r => (tag = 1 → AW z (RX4, cX4_readSum, 3, none) d (QD none r) 6 [(0, rv z 4), (1, iv x1)] [] g) ∧ (tag = 2 → AW z (RX4, cX4_readSum, 3, none) d (QD none r) 31 [(0, rv z 4), (1, iv x1)] [] g)) ?_
  intro fb9 ih tag x1 g r h
  refine ⟨fun h9 => ?_, fun h9 => ?_⟩
  · subst h9
    replace h := hT h rfl
    refine AW.iload_n 1 dX4_readSum_6 rfl ?_
    refine AW.sipush dX4_readSum_7 (by decide) (by decide) ?_
    refine AW.icmp_ge (tgt := 64) dX4_readSum_10 (by decide) (fun c1 => ?_) (fun c1 => ?_)
    · replace h := hT h c1
      exact AW.vret1 rfl dX4_readSum_64 h rfl
    · replace h := hF h c1
      refine AW.aloadr_n 0 dX4_readSum_13 rfl ?_
      refine AW.bipush dX4_readSum_14 (by decide) (by decide) ?_
      obtain ⟨r2, e3, h⟩ := hC h
      refine AW.callVi (As := [iv 43]) (st := []) (Parser_is_ok e3) cq_X4_137 cr_4_X4_is (Nat.le_trans (by decide) hdd) rfl dX4_readSum_16 rfl (Nat.le_of_ble_eq_true rfl) ?_
      refine AW.if_ne (tgt := 31) dX4_readSum_19 (by decide) (fun c4 => ?_) (fun c4 => ?_)
      · replace h := hF h c4
        exact (ih _ _ _ _ h).2 rfl
      · replace h := hT h c4
        refine AW.aloadr_n 0 dX4_readSum_22 rfl ?_
        refine AW.bipush dX4_readSum_23 (by decide) (by decide) ?_
        obtain ⟨r5, e6, h⟩ := hC h
        refine AW.callVi (As := [iv 45]) (st := []) (Parser_is_ok e6) cq_X4_137 cr_4_X4_is (Nat.le_trans (by decide) hdd) rfl dX4_readSum_25 rfl (Nat.le_of_ble_eq_true rfl) ?_
        refine AW.if_eq (tgt := 64) dX4_readSum_28 (by decide) (fun c7 => ?_) (fun c7 => ?_)
        · replace h := hT h c7
          exact AW.vret1 rfl dX4_readSum_64 h rfl
        · replace h := hF h c7
          exact (ih _ _ _ _ h).2 rfl
  · subst h9
    replace h := hF h (by decide)
    replace h := hT h rfl
    refine AW.aloadr_n 0 dX4_readSum_31 rfl ?_
    refine AW.getR af_X4_15_4 sr_4_3 dX4_readSum_32 ?_
    refine AW.aloadr_n 0 dX4_readSum_35 rfl ?_
    refine AW.getI af_X4_35_4 sr_4_6 dX4_readSum_36 ?_
    obtain ⟨k1, h⟩ := hK h
    refine AW.iald kc_42 sk_42 k1 dX4_readSum_39 ?_
    refine AW.istore_n (lv1 := [(2, iv (g 42 (ix (g 4 6)))), (0, rv z 4), (1, iv x1)]) dX4_readSum_40 (by decide) rfl ?_
    refine AW.aloadr_n 1 dX4_readSum_41 rfl ?_
    obtain ⟨r2, e3, h⟩ := hC h
    refine AW.callVv (As := []) (st := []) (Parser_goOn_ok e3) cq_X4_107 cr_4_X4_goOn (Nat.le_trans (by decide) hdd) rfl dX4_readSum_42 rfl (Nat.le_of_ble_eq_true rfl) ?_
    refine AW.aloadr_n 1 dX4_readSum_45 rfl ?_
    obtain ⟨r4, e5, h⟩ := hC h
    refine AW.callVv (As := []) (st := []) (Parser_readProduct_ok e5) cq_X4_176 cr_4_X4_readProduct (Nat.le_trans (by decide) hdd) rfl dX4_readSum_46 rfl (Nat.le_of_ble_eq_true rfl) ?_
    refine AW.aloadr_n 1 dX4_readSum_49 rfl ?_
    refine AW.getR af_X4_25_4 sr_4_0 dX4_readSum_50 ?_
    refine AW.iload_n 0 dX4_readSum_53 rfl ?_
    refine AW.iconst dX4_readSum_54 ?_
    obtain ⟨r6, e7, h⟩ := hC h
    refine AW.callVv (As := [iv (g 42 (ix (g 4 6))), iv 0]) (st := []) (Rules_put_ok e7) cq_X4_164 cr_3_X6_put (Nat.le_trans (by decide) hdd) rfl dX4_readSum_55 rfl (Nat.le_of_ble_eq_true rfl) ?_
    refine AW.iinc (lv1 := [(1, iv (x1 + 1)), (2, iv (g 42 (ix (g 4 6)))), (0, rv z 4)]) 2 dX4_readSum_58 rfl (by decide) rfl ?_
    refine AW.goto (tgt := 6) dX4_readSum_61 (by decide) ?_
    refine AW.sub (lv1 := [(0, rv z 4), (1, iv (x1 + 1))]) [2, 0] rfl ?_
    exact (ih _ _ _ _ h).1 rfl
theorem Parser_readSum_ok {z : AZ} {g : AG} {r : Int × AG} (h : Parser_readSum g = some r) : AMf z yX4_readSum cX4_readSum 3 none 3 [rv z 4] g r := by
  intro d hdd
  refine AM.of (by decide +kernel) (Nat.le_of_ble_eq_true rfl) ?_
  show AW z (RX4, cX4_readSum, 3, none) d (QD none r) 0 [(0, rv z 4)] [] g
  unfold Parser_readSum at h
  refine AW.aloadr_n 0 dX4_readSum_0 rfl ?_
  obtain ⟨r1, e2, h⟩ := hC h
  refine AW.callVv (As := []) (st := []) (Parser_readProduct_ok e2) cq_X4_176 cr_4_X4_readProduct (Nat.le_trans (by decide) hdd) rfl dX4_readSum_1 rfl (Nat.le_of_ble_eq_true rfl) ?_
  refine AW.iconst dX4_readSum_4 ?_
  refine AW.istore_n (lv1 := [(1, iv 0), (0, rv z 4)]) dX4_readSum_5 (by decide) rfl ?_
  refine AW.sub (lv1 := [(0, rv z 4), (1, iv 0)]) [1, 0] rfl ?_
  exact (Parser_readSum_b_ok hdd _ _ _ _ h).1 rfl
theorem Parser_numberUpTo_ok {z : AZ} {x1 : Int} {g : AG} {r : Int × AG} (h : Parser_numberUpTo x1 g = some r) : AMf z yX4_numberUpTo cX4_numberUpTo 3 (some .int) 1 [rv z 4, iv x1] g r := by
  intro d hdd
  refine AM.of (by decide +kernel) (Nat.le_of_ble_eq_true rfl) ?_
  show AW z (RX4, cX4_numberUpTo, 3, (some .int)) d (QD (some .int) r) 0 [(0, rv z 4), (1, iv x1)] [] g
  unfold Parser_numberUpTo at h
  refine AW.aloadr_n 0 dX4_numberUpTo_0 rfl ?_
  refine AW.getR af_X4_15_4 sr_4_3 dX4_numberUpTo_1 ?_
  refine AW.aloadr_n 0 dX4_numberUpTo_4 rfl ?_
  refine AW.getI af_X4_35_4 sr_4_6 dX4_numberUpTo_5 ?_
  obtain ⟨k1, h⟩ := hK h
  refine AW.iald kc_42 sk_42 k1 dX4_numberUpTo_8 ?_
  refine AW.sipush dX4_numberUpTo_9 (by decide) (by decide) ?_
  refine AW.isub dX4_numberUpTo_12 ?_
  refine AW.istore_n (lv1 := [(2, iv ((g 42 (ix (g 4 6))) - 1000)), (0, rv z 4), (1, iv x1)]) dX4_numberUpTo_13 (by decide) rfl ?_
  refine AW.iload_n 0 dX4_numberUpTo_14 rfl ?_
  obtain ⟨r8, e9, h⟩ := hC h
  refine AW.join (tgt := 36) (lv1 := [(0, rv z 4), (2, iv ((g 42 (ix (g 4 6))) - 1000))]) (st1 := []) (g1 := r8) ?_ (fun J15 => ?_)
  · refine AW.aloadr_n 0 dX4_numberUpTo_36 rfl ?_
    refine AW.getI af_X4_32_4 sr_4_7 dX4_numberUpTo_37 ?_
    refine AW.if_eq (tgt := 45) dX4_numberUpTo_40 (by decide) (fun c10 => ?_) (fun c10 => ?_)
    · replace h := hT h c10
      refine AW.aloadr_n 0 dX4_numberUpTo_45 rfl ?_
      obtain ⟨r11, e12, h⟩ := hC h
      refine AW.callVv (As := []) (st := []) (Parser_goOn_ok e12) cq_X4_107 cr_4_X4_goOn (Nat.le_trans (by decide) hdd) rfl dX4_numberUpTo_46 rfl (Nat.le_of_ble_eq_true rfl) ?_
      refine AW.iload_n 1 dX4_numberUpTo_49 rfl ?_
      exact AW.iret1 rfl dX4_numberUpTo_50 h rfl
    · replace h := hF h c10
      refine AW.iconst dX4_numberUpTo_43 ?_
      exact AW.iret1 rfl dX4_numberUpTo_44 h rfl
  replace h := e9
  refine AW.if_ge (tgt := 26) dX4_numberUpTo_15 (by decide) (fun c2 => ?_) (fun c2 => ?_)
  · replace h := hT h c2
    refine AW.iload_n 0 dX4_numberUpTo_26 rfl ?_
    refine AW.iload_n 2 dX4_numberUpTo_27 rfl ?_
    refine AW.icmp_le (tgt := 36) dX4_numberUpTo_28 (by decide) (fun c3 => ?_) (fun c3 => ?_)
    · replace h := hT h c3
      refine AW.sub (lv1 := [(0, rv z 4), (2, iv ((g 42 (ix (g 4 6))) - 1000))]) [1, 0] rfl ?_
      cases h
      exact J15
    · replace h := hF h c3
      refine AW.aloadr_n 1 dX4_numberUpTo_31 rfl ?_
      refine AW.iconst dX4_numberUpTo_32 ?_
      obtain ⟨r4, e5, h⟩ := hC h
      refine AW.callVv (As := [iv 2]) (st := []) (Parser_fail_ok e5) cq_X4_103 cr_4_X4_fail (Nat.le_trans (by decide) hdd) rfl dX4_numberUpTo_33 rfl (Nat.le_of_ble_eq_true rfl) ?_
      refine AW.sub (lv1 := [(0, rv z 4), (2, iv ((g 42 (ix (g 4 6))) - 1000))]) [1, 0] rfl ?_
      cases h
      exact J15
  · replace h := hF h c2
    refine AW.aloadr_n 1 dX4_numberUpTo_18 rfl ?_
    refine AW.iconst dX4_numberUpTo_19 ?_
    obtain ⟨r6, e7, h⟩ := hC h
    refine AW.callVv (As := [iv 1]) (st := []) (Parser_fail_ok e7) cq_X4_103 cr_4_X4_fail (Nat.le_trans (by decide) hdd) rfl dX4_numberUpTo_20 rfl (Nat.le_of_ble_eq_true rfl) ?_
    refine AW.goto (tgt := 36) dX4_numberUpTo_23 (by decide) ?_
    refine AW.sub (lv1 := [(0, rv z 4), (2, iv ((g 42 (ix (g 4 6))) - 1000))]) [1, 0] rfl ?_
    cases h
    exact J15
theorem Rules_hasTunnel_3_ok {z : AZ} {x1 : Int} {g : AG} : AMf z yX6_hasTunnel cX6_hasTunnel 2 (some .boolean) 0 [rv z 3, iv x1] g ((Rules_hasTunnel_3 x1 g), g) := by
  intro d hdd
  refine AM.of (by decide +kernel) (Nat.le_of_ble_eq_true rfl) ?_
  show AW z (RX6, cX6_hasTunnel, 2, (some .boolean)) d (QD (some .boolean) ((Rules_hasTunnel_3 x1 g), g)) 0 [(0, rv z 3), (1, iv x1)] [] g
  refine AW.aloadr_n 0 dX6_hasTunnel_0 rfl ?_
  refine AW.getI af_X6_55_3 sr_3_10 dX6_hasTunnel_1 ?_
  refine AW.iload_n 1 dX6_hasTunnel_4 rfl ?_
  refine AW.ishr dX6_hasTunnel_5 ?_
  refine AW.iconst dX6_hasTunnel_6 ?_
  refine AW.iand dX6_hasTunnel_7 ?_
  refine AW.join (tgt := 16) (lv1 := [(0, rv z 3), (1, iv x1)]) (st1 := [iv (if nw (andI (shrI (g 3 10) x1) 1) = 0 then 0 else 1)]) (g1 := g) ?_ (fun J8 => ?_)
  · exact AW.zret rfl (by (repeat' split) <;> first | exact Or.inl rfl | exact Or.inr rfl) dX6_hasTunnel_16 ⟨congrArg (fun v => some (iv v)) (show Rules_hasTunnel_3 x1 g = (if nw (andI (shrI (g 3 10) x1) 1) = 0 then 0 else 1) from rfl).symm, rfl⟩
  refine AW.if_eq (tgt := 15) dX6_hasTunnel_8 (by decide) (fun c1 => ?_) (fun c1 => ?_)
  · refine AW.iconst dX6_hasTunnel_15 ?_
    exact AW.val (if_pos c1) J8
  · refine AW.iconst dX6_hasTunnel_11 ?_
    refine AW.goto (tgt := 16) dX6_hasTunnel_12 (by decide) ?_
    exact AW.val (if_neg c1) J8
set_option synthInstance.maxHeartbeats 2000000 in
theorem Parser_readTunnel_b_ok {z : AZ} {d : Nat} (hdd : 2 ≤ d) {x1 : Int} {g : AG} : ∀ (r : Int × AG), Parser_readTunnel_b x1 g = some r → AW z (RX4, cX4_readTunnel, 3, none) d (QD none r) 31 [(0, rv z 4), (1, iv x1)] [] g := by
  refine Parser_readTunnel_b.partial_correctness x1 g (fun r => AW z (RX4, cX4_readTunnel, 3, none) d (QD none r) 31 [(0, rv z 4), (1, iv x1)] [] g) ?_
  intro fb9 ih r h
  refine AW.aloadr_n 0 dX4_readTunnel_31 rfl ?_
  refine AW.bipush dX4_readTunnel_32 (by decide) (by decide) ?_
  obtain ⟨r1, e2, h⟩ := hC h
  refine AW.callVi (As := [iv 105]) (st := []) (Parser_is_ok e2) cq_X4_137 cr_4_X4_is (Nat.le_trans (by decide) hdd) rfl dX4_readTunnel_34 rfl (Nat.le_of_ble_eq_true rfl) ?_
  obtain ⟨t3, e4, h⟩ := hBe h
  refine AW.join (tgt := 48) (lv1 := [(0, rv z 4), (1, iv x1)]) (st1 := [iv t3]) (g1 := r1.2) ?_ (fun J37 => ?_)
  · refine AW.istore_n (lv1 := [(2, iv t3), (0, rv z 4), (1, iv x1)]) dX4_readTunnel_48 (by decide) rfl ?_
    refine AW.aloadr_n 1 dX4_readTunnel_49 rfl ?_
    refine AW.getR af_X4_25_4 sr_4_0 dX4_readTunnel_50 ?_
    refine AW.iload_n 0 dX4_readTunnel_53 rfl ?_
    refine AW.callVi (As := [iv t3]) (st := []) Rules_hasTunnel_3_ok cq_X4_149 cr_3_X6_hasTunnel (Nat.le_trans (by decide) hdd) rfl dX4_readTunnel_54 rfl (Nat.le_of_ble_eq_true rfl) ?_
    refine AW.if_eq (tgt := 66) dX4_readTunnel_57 (by decide) (fun c5 => ?_) (fun c5 => ?_)
    · replace h := hT h c5
      refine AW.aloadr_n 1 dX4_readTunnel_66 rfl ?_
      obtain ⟨r6, e7, h⟩ := hC h
      refine AW.callVv (As := []) (st := []) (Parser_goOn_ok e7) cq_X4_107 cr_4_X4_goOn (Nat.le_trans (by decide) hdd) rfl dX4_readTunnel_67 rfl (Nat.le_of_ble_eq_true rfl) ?_
      refine AW.aloadr_n 1 dX4_readTunnel_70 rfl ?_
      refine AW.getR af_X4_25_4 sr_4_0 dX4_readTunnel_71 ?_
      refine AW.duprr dX4_readTunnel_74 ?_
      refine AW.getI af_X4_152_3 sr_3_10 dX4_readTunnel_75 ?_
      refine AW.iconst dX4_readTunnel_78 ?_
      refine AW.iload_n 0 dX4_readTunnel_79 rfl ?_
      refine AW.ishl dX4_readTunnel_80 ?_
      refine AW.ior dX4_readTunnel_81 ?_
      obtain ⟨g8, e9, h⟩ := hBe h
      refine AW.putI ap_X4_152_3 sr_3_10 dX4_readTunnel_82 e9 ?_
      refine AW.aloadr_n 1 dX4_readTunnel_85 rfl ?_
      refine AW.getR af_X4_25_4 sr_4_0 dX4_readTunnel_86 ?_
      refine AW.getR af_X4_155_3 sr_3_11 dX4_readTunnel_89 ?_
      refine AW.iload_n 0 dX4_readTunnel_92 rfl ?_
      refine AW.aloadr_n 1 dX4_readTunnel_93 rfl ?_
      refine AW.bipush dX4_readTunnel_94 (by decide) (by decide) ?_
      obtain ⟨r10, e11, h⟩ := hC h
      refine AW.callVi (As := [iv 24]) (st := [iv t3, rv z 37]) (Parser_numberUpTo_ok e11) cq_X4_125 cr_4_X4_numberUpTo (Nat.le_trans (by decide) hdd) rfl dX4_readTunnel_96 rfl (Nat.le_of_ble_eq_true rfl) ?_
      obtain ⟨k12, h⟩ := hK h
      obtain ⟨g13, e14, h⟩ := hBe h
      refine AW.iast kc_37 sk_37 k12 dX4_readTunnel_99 e14 ?_
      refine AW.aloadr_n 1 dX4_readTunnel_100 rfl ?_
      refine AW.getR af_X4_25_4 sr_4_0 dX4_readTunnel_101 ?_
      refine AW.getR af_X4_158_3 sr_3_12 dX4_readTunnel_104 ?_
      refine AW.iload_n 0 dX4_readTunnel_107 rfl ?_
      refine AW.aloadr_n 1 dX4_readTunnel_108 rfl ?_
      refine AW.bipush dX4_readTunnel_109 (by decide) (by decide) ?_
      obtain ⟨r15, e16, h⟩ := hC h
      refine AW.callVi (As := [iv 24]) (st := [iv t3, rv z 38]) (Parser_numberUpTo_ok e16) cq_X4_125 cr_4_X4_numberUpTo (Nat.le_trans (by decide) hdd) rfl dX4_readTunnel_111 rfl (Nat.le_of_ble_eq_true rfl) ?_
      obtain ⟨g17, e18, h⟩ := hBe h
      refine AW.iast kc_38 sk_38 k12 dX4_readTunnel_114 e18 ?_
      exact AW.vret1 rfl dX4_readTunnel_115 h rfl
    · replace h := hF h c5
      refine AW.aloadr_n 1 dX4_readTunnel_60 rfl ?_
      refine AW.iconst dX4_readTunnel_61 ?_
      obtain ⟨r19, e20, h⟩ := hC h
      refine AW.callVv (As := [iv 3]) (st := []) (Parser_fail_ok e20) cq_X4_103 cr_4_X4_fail (Nat.le_trans (by decide) hdd) rfl dX4_readTunnel_62 rfl (Nat.le_of_ble_eq_true rfl) ?_
      exact AW.vret1 rfl dX4_readTunnel_65 h rfl
  refine AW.if_eq (tgt := 44) dX4_readTunnel_37 (by decide) (fun c21 => ?_) (fun c21 => ?_)
  · refine AW.bipush dX4_readTunnel_44 (by decide) (by decide) ?_
    refine AW.iload_n 1 dX4_readTunnel_46 rfl ?_
    refine AW.iadd dX4_readTunnel_47 ?_
    exact AW.val (e4.trans (if_pos c21)) J37
  · refine AW.iload_n 1 dX4_readTunnel_40 rfl ?_
    refine AW.goto (tgt := 48) dX4_readTunnel_41 (by decide) ?_
    exact AW.val (e4.trans (if_neg c21)) J37
theorem Parser_readTunnel_ok {z : AZ} {g : AG} {r : Int × AG} (h : Parser_readTunnel g = some r) : AMf z yX4_readTunnel cX4_readTunnel 3 none 2 [rv z 4] g r := by
  intro d hdd
  refine AM.of (by decide +kernel) (Nat.le_of_ble_eq_true rfl) ?_
  show AW z (RX4, cX4_readTunnel, 3, none) d (QD none r) 0 [(0, rv z 4)] [] g
  unfold Parser_readTunnel at h
  refine AW.aloadr_n 0 dX4_readTunnel_0 rfl ?_
  refine AW.bipush dX4_readTunnel_1 (by decide) (by decide) ?_
  obtain ⟨r1, e2, h⟩ := hC h
  refine AW.callVi (As := [iv 14]) (st := []) (Parser_numberUpTo_ok e2) cq_X4_125 cr_4_X4_numberUpTo (Nat.le_trans (by decide) hdd) rfl dX4_readTunnel_3 rfl (Nat.le_of_ble_eq_true rfl) ?_
  refine AW.istore_n (lv1 := [(1, iv r1.1), (0, rv z 4)]) dX4_readTunnel_6 (by decide) rfl ?_
  refine AW.aloadr_n 1 dX4_readTunnel_7 rfl ?_
  refine AW.bipush dX4_readTunnel_8 (by decide) (by decide) ?_
  obtain ⟨r3, e4, h⟩ := hC h
  refine AW.callVi (As := [iv 105]) (st := []) (Parser_is_ok e4) cq_X4_137 cr_4_X4_is (Nat.le_trans (by decide) hdd) rfl dX4_readTunnel_10 rfl (Nat.le_of_ble_eq_true rfl) ?_
  refine AW.if_ne (tgt := 31) dX4_readTunnel_13 (by decide) (fun c5 => ?_) (fun c5 => ?_)
  · replace h := hF h c5
    refine AW.sub (lv1 := [(0, rv z 4), (1, iv r1.1)]) [1, 0] rfl ?_
    exact Parser_readTunnel_b_ok hdd _ h
  · replace h := hT h c5
    refine AW.aloadr_n 1 dX4_readTunnel_16 rfl ?_
    refine AW.bipush dX4_readTunnel_17 (by decide) (by decide) ?_
    obtain ⟨r6, e7, h⟩ := hC h
    refine AW.callVi (As := [iv 106]) (st := []) (Parser_is_ok e7) cq_X4_137 cr_4_X4_is (Nat.le_trans (by decide) hdd) rfl dX4_readTunnel_19 rfl (Nat.le_of_ble_eq_true rfl) ?_
    refine AW.if_ne (tgt := 31) dX4_readTunnel_22 (by decide) (fun c8 => ?_) (fun c8 => ?_)
    · replace h := hF h c8
      refine AW.sub (lv1 := [(0, rv z 4), (1, iv r1.1)]) [1, 0] rfl ?_
      exact Parser_readTunnel_b_ok hdd _ h
    · replace h := hT h c8
      refine AW.aloadr_n 1 dX4_readTunnel_25 rfl ?_
      refine AW.iconst dX4_readTunnel_26 ?_
      obtain ⟨r9, e10, h⟩ := hC h
      refine AW.callVv (As := [iv 1]) (st := []) (Parser_fail_ok e10) cq_X4_103 cr_4_X4_fail (Nat.le_trans (by decide) hdd) rfl dX4_readTunnel_27 rfl (Nat.le_of_ble_eq_true rfl) ?_
      exact AW.vret1 rfl dX4_readTunnel_30 h rfl
theorem Parser_openOneMore_ok {z : AZ} {x1 : Int} {g : AG} {r : Int × AG} (h : Parser_openOneMore x1 g = some r) : AMf z yX4_openOneMore cX4_openOneMore 2 none 1 [rv z 4, iv x1] g r := by
  intro d hdd
  refine AM.of (by decide +kernel) (Nat.le_of_ble_eq_true rfl) ?_
  show AW z (RX4, cX4_openOneMore, 2, none) d (QD none r) 0 [(0, rv z 4), (1, iv x1)] [] g
  unfold Parser_openOneMore at h
  refine AW.iload_n 1 dX4_openOneMore_0 rfl ?_
  refine AW.bipush dX4_openOneMore_1 (by decide) (by decide) ?_
  obtain ⟨r6, e7, h⟩ := hC h
  refine AW.join (tgt := 18) (lv1 := []) (st1 := []) (g1 := r6) ?_ (fun J3 => ?_)
  · exact AW.vret1 rfl dX4_openOneMore_18 h rfl
  replace h := e7
  refine AW.icmp_lt (tgt := 14) dX4_openOneMore_3 (by decide) (fun c1 => ?_) (fun c1 => ?_)
  · replace h := hT h c1
    refine AW.aloadr_n 0 dX4_openOneMore_14 rfl ?_
    obtain ⟨r2, e3, h⟩ := hC h
    refine AW.callVv (As := []) (st := []) (Parser_goOn_ok e3) cq_X4_107 cr_4_X4_goOn (Nat.le_trans (by decide) hdd) rfl dX4_openOneMore_15 rfl (Nat.le_of_ble_eq_true rfl) ?_
    refine AW.sub (lv1 := []) [] rfl ?_
    cases h
    exact J3
  · replace h := hF h c1
    refine AW.aloadr_n 0 dX4_openOneMore_6 rfl ?_
    refine AW.iconst dX4_openOneMore_7 ?_
    obtain ⟨r4, e5, h⟩ := hC h
    refine AW.callVv (As := [iv 3]) (st := []) (Parser_fail_ok e5) cq_X4_103 cr_4_X4_fail (Nat.le_trans (by decide) hdd) rfl dX4_openOneMore_8 rfl (Nat.le_of_ble_eq_true rfl) ?_
    refine AW.goto (tgt := 18) dX4_openOneMore_11 (by decide) ?_
    refine AW.sub (lv1 := []) [] rfl ?_
    cases h
    exact J3
theorem Parser_demandComparing_ok {z : AZ} {g : AG} {r : Int × AG} (h : Parser_demandComparing g = some r) : AMf z yX4_demandComparing cX4_demandComparing 1 none 1 [rv z 4] g r := by
  intro d hdd
  refine AM.of (by decide +kernel) (Nat.le_of_ble_eq_true rfl) ?_
  show AW z (RX4, cX4_demandComparing, 1, none) d (QD none r) 0 [(0, rv z 4)] [] g
  unfold Parser_demandComparing at h
  refine AW.aloadr_n 0 dX4_demandComparing_0 rfl ?_
  refine AW.bipush dX4_demandComparing_1 (by decide) (by decide) ?_
  obtain ⟨r1, e2, h⟩ := hC h
  refine AW.callVi (As := [iv 60]) (st := []) (Parser_is_ok e2) cq_X4_137 cr_4_X4_is (Nat.le_trans (by decide) hdd) rfl dX4_demandComparing_3 rfl (Nat.le_of_ble_eq_true rfl) ?_
  obtain ⟨r18, e19, h⟩ := hC h
  refine AW.join (tgt := 39) (lv1 := []) (st1 := []) (g1 := r18) ?_ (fun J6 => ?_)
  · exact AW.vret1 rfl dX4_demandComparing_39 h rfl
  replace h := e19
  refine AW.if_ne (tgt := 27) dX4_demandComparing_6 (by decide) (fun c3 => ?_) (fun c3 => ?_)
  · replace h := hF h c3
    refine AW.aloadr_n 0 dX4_demandComparing_27 rfl ?_
    obtain ⟨r4, e5, h⟩ := hC h
    refine AW.callVv (As := []) (st := []) (Parser_goOn_ok e5) cq_X4_107 cr_4_X4_goOn (Nat.le_trans (by decide) hdd) rfl dX4_demandComparing_28 rfl (Nat.le_of_ble_eq_true rfl) ?_
    refine AW.goto (tgt := 39) dX4_demandComparing_31 (by decide) ?_
    refine AW.sub (lv1 := []) [] rfl ?_
    cases h
    exact J6
  · replace h := hT h c3
    refine AW.aloadr_n 0 dX4_demandComparing_9 rfl ?_
    refine AW.bipush dX4_demandComparing_10 (by decide) (by decide) ?_
    obtain ⟨r6, e7, h⟩ := hC h
    refine AW.callVi (As := [iv 61]) (st := []) (Parser_is_ok e7) cq_X4_137 cr_4_X4_is (Nat.le_trans (by decide) hdd) rfl dX4_demandComparing_12 rfl (Nat.le_of_ble_eq_true rfl) ?_
    refine AW.if_ne (tgt := 27) dX4_demandComparing_15 (by decide) (fun c8 => ?_) (fun c8 => ?_)
    · replace h := hF h c8
      refine AW.aloadr_n 0 dX4_demandComparing_27 rfl ?_
      obtain ⟨r9, e10, h⟩ := hC h
      refine AW.callVv (As := []) (st := []) (Parser_goOn_ok e10) cq_X4_107 cr_4_X4_goOn (Nat.le_trans (by decide) hdd) rfl dX4_demandComparing_28 rfl (Nat.le_of_ble_eq_true rfl) ?_
      refine AW.goto (tgt := 39) dX4_demandComparing_31 (by decide) ?_
      refine AW.sub (lv1 := []) [] rfl ?_
      cases h
      exact J6
    · replace h := hT h c8
      refine AW.aloadr_n 0 dX4_demandComparing_18 rfl ?_
      refine AW.bipush dX4_demandComparing_19 (by decide) (by decide) ?_
      obtain ⟨r11, e12, h⟩ := hC h
      refine AW.callVi (As := [iv 62]) (st := []) (Parser_is_ok e12) cq_X4_137 cr_4_X4_is (Nat.le_trans (by decide) hdd) rfl dX4_demandComparing_21 rfl (Nat.le_of_ble_eq_true rfl) ?_
      refine AW.if_eq (tgt := 34) dX4_demandComparing_24 (by decide) (fun c13 => ?_) (fun c13 => ?_)
      · replace h := hT h c13
        refine AW.aloadr_n 0 dX4_demandComparing_34 rfl ?_
        refine AW.iconst dX4_demandComparing_35 ?_
        obtain ⟨r14, e15, h⟩ := hC h
        refine AW.callVv (As := [iv 1]) (st := []) (Parser_fail_ok e15) cq_X4_103 cr_4_X4_fail (Nat.le_trans (by decide) hdd) rfl dX4_demandComparing_36 rfl (Nat.le_of_ble_eq_true rfl) ?_
        refine AW.sub (lv1 := []) [] rfl ?_
        cases h
        exact J6
      · replace h := hF h c13
        refine AW.aloadr_n 0 dX4_demandComparing_27 rfl ?_
        obtain ⟨r16, e17, h⟩ := hC h
        refine AW.callVv (As := []) (st := []) (Parser_goOn_ok e17) cq_X4_107 cr_4_X4_goOn (Nat.le_trans (by decide) hdd) rfl dX4_demandComparing_28 rfl (Nat.le_of_ble_eq_true rfl) ?_
        refine AW.goto (tgt := 39) dX4_demandComparing_31 (by decide) ?_
        refine AW.sub (lv1 := []) [] rfl ?_
        cases h
        exact J6
theorem Parser_demand_ok {z : AZ} {x1 : Int} {g : AG} {r : Int × AG} (h : Parser_demand x1 g = some r) : AMf z yX4_demand cX4_demand 2 none 1 [rv z 4, iv x1] g r := by
  intro d hdd
  refine AM.of (by decide +kernel) (Nat.le_of_ble_eq_true rfl) ?_
  show AW z (RX4, cX4_demand, 2, none) d (QD none r) 0 [(0, rv z 4), (1, iv x1)] [] g
  unfold Parser_demand at h
  refine AW.aloadr_n 0 dX4_demand_0 rfl ?_
  refine AW.iload_n 1 dX4_demand_1 rfl ?_
  obtain ⟨r1, e2, h⟩ := hC h
  refine AW.callVi (As := [iv x1]) (st := []) (Parser_is_ok e2) cq_X4_137 cr_4_X4_is (Nat.le_trans (by decide) hdd) rfl dX4_demand_2 rfl (Nat.le_of_ble_eq_true rfl) ?_
  obtain ⟨r8, e9, h⟩ := hC h
  refine AW.join (tgt := 20) (lv1 := []) (st1 := []) (g1 := r8) ?_ (fun J5 => ?_)
  · exact AW.vret1 rfl dX4_demand_20 h rfl
  replace h := e9
  refine AW.if_eq (tgt := 15) dX4_demand_5 (by decide) (fun c3 => ?_) (fun c3 => ?_)
  · replace h := hT h c3
    refine AW.aloadr_n 0 dX4_demand_15 rfl ?_
    refine AW.iconst dX4_demand_16 ?_
    obtain ⟨r4, e5, h⟩ := hC h
    refine AW.callVv (As := [iv 1]) (st := []) (Parser_fail_ok e5) cq_X4_103 cr_4_X4_fail (Nat.le_trans (by decide) hdd) rfl dX4_demand_17 rfl (Nat.le_of_ble_eq_true rfl) ?_
    refine AW.sub (lv1 := []) [] rfl ?_
    cases h
    exact J5
  · replace h := hF h c3
    refine AW.aloadr_n 0 dX4_demand_8 rfl ?_
    obtain ⟨r6, e7, h⟩ := hC h
    refine AW.callVv (As := []) (st := []) (Parser_goOn_ok e7) cq_X4_107 cr_4_X4_goOn (Nat.le_trans (by decide) hdd) rfl dX4_demand_9 rfl (Nat.le_of_ble_eq_true rfl) ?_
    refine AW.goto (tgt := 20) dX4_demand_12 (by decide) ?_
    refine AW.sub (lv1 := []) [] rfl ?_
    cases h
    exact J5
set_option synthInstance.maxHeartbeats 2000000 in
theorem Parser_readOne_b_ok {z : AZ} {rec : Int → AG → Option (Int × AG)} {Dr : Nat} (hC9 : 4 ≤ Dr) (hrec : ∀ (x1 : Int) (g : AG) (r : Int × AG), rec x1 g = some r → AMf z yX4_readEither cX4_readEither 3 none Dr [rv z 4, iv x1] g r) {d : Nat} (hdd : Dr + 1 ≤ d) {x1 : Int} : ∀ (tag : Nat) (x2 : Int) (x3 : Int) (g : AG) (r : Int × AG), Parser_readOne_b rec x1 tag x2 x3 g = some r → (tag = 1 → AW z (RX4, cX4_readOne, 4, none) d (QD none r) 4 [(0, rv z 4), (1, iv x1), (2, iv x2), (3, iv x3)] [] g) ∧ (tag = 2 → AW z (RX4, cX4_readOne, 4, none) d (QD none r) 34 [(0, rv z 4), (1, iv x1), (2, iv x2)] [] g) ∧ (tag = 3 → AW z (RX4, cX4_readOne, 4, none) d (QD none r) 97 [(0, rv z 4), (2, iv x2), (3, iv x3)] [] g) := by
  refine Parser_readOne_b.partial_correctness rec x1 (fun tag x2 x3 g r => (tag = 1 → AW z (RX4, cX4_readOne, 4, none) d (QD none r) 4 [(0, rv z 4), (1, iv x1), (2, iv x2), (3, iv x3)] [] g) ∧ (tag = 2 → AW z (RX4, cX4_readOne, 4, none) d (QD none r) 34 [(0, rv z 4), (1, iv x1), (2, iv x2)] [] g) ∧ (tag = 3 → AW z (RX4, cX4_readOne, 4, none) d (QD none r) 97 [(0, rv z 4), (2, iv x2), (3, iv x3)] [] g)) ?_
  intro fb9 ih tag x2 x3 g r h
  refine ⟨fun h9 => ?_, fun h9 => ?_, fun h9 => ?_⟩
  · subst h9
    replace h := hT h rfl
    refine AW.iload_n 3 dX4_readOne_4 rfl ?_
    refine AW.sipush dX4_readOne_5 (by decide) (by decide) ?_
    refine AW.icmp_ge (tgt := 34) dX4_readOne_8 (by decide) (fun c1 => ?_) (fun c1 => ?_)
    · replace h := hT h c1
      refine AW.sub (lv1 := [(0, rv z 4), (1, iv x1), (2, iv x2)]) [0, 1, 2] rfl ?_
      exact (ih _ _ _ _ _ h).2.1 rfl
    · replace h := hF h c1
      refine AW.aloadr_n 0 dX4_readOne_11 rfl ?_
      refine AW.bipush dX4_readOne_12 (by decide) (by decide) ?_
      obtain ⟨r2, e3, h⟩ := hC h
      refine AW.callVi (As := [iv 110]) (st := []) (Parser_is_ok e3) cq_X4_137 cr_4_X4_is (by omega) rfl dX4_readOne_14 rfl (Nat.le_of_ble_eq_true rfl) ?_
      refine AW.if_eq (tgt := 34) dX4_readOne_17 (by decide) (fun c4 => ?_) (fun c4 => ?_)
      · replace h := hT h c4
        refine AW.sub (lv1 := [(0, rv z 4), (1, iv x1), (2, iv x2)]) [0, 1, 2] rfl ?_
        exact (ih _ _ _ _ _ h).2.1 rfl
      · replace h := hF h c4
        refine AW.aloadr_n 0 dX4_readOne_20 rfl ?_
        refine AW.iload_n 2 dX4_readOne_21 rfl ?_
        obtain ⟨r5, e6, h⟩ := hC h
        refine AW.callVv (As := [iv x2]) (st := []) (Parser_openOneMore_ok e6) cq_X4_170 cr_4_X4_openOneMore (by omega) rfl dX4_readOne_22 rfl (Nat.le_of_ble_eq_true rfl) ?_
        refine AW.iinc (lv1 := [(2, iv (x2 + 1)), (0, rv z 4), (1, iv x1), (3, iv x3)]) 2 dX4_readOne_25 rfl (by decide) rfl ?_
        refine AW.iinc (lv1 := [(3, iv (x3 + 1)), (2, iv (x2 + 1)), (0, rv z 4), (1, iv x1)]) 3 dX4_readOne_28 rfl (by decide) rfl ?_
        refine AW.goto (tgt := 4) dX4_readOne_31 (by decide) ?_
        refine AW.sub (lv1 := [(0, rv z 4), (1, iv x1), (2, iv (x2 + 1)), (3, iv (x3 + 1))]) [2, 3, 1, 0] rfl ?_
        exact (ih _ _ _ _ _ h).1 rfl
  · subst h9
    replace h := hF h (by decide)
    replace h := hT h rfl
    refine AW.aloadr_n 0 dX4_readOne_34 rfl ?_
    refine AW.bipush dX4_readOne_35 (by decide) (by decide) ?_
    obtain ⟨r1, e2, h⟩ := hC h
    refine AW.callVi (As := [iv 40]) (st := []) (Parser_is_ok e2) cq_X4_137 cr_4_X4_is (by omega) rfl dX4_readOne_37 rfl (Nat.le_of_ble_eq_true rfl) ?_
    obtain ⟨r19, e20, h⟩ := hC h
    refine AW.join (tgt := 95) (lv1 := [(0, rv z 4), (1, iv x1), (2, iv x2)]) (st1 := []) (g1 := r19) ?_ (fun J40 => ?_)
    · refine AW.iload_n 1 dX4_readOne_95 rfl ?_
      refine AW.istore_n (lv1 := [(3, iv x1), (0, rv z 4), (1, iv x1), (2, iv x2)]) dX4_readOne_96 (by decide) rfl ?_
      refine AW.sub (lv1 := [(0, rv z 4), (2, iv x2), (3, iv x1)]) [1, 3, 0] rfl ?_
      exact (ih _ _ _ _ _ h).2.2 rfl
    replace h := e20
    refine AW.if_eq (tgt := 64) dX4_readOne_40 (by decide) (fun c3 => ?_) (fun c3 => ?_)
    · replace h := hT h c3
      refine AW.aloadr_n 0 dX4_readOne_64 rfl ?_
      obtain ⟨r4, e5, h⟩ := hC h
      refine AW.callVv (As := []) (st := []) (Parser_readSum_ok e5) cq_X4_131 cr_4_X4_readSum (by omega) rfl dX4_readOne_65 rfl (Nat.le_of_ble_eq_true rfl) ?_
      refine AW.aloadr_n 0 dX4_readOne_68 rfl ?_
      refine AW.getR af_X4_15_4 sr_4_3 dX4_readOne_69 ?_
      refine AW.aloadr_n 0 dX4_readOne_72 rfl ?_
      refine AW.getI af_X4_35_4 sr_4_6 dX4_readOne_73 ?_
      obtain ⟨k6, h⟩ := hK h
      refine AW.iald kc_42 sk_42 k6 dX4_readOne_76 ?_
      refine AW.istore_n (lv1 := [(3, iv (r4.2 42 (ix (r4.2 4 6)))), (0, rv z 4), (1, iv x1), (2, iv x2)]) dX4_readOne_77 (by decide) rfl ?_
      refine AW.aloadr_n 1 dX4_readOne_78 rfl ?_
      obtain ⟨r7, e8, h⟩ := hC h
      refine AW.callVv (As := []) (st := []) (Parser_demandComparing_ok e8) cq_X4_173 cr_4_X4_demandComparing (by omega) rfl dX4_readOne_79 rfl (Nat.le_of_ble_eq_true rfl) ?_
      refine AW.aloadr_n 1 dX4_readOne_82 rfl ?_
      obtain ⟨r9, e10, h⟩ := hC h
      refine AW.callVv (As := []) (st := []) (Parser_readSum_ok e10) cq_X4_131 cr_4_X4_readSum (by omega) rfl dX4_readOne_83 rfl (Nat.le_of_ble_eq_true rfl) ?_
      refine AW.aloadr_n 1 dX4_readOne_86 rfl ?_
      refine AW.getR af_X4_25_4 sr_4_0 dX4_readOne_87 ?_
      refine AW.iload_n 0 dX4_readOne_90 rfl ?_
      refine AW.iconst dX4_readOne_91 ?_
      obtain ⟨r11, e12, h⟩ := hC h
      refine AW.callVv (As := [iv (r4.2 42 (ix (r4.2 4 6))), iv 0]) (st := []) (Rules_put_ok e12) cq_X4_164 cr_3_X6_put (by omega) rfl dX4_readOne_92 rfl (Nat.le_of_ble_eq_true rfl) ?_
      refine AW.sub (lv1 := [(0, rv z 4), (1, iv x1), (2, iv x2)]) [1, 2, 3] rfl ?_
      cases h
      exact J40
    · replace h := hF h c3
      refine AW.aloadr_n 0 dX4_readOne_43 rfl ?_
      refine AW.iload_n 2 dX4_readOne_44 rfl ?_
      obtain ⟨r13, e14, h⟩ := hC h
      refine AW.callVv (As := [iv x2]) (st := []) (Parser_openOneMore_ok e14) cq_X4_170 cr_4_X4_openOneMore (by omega) rfl dX4_readOne_45 rfl (Nat.le_of_ble_eq_true rfl) ?_
      refine AW.aloadr_n 0 dX4_readOne_48 rfl ?_
      refine AW.iload_n 2 dX4_readOne_49 rfl ?_
      refine AW.iconst dX4_readOne_50 ?_
      refine AW.iadd dX4_readOne_51 ?_
      obtain ⟨r15, e16, h⟩ := hC h
      refine AW.callVv (As := [iv (x2 + 1)]) (st := []) (hrec _ _ _ e16) cq_X4_140 cr_4_X4_readEither (by omega) rfl dX4_readOne_52 rfl (Nat.le_of_ble_eq_true rfl) ?_
      refine AW.aloadr_n 0 dX4_readOne_55 rfl ?_
      refine AW.bipush dX4_readOne_56 (by decide) (by decide) ?_
      obtain ⟨r17, e18, h⟩ := hC h
      refine AW.callVv (As := [iv 41]) (st := []) (Parser_demand_ok e18) cq_X4_146 cr_4_X4_demand (by omega) rfl dX4_readOne_58 rfl (Nat.le_of_ble_eq_true rfl) ?_
      refine AW.goto (tgt := 95) dX4_readOne_61 (by decide) ?_
      cases h
      exact J40
  · subst h9
    replace h := hF h (by decide)
    replace h := hF h (by decide)
    replace h := hT h rfl
    refine AW.iload_n 2 dX4_readOne_97 rfl ?_
    refine AW.iload_n 1 dX4_readOne_98 rfl ?_
    refine AW.icmp_ge (tgt := 118) dX4_readOne_99 (by decide) (fun c1 => ?_) (fun c1 => ?_)
    · replace h := hT h c1
      exact AW.vret1 rfl dX4_readOne_118 h rfl
    · replace h := hF h c1
      refine AW.aloadr_n 0 dX4_readOne_102 rfl ?_
      refine AW.getR af_X4_25_4 sr_4_0 dX4_readOne_103 ?_
      refine AW.bipush dX4_readOne_106 (by decide) (by decide) ?_
      refine AW.iconst dX4_readOne_108 ?_
      obtain ⟨r2, e3, h⟩ := hC h
      refine AW.callVv (As := [iv 110, iv 0]) (st := []) (Rules_put_ok e3) cq_X4_164 cr_3_X6_put (by omega) rfl dX4_readOne_109 rfl (Nat.le_of_ble_eq_true rfl) ?_
      refine AW.iinc (lv1 := [(3, iv (x3 + 1)), (0, rv z 4), (2, iv x2)]) 2 dX4_readOne_112 rfl (by decide) rfl ?_
      refine AW.goto (tgt := 97) dX4_readOne_115 (by decide) ?_
      refine AW.sub (lv1 := [(0, rv z 4), (2, iv x2), (3, iv (x3 + 1))]) [1, 2, 0] rfl ?_
      exact (ih _ _ _ _ _ h).2.2 rfl
theorem Parser_readOne_ok {z : AZ} {rec : Int → AG → Option (Int × AG)} {Dr : Nat} (hC9 : 4 ≤ Dr) (hrec : ∀ (x1 : Int) (g : AG) (r : Int × AG), rec x1 g = some r → AMf z yX4_readEither cX4_readEither 3 none Dr [rv z 4, iv x1] g r) {x1 : Int} {g : AG} {r : Int × AG} (h : Parser_readOne rec x1 g = some r) : AMf z yX4_readOne cX4_readOne 4 none (Dr + 1) [rv z 4, iv x1] g r := by
  intro d hdd
  refine AM.of (by decide +kernel) (Nat.le_of_ble_eq_true rfl) ?_
  show AW z (RX4, cX4_readOne, 4, none) d (QD none r) 0 [(0, rv z 4), (1, iv x1)] [] g
  unfold Parser_readOne at h
  refine AW.iload_n 1 dX4_readOne_0 rfl ?_
  refine AW.istore_n (lv1 := [(2, iv x1), (0, rv z 4), (1, iv x1)]) dX4_readOne_1 (by decide) rfl ?_
  refine AW.iconst dX4_readOne_2 ?_
  refine AW.istore_n (lv1 := [(3, iv 0), (2, iv x1), (0, rv z 4), (1, iv x1)]) dX4_readOne_3 (by decide) rfl ?_
  refine AW.sub (lv1 := [(0, rv z 4), (1, iv x1), (2, iv x1), (3, iv 0)]) [2, 3, 1, 0] rfl ?_
  exact (Parser_readOne_b_ok hC9 hrec hdd _ _ _ _ _ h).1 rfl
set_option synthInstance.maxHeartbeats 2000000 in
theorem Parser_readAll_b_ok {z : AZ} {rec : Int → AG → Option (Int × AG)} {Dr : Nat} (hC9 : 4 ≤ Dr) (hrec : ∀ (x1 : Int) (g : AG) (r : Int × AG), rec x1 g = some r → AMf z yX4_readEither cX4_readEither 3 none Dr [rv z 4, iv x1] g r) {d : Nat} (hdd : Dr + 2 ≤ d) {x1 : Int} : ∀ (x2 : Int) (g : AG) (r : Int × AG), Parser_readAll_b rec x1 x2 g = some r → AW z (RX4, cX4_readAll, 3, none) d (QD none r) 7 [(0, rv z 4), (1, iv x1), (2, iv x2)] [] g := by
  refine Parser_readAll_b.partial_correctness rec x1 (fun x2 g r => AW z (RX4, cX4_readAll, 3, none) d (QD none r) 7 [(0, rv z 4), (1, iv x1), (2, iv x2)] [] g) ?_
  intro fb9 ih x2 g r h
  refine AW.iload_n 2 dX4_readAll_7 rfl ?_
  refine AW.sipush dX4_readAll_8 (by decide) (by decide) ?_
  refine AW.icmp_ge (tgt := 48) dX4_readAll_11 (by decide) (fun c1 => ?_) (fun c1 => ?_)
  · replace h := hT h c1
    exact AW.vret1 rfl dX4_readAll_48 h rfl
  · replace h := hF h c1
    refine AW.aloadr_n 0 dX4_readAll_14 rfl ?_
    refine AW.bipush dX4_readAll_15 (by decide) (by decide) ?_
    obtain ⟨r2, e3, h⟩ := hC h
    refine AW.callVi (As := [iv 109]) (st := []) (Parser_is_ok e3) cq_X4_137 cr_4_X4_is (by omega) rfl dX4_readAll_17 rfl (Nat.le_of_ble_eq_true rfl) ?_
    refine AW.if_eq (tgt := 48) dX4_readAll_20 (by decide) (fun c4 => ?_) (fun c4 => ?_)
    · replace h := hT h c4
      exact AW.vret1 rfl dX4_readAll_48 h rfl
    · replace h := hF h c4
      refine AW.aloadr_n 0 dX4_readAll_23 rfl ?_
      obtain ⟨r5, e6, h⟩ := hC h
      refine AW.callVv (As := []) (st := []) (Parser_goOn_ok e6) cq_X4_107 cr_4_X4_goOn (by omega) rfl dX4_readAll_24 rfl (Nat.le_of_ble_eq_true rfl) ?_
      refine AW.aloadr_n 0 dX4_readAll_27 rfl ?_
      refine AW.iload_n 1 dX4_readAll_28 rfl ?_
      obtain ⟨r7, e8, h⟩ := hC h
      refine AW.callVv (As := [iv x1]) (st := []) (Parser_readOne_ok (Nat.le_trans (by decide) hC9) hrec e8) cq_X4_167 cr_4_X4_readOne (by omega) rfl dX4_readAll_29 rfl (Nat.le_of_ble_eq_true rfl) ?_
      refine AW.aloadr_n 0 dX4_readAll_32 rfl ?_
      refine AW.getR af_X4_25_4 sr_4_0 dX4_readAll_33 ?_
      refine AW.bipush dX4_readAll_36 (by decide) (by decide) ?_
      refine AW.iconst dX4_readAll_38 ?_
      obtain ⟨r9, e10, h⟩ := hC h
      refine AW.callVv (As := [iv 109, iv 0]) (st := []) (Rules_put_ok e10) cq_X4_164 cr_3_X6_put (by omega) rfl dX4_readAll_39 rfl (Nat.le_of_ble_eq_true rfl) ?_
      refine AW.iinc (lv1 := [(2, iv (x2 + 1)), (0, rv z 4), (1, iv x1)]) 2 dX4_readAll_42 rfl (by decide) rfl ?_
      refine AW.goto (tgt := 7) dX4_readAll_45 (by decide) ?_
      refine AW.sub (lv1 := [(0, rv z 4), (1, iv x1), (2, iv (x2 + 1))]) [1, 2, 0] rfl ?_
      exact ih _ _ _ h
theorem Parser_readAll_ok {z : AZ} {rec : Int → AG → Option (Int × AG)} {Dr : Nat} (hC9 : 4 ≤ Dr) (hrec : ∀ (x1 : Int) (g : AG) (r : Int × AG), rec x1 g = some r → AMf z yX4_readEither cX4_readEither 3 none Dr [rv z 4, iv x1] g r) {x1 : Int} {g : AG} {r : Int × AG} (h : Parser_readAll rec x1 g = some r) : AMf z yX4_readAll cX4_readAll 3 none (Dr + 2) [rv z 4, iv x1] g r := by
  intro d hdd
  refine AM.of (by decide +kernel) (Nat.le_of_ble_eq_true rfl) ?_
  show AW z (RX4, cX4_readAll, 3, none) d (QD none r) 0 [(0, rv z 4), (1, iv x1)] [] g
  unfold Parser_readAll at h
  refine AW.aloadr_n 0 dX4_readAll_0 rfl ?_
  refine AW.iload_n 1 dX4_readAll_1 rfl ?_
  obtain ⟨r1, e2, h⟩ := hC h
  refine AW.callVv (As := [iv x1]) (st := []) (Parser_readOne_ok (Nat.le_trans (by decide) hC9) hrec e2) cq_X4_167 cr_4_X4_readOne (by omega) rfl dX4_readAll_2 rfl (Nat.le_of_ble_eq_true rfl) ?_
  refine AW.iconst dX4_readAll_5 ?_
  refine AW.istore_n (lv1 := [(2, iv 0), (0, rv z 4), (1, iv x1)]) dX4_readAll_6 (by decide) rfl ?_
  refine AW.sub (lv1 := [(0, rv z 4), (1, iv x1), (2, iv 0)]) [1, 2, 0] rfl ?_
  exact Parser_readAll_b_ok hC9 hrec hdd _ _ _ h
set_option synthInstance.maxHeartbeats 2000000 in
theorem Parser_readEither_b_ok {z : AZ} {rec : Int → AG → Option (Int × AG)} {Dr : Nat} (hC9 : 4 ≤ Dr) (hrec : ∀ (x1 : Int) (g : AG) (r : Int × AG), rec x1 g = some r → AMf z yX4_readEither cX4_readEither 3 none Dr [rv z 4, iv x1] g r) {d : Nat} (hdd : Dr + 3 ≤ d) {x1 : Int} : ∀ (x2 : Int) (g : AG) (r : Int × AG), Parser_readEither_b rec x1 x2 g = some r → AW z (RX4, cX4_readEither, 3, none) d (QD none r) 14 [(0, rv z 4), (1, iv x1), (2, iv x2)] [] g := by
  refine Parser_readEither_b.partial_correctness rec x1 (fun x2 g r => AW z (RX4, cX4_readEither, 3, none) d (QD none r) 14 [(0, rv z 4), (1, iv x1), (2, iv x2)] [] g) ?_
  intro fb9 ih x2 g r h
  refine AW.iload_n 2 dX4_readEither_14 rfl ?_
  refine AW.sipush dX4_readEither_15 (by decide) (by decide) ?_
  refine AW.icmp_ge (tgt := 55) dX4_readEither_18 (by decide) (fun c1 => ?_) (fun c1 => ?_)
  · replace h := hT h c1
    exact AW.vret1 rfl dX4_readEither_55 h rfl
  · replace h := hF h c1
    refine AW.aloadr_n 0 dX4_readEither_21 rfl ?_
    refine AW.bipush dX4_readEither_22 (by decide) (by decide) ?_
    obtain ⟨r2, e3, h⟩ := hC h
    refine AW.callVi (As := [iv 108]) (st := []) (Parser_is_ok e3) cq_X4_137 cr_4_X4_is (by omega) rfl dX4_readEither_24 rfl (Nat.le_of_ble_eq_true rfl) ?_
    refine AW.if_eq (tgt := 55) dX4_readEither_27 (by decide) (fun c4 => ?_) (fun c4 => ?_)
    · replace h := hT h c4
      exact AW.vret1 rfl dX4_readEither_55 h rfl
    · replace h := hF h c4
      refine AW.aloadr_n 0 dX4_readEither_30 rfl ?_
      obtain ⟨r5, e6, h⟩ := hC h
      refine AW.callVv (As := []) (st := []) (Parser_goOn_ok e6) cq_X4_107 cr_4_X4_goOn (by omega) rfl dX4_readEither_31 rfl (Nat.le_of_ble_eq_true rfl) ?_
      refine AW.aloadr_n 0 dX4_readEither_34 rfl ?_
      refine AW.iload_n 1 dX4_readEither_35 rfl ?_
      obtain ⟨r7, e8, h⟩ := hC h
      refine AW.callVv (As := [iv x1]) (st := []) (Parser_readAll_ok (Nat.le_trans (by decide) hC9) hrec e8) cq_X4_161 cr_4_X4_readAll (by omega) rfl dX4_readEither_36 rfl (Nat.le_of_ble_eq_true rfl) ?_
      refine AW.aloadr_n 0 dX4_readEither_39 rfl ?_
      refine AW.getR af_X4_25_4 sr_4_0 dX4_readEither_40 ?_
      refine AW.bipush dX4_readEither_43 (by decide) (by decide) ?_
      refine AW.iconst dX4_readEither_45 ?_
      obtain ⟨r9, e10, h⟩ := hC h
      refine AW.callVv (As := [iv 108, iv 0]) (st := []) (Rules_put_ok e10) cq_X4_164 cr_3_X6_put (by omega) rfl dX4_readEither_46 rfl (Nat.le_of_ble_eq_true rfl) ?_
      refine AW.iinc (lv1 := [(2, iv (x2 + 1)), (0, rv z 4), (1, iv x1)]) 2 dX4_readEither_49 rfl (by decide) rfl ?_
      refine AW.goto (tgt := 14) dX4_readEither_52 (by decide) ?_
      refine AW.sub (lv1 := [(0, rv z 4), (1, iv x1), (2, iv (x2 + 1))]) [1, 2, 0] rfl ?_
      exact ih _ _ _ h
theorem Parser_readEither_s_ok {z : AZ} {rec : Int → AG → Option (Int × AG)} {Dr : Nat} (hC9 : 4 ≤ Dr) (hrec : ∀ (x1 : Int) (g : AG) (r : Int × AG), rec x1 g = some r → AMf z yX4_readEither cX4_readEither 3 none Dr [rv z 4, iv x1] g r) {x1 : Int} {g : AG} {r : Int × AG} (h : Parser_readEither_s rec x1 g = some r) : AMf z yX4_readEither cX4_readEither 3 none (Dr + 3) [rv z 4, iv x1] g r := by
  intro d hdd
  refine AM.of (by decide +kernel) (Nat.le_of_ble_eq_true rfl) ?_
  show AW z (RX4, cX4_readEither, 3, none) d (QD none r) 0 [(0, rv z 4), (1, iv x1)] [] g
  unfold Parser_readEither_s at h
  refine AW.iload_n 1 dX4_readEither_0 rfl ?_
  refine AW.bipush dX4_readEither_1 (by decide) (by decide) ?_
  refine AW.icmp_le (tgt := 7) dX4_readEither_3 (by decide) (fun c1 => ?_) (fun c1 => ?_)
  · replace h := hT h c1
    refine AW.aloadr_n 0 dX4_readEither_7 rfl ?_
    refine AW.iload_n 1 dX4_readEither_8 rfl ?_
    obtain ⟨r2, e3, h⟩ := hC h
    refine AW.callVv (As := [iv x1]) (st := []) (Parser_readAll_ok (Nat.le_trans (by decide) hC9) hrec e3) cq_X4_161 cr_4_X4_readAll (by omega) rfl dX4_readEither_9 rfl (Nat.le_of_ble_eq_true rfl) ?_
    refine AW.iconst dX4_readEither_12 ?_
    refine AW.istore_n (lv1 := [(2, iv 0), (0, rv z 4), (1, iv x1)]) dX4_readEither_13 (by decide) rfl ?_
    refine AW.sub (lv1 := [(0, rv z 4), (1, iv x1), (2, iv 0)]) [1, 2, 0] rfl ?_
    exact Parser_readEither_b_ok hC9 hrec hdd _ _ _ h
  · replace h := hF h c1
    exact AW.vret1 rfl dX4_readEither_6 h rfl
theorem Parser_readEither_ok {z : AZ} {n : Nat} {x1 : Int} {g : AG} {r : Int × AG} (h : Parser_readEither n x1 g = some r) : AMf z yX4_readEither cX4_readEither 3 none (4 + n * 3) [rv z 4, iv x1] g r := by
  induction n generalizing x1 g r with
  | zero => cases h
  | succ n ih =>
    have q := Parser_readEither_s_ok (z := z) (Dr := 4 + n * 3) (Nat.le_add_right _ _) (fun x1 g r h9 => ih h9) h
    rw [show 4 + (n + 1) * 3 = 4 + n * 3 + 3 by rw [Nat.add_mul]; omega]
    exact q
theorem Parser_readLine_ok {z : AZ} {g : AG} {r : Int × AG} (h : Parser_readLine g = some r) : AMf z yX4_readLine cX4_readLine 3 none 41 [rv z 4] g r := by
  intro d hdd
  refine AM.of (by decide +kernel) (Nat.le_of_ble_eq_true rfl) ?_
  show AW z (RX4, cX4_readLine, 3, none) d (QD none r) 0 [(0, rv z 4)] [] g
  unfold Parser_readLine at h
  refine AW.aloadr_n 0 dX4_readLine_0 rfl ?_
  refine AW.getR af_X4_15_4 sr_4_3 dX4_readLine_1 ?_
  refine AW.aloadr_n 0 dX4_readLine_4 rfl ?_
  refine AW.getI af_X4_35_4 sr_4_6 dX4_readLine_5 ?_
  obtain ⟨k1, h⟩ := hK h
  refine AW.iald kc_42 sk_42 k1 dX4_readLine_8 ?_
  refine AW.istore_n (lv1 := [(1, iv (g 42 (ix (g 4 6)))), (0, rv z 4)]) dX4_readLine_9 (by decide) rfl ?_
  refine AW.aloadr_n 1 dX4_readLine_10 rfl ?_
  refine AW.getR af_X4_25_4 sr_4_0 dX4_readLine_11 ?_
  refine AW.getI af_X4_49_3 sr_3_3 dX4_readLine_14 ?_
  refine AW.istore_n (lv1 := [(2, iv (g 3 3)), (1, iv (g 42 (ix (g 4 6)))), (0, rv z 4)]) dX4_readLine_17 (by decide) rfl ?_
  refine AW.iload_n 1 dX4_readLine_18 rfl ?_
  refine AW.bipush dX4_readLine_19 (by decide) (by decide) ?_
  refine AW.bipush dX4_readLine_21 (by decide) (by decide) ?_
  refine AW.callN0 (As := [iv (g 42 (ix (g 4 6))), iv 100, iv 104]) (st := []) X_within_ok ns_X4_87 in_X11 cd_X11_within st_X11_within (by decide) (Nat.le_trans (by decide) hdd) rfl (Nat.le_of_ble_eq_true rfl) dX4_readLine_23 rfl ?_
  refine AW.if_ne (tgt := 35) dX4_readLine_26 (by decide) (fun c2 => ?_) (fun c2 => ?_)
  · replace h := hF h c2
    refine AW.iload_n 0 dX4_readLine_35 rfl ?_
    refine AW.bipush dX4_readLine_36 (by decide) (by decide) ?_
    refine AW.icmp_lt (tgt := 47) dX4_readLine_38 (by decide) (fun c3 => ?_) (fun c3 => ?_)
    · replace h := hT h c3
      refine AW.aloadr_n 2 dX4_readLine_47 rfl ?_
      obtain ⟨r4, e5, h⟩ := hC h
      refine AW.callVv (As := []) (st := []) (Parser_goOn_ok e5) cq_X4_107 cr_4_X4_goOn (Nat.le_trans (by decide) hdd) rfl dX4_readLine_48 rfl (Nat.le_of_ble_eq_true rfl) ?_
      refine AW.aloadr_n 2 dX4_readLine_51 rfl ?_
      refine AW.getR af_X4_25_4 sr_4_0 dX4_readLine_52 ?_
      refine AW.getR af_X4_110_3 sr_3_4 dX4_readLine_55 ?_
      refine AW.iload_n 0 dX4_readLine_58 rfl ?_
      refine AW.iload_n 1 dX4_readLine_59 rfl ?_
      obtain ⟨k6, h⟩ := hK h
      obtain ⟨g7, e8, h⟩ := hBe h
      refine AW.iast kc_31 sk_31 k6 dX4_readLine_60 e8 ?_
      refine AW.aloadr_n 2 dX4_readLine_61 rfl ?_
      refine AW.getR af_X4_25_4 sr_4_0 dX4_readLine_62 ?_
      refine AW.getR af_X4_113_3 sr_3_5 dX4_readLine_65 ?_
      refine AW.iload_n 0 dX4_readLine_68 rfl ?_
      refine AW.aloadr_n 2 dX4_readLine_69 rfl ?_
      refine AW.getR af_X4_25_4 sr_4_0 dX4_readLine_70 ?_
      refine AW.getI af_X4_116_3 sr_3_2 dX4_readLine_73 ?_
      obtain ⟨g9, e10, h⟩ := hBe h
      refine AW.iast kc_32 sk_32 k6 dX4_readLine_76 e10 ?_
      refine AW.iload_n 1 dX4_readLine_77 rfl ?_
      refine AW.bipush dX4_readLine_78 (by decide) (by decide) ?_
      obtain ⟨r25, e26, h⟩ := hC h
      refine AW.join (tgt := 133) (lv1 := [(0, rv z 4), (1, iv (g 42 (ix (g 4 6)))), (2, iv (g 3 3))]) (st1 := []) (g1 := r25) ?_ (fun J80 => ?_)
      · refine AW.aloadr_n 0 dX4_readLine_133 rfl ?_
        refine AW.getR af_X4_25_4 sr_4_0 dX4_readLine_134 ?_
        refine AW.getR af_X4_134_3 sr_3_6 dX4_readLine_137 ?_
        refine AW.iload_n 2 dX4_readLine_140 rfl ?_
        refine AW.aloadr_n 0 dX4_readLine_141 rfl ?_
        refine AW.getR af_X4_25_4 sr_4_0 dX4_readLine_142 ?_
        refine AW.getI af_X4_116_3 sr_3_2 dX4_readLine_145 ?_
        obtain ⟨g27, e28, h⟩ := hBe h
        refine AW.iast kc_33 sk_33 k6 dX4_readLine_148 e28 ?_
        refine AW.iload_n 1 dX4_readLine_149 rfl ?_
        refine AW.bipush dX4_readLine_150 (by decide) (by decide) ?_
        obtain ⟨r37, e38, h⟩ := hC h
        refine AW.join (tgt := 173) (lv1 := [(0, rv z 4), (2, iv (g 3 3))]) (st1 := []) (g1 := r37) ?_ (fun J152 => ?_)
        · refine AW.aloadr_n 0 dX4_readLine_173 rfl ?_
          refine AW.getR af_X4_25_4 sr_4_0 dX4_readLine_174 ?_
          refine AW.getR af_X4_143_3 sr_3_7 dX4_readLine_177 ?_
          refine AW.iload_n 1 dX4_readLine_180 rfl ?_
          refine AW.aloadr_n 0 dX4_readLine_181 rfl ?_
          refine AW.getR af_X4_25_4 sr_4_0 dX4_readLine_182 ?_
          refine AW.getI af_X4_116_3 sr_3_2 dX4_readLine_185 ?_
          obtain ⟨g39, e40, h⟩ := hBe h
          refine AW.iast kc_34 sk_34 k6 dX4_readLine_188 e40 ?_
          refine AW.aloadr_n 0 dX4_readLine_189 rfl ?_
          refine AW.bipush dX4_readLine_190 (by decide) (by decide) ?_
          obtain ⟨r41, e42, h⟩ := hC h
          refine AW.callVv (As := [iv 59]) (st := []) (Parser_demand_ok e42) cq_X4_146 cr_4_X4_demand (Nat.le_trans (by decide) hdd) rfl dX4_readLine_192 rfl (Nat.le_of_ble_eq_true rfl) ?_
          refine AW.aloadr_n 0 dX4_readLine_195 rfl ?_
          refine AW.getR af_X4_25_4 sr_4_0 dX4_readLine_196 ?_
          refine AW.duprr dX4_readLine_199 ?_
          refine AW.getI af_X4_49_3 sr_3_3 dX4_readLine_200 ?_
          refine AW.iconst dX4_readLine_203 ?_
          refine AW.iadd dX4_readLine_204 ?_
          obtain ⟨g43, e44, h⟩ := hBe h
          refine AW.putI ap_X4_49_3 sr_3_3 dX4_readLine_205 e44 ?_
          exact AW.vret1 rfl dX4_readLine_208 h rfl
        replace h := e38
        refine AW.icmp_eq (tgt := 173) dX4_readLine_152 (by decide) (fun c29 => ?_) (fun c29 => ?_)
        · replace h := hT h c29
          refine AW.sub (lv1 := [(0, rv z 4), (2, iv (g 3 3))]) [0, 2] rfl ?_
          cases h
          exact J152
        · replace h := hF h c29
          refine AW.aloadr_n 0 dX4_readLine_155 rfl ?_
          refine AW.bipush dX4_readLine_156 (by decide) (by decide) ?_
          obtain ⟨r30, e31, h⟩ := hC h
          refine AW.callVi (As := [iv 107]) (st := []) (Parser_is_ok e31) cq_X4_137 cr_4_X4_is (Nat.le_trans (by decide) hdd) rfl dX4_readLine_158 rfl (Nat.le_of_ble_eq_true rfl) ?_
          refine AW.if_eq (tgt := 173) dX4_readLine_161 (by decide) (fun c32 => ?_) (fun c32 => ?_)
          · replace h := hT h c32
            refine AW.sub (lv1 := [(0, rv z 4), (2, iv (g 3 3))]) [0, 2] rfl ?_
            cases h
            exact J152
          · replace h := hF h c32
            refine AW.aloadr_n 0 dX4_readLine_164 rfl ?_
            obtain ⟨r33, e34, h⟩ := hC h
            refine AW.callVv (As := []) (st := []) (Parser_goOn_ok e34) cq_X4_107 cr_4_X4_goOn (Nat.le_trans (by decide) hdd) rfl dX4_readLine_165 rfl (Nat.le_of_ble_eq_true rfl) ?_
            refine AW.aloadr_n 0 dX4_readLine_168 rfl ?_
            refine AW.iconst dX4_readLine_169 ?_
            obtain ⟨r35, e36, h⟩ := hC h
            refine AW.callVv (As := [iv 0]) (st := []) ((Parser_readEither_ok (n := 12)) e36) cq_X4_140 cr_4_X4_readEither (Nat.le_trans (by decide) hdd) rfl dX4_readLine_170 rfl (Nat.le_of_ble_eq_true rfl) ?_
            refine AW.sub (lv1 := [(0, rv z 4), (2, iv (g 3 3))]) [0, 2] rfl ?_
            cases h
            exact J152
      replace h := e26
      refine AW.icmp_ne (tgt := 90) dX4_readLine_80 (by decide) (fun c11 => ?_) (fun c11 => ?_)
      · replace h := hF h c11
        refine AW.iload_n 1 dX4_readLine_90 rfl ?_
        refine AW.bipush dX4_readLine_91 (by decide) (by decide) ?_
        refine AW.icmp_ne (tgt := 129) dX4_readLine_93 (by decide) (fun c12 => ?_) (fun c12 => ?_)
        · replace h := hF h c12
          refine AW.aloadr_n 2 dX4_readLine_129 rfl ?_
          obtain ⟨r13, e14, h⟩ := hC h
          refine AW.callVv (As := []) (st := []) (Parser_readSum_ok e14) cq_X4_131 cr_4_X4_readSum (Nat.le_trans (by decide) hdd) rfl dX4_readLine_130 rfl (Nat.le_of_ble_eq_true rfl) ?_
          refine AW.sub (lv1 := [(0, rv z 4), (1, iv (g 42 (ix (g 4 6)))), (2, iv (g 3 3))]) [2, 1, 0] rfl ?_
          cases h
          exact J80
        · replace h := hT h c12
          refine AW.aloadr_n 2 dX4_readLine_96 rfl ?_
          refine AW.getR af_X4_25_4 sr_4_0 dX4_readLine_97 ?_
          refine AW.getR af_X4_122_3 sr_3_8 dX4_readLine_100 ?_
          refine AW.iload_n 0 dX4_readLine_103 rfl ?_
          refine AW.aloadr_n 2 dX4_readLine_104 rfl ?_
          refine AW.bipush dX4_readLine_105 (by decide) (by decide) ?_
          obtain ⟨r15, e16, h⟩ := hC h
          refine AW.callVi (As := [iv 24]) (st := [iv (g 3 3), rv z 35]) (Parser_numberUpTo_ok e16) cq_X4_125 cr_4_X4_numberUpTo (Nat.le_trans (by decide) hdd) rfl dX4_readLine_107 rfl (Nat.le_of_ble_eq_true rfl) ?_
          obtain ⟨g17, e18, h⟩ := hBe h
          refine AW.iast kc_35 sk_35 k6 dX4_readLine_110 e18 ?_
          refine AW.aloadr_n 2 dX4_readLine_111 rfl ?_
          refine AW.getR af_X4_25_4 sr_4_0 dX4_readLine_112 ?_
          refine AW.getR af_X4_128_3 sr_3_9 dX4_readLine_115 ?_
          refine AW.iload_n 0 dX4_readLine_118 rfl ?_
          refine AW.aloadr_n 2 dX4_readLine_119 rfl ?_
          refine AW.bipush dX4_readLine_120 (by decide) (by decide) ?_
          obtain ⟨r19, e20, h⟩ := hC h
          refine AW.callVi (As := [iv 24]) (st := [iv (g 3 3), rv z 36]) (Parser_numberUpTo_ok e20) cq_X4_125 cr_4_X4_numberUpTo (Nat.le_trans (by decide) hdd) rfl dX4_readLine_122 rfl (Nat.le_of_ble_eq_true rfl) ?_
          obtain ⟨g21, e22, h⟩ := hBe h
          refine AW.iast kc_36 sk_36 k6 dX4_readLine_125 e22 ?_
          refine AW.goto (tgt := 133) dX4_readLine_126 (by decide) ?_
          refine AW.sub (lv1 := [(0, rv z 4), (1, iv (g 42 (ix (g 4 6)))), (2, iv (g 3 3))]) [2, 1, 0] rfl ?_
          cases h
          exact J80
      · replace h := hT h c11
        refine AW.aloadr_n 2 dX4_readLine_83 rfl ?_
        obtain ⟨r23, e24, h⟩ := hC h
        refine AW.callVv (As := []) (st := []) (Parser_readTunnel_ok e24) cq_X4_119 cr_4_X4_readTunnel (Nat.le_trans (by decide) hdd) rfl dX4_readLine_84 rfl (Nat.le_of_ble_eq_true rfl) ?_
        refine AW.goto (tgt := 133) dX4_readLine_87 (by decide) ?_
        refine AW.sub (lv1 := [(0, rv z 4), (1, iv (g 42 (ix (g 4 6)))), (2, iv (g 3 3))]) [2, 1, 0] rfl ?_
        cases h
        exact J80
    · replace h := hF h c3
      refine AW.aloadr_n 2 dX4_readLine_41 rfl ?_
      refine AW.iconst dX4_readLine_42 ?_
      obtain ⟨r45, e46, h⟩ := hC h
      refine AW.callVv (As := [iv 3]) (st := []) (Parser_fail_ok e46) cq_X4_103 cr_4_X4_fail (Nat.le_trans (by decide) hdd) rfl dX4_readLine_43 rfl (Nat.le_of_ble_eq_true rfl) ?_
      exact AW.vret1 rfl dX4_readLine_46 h rfl
  · replace h := hT h c2
    refine AW.aloadr_n 2 dX4_readLine_29 rfl ?_
    refine AW.iconst dX4_readLine_30 ?_
    obtain ⟨r47, e48, h⟩ := hC h
    refine AW.callVv (As := [iv 1]) (st := []) (Parser_fail_ok e48) cq_X4_103 cr_4_X4_fail (Nat.le_trans (by decide) hdd) rfl dX4_readLine_31 rfl (Nat.le_of_ble_eq_true rfl) ?_
    exact AW.vret1 rfl dX4_readLine_34 h rfl
set_option synthInstance.maxHeartbeats 2000000 in
theorem Parser_read_b_ok {z : AZ} {d : Nat} (hdd : 42 ≤ d) : ∀ (tag : Nat) (x1 : Int) (g : AG) (r : Int × AG), Parser_read_b tag x1 g = some r → (tag = 1 → AW z (RX4, cX4_read, 2, (some .int)) d (QD (some .int) r) 28 [(0, rv z 4), (1, iv x1)] [] g) ∧ (tag = 2 → AW z (RX4, cX4_read, 2, (some .int)) d (QD (some .int) r) 63 [(0, rv z 4)] [] g) := by
  refine Parser_read_b.partial_correctness (fun tag x1 g r => (tag = 1 → AW z (RX4, cX4_read, 2, (some .int)) d (QD (some .int) r) 28 [(0, rv z 4), (1, iv x1)] [] g) ∧ (tag = 2 → AW z (RX4, cX4_read, 2, (some .int)) d (QD (some .int) r) 63 [(0, rv z 4)] [] g)) ?_
  intro fb9 ih tag x1 g r h
  refine ⟨fun h9 => ?_, fun h9 => ?_⟩
  · subst h9
    replace h := hT h rfl
    refine AW.iload_n 1 dX4_read_28 rfl ?_
    refine AW.bipush dX4_read_29 (by decide) (by decide) ?_
    refine AW.icmp_gt (tgt := 63) dX4_read_31 (by decide) (fun c1 => ?_) (fun c1 => ?_)
    · replace h := hT h c1
      refine AW.sub (lv1 := [(0, rv z 4)]) [0] rfl ?_
      exact (ih _ _ _ _ h).2 rfl
    · replace h := hF h c1
      refine AW.aloadr_n 0 dX4_read_34 rfl ?_
      refine AW.getI af_X4_32_4 sr_4_7 dX4_read_35 ?_
      refine AW.if_ne (tgt := 63) dX4_read_38 (by decide) (fun c2 => ?_) (fun c2 => ?_)
      · replace h := hF h c2
        refine AW.sub (lv1 := [(0, rv z 4)]) [0] rfl ?_
        exact (ih _ _ _ _ h).2 rfl
      · replace h := hT h c2
        refine AW.aloadr_n 0 dX4_read_41 rfl ?_
        refine AW.getR af_X4_15_4 sr_4_3 dX4_read_42 ?_
        refine AW.aloadr_n 0 dX4_read_45 rfl ?_
        refine AW.getI af_X4_35_4 sr_4_6 dX4_read_46 ?_
        obtain ⟨k3, h⟩ := hK h
        refine AW.iald kc_42 sk_42 k3 dX4_read_49 ?_
        refine AW.if_eq (tgt := 63) dX4_read_50 (by decide) (fun c4 => ?_) (fun c4 => ?_)
        · replace h := hT h c4
          refine AW.sub (lv1 := [(0, rv z 4)]) [0] rfl ?_
          exact (ih _ _ _ _ h).2 rfl
        · replace h := hF h c4
          refine AW.aloadr_n 0 dX4_read_53 rfl ?_
          obtain ⟨r5, e6, h⟩ := hC h
          refine AW.callVv (As := []) (st := []) (Parser_readLine_ok e6) cq_X4_46 cr_4_X4_readLine (Nat.le_trans (by decide) hdd) rfl dX4_read_54 rfl (Nat.le_of_ble_eq_true rfl) ?_
          refine AW.iinc (lv1 := [(1, iv (x1 + 1)), (0, rv z 4)]) 1 dX4_read_57 rfl (by decide) rfl ?_
          refine AW.goto (tgt := 28) dX4_read_60 (by decide) ?_
          refine AW.sub (lv1 := [(0, rv z 4), (1, iv (x1 + 1))]) [1, 0] rfl ?_
          exact (ih _ _ _ _ h).1 rfl
  · subst h9
    replace h := hF h (by decide)
    replace h := hT h rfl
    refine AW.aloadr_n 0 dX4_read_63 rfl ?_
    refine AW.iconst dX4_read_64 ?_
    obtain ⟨g1, e2, h⟩ := hBe h
    refine AW.putI ap_X4_29_4 sr_4_2 dX4_read_65 e2 ?_
    refine AW.aloadr_n 0 dX4_read_68 rfl ?_
    refine AW.getI af_X4_32_4 sr_4_7 dX4_read_69 ?_
    obtain ⟨t3, e4, h⟩ := hBe h
    refine AW.join (tgt := 86) (lv1 := [(0, rv z 4)]) (st1 := [iv t3]) (g1 := g1) ?_ (fun J72 => ?_)
    · exact AW.iret1 rfl dX4_read_86 h rfl
    refine AW.if_ne (tgt := 85) dX4_read_72 (by decide) (fun c5 => ?_) (fun c5 => ?_)
    · refine AW.iconst dX4_read_85 ?_
      exact AW.val (e4.trans (if_neg c5)) J72
    · refine AW.aloadr_n 0 dX4_read_75 rfl ?_
      refine AW.getR af_X4_25_4 sr_4_0 dX4_read_76 ?_
      refine AW.getI af_X4_49_3 sr_3_3 dX4_read_79 ?_
      refine AW.goto (tgt := 86) dX4_read_82 (by decide) ?_
      exact AW.val (e4.trans (if_pos c5)) J72
theorem Parser_read_ok {z : AZ} {g : AG} {r : Int × AG} (h : Parser_read g = some r) : AMf z yX4_read cX4_read 2 (some .int) 42 [rv z 4] g r := by
  intro d hdd
  refine AM.of (by decide +kernel) (Nat.le_of_ble_eq_true rfl) ?_
  show AW z (RX4, cX4_read, 2, (some .int)) d (QD (some .int) r) 0 [(0, rv z 4)] [] g
  unfold Parser_read at h
  refine AW.aloadr_n 0 dX4_read_0 rfl ?_
  refine AW.iconst dX4_read_1 ?_
  obtain ⟨g1, e2, h⟩ := hBe h
  refine AW.putI ap_X4_32_4 sr_4_7 dX4_read_2 e2 ?_
  refine AW.aloadr_n 0 dX4_read_5 rfl ?_
  refine AW.iconst dX4_read_6 ?_
  obtain ⟨g3, e4, h⟩ := hBe h
  refine AW.putI ap_X4_21_4 sr_4_8 dX4_read_7 e4 ?_
  refine AW.aloadr_n 0 dX4_read_10 rfl ?_
  refine AW.iconst dX4_read_11 ?_
  obtain ⟨g5, e6, h⟩ := hBe h
  refine AW.putI ap_X4_35_4 sr_4_6 dX4_read_12 e6 ?_
  refine AW.aloadr_n 0 dX4_read_15 rfl ?_
  refine AW.getR af_X4_25_4 sr_4_0 dX4_read_16 ?_
  obtain ⟨r7, e8, h⟩ := hC h
  refine AW.callVv (As := []) (st := []) (Rules_clear_ok e8) cq_X4_38 cr_3_X6_clear (Nat.le_trans (by decide) hdd) rfl dX4_read_19 rfl (Nat.le_of_ble_eq_true rfl) ?_
  refine AW.aloadr_n 0 dX4_read_22 rfl ?_
  obtain ⟨r9, e10, h⟩ := hC h
  refine AW.callVv (As := []) (st := []) (Parser_scan_ok e10) cq_X4_43 cr_4_X4_scan (Nat.le_trans (by decide) hdd) rfl dX4_read_23 rfl (Nat.le_of_ble_eq_true rfl) ?_
  refine AW.iconst dX4_read_26 ?_
  refine AW.istore_n (lv1 := [(1, iv 0), (0, rv z 4)]) dX4_read_27 (by decide) rfl ?_
  refine AW.sub (lv1 := [(0, rv z 4), (1, iv 0)]) [1, 0] rfl ?_
  exact (Parser_read_b_ok hdd _ _ _ _ h).1 rfl
theorem Rules_takeOver_ok {z : AZ} {g : AG} {r : Int × AG} (h : Rules_takeOver g = some r) : AMf z yX6_takeOver cX6_takeOver 2 none 1 [rv z 2, rv z 3] g r := by
  intro d hdd
  refine AM.of (by decide +kernel) (Nat.le_of_ble_eq_true rfl) ?_
  show AW z (RX6, cX6_takeOver, 2, none) d (QD none r) 0 [(0, rv z 2), (1, rv z 3)] [] g
  unfold Rules_takeOver at h
  refine AW.aloadr_n 0 dX6_takeOver_0 rfl ?_
  refine AW.aloadr_n 1 dX6_takeOver_1 rfl ?_
  refine AW.getI af_X6_48_3 sr_3_2 dX6_takeOver_2 ?_
  obtain ⟨g1, e2, h⟩ := hBe h
  refine AW.putI ap_X6_48_2 sr_2_2 dX6_takeOver_5 e2 ?_
  refine AW.aloadr_n 0 dX6_takeOver_8 rfl ?_
  refine AW.aloadr_n 1 dX6_takeOver_9 rfl ?_
  refine AW.getI af_X6_52_3 sr_3_3 dX6_takeOver_10 ?_
  obtain ⟨g3, e4, h⟩ := hBe h
  refine AW.putI ap_X6_52_2 sr_2_3 dX6_takeOver_13 e4 ?_
  refine AW.aloadr_n 0 dX6_takeOver_16 rfl ?_
  refine AW.aloadr_n 1 dX6_takeOver_17 rfl ?_
  refine AW.getI af_X6_55_3 sr_3_10 dX6_takeOver_18 ?_
  obtain ⟨g5, e6, h⟩ := hBe h
  refine AW.putI ap_X6_55_2 sr_2_10 dX6_takeOver_21 e6 ?_
  refine AW.aloadr_n 1 dX6_takeOver_24 rfl ?_
  refine AW.getR af_X6_9_3 sr_3_0 dX6_takeOver_25 ?_
  refine AW.iconst dX6_takeOver_28 ?_
  refine AW.aloadr_n 0 dX6_takeOver_29 rfl ?_
  refine AW.getR af_X6_9_2 sr_2_0 dX6_takeOver_30 ?_
  refine AW.iconst dX6_takeOver_33 ?_
  refine AW.sipush dX6_takeOver_34 (by decide) (by decide) ?_
  obtain ⟨g8, e9, h⟩ := hBe h
  refine AW.copyi cc_X6_64 ac_n ac_s ac_i kc_29 sk_29 kc_17 sk_17 (by decide) (Nat.le_of_ble_eq_true rfl) (Nat.le_trans (by decide) hdd) dX6_takeOver_37 e9 ?_
  refine AW.aloadr_n 1 dX6_takeOver_40 rfl ?_
  refine AW.getR af_X6_15_3 sr_3_1 dX6_takeOver_41 ?_
  refine AW.iconst dX6_takeOver_44 ?_
  refine AW.aloadr_n 0 dX6_takeOver_45 rfl ?_
  refine AW.getR af_X6_15_2 sr_2_1 dX6_takeOver_46 ?_
  refine AW.iconst dX6_takeOver_49 ?_
  refine AW.sipush dX6_takeOver_50 (by decide) (by decide) ?_
  obtain ⟨g11, e12, h⟩ := hBe h
  refine AW.copyi cc_X6_64 ac_n ac_s ac_i kc_30 sk_30 kc_18 sk_18 (by decide) (Nat.le_of_ble_eq_true rfl) (Nat.le_trans (by decide) hdd) dX6_takeOver_53 e12 ?_
  refine AW.aloadr_n 1 dX6_takeOver_56 rfl ?_
  refine AW.getR af_X6_18_3 sr_3_4 dX6_takeOver_57 ?_
  refine AW.iconst dX6_takeOver_60 ?_
  refine AW.aloadr_n 0 dX6_takeOver_61 rfl ?_
  refine AW.getR af_X6_18_2 sr_2_4 dX6_takeOver_62 ?_
  refine AW.iconst dX6_takeOver_65 ?_
  refine AW.bipush dX6_takeOver_66 (by decide) (by decide) ?_
  obtain ⟨g14, e15, h⟩ := hBe h
  refine AW.copyi cc_X6_64 ac_n ac_s ac_i kc_31 sk_31 kc_19 sk_19 (by decide) (Nat.le_of_ble_eq_true rfl) (Nat.le_trans (by decide) hdd) dX6_takeOver_68 e15 ?_
  refine AW.aloadr_n 1 dX6_takeOver_71 rfl ?_
  refine AW.getR af_X6_21_3 sr_3_5 dX6_takeOver_72 ?_
  refine AW.iconst dX6_takeOver_75 ?_
  refine AW.aloadr_n 0 dX6_takeOver_76 rfl ?_
  refine AW.getR af_X6_21_2 sr_2_5 dX6_takeOver_77 ?_
  refine AW.iconst dX6_takeOver_80 ?_
  refine AW.bipush dX6_takeOver_81 (by decide) (by decide) ?_
  obtain ⟨g17, e18, h⟩ := hBe h
  refine AW.copyi cc_X6_64 ac_n ac_s ac_i kc_32 sk_32 kc_20 sk_20 (by decide) (Nat.le_of_ble_eq_true rfl) (Nat.le_trans (by decide) hdd) dX6_takeOver_83 e18 ?_
  refine AW.aloadr_n 1 dX6_takeOver_86 rfl ?_
  refine AW.getR af_X6_24_3 sr_3_6 dX6_takeOver_87 ?_
  refine AW.iconst dX6_takeOver_90 ?_
  refine AW.aloadr_n 0 dX6_takeOver_91 rfl ?_
  refine AW.getR af_X6_24_2 sr_2_6 dX6_takeOver_92 ?_
  refine AW.iconst dX6_takeOver_95 ?_
  refine AW.bipush dX6_takeOver_96 (by decide) (by decide) ?_
  obtain ⟨g20, e21, h⟩ := hBe h
  refine AW.copyi cc_X6_64 ac_n ac_s ac_i kc_33 sk_33 kc_21 sk_21 (by decide) (Nat.le_of_ble_eq_true rfl) (Nat.le_trans (by decide) hdd) dX6_takeOver_98 e21 ?_
  refine AW.aloadr_n 1 dX6_takeOver_101 rfl ?_
  refine AW.getR af_X6_27_3 sr_3_7 dX6_takeOver_102 ?_
  refine AW.iconst dX6_takeOver_105 ?_
  refine AW.aloadr_n 0 dX6_takeOver_106 rfl ?_
  refine AW.getR af_X6_27_2 sr_2_7 dX6_takeOver_107 ?_
  refine AW.iconst dX6_takeOver_110 ?_
  refine AW.bipush dX6_takeOver_111 (by decide) (by decide) ?_
  obtain ⟨g23, e24, h⟩ := hBe h
  refine AW.copyi cc_X6_64 ac_n ac_s ac_i kc_34 sk_34 kc_22 sk_22 (by decide) (Nat.le_of_ble_eq_true rfl) (Nat.le_trans (by decide) hdd) dX6_takeOver_113 e24 ?_
  refine AW.aloadr_n 1 dX6_takeOver_116 rfl ?_
  refine AW.getR af_X6_30_3 sr_3_8 dX6_takeOver_117 ?_
  refine AW.iconst dX6_takeOver_120 ?_
  refine AW.aloadr_n 0 dX6_takeOver_121 rfl ?_
  refine AW.getR af_X6_30_2 sr_2_8 dX6_takeOver_122 ?_
  refine AW.iconst dX6_takeOver_125 ?_
  refine AW.bipush dX6_takeOver_126 (by decide) (by decide) ?_
  obtain ⟨g26, e27, h⟩ := hBe h
  refine AW.copyi cc_X6_64 ac_n ac_s ac_i kc_35 sk_35 kc_23 sk_23 (by decide) (Nat.le_of_ble_eq_true rfl) (Nat.le_trans (by decide) hdd) dX6_takeOver_128 e27 ?_
  refine AW.aloadr_n 1 dX6_takeOver_131 rfl ?_
  refine AW.getR af_X6_33_3 sr_3_9 dX6_takeOver_132 ?_
  refine AW.iconst dX6_takeOver_135 ?_
  refine AW.aloadr_n 0 dX6_takeOver_136 rfl ?_
  refine AW.getR af_X6_33_2 sr_2_9 dX6_takeOver_137 ?_
  refine AW.iconst dX6_takeOver_140 ?_
  refine AW.bipush dX6_takeOver_141 (by decide) (by decide) ?_
  obtain ⟨g29, e30, h⟩ := hBe h
  refine AW.copyi cc_X6_64 ac_n ac_s ac_i kc_36 sk_36 kc_24 sk_24 (by decide) (Nat.le_of_ble_eq_true rfl) (Nat.le_trans (by decide) hdd) dX6_takeOver_143 e30 ?_
  refine AW.aloadr_n 1 dX6_takeOver_146 rfl ?_
  refine AW.getR af_X6_36_3 sr_3_11 dX6_takeOver_147 ?_
  refine AW.iconst dX6_takeOver_150 ?_
  refine AW.aloadr_n 0 dX6_takeOver_151 rfl ?_
  refine AW.getR af_X6_36_2 sr_2_11 dX6_takeOver_152 ?_
  refine AW.iconst dX6_takeOver_155 ?_
  refine AW.bipush dX6_takeOver_156 (by decide) (by decide) ?_
  obtain ⟨g32, e33, h⟩ := hBe h
  refine AW.copyi cc_X6_64 ac_n ac_s ac_i kc_37 sk_37 kc_25 sk_25 (by decide) (Nat.le_of_ble_eq_true rfl) (Nat.le_trans (by decide) hdd) dX6_takeOver_158 e33 ?_
  refine AW.aloadr_n 1 dX6_takeOver_161 rfl ?_
  refine AW.getR af_X6_39_3 sr_3_12 dX6_takeOver_162 ?_
  refine AW.iconst dX6_takeOver_165 ?_
  refine AW.aloadr_n 0 dX6_takeOver_166 rfl ?_
  refine AW.getR af_X6_39_2 sr_2_12 dX6_takeOver_167 ?_
  refine AW.iconst dX6_takeOver_170 ?_
  refine AW.bipush dX6_takeOver_171 (by decide) (by decide) ?_
  obtain ⟨g35, e36, h⟩ := hBe h
  refine AW.copyi cc_X6_64 ac_n ac_s ac_i kc_38 sk_38 kc_26 sk_26 (by decide) (Nat.le_of_ble_eq_true rfl) (Nat.le_trans (by decide) hdd) dX6_takeOver_173 e36 ?_
  exact AW.vret1 rfl dX6_takeOver_176 h rfl
theorem X_rules_ok {z : AZ} {g : AG} {r : Int × AG} (h : X_rules g = some r) : AMf z yX11_rules cX11_rules 2 (some .int) 43 [rv z 0] g r := by
  intro d hdd
  refine AM.of (by decide +kernel) (Nat.le_of_ble_eq_true rfl) ?_
  show AW z (RX11, cX11_rules, 2, (some .int)) d (QD (some .int) r) 0 [(0, rv z 0)] [] g
  unfold X_rules at h
  refine AW.aloadr_n 0 dX11_rules_0 rfl ?_
  refine AW.getR af_X11_31_0 sr_0_3 dX11_rules_1 ?_
  obtain ⟨r1, e2, h⟩ := hC h
  refine AW.callVi (As := []) (st := []) (Parser_read_ok e2) cq_X11_157 cr_4_X4_read (Nat.le_trans (by decide) hdd) rfl dX11_rules_4 rfl (Nat.le_of_ble_eq_true rfl) ?_
  refine AW.istore_n (lv1 := [(1, iv r1.1), (0, rv z 0)]) dX11_rules_7 (by decide) rfl ?_
  refine AW.iload_n 0 dX11_rules_8 rfl ?_
  refine AW.iconst dX11_rules_9 ?_
  refine AW.icmp_ne (tgt := 15) dX11_rules_10 (by decide) (fun c3 => ?_) (fun c3 => ?_)
  · replace h := hF h c3
    refine AW.aloadr_n 1 dX11_rules_15 rfl ?_
    refine AW.getR af_X11_19_0 sr_0_1 dX11_rules_16 ?_
    refine AW.aloadr_n 1 dX11_rules_19 rfl ?_
    refine AW.getR af_X11_23_0 sr_0_2 dX11_rules_20 ?_
    obtain ⟨r4, e5, h⟩ := hC h
    refine AW.callVv (As := [rv z 3]) (st := []) (Rules_takeOver_ok e5) cq_X11_161 cr_2_X6_takeOver (Nat.le_trans (by decide) hdd) rfl dX11_rules_23 rfl (Nat.le_of_ble_eq_true rfl) ?_
    refine AW.aloadr_n 1 dX11_rules_26 rfl ?_
    refine AW.getR af_X11_40_0 sr_0_4 dX11_rules_27 ?_
    obtain ⟨r6, e7, h⟩ := hC h
    refine AW.callVv (As := []) (st := []) (Voyage_learnHours_ok e7) cq_X11_130 cr_5_X9_learnHours (Nat.le_trans (by decide) hdd) rfl dX11_rules_30 rfl (Nat.le_of_ble_eq_true rfl) ?_
    refine AW.iload_n 0 dX11_rules_33 rfl ?_
    exact AW.iret1 rfl dX11_rules_34 h rfl
  · replace h := hT h c3
    refine AW.iconst dX11_rules_13 ?_
    exact AW.iret1 rfl dX11_rules_14 h rfl
theorem X_fault_ok {z : AZ} {x1 : Int} {g : AG} : AMf z yX11_fault cX11_fault 2 (some .int) 0 [rv z 0, iv x1] g ((X_fault x1 g), g) := by
  intro d hdd
  refine AM.of (by decide +kernel) (Nat.le_of_ble_eq_true rfl) ?_
  show AW z (RX11, cX11_fault, 2, (some .int)) d (QD (some .int) ((X_fault x1 g), g)) 0 [(0, rv z 0), (1, iv x1)] [] g
  refine AW.iload_n 1 dX11_fault_0 rfl ?_
  refine AW.if_ne (tgt := 12) dX11_fault_1 (by decide) (fun c1 => ?_) (fun c1 => ?_)
  · refine AW.iload_n 1 dX11_fault_12 rfl ?_
    refine AW.iconst dX11_fault_13 ?_
    refine AW.join (tgt := 28) (lv1 := [(0, rv z 0), (1, iv x1)]) (st1 := [iv (if nw x1 = 1 then (g 4 8) else (-1))]) (g1 := g) ?_ (fun J14 => ?_)
    · exact AW.iret rfl dX11_fault_28 ⟨congrArg (fun v => some (iv v)) (show X_fault x1 g = (if nw x1 = 1 then (g 4 8) else (-1)) from ((if_neg c1))).symm, rfl⟩
    refine AW.icmp_ne (tgt := 27) dX11_fault_14 (by decide) (fun c2 => ?_) (fun c2 => ?_)
    · refine AW.iconst dX11_fault_27 ?_
      exact AW.val (if_neg c2) J14
    · refine AW.aloadr_n 0 dX11_fault_17 rfl ?_
      refine AW.getR af_X11_31_0 sr_0_3 dX11_fault_18 ?_
      refine AW.getI af_X11_167_4 sr_4_8 dX11_fault_21 ?_
      refine AW.goto (tgt := 28) dX11_fault_24 (by decide) ?_
      exact AW.val (if_pos c2) J14
  · refine AW.aloadr_n 0 dX11_fault_4 rfl ?_
    refine AW.getR af_X11_31_0 sr_0_3 dX11_fault_5 ?_
    refine AW.getI af_X11_164_4 sr_4_7 dX11_fault_8 ?_
    exact AW.iret rfl dX11_fault_11 ⟨congrArg (fun v => some (iv v)) (show X_fault x1 g = (g 4 7) from ((if_pos c1))).symm, rfl⟩
theorem X_open_ok {z : AZ} {x1 : Int} {x2 : Int} {g : AG} {r : Int × AG} (h : X_open x1 x2 g = some r) : AMf z yX11_open cX11_open 3 (some .int) 1 [rv z 0, iv x1, iv x2] g r := by
  intro d hdd
  refine AM.of (by decide +kernel) (Nat.le_of_ble_eq_true rfl) ?_
  show AW z (RX11, cX11_open, 3, (some .int)) d (QD (some .int) r) 0 [(0, rv z 0), (1, iv x1), (2, iv x2)] [] g
  unfold X_open at h
  refine AW.iload_n 1 dX11_open_0 rfl ?_
  refine AW.iconst dX11_open_1 ?_
  refine AW.bipush dX11_open_2 (by decide) (by decide) ?_
  refine AW.callSi (As := [iv x1, iv 0, iv 13]) (st := []) X_within_ok cq_X11_99 st_X11_within (Nat.le_trans (by decide) hdd) rfl dX11_open_4 rfl (Nat.le_of_ble_eq_true rfl) ?_
  refine AW.if_ne (tgt := 12) dX11_open_7 (by decide) (fun c1 => ?_) (fun c1 => ?_)
  · replace h := hF h c1
    refine AW.iload_n 2 dX11_open_12 rfl ?_
    refine AW.if_ne (tgt := 26) dX11_open_13 (by decide) (fun c2 => ?_) (fun c2 => ?_)
    · replace h := hF h c2
      refine AW.iload_n 2 dX11_open_26 rfl ?_
      refine AW.iconst dX11_open_27 ?_
      obtain ⟨r5, e6, h⟩ := hC h
      refine AW.join (tgt := 44) (lv1 := []) (st1 := [iv r5.1]) (g1 := r5.2) ?_ (fun J28 => ?_)
      · exact AW.iret1 rfl dX11_open_44 h rfl
      replace h := e6
      refine AW.icmp_ne (tgt := 43) dX11_open_28 (by decide) (fun c3 => ?_) (fun c3 => ?_)
      · replace h := hF h c3
        refine AW.iconst dX11_open_43 ?_
        refine AW.sub (lv1 := []) [] rfl ?_
        cases h
        exact J28
      · replace h := hT h c3
        refine AW.aloadr_n 0 dX11_open_31 rfl ?_
        refine AW.getR af_X11_40_0 sr_0_4 dX11_open_32 ?_
        refine AW.getR af_X11_173_5 sr_5_3 dX11_open_35 ?_
        refine AW.iload_n 1 dX11_open_38 rfl ?_
        obtain ⟨k4, h⟩ := hK h
        refine AW.iald kc_45 sk_45 k4 dX11_open_39 ?_
        refine AW.goto (tgt := 44) dX11_open_40 (by decide) ?_
        refine AW.sub (lv1 := []) [] rfl ?_
        cases h
        exact J28
    · replace h := hT h c2
      refine AW.aloadr_n 0 dX11_open_16 rfl ?_
      refine AW.getR af_X11_40_0 sr_0_4 dX11_open_17 ?_
      refine AW.getR af_X11_170_5 sr_5_2 dX11_open_20 ?_
      refine AW.iload_n 1 dX11_open_23 rfl ?_
      obtain ⟨k7, h⟩ := hK h
      refine AW.iald kc_44 sk_44 k7 dX11_open_24 ?_
      exact AW.iret1 rfl dX11_open_25 h rfl
  · replace h := hT h c1
    refine AW.iconst dX11_open_10 ?_
    exact AW.iret1 rfl dX11_open_11 h rfl
theorem X_isBoat_ok {z : AZ} {x1 : Int} {g : AG} : AMf z yX11_isBoat cX11_isBoat 2 (some .boolean) 1 [rv z 0, iv x1] g ((X_isBoat x1 g), g) := by
  intro d hdd
  refine AM.of (by decide +kernel) (Nat.le_of_ble_eq_true rfl) ?_
  show AW z (RX11, cX11_isBoat, 2, (some .boolean)) d (QD (some .boolean) ((X_isBoat x1 g), g)) 0 [(0, rv z 0), (1, iv x1)] [] g
  refine AW.iload_n 1 dX11_isBoat_0 rfl ?_
  refine AW.iconst dX11_isBoat_1 ?_
  refine AW.aloadr_n 0 dX11_isBoat_2 rfl ?_
  refine AW.getR af_X11_49_0 sr_0_5 dX11_isBoat_3 ?_
  refine AW.getI af_X11_103_6 sr_6_7 dX11_isBoat_6 ?_
  refine AW.iconst dX11_isBoat_9 ?_
  refine AW.isub dX11_isBoat_10 ?_
  refine AW.callSi (As := [iv x1, iv 0, iv ((g 6 7) - 1)]) (st := []) X_within_ok cq_X11_99 st_X11_within (Nat.le_trans (by decide) hdd) rfl dX11_isBoat_11 rfl (Nat.le_of_ble_eq_true rfl) ?_
  exact AW.zret rfl X_within_01 dX11_isBoat_14 ⟨congrArg (fun v => some (iv v)) (show X_isBoat x1 g = (X_within x1 0 ((g 6 7) - 1)) from rfl).symm, rfl⟩
theorem X_isTime_ok {z : AZ} {x0 : Int} {g : AG} : AMf z yX11_isTime cX11_isTime 1 (some .boolean) 1 [iv x0] g ((X_isTime x0), g) := by
  intro d hdd
  refine AM.of (by decide +kernel) (Nat.le_of_ble_eq_true rfl) ?_
  show AW z (RX11, cX11_isTime, 1, (some .boolean)) d (QD (some .boolean) ((X_isTime x0), g)) 0 [(0, iv x0)] [] g
  refine AW.iload_n 0 dX11_isTime_0 rfl ?_
  refine AW.iconst dX11_isTime_1 ?_
  refine AW.sipush dX11_isTime_2 (by decide) (by decide) ?_
  refine AW.callSi (As := [iv x0, iv 0, iv 20159]) (st := []) X_within_ok cq_X11_99 st_X11_within (Nat.le_trans (by decide) hdd) rfl dX11_isTime_5 rfl (Nat.le_of_ble_eq_true rfl) ?_
  exact AW.zret rfl X_within_01 dX11_isTime_8 ⟨congrArg (fun v => some (iv v)) (show X_isTime x0  = (X_within x0 0 20159) from rfl).symm, rfl⟩
theorem X_isWay_ok {z : AZ} {x1 : Int} {x2 : Int} {x3 : Int} {x4 : Int} {g : AG} : AMf z yX11_isWay cX11_isWay 5 (some .boolean) 2 [rv z 0, iv x1, iv x2, iv x3, iv x4] g ((X_isWay x1 x2 x3 x4 g), g) := by
  intro d hdd
  refine AM.of (by decide +kernel) (Nat.le_of_ble_eq_true rfl) ?_
  show AW z (RX11, cX11_isWay, 5, (some .boolean)) d (QD (some .boolean) ((X_isWay x1 x2 x3 x4 g), g)) 0 [(0, rv z 0), (1, iv x1), (2, iv x2), (3, iv x3), (4, iv x4)] [] g
  refine AW.aloadr_n 0 dX11_isWay_0 rfl ?_
  refine AW.iload_n 1 dX11_isWay_1 rfl ?_
  refine AW.callVi (As := [iv x1]) (st := []) X_isBoat_ok cq_X11_107 cr_0_X11_isBoat (Nat.le_trans (by decide) hdd) rfl dX11_isWay_2 rfl (Nat.le_of_ble_eq_true rfl) ?_
  refine AW.join (tgt := 35) (lv1 := [(0, rv z 0), (1, iv x1), (2, iv x2), (3, iv x3), (4, iv x4)]) (st1 := [iv (if nw (X_isBoat x1 g) = 0 then 0 else (if nw (X_isPoint x2) = 0 then 0 else (if nw (X_isPoint x3) = 0 then 0 else (if nw (X_isTime x4) = 0 then 0 else 1))))]) (g1 := g) ?_ (fun J5 => ?_)
  · exact AW.zret rfl (by (repeat' split) <;> first | exact Or.inl rfl | exact Or.inr rfl) dX11_isWay_35 ⟨congrArg (fun v => some (iv v)) (show X_isWay x1 x2 x3 x4 g = (if nw (X_isBoat x1 g) = 0 then 0 else (if nw (X_isPoint x2) = 0 then 0 else (if nw (X_isPoint x3) = 0 then 0 else (if nw (X_isTime x4) = 0 then 0 else 1)))) from rfl).symm, rfl⟩
  refine AW.if_eq (tgt := 34) dX11_isWay_5 (by decide) (fun c1 => ?_) (fun c1 => ?_)
  · refine AW.iconst dX11_isWay_34 ?_
    exact AW.val (if_pos c1) J5
  · refine AW.iload_n 2 dX11_isWay_8 rfl ?_
    refine AW.callSi (As := [iv x2]) (st := []) X_isPoint_ok cq_X11_111 st_X11_isPoint (Nat.le_trans (by decide) hdd) rfl dX11_isWay_9 rfl (Nat.le_of_ble_eq_true rfl) ?_
    refine AW.if_eq (tgt := 34) dX11_isWay_12 (by decide) (fun c2 => ?_) (fun c2 => ?_)
    · refine AW.iconst dX11_isWay_34 ?_
      exact AW.val ((if_neg c1).trans (if_pos c2)) J5
    · refine AW.iload_n 3 dX11_isWay_15 rfl ?_
      refine AW.callSi (As := [iv x3]) (st := []) X_isPoint_ok cq_X11_111 st_X11_isPoint (Nat.le_trans (by decide) hdd) rfl dX11_isWay_16 rfl (Nat.le_of_ble_eq_true rfl) ?_
      refine AW.if_eq (tgt := 34) dX11_isWay_19 (by decide) (fun c3 => ?_) (fun c3 => ?_)
      · refine AW.iconst dX11_isWay_34 ?_
        exact AW.val ((if_neg c1).trans ((if_neg c2).trans (if_pos c3))) J5
      · refine AW.iload 4 dX11_isWay_22 rfl ?_
        refine AW.callSi (As := [iv x4]) (st := []) X_isTime_ok cq_X11_114 st_X11_isTime (Nat.le_trans (by decide) hdd) rfl dX11_isWay_24 rfl (Nat.le_of_ble_eq_true rfl) ?_
        refine AW.if_eq (tgt := 34) dX11_isWay_27 (by decide) (fun c4 => ?_) (fun c4 => ?_)
        · refine AW.iconst dX11_isWay_34 ?_
          exact AW.val ((if_neg c1).trans ((if_neg c2).trans ((if_neg c3).trans (if_pos c4)))) J5
        · refine AW.iconst dX11_isWay_30 ?_
          refine AW.goto (tgt := 35) dX11_isWay_31 (by decide) ?_
          exact AW.val ((if_neg c1).trans ((if_neg c2).trans ((if_neg c3).trans (if_neg c4)))) J5
theorem Voyage_setOut_ok {z : AZ} {x1 : Int} {x2 : Int} {g : AG} {r : Int × AG} (h : Voyage_setOut x1 x2 g = some r) : AMf z yX9_setOut cX9_setOut 3 none 1 [rv z 5, iv x1, iv x2] g r := by
  intro d hdd
  refine AM.of (by decide +kernel) (Nat.le_of_ble_eq_true rfl) ?_
  show AW z (RX9, cX9_setOut, 3, none) d (QD none r) 0 [(0, rv z 5), (1, iv x1), (2, iv x2)] [] g
  unfold Voyage_setOut at h
  refine AW.aloadr_n 0 dX9_setOut_0 rfl ?_
  refine AW.bipush dX9_setOut_1 (by decide) (by decide) ?_
  refine AW.bipush dX9_setOut_3 (by decide) (by decide) ?_
  refine AW.iload_n 1 dX9_setOut_5 rfl ?_
  refine AW.isub dX9_setOut_6 ?_
  refine AW.bipush dX9_setOut_7 (by decide) (by decide) ?_
  refine AW.idiv dX9_setOut_9 (by decide) ?_
  refine AW.iadd dX9_setOut_10 ?_
  obtain ⟨g1, e2, h⟩ := hBe h
  refine AW.putI ap_X9_60_5 sr_5_6 dX9_setOut_11 e2 ?_
  refine AW.aloadr_n 0 dX9_setOut_14 rfl ?_
  refine AW.iload_n 2 dX9_setOut_15 rfl ?_
  obtain ⟨g3, e4, h⟩ := hBe h
  refine AW.putZ ap_X9_63_5 sr_5_7 k3 dX9_setOut_16 e4 ?_
  refine AW.aloadr_n 0 dX9_setOut_19 rfl ?_
  refine AW.getR af_X9_21_5 sr_5_5 dX9_setOut_20 ?_
  refine AW.iconst dX9_setOut_23 ?_
  obtain ⟨g5, e6, h⟩ := hBe h
  refine AW.callSv (st := []) (fill_ok kc_47 sk_47 (by decide)) cf_X9_32 st_fill (Nat.le_trans (by decide) hdd) rfl dX9_setOut_24 rfl (Nat.le_of_ble_eq_true rfl) ?_
  rw [← e6]
  exact AW.vret1 rfl dX9_setOut_27 h rfl
theorem Rules_hasTunnel_2_ok {z : AZ} {x1 : Int} {g : AG} : AMf z yX6_hasTunnel cX6_hasTunnel 2 (some .boolean) 0 [rv z 2, iv x1] g ((Rules_hasTunnel_2 x1 g), g) := by
  intro d hdd
  refine AM.of (by decide +kernel) (Nat.le_of_ble_eq_true rfl) ?_
  show AW z (RX6, cX6_hasTunnel, 2, (some .boolean)) d (QD (some .boolean) ((Rules_hasTunnel_2 x1 g), g)) 0 [(0, rv z 2), (1, iv x1)] [] g
  refine AW.aloadr_n 0 dX6_hasTunnel_0 rfl ?_
  refine AW.getI af_X6_55_2 sr_2_10 dX6_hasTunnel_1 ?_
  refine AW.iload_n 1 dX6_hasTunnel_4 rfl ?_
  refine AW.ishr dX6_hasTunnel_5 ?_
  refine AW.iconst dX6_hasTunnel_6 ?_
  refine AW.iand dX6_hasTunnel_7 ?_
  refine AW.join (tgt := 16) (lv1 := [(0, rv z 2), (1, iv x1)]) (st1 := [iv (if nw (andI (shrI (g 2 10) x1) 1) = 0 then 0 else 1)]) (g1 := g) ?_ (fun J8 => ?_)
  · exact AW.zret rfl (by (repeat' split) <;> first | exact Or.inl rfl | exact Or.inr rfl) dX6_hasTunnel_16 ⟨congrArg (fun v => some (iv v)) (show Rules_hasTunnel_2 x1 g = (if nw (andI (shrI (g 2 10) x1) 1) = 0 then 0 else 1) from rfl).symm, rfl⟩
  refine AW.if_eq (tgt := 15) dX6_hasTunnel_8 (by decide) (fun c1 => ?_) (fun c1 => ?_)
  · refine AW.iconst dX6_hasTunnel_15 ?_
    exact AW.val (if_pos c1) J8
  · refine AW.iconst dX6_hasTunnel_11 ?_
    refine AW.goto (tgt := 16) dX6_hasTunnel_12 (by decide) ?_
    exact AW.val (if_neg c1) J8
theorem Rules_isTunnel_ok {z : AZ} {x1 : Int} {g : AG} : AMf z yX6_isTunnel cX6_isTunnel 2 (some .boolean) 1 [rv z 2, iv x1] g ((Rules_isTunnel x1 g), g) := by
  intro d hdd
  refine AM.of (by decide +kernel) (Nat.le_of_ble_eq_true rfl) ?_
  show AW z (RX6, cX6_isTunnel, 2, (some .boolean)) d (QD (some .boolean) ((Rules_isTunnel x1 g), g)) 0 [(0, rv z 2), (1, iv x1)] [] g
  refine AW.aloadr_n 0 dX6_isTunnel_0 rfl ?_
  refine AW.iload_n 1 dX6_isTunnel_1 rfl ?_
  refine AW.callVi (As := [iv x1]) (st := []) Rules_hasTunnel_2_ok cq_X6_70 cr_2_X6_hasTunnel (Nat.le_trans (by decide) hdd) rfl dX6_isTunnel_2 rfl (Nat.le_of_ble_eq_true rfl) ?_
  refine AW.join (tgt := 24) (lv1 := [(0, rv z 2), (1, iv x1)]) (st1 := [iv (if nw (Rules_hasTunnel_2 x1 g) = 0 then (if nw (Rules_hasTunnel_2 (15 + x1) g) = 0 then 0 else 1) else 1)]) (g1 := g) ?_ (fun J5 => ?_)
  · exact AW.zret rfl (by (repeat' split) <;> first | exact Or.inl rfl | exact Or.inr rfl) dX6_isTunnel_24 ⟨congrArg (fun v => some (iv v)) (show Rules_isTunnel x1 g = (if nw (Rules_hasTunnel_2 x1 g) = 0 then (if nw (Rules_hasTunnel_2 (15 + x1) g) = 0 then 0 else 1) else 1) from rfl).symm, rfl⟩
  refine AW.if_ne (tgt := 19) dX6_isTunnel_5 (by decide) (fun c1 => ?_) (fun c1 => ?_)
  · refine AW.iconst dX6_isTunnel_19 ?_
    refine AW.goto (tgt := 24) dX6_isTunnel_20 (by decide) ?_
    exact AW.val (if_neg c1) J5
  · refine AW.aloadr_n 0 dX6_isTunnel_8 rfl ?_
    refine AW.bipush dX6_isTunnel_9 (by decide) (by decide) ?_
    refine AW.iload_n 1 dX6_isTunnel_11 rfl ?_
    refine AW.iadd dX6_isTunnel_12 ?_
    refine AW.callVi (As := [iv (15 + x1)]) (st := []) Rules_hasTunnel_2_ok cq_X6_70 cr_2_X6_hasTunnel (Nat.le_trans (by decide) hdd) rfl dX6_isTunnel_13 rfl (Nat.le_of_ble_eq_true rfl) ?_
    refine AW.if_eq (tgt := 23) dX6_isTunnel_16 (by decide) (fun c2 => ?_) (fun c2 => ?_)
    · refine AW.iconst dX6_isTunnel_23 ?_
      exact AW.val ((if_pos c1).trans (if_pos c2)) J5
    · refine AW.iconst dX6_isTunnel_19 ?_
      refine AW.goto (tgt := 24) dX6_isTunnel_20 (by decide) ?_
      exact AW.val ((if_pos c1).trans (if_neg c2)) J5
theorem Voyage_firstHour_ok {z : AZ} {x1 : Int} {x2 : Int} {x3 : Int} {g : AG} {r : Int × AG} (h : Voyage_firstHour x1 x2 x3 g = some r) : AMf z yX9_firstHour cX9_firstHour 4 (some .int) 0 [rv z 5, iv x1, iv x2, iv x3] g r := by
  intro d hdd
  refine AM.of (by decide +kernel) (Nat.le_of_ble_eq_true rfl) ?_
  show AW z (RX9, cX9_firstHour, 4, (some .int)) d (QD (some .int) r) 0 [(0, rv z 5), (1, iv x1), (2, iv x2), (3, iv x3)] [] g
  unfold Voyage_firstHour at h
  refine AW.iload_n 2 dX9_firstHour_0 rfl ?_
  by_cases c1 : nw x2 = 1
  · replace h := hT h c1
    refine AW.tsIn (tgt := 28) 1 dX9_firstHour_1 c1 (by decide) (by decide) (by rfl) (by decide) ?_
    refine AW.aloadr_n 0 dX9_firstHour_28 rfl ?_
    refine AW.getR af_X9_9_5 sr_5_2 dX9_firstHour_29 ?_
    refine AW.iload_n 3 dX9_firstHour_32 rfl ?_
    obtain ⟨k2, h⟩ := hK h
    refine AW.iald kc_44 sk_44 k2 dX9_firstHour_33 ?_
    exact AW.iret1 rfl dX9_firstHour_34 h rfl
  · replace h := hF h c1
    by_cases c3 : nw x2 = 2
    · replace h := hT h c3
      refine AW.tsIn (tgt := 35) 2 dX9_firstHour_1 c3 (by decide) (by decide) (by rfl) (by decide) ?_
      refine AW.aloadr_n 0 dX9_firstHour_35 rfl ?_
      refine AW.getR af_X9_28_5 sr_5_1 dX9_firstHour_36 ?_
      refine AW.getR af_X9_118_2 sr_2_11 dX9_firstHour_39 ?_
      refine AW.iload_n 1 dX9_firstHour_42 rfl ?_
      obtain ⟨k4, h⟩ := hK h
      refine AW.iald kc_25 sk_25 k4 dX9_firstHour_43 ?_
      exact AW.iret1 rfl dX9_firstHour_44 h rfl
    · replace h := hF h c3
      by_cases c5 : nw x2 = 3
      · replace h := hT h c5
        refine AW.tsIn (tgt := 45) 3 dX9_firstHour_1 c5 (by decide) (by decide) (by rfl) (by decide) ?_
        refine AW.aloadr_n 0 dX9_firstHour_45 rfl ?_
        refine AW.getR af_X9_28_5 sr_5_1 dX9_firstHour_46 ?_
        refine AW.getR af_X9_118_2 sr_2_11 dX9_firstHour_49 ?_
        refine AW.bipush dX9_firstHour_52 (by decide) (by decide) ?_
        refine AW.iload_n 1 dX9_firstHour_54 rfl ?_
        refine AW.iadd dX9_firstHour_55 ?_
        obtain ⟨k6, h⟩ := hK h
        refine AW.iald kc_25 sk_25 k6 dX9_firstHour_56 ?_
        exact AW.iret1 rfl dX9_firstHour_57 h rfl
      · replace h := hF h c5
        refine AW.tsOut (tgt := 58) dX9_firstHour_1 (by omega) (by decide) ?_
        refine AW.iconst dX9_firstHour_58 ?_
        exact AW.iret1 rfl dX9_firstHour_59 h rfl
theorem Voyage_hourBehind_ok {z : AZ} {x1 : Int} {x2 : Int} {x3 : Int} {g : AG} {r : Int × AG} (h : Voyage_hourBehind x1 x2 x3 g = some r) : AMf z yX9_hourBehind cX9_hourBehind 4 (some .int) 0 [rv z 5, iv x1, iv x2, iv x3] g r := by
  intro d hdd
  refine AM.of (by decide +kernel) (Nat.le_of_ble_eq_true rfl) ?_
  show AW z (RX9, cX9_hourBehind, 4, (some .int)) d (QD (some .int) r) 0 [(0, rv z 5), (1, iv x1), (2, iv x2), (3, iv x3)] [] g
  unfold Voyage_hourBehind at h
  refine AW.iload_n 2 dX9_hourBehind_0 rfl ?_
  by_cases c1 : nw x2 = 1
  · replace h := hT h c1
    refine AW.tsIn (tgt := 28) 1 dX9_hourBehind_1 c1 (by decide) (by decide) (by rfl) (by decide) ?_
    refine AW.aloadr_n 0 dX9_hourBehind_28 rfl ?_
    refine AW.getR af_X9_15_5 sr_5_3 dX9_hourBehind_29 ?_
    refine AW.iload_n 3 dX9_hourBehind_32 rfl ?_
    obtain ⟨k2, h⟩ := hK h
    refine AW.iald kc_45 sk_45 k2 dX9_hourBehind_33 ?_
    exact AW.iret1 rfl dX9_hourBehind_34 h rfl
  · replace h := hF h c1
    by_cases c3 : nw x2 = 2
    · replace h := hT h c3
      refine AW.tsIn (tgt := 35) 2 dX9_hourBehind_1 c3 (by decide) (by decide) (by rfl) (by decide) ?_
      refine AW.aloadr_n 0 dX9_hourBehind_35 rfl ?_
      refine AW.getR af_X9_28_5 sr_5_1 dX9_hourBehind_36 ?_
      refine AW.getR af_X9_121_2 sr_2_12 dX9_hourBehind_39 ?_
      refine AW.iload_n 1 dX9_hourBehind_42 rfl ?_
      obtain ⟨k4, h⟩ := hK h
      refine AW.iald kc_26 sk_26 k4 dX9_hourBehind_43 ?_
      exact AW.iret1 rfl dX9_hourBehind_44 h rfl
    · replace h := hF h c3
      by_cases c5 : nw x2 = 3
      · replace h := hT h c5
        refine AW.tsIn (tgt := 45) 3 dX9_hourBehind_1 c5 (by decide) (by decide) (by rfl) (by decide) ?_
        refine AW.aloadr_n 0 dX9_hourBehind_45 rfl ?_
        refine AW.getR af_X9_28_5 sr_5_1 dX9_hourBehind_46 ?_
        refine AW.getR af_X9_121_2 sr_2_12 dX9_hourBehind_49 ?_
        refine AW.bipush dX9_hourBehind_52 (by decide) (by decide) ?_
        refine AW.iload_n 1 dX9_hourBehind_54 rfl ?_
        refine AW.iadd dX9_hourBehind_55 ?_
        obtain ⟨k6, h⟩ := hK h
        refine AW.iald kc_26 sk_26 k6 dX9_hourBehind_56 ?_
        exact AW.iret1 rfl dX9_hourBehind_57 h rfl
      · replace h := hF h c5
        refine AW.tsOut (tgt := 58) dX9_hourBehind_1 (by omega) (by decide) ?_
        refine AW.bipush dX9_hourBehind_58 (by decide) (by decide) ?_
        exact AW.iret1 rfl dX9_hourBehind_60 h rfl
theorem Voyage_isStopped_ok {z : AZ} {x1 : Int} {x2 : Int} {g : AG} {r : Int × AG} (h : Voyage_isStopped x1 x2 g = some r) : AMf z yX9_isStopped cX9_isStopped 3 (some .boolean) 0 [rv z 5, iv x1, iv x2] g r := by
  intro d hdd
  refine AM.of (by decide +kernel) (Nat.le_of_ble_eq_true rfl) ?_
  show AW z (RX9, cX9_isStopped, 3, (some .boolean)) d (QD (some .boolean) r) 0 [(0, rv z 5), (1, iv x1), (2, iv x2)] [] g
  unfold Voyage_isStopped at h
  refine AW.aloadr_n 0 dX9_isStopped_0 rfl ?_
  refine AW.getI af_X9_63_5 sr_5_7 dX9_isStopped_1 ?_
  obtain ⟨r6, e7, h⟩ := hC h
  refine AW.join (tgt := 28) (lv1 := []) (st1 := [iv r6.1]) (g1 := r6.2) ?_ (fun J4 => ?_)
  · obtain ⟨k8, h⟩ := hK h
    exact AW.zret1 rfl k8 dX9_isStopped_28 h rfl
  replace h := e7
  refine AW.if_eq (tgt := 27) dX9_isStopped_4 (by decide) (fun c1 => ?_) (fun c1 => ?_)
  · replace h := hT h c1
    refine AW.iconst dX9_isStopped_27 ?_
    refine AW.sub (lv1 := []) [] rfl ?_
    cases h
    exact J4
  · replace h := hF h c1
    refine AW.aloadr_n 0 dX9_isStopped_7 rfl ?_
    refine AW.getR af_X9_24_5 sr_5_0 dX9_isStopped_8 ?_
    refine AW.getR af_X9_115_1 sr_1_3 dX9_isStopped_11 ?_
    refine AW.iload_n 1 dX9_isStopped_14 rfl ?_
    obtain ⟨k2, h⟩ := hK h
    refine AW.iald kc_16 sk_16 k2 dX9_isStopped_15 ?_
    refine AW.iload_n 2 dX9_isStopped_16 rfl ?_
    refine AW.ishr dX9_isStopped_17 ?_
    refine AW.iconst dX9_isStopped_18 ?_
    refine AW.iand dX9_isStopped_19 ?_
    obtain ⟨t3, e4, h⟩ := hBe h
    refine AW.join (tgt := 28) (lv1 := [(0, rv z 5), (1, iv x1), (2, iv x2)]) (st1 := [iv t3]) (g1 := g) ?_ (fun J20 => ?_)
    · refine AW.sub (lv1 := []) [] rfl ?_
      cases h
      exact J4
    refine AW.if_eq (tgt := 27) dX9_isStopped_20 (by decide) (fun c5 => ?_) (fun c5 => ?_)
    · refine AW.iconst dX9_isStopped_27 ?_
      exact AW.val (e4.trans (if_pos c5)) J20
    · refine AW.iconst dX9_isStopped_23 ?_
      refine AW.goto (tgt := 28) dX9_isStopped_24 (by decide) ?_
      exact AW.val (e4.trans (if_neg c5)) J20
set_option synthInstance.maxHeartbeats 2000000 in
theorem Voyage_begins_b_ok {z : AZ} {d : Nat} (hdd : 1 ≤ d) {x1 : Int} {x2 : Int} {x3 : Int} : ∀ (tag : Nat) (x4 : Int) (g : AG) (r : Int × AG), Voyage_begins_b x1 x2 x3 tag x4 g = some r → (tag = 1 → AW z (RX9, cX9_begins, 8, (some .int)) d (QD (some .int) r) 13 [(0, rv z 5), (1, iv x1), (2, iv x2), (3, iv x3), (4, iv x4)] [] g) ∧ (tag = 2 → AW z (RX9, cX9_begins, 8, (some .int)) d (QD (some .int) r) 98 [(0, rv z 5), (1, iv x1), (2, iv x2), (3, iv x3), (4, iv x4)] [] g) := by
  refine Voyage_begins_b.partial_correctness x1 x2 x3 (fun tag x4 g r => (tag = 1 → AW z (RX9, cX9_begins, 8, (some .int)) d (QD (some .int) r) 13 [(0, rv z 5), (1, iv x1), (2, iv x2), (3, iv x3), (4, iv x4)] [] g) ∧ (tag = 2 → AW z (RX9, cX9_begins, 8, (some .int)) d (QD (some .int) r) 98 [(0, rv z 5), (1, iv x1), (2, iv x2), (3, iv x3), (4, iv x4)] [] g)) ?_
  intro fb9 ih tag x4 g r h
  refine ⟨fun h9 => ?_, fun h9 => ?_⟩
  · subst h9
    replace h := hT h rfl
    refine AW.iload 4 dX9_begins_13 rfl ?_
    refine AW.bipush dX9_begins_15 (by decide) (by decide) ?_
    refine AW.icmp_ge (tgt := 104) dX9_begins_17 (by decide) (fun c1 => ?_) (fun c1 => ?_)
    · replace h := hT h c1
      refine AW.iconst dX9_begins_104 ?_
      exact AW.iret1 rfl dX9_begins_105 h rfl
    · replace h := hF h c1
      refine AW.bipush dX9_begins_20 (by decide) (by decide) ?_
      refine AW.aloadr_n 0 dX9_begins_22 rfl ?_
      refine AW.iload_n 1 dX9_begins_23 rfl ?_
      refine AW.iload_n 2 dX9_begins_24 rfl ?_
      refine AW.iload 4 dX9_begins_25 rfl ?_
      obtain ⟨r2, e3, h⟩ := hC h
      refine AW.callVi (As := [iv x1, iv x2, iv x4]) (st := [iv 8]) (Voyage_firstHour_ok e3) cq_X9_96 cr_5_X9_firstHour (Nat.le_trans (by decide) hdd) rfl dX9_begins_27 rfl (Nat.le_of_ble_eq_true rfl) ?_
      refine AW.mmax (st := []) cm_X9_99 mst_max mini mcd_max (Nat.le_trans (by decide) hdd) (Nat.le_of_ble_eq_true rfl) dX9_begins_30 ?_
      refine AW.istore (lv1 := [(5, iv (mxI 8 r2.1)), (0, rv z 5), (1, iv x1), (2, iv x2), (3, iv x3), (4, iv x4)]) dX9_begins_33 (by decide) rfl ?_
      refine AW.bipush dX9_begins_35 (by decide) (by decide) ?_
      refine AW.aloadr_n 1 dX9_begins_37 rfl ?_
      refine AW.iload_n 2 dX9_begins_38 rfl ?_
      refine AW.iload_n 3 dX9_begins_39 rfl ?_
      refine AW.iload 5 dX9_begins_40 rfl ?_
      obtain ⟨r4, e5, h⟩ := hC h
      refine AW.callVi (As := [iv x1, iv x2, iv x4]) (st := [iv 20]) (Voyage_hourBehind_ok e5) cq_X9_105 cr_5_X9_hourBehind (Nat.le_trans (by decide) hdd) rfl dX9_begins_42 rfl (Nat.le_of_ble_eq_true rfl) ?_
      refine AW.mmin (st := []) cm_X9_108 mst_min mini mcd_min (Nat.le_trans (by decide) hdd) (Nat.le_of_ble_eq_true rfl) dX9_begins_45 ?_
      refine AW.istore (lv1 := [(6, iv (mnI 20 r4.1)), (5, iv (mxI 8 r2.1)), (0, rv z 5), (1, iv x1), (2, iv x2), (3, iv x3), (4, iv x4)]) dX9_begins_48 (by decide) rfl ?_
      refine AW.iload_n 5 dX9_begins_50 rfl ?_
      refine AW.iload 6 dX9_begins_51 rfl ?_
      refine AW.sipush dX9_begins_53 (by decide) (by decide) ?_
      refine AW.imul dX9_begins_56 ?_
      refine AW.iload 1 dX9_begins_57 rfl ?_
      refine AW.bipush dX9_begins_59 (by decide) (by decide) ?_
      refine AW.imul dX9_begins_61 ?_
      refine AW.iadd dX9_begins_62 ?_
      refine AW.mmax (st := []) cm_X9_99 mst_max mini mcd_max (Nat.le_trans (by decide) hdd) (Nat.le_of_ble_eq_true rfl) dX9_begins_63 ?_
      refine AW.istore (lv1 := [(7, iv (mxI x3 ((x4 * 1440) + ((mxI 8 r2.1) * 60)))), (6, iv (mnI 20 r4.1)), (5, iv (mxI 8 r2.1)), (0, rv z 5), (1, iv x1), (2, iv x2), (3, iv x3), (4, iv x4)]) dX9_begins_66 (by decide) rfl ?_
      refine AW.iload 0 dX9_begins_68 rfl ?_
      refine AW.iload 7 dX9_begins_70 rfl ?_
      refine AW.sipush dX9_begins_72 (by decide) (by decide) ?_
      refine AW.imul dX9_begins_75 ?_
      refine AW.iload 1 dX9_begins_76 rfl ?_
      refine AW.bipush dX9_begins_78 (by decide) (by decide) ?_
      refine AW.imul dX9_begins_80 ?_
      refine AW.iadd dX9_begins_81 ?_
      refine AW.icmp_ge (tgt := 98) dX9_begins_82 (by decide) (fun c6 => ?_) (fun c6 => ?_)
      · replace h := hT h c6
        refine AW.sub (lv1 := [(0, rv z 5), (1, iv x1), (2, iv x2), (3, iv x3), (4, iv x4)]) [3, 4, 5, 6, 7] rfl ?_
        exact (ih _ _ _ _ h).2 rfl
      · replace h := hF h c6
        refine AW.aloadr_n 3 dX9_begins_85 rfl ?_
        refine AW.iload_n 4 dX9_begins_86 rfl ?_
        refine AW.iload 7 dX9_begins_87 rfl ?_
        obtain ⟨r7, e8, h⟩ := hC h
        refine AW.callVi (As := [iv x1, iv x4]) (st := []) (Voyage_isStopped_ok e8) cq_X9_111 cr_5_X9_isStopped (Nat.le_trans (by decide) hdd) rfl dX9_begins_89 rfl (Nat.le_of_ble_eq_true rfl) ?_
        refine AW.if_ne (tgt := 98) dX9_begins_92 (by decide) (fun c9 => ?_) (fun c9 => ?_)
        · replace h := hF h c9
          refine AW.sub (lv1 := [(0, rv z 5), (1, iv x1), (2, iv x2), (3, iv x3), (4, iv x4)]) [3, 4, 5, 6, 7] rfl ?_
          exact (ih _ _ _ _ h).2 rfl
        · replace h := hT h c9
          refine AW.iload 0 dX9_begins_95 rfl ?_
          exact AW.iret1 rfl dX9_begins_97 h rfl
  · subst h9
    replace h := hF h (by decide)
    replace h := hT h rfl
    refine AW.iinc (lv1 := [(4, iv (x4 + 1)), (0, rv z 5), (1, iv x1), (2, iv x2), (3, iv x3)]) 4 dX9_begins_98 rfl (by decide) rfl ?_
    refine AW.goto (tgt := 13) dX9_begins_101 (by decide) ?_
    refine AW.sub (lv1 := [(0, rv z 5), (1, iv x1), (2, iv x2), (3, iv x3), (4, iv (x4 + 1))]) [1, 2, 3, 4, 0] rfl ?_
    exact (ih _ _ _ _ h).1 rfl
theorem Voyage_begins_ok {z : AZ} {x1 : Int} {x2 : Int} {x3 : Int} {g : AG} {r : Int × AG} (h : Voyage_begins x1 x2 x3 g = some r) : AMf z yX9_begins cX9_begins 8 (some .int) 1 [rv z 5, iv x1, iv x2, iv x3] g r := by
  intro d hdd
  refine AM.of (by decide +kernel) (Nat.le_of_ble_eq_true rfl) ?_
  show AW z (RX9, cX9_begins, 8, (some .int)) d (QD (some .int) r) 0 [(0, rv z 5), (1, iv x1), (2, iv x2), (3, iv x3)] [] g
  unfold Voyage_begins at h
  refine AW.iload_n 3 dX9_begins_0 rfl ?_
  refine AW.if_ge (tgt := 6) dX9_begins_1 (by decide) (fun c1 => ?_) (fun c1 => ?_)
  · replace h := hT h c1
    refine AW.iload_n 3 dX9_begins_6 rfl ?_
    refine AW.sipush dX9_begins_7 (by decide) (by decide) ?_
    refine AW.idiv dX9_begins_10 (by decide) ?_
    refine AW.istore (lv1 := [(4, iv ((nw x3).tdiv 1440)), (0, rv z 5), (1, iv x1), (2, iv x2), (3, iv x3)]) dX9_begins_11 (by decide) rfl ?_
    refine AW.sub (lv1 := [(0, rv z 5), (1, iv x1), (2, iv x2), (3, iv x3), (4, iv ((nw x3).tdiv 1440))]) [1, 2, 3, 4, 0] rfl ?_
    exact (Voyage_begins_b_ok hdd _ _ _ _ h).1 rfl
  · replace h := hF h c1
    refine AW.iconst dX9_begins_4 ?_
    exact AW.iret1 rfl dX9_begins_5 h rfl
theorem Voyage_step_ok {z : AZ} {x1 : Int} {x2 : Int} {x3 : Int} {x4 : Int} {g : AG} {r : Int × AG} (h : Voyage_step x1 x2 x3 x4 g = some r) : AMf z yX9_step cX9_step 6 (some .int) 2 [rv z 5, iv x1, iv x2, iv x3, iv x4] g r := by
  intro d hdd
  refine AM.of (by decide +kernel) (Nat.le_of_ble_eq_true rfl) ?_
  show AW z (RX9, cX9_step, 6, (some .int)) d (QD (some .int) r) 0 [(0, rv z 5), (1, iv x1), (2, iv x2), (3, iv x3), (4, iv x4)] [] g
  unfold Voyage_step at h
  refine AW.aloadr_n 0 dX9_step_0 rfl ?_
  refine AW.iload_n 1 dX9_step_1 rfl ?_
  refine AW.iload_n 2 dX9_step_2 rfl ?_
  refine AW.iload_n 3 dX9_step_3 rfl ?_
  obtain ⟨r1, e2, h⟩ := hC h
  refine AW.callVi (As := [iv x1, iv x2, iv x3]) (st := []) (Voyage_begins_ok e2) cq_X9_92 cr_5_X9_begins (Nat.le_trans (by decide) hdd) rfl dX9_step_4 rfl (Nat.le_of_ble_eq_true rfl) ?_
  refine AW.istore (lv1 := [(5, iv r1.1), (0, rv z 5), (1, iv x1), (2, iv x2), (3, iv x3), (4, iv x4)]) dX9_step_7 (by decide) rfl ?_
  refine AW.iload 0 dX9_step_9 rfl ?_
  refine AW.iconst dX9_step_11 ?_
  refine AW.icmp_eq (tgt := 26) dX9_step_12 (by decide) (fun c3 => ?_) (fun c3 => ?_)
  · replace h := hT h c3
    refine AW.iconst dX9_step_26 ?_
    exact AW.iret1 rfl dX9_step_27 h rfl
  · replace h := hF h c3
    refine AW.iload 0 dX9_step_15 rfl ?_
    refine AW.iload 5 dX9_step_17 rfl ?_
    refine AW.iadd dX9_step_19 ?_
    refine AW.sipush dX9_step_20 (by decide) (by decide) ?_
    refine AW.icmp_lt (tgt := 28) dX9_step_23 (by decide) (fun c4 => ?_) (fun c4 => ?_)
    · replace h := hT h c4
      refine AW.iload_n 3 dX9_step_28 rfl ?_
      refine AW.iconst dX9_step_29 ?_
      obtain ⟨r9, e10, h⟩ := hC h
      refine AW.join (tgt := 48) (lv1 := [(4, iv x4), (5, iv r1.1)]) (st1 := []) (g1 := r9) ?_ (fun J30 => ?_)
      · refine AW.iload 1 dX9_step_48 rfl ?_
        refine AW.iload 0 dX9_step_50 rfl ?_
        refine AW.iadd dX9_step_52 ?_
        exact AW.iret1 rfl dX9_step_53 h rfl
      replace h := e10
      refine AW.icmp_ne (tgt := 48) dX9_step_30 (by decide) (fun c5 => ?_) (fun c5 => ?_)
      · replace h := hF h c5
        refine AW.sub (lv1 := [(4, iv x4), (5, iv r1.1)]) [5, 0] rfl ?_
        cases h
        exact J30
      · replace h := hT h c5
        refine AW.aloadr_n 1 dX9_step_33 rfl ?_
        refine AW.getR af_X9_21_5 sr_5_5 dX9_step_34 ?_
        refine AW.iload 0 dX9_step_37 rfl ?_
        refine AW.sipush dX9_step_39 (by decide) (by decide) ?_
        refine AW.idiv dX9_step_42 (by decide) ?_
        refine AW.dup2r dX9_step_43 ?_
        obtain ⟨k6, h⟩ := hK h
        refine AW.iald kc_47 sk_47 k6 dX9_step_44 ?_
        refine AW.iconst dX9_step_45 ?_
        refine AW.iadd dX9_step_46 ?_
        obtain ⟨g7, e8, h⟩ := hBe h
        refine AW.iast kc_47 sk_47 k6 dX9_step_47 e8 ?_
        refine AW.sub (lv1 := [(4, iv x4), (5, iv r1.1)]) [5, 0] rfl ?_
        cases h
        exact J30
    · replace h := hF h c4
      refine AW.iconst dX9_step_26 ?_
      exact AW.iret1 rfl dX9_step_27 h rfl
set_option synthInstance.maxHeartbeats 2000000 in
theorem Voyage_pass_b_ok {z : AZ} {d : Nat} (hdd : 3 ≤ d) {x1 : Int} {x4 : Int} : ∀ (tag : Nat) (x5 : Int) (x6 : Int) (g : AG) (r : Int × AG), Voyage_pass_b x1 x4 tag x5 x6 g = some r → (tag = 1 → AW z (RX9, cX9_pass, 7, (some .int)) d (QD (some .int) r) 28 [(0, rv z 5), (1, iv x1), (4, iv x4), (5, iv x5), (6, iv x6)] [] g) ∧ (tag = 2 → AW z (RX9, cX9_pass, 7, (some .int)) d (QD (some .int) r) 84 [(0, rv z 5), (1, iv x1), (5, iv x5)] [] g) ∧ (tag = 3 → AW z (RX9, cX9_pass, 7, (some .int)) d (QD (some .int) r) 87 [(0, rv z 5), (1, iv x1), (5, iv x5), (6, iv x6)] [] g) := by
  refine Voyage_pass_b.partial_correctness x1 x4 (fun tag x5 x6 g r => (tag = 1 → AW z (RX9, cX9_pass, 7, (some .int)) d (QD (some .int) r) 28 [(0, rv z 5), (1, iv x1), (4, iv x4), (5, iv x5), (6, iv x6)] [] g) ∧ (tag = 2 → AW z (RX9, cX9_pass, 7, (some .int)) d (QD (some .int) r) 84 [(0, rv z 5), (1, iv x1), (5, iv x5)] [] g) ∧ (tag = 3 → AW z (RX9, cX9_pass, 7, (some .int)) d (QD (some .int) r) 87 [(0, rv z 5), (1, iv x1), (5, iv x5), (6, iv x6)] [] g)) ?_
  intro fb9 ih tag x5 x6 g r h
  refine ⟨fun h9 => ?_, fun h9 => ?_, fun h9 => ?_⟩
  · subst h9
    replace h := hT h rfl
    refine AW.iload 4 dX9_pass_28 rfl ?_
    refine AW.iload 2 dX9_pass_30 rfl ?_
    refine AW.icmp_ge (tgt := 53) dX9_pass_32 (by decide) (fun c1 => ?_) (fun c1 => ?_)
    · replace h := hT h c1
      refine AW.goto (tgt := 84) dX9_pass_53 (by decide) ?_
      refine AW.sub (lv1 := [(0, rv z 5), (1, iv x1), (5, iv x5)]) [0, 1, 3] rfl ?_
      exact (ih _ _ _ _ _ h).2.1 rfl
    · replace h := hF h c1
      refine AW.aloadr_n 0 dX9_pass_35 rfl ?_
      refine AW.iload_n 1 dX9_pass_36 rfl ?_
      refine AW.iconst dX9_pass_37 ?_
      refine AW.iload 3 dX9_pass_38 rfl ?_
      refine AW.bipush dX9_pass_40 (by decide) (by decide) ?_
      obtain ⟨r2, e3, h⟩ := hC h
      refine AW.callVi (As := [iv x1, iv 0, iv x5, iv 20]) (st := []) (Voyage_step_ok e3) cq_X9_85 cr_5_X9_step (Nat.le_trans (by decide) hdd) rfl dX9_pass_42 rfl (Nat.le_of_ble_eq_true rfl) ?_
      refine AW.istore (lv1 := [(5, iv r2.1), (0, rv z 5), (1, iv x1), (4, iv x4), (6, iv x6)]) dX9_pass_45 (by decide) rfl ?_
      refine AW.iinc (lv1 := [(6, iv (x6 + 1)), (5, iv r2.1), (0, rv z 5), (1, iv x1), (4, iv x4)]) 4 dX9_pass_47 rfl (by decide) rfl ?_
      refine AW.goto (tgt := 28) dX9_pass_50 (by decide) ?_
      refine AW.sub (lv1 := [(0, rv z 5), (1, iv x1), (4, iv x4), (5, iv r2.1), (6, iv (x6 + 1))]) [2, 3, 4, 1, 0] rfl ?_
      exact (ih _ _ _ _ _ h).1 rfl
  · subst h9
    replace h := hF h (by decide)
    replace h := hT h rfl
    refine AW.iconst dX9_pass_84 ?_
    refine AW.istore (lv1 := [(6, iv 0), (0, rv z 5), (1, iv x1), (5, iv x5)]) dX9_pass_85 (by decide) rfl ?_
    refine AW.sub (lv1 := [(0, rv z 5), (1, iv x1), (5, iv x5), (6, iv 0)]) [1, 2, 3, 0] rfl ?_
    exact (ih _ _ _ _ _ h).2.2 rfl
  · subst h9
    replace h := hF h (by decide)
    replace h := hF h (by decide)
    replace h := hT h rfl
    refine AW.iload 3 dX9_pass_87 rfl ?_
    refine AW.aloadr_n 0 dX9_pass_89 rfl ?_
    refine AW.getR af_X9_24_5 sr_5_0 dX9_pass_90 ?_
    refine AW.getR af_X9_89_1 sr_1_1 dX9_pass_93 ?_
    refine AW.iload_n 1 dX9_pass_96 rfl ?_
    obtain ⟨k1, h⟩ := hK h
    refine AW.iald kc_14 sk_14 k1 dX9_pass_97 ?_
    refine AW.icmp_ge (tgt := 121) dX9_pass_98 (by decide) (fun c2 => ?_) (fun c2 => ?_)
    · replace h := hT h c2
      refine AW.iload 2 dX9_pass_121 rfl ?_
      exact AW.iret1 rfl dX9_pass_123 h rfl
    · replace h := hF h c2
      refine AW.aloadr_n 0 dX9_pass_101 rfl ?_
      refine AW.iload_n 1 dX9_pass_102 rfl ?_
      refine AW.iconst dX9_pass_103 ?_
      refine AW.iload 2 dX9_pass_104 rfl ?_
      refine AW.aloadr_n 0 dX9_pass_106 rfl ?_
      refine AW.getI af_X9_60_5 sr_5_6 dX9_pass_107 ?_
      obtain ⟨r3, e4, h⟩ := hC h
      refine AW.callVi (As := [iv x1, iv 1, iv x5, iv (g 5 6)]) (st := []) (Voyage_step_ok e4) cq_X9_85 cr_5_X9_step (Nat.le_trans (by decide) hdd) rfl dX9_pass_110 rfl (Nat.le_of_ble_eq_true rfl) ?_
      refine AW.istore (lv1 := [(5, iv r3.1), (0, rv z 5), (1, iv x1), (6, iv x6)]) dX9_pass_113 (by decide) rfl ?_
      refine AW.iinc (lv1 := [(6, iv (x6 + 1)), (5, iv r3.1), (0, rv z 5), (1, iv x1)]) 3 dX9_pass_115 rfl (by decide) rfl ?_
      refine AW.goto (tgt := 87) dX9_pass_118 (by decide) ?_
      refine AW.sub (lv1 := [(0, rv z 5), (1, iv x1), (5, iv r3.1), (6, iv (x6 + 1))]) [2, 3, 1, 0] rfl ?_
      exact (ih _ _ _ _ _ h).2.2 rfl
theorem Voyage_pass_ok {z : AZ} {x1 : Int} {x2 : Int} {x3 : Int} {g : AG} {r : Int × AG} (h : Voyage_pass x1 x2 x3 g = some r) : AMf z yX9_pass cX9_pass 7 (some .int) 3 [rv z 5, iv x1, iv x2, iv x3] g r := by
  intro d hdd
  refine AM.of (by decide +kernel) (Nat.le_of_ble_eq_true rfl) ?_
  show AW z (RX9, cX9_pass, 7, (some .int)) d (QD (some .int) r) 0 [(0, rv z 5), (1, iv x1), (2, iv x2), (3, iv x3)] [] g
  unfold Voyage_pass at h
  refine AW.aloadr_n 0 dX9_pass_0 rfl ?_
  refine AW.getR af_X9_24_5 sr_5_0 dX9_pass_1 ?_
  refine AW.getR af_X9_78_1 sr_1_0 dX9_pass_4 ?_
  refine AW.iload_n 1 dX9_pass_7 rfl ?_
  obtain ⟨k1, h⟩ := hK h
  refine AW.iald kc_13 sk_13 k1 dX9_pass_8 ?_
  refine AW.istore (lv1 := [(4, iv (g 13 (ix x1))), (0, rv z 5), (1, iv x1), (2, iv x2), (3, iv x3)]) dX9_pass_9 (by decide) rfl ?_
  refine AW.iload_n 4 dX9_pass_11 rfl ?_
  refine AW.istore (lv1 := [(5, iv x3), (4, iv (g 13 (ix x1))), (0, rv z 5), (1, iv x1), (2, iv x2), (3, iv x3)]) dX9_pass_12 (by decide) rfl ?_
  refine AW.aloadr_n 2 dX9_pass_14 rfl ?_
  refine AW.getR af_X9_28_5 sr_5_1 dX9_pass_15 ?_
  refine AW.iload_n 3 dX9_pass_18 rfl ?_
  refine AW.callVi (As := [iv x1]) (st := []) Rules_isTunnel_ok cq_X9_81 cr_2_X6_isTunnel (Nat.le_trans (by decide) hdd) rfl dX9_pass_19 rfl (Nat.le_of_ble_eq_true rfl) ?_
  refine AW.if_ne (tgt := 56) dX9_pass_22 (by decide) (fun c2 => ?_) (fun c2 => ?_)
  · replace h := hF h c2
    refine AW.iload 1 dX9_pass_56 rfl ?_
    obtain ⟨r9, e10, h⟩ := hC h
    refine AW.join (tgt := 84) (lv1 := [(0, rv z 5), (1, iv x1), (5, iv r9.1)]) (st1 := []) (g1 := r9.2) ?_ (fun J58 => ?_)
    · refine AW.iconst dX9_pass_84 ?_
      refine AW.istore (lv1 := [(6, iv 0), (0, rv z 5), (1, iv x1), (5, iv r9.1)]) dX9_pass_85 (by decide) rfl ?_
      refine AW.sub (lv1 := [(0, rv z 5), (1, iv x1), (5, iv r9.1), (6, iv 0)]) [1, 2, 3, 0] rfl ?_
      exact (Voyage_pass_b_ok hdd _ _ _ _ _ h).2.2 rfl
    replace h := e10
    refine AW.if_le (tgt := 84) dX9_pass_58 (by decide) (fun c3 => ?_) (fun c3 => ?_)
    · replace h := hT h c3
      refine AW.sub (lv1 := [(0, rv z 5), (1, iv x1), (5, iv x3)]) [2, 3, 0] rfl ?_
      cases h
      exact J58
    · replace h := hF h c3
      refine AW.aloadr_n 2 dX9_pass_61 rfl ?_
      refine AW.iload_n 3 dX9_pass_62 rfl ?_
      refine AW.iload_n 4 dX9_pass_63 rfl ?_
      obtain ⟨t4, e5, h⟩ := hBe h
      refine AW.join (tgt := 72) (lv1 := [(5, iv x3), (4, iv (g 13 (ix x1))), (0, rv z 5), (1, iv x1), (2, iv x2), (3, iv x3)]) (st1 := [iv t4, iv x1, rv z 5]) (g1 := g) ?_ (fun J64 => ?_)
      · refine AW.iload 0 dX9_pass_72 rfl ?_
        refine AW.bipush dX9_pass_74 (by decide) (by decide) ?_
        refine AW.iload 1 dX9_pass_76 rfl ?_
        refine AW.imul dX9_pass_78 ?_
        obtain ⟨r6, e7, h⟩ := hC h
        refine AW.callVi (As := [iv x1, iv t4, iv x3, iv (20 * (g 13 (ix x1)))]) (st := []) (Voyage_step_ok e7) cq_X9_85 cr_5_X9_step (Nat.le_trans (by decide) hdd) rfl dX9_pass_79 rfl (Nat.le_of_ble_eq_true rfl) ?_
        refine AW.istore (lv1 := [(5, iv r6.1), (4, iv (g 13 (ix x1))), (0, rv z 5), (1, iv x1), (2, iv x2), (3, iv x3)]) dX9_pass_82 (by decide) rfl ?_
        refine AW.sub (lv1 := [(0, rv z 5), (1, iv x1), (5, iv r6.1)]) [2, 3, 0] rfl ?_
        cases h
        exact J58
      refine AW.if_eq (tgt := 71) dX9_pass_64 (by decide) (fun c8 => ?_) (fun c8 => ?_)
      · refine AW.iconst dX9_pass_71 ?_
        exact AW.val (e5.trans (if_pos c8)) J64
      · refine AW.iconst dX9_pass_67 ?_
        refine AW.goto (tgt := 72) dX9_pass_68 (by decide) ?_
        exact AW.val (e5.trans (if_neg c8)) J64
  · replace h := hT h c2
    refine AW.iconst dX9_pass_25 ?_
    refine AW.istore (lv1 := [(6, iv 0), (5, iv x3), (4, iv (g 13 (ix x1))), (0, rv z 5), (1, iv x1), (2, iv x2), (3, iv x3)]) dX9_pass_26 (by decide) rfl ?_
    refine AW.sub (lv1 := [(0, rv z 5), (1, iv x1), (4, iv (g 13 (ix x1))), (5, iv x3), (6, iv 0)]) [3, 4, 2, 1, 0] rfl ?_
    exact (Voyage_pass_b_ok hdd _ _ _ _ _ h).1 rfl
set_option synthInstance.maxHeartbeats 2000000 in
theorem Voyage_comesTo_b_ok {z : AZ} {d : Nat} (hdd : 4 ≤ d) {x2 : Int} {x3 : Int} : ∀ (tag : Nat) (x6 : Int) (x7 : Int) (g : AG) (r : Int × AG), Voyage_comesTo_b x2 x3 tag x6 x7 g = some r → (tag = 1 → AW z (RX9, cX9_comesTo, 8, (some .int)) d (QD (some .int) r) 14 [(0, rv z 5), (2, iv x2), (3, iv x3), (6, iv x6), (7, iv x7)] [] g) ∧ (tag = 2 → AW z (RX9, cX9_comesTo, 8, (some .int)) d (QD (some .int) r) 40 [(0, rv z 5), (3, iv x3), (6, iv x6), (7, iv x7)] [] g) := by
  refine Voyage_comesTo_b.partial_correctness x2 x3 (fun tag x6 x7 g r => (tag = 1 → AW z (RX9, cX9_comesTo, 8, (some .int)) d (QD (some .int) r) 14 [(0, rv z 5), (2, iv x2), (3, iv x3), (6, iv x6), (7, iv x7)] [] g) ∧ (tag = 2 → AW z (RX9, cX9_comesTo, 8, (some .int)) d (QD (some .int) r) 40 [(0, rv z 5), (3, iv x3), (6, iv x6), (7, iv x7)] [] g)) ?_
  intro fb9 ih tag x6 x7 g r h
  refine ⟨fun h9 => ?_, fun h9 => ?_⟩
  · subst h9
    replace h := hT h rfl
    refine AW.iload 4 dX9_comesTo_14 rfl ?_
    refine AW.iload_n 2 dX9_comesTo_16 rfl ?_
    refine AW.icmp_ge (tgt := 37) dX9_comesTo_17 (by decide) (fun c1 => ?_) (fun c1 => ?_)
    · replace h := hT h c1
      refine AW.iload_n 1 dX9_comesTo_37 rfl ?_
      refine AW.istore (lv1 := [(7, iv x2), (0, rv z 5), (2, iv x2), (3, iv x3), (6, iv x6)]) dX9_comesTo_38 (by decide) rfl ?_
      refine AW.sub (lv1 := [(0, rv z 5), (3, iv x3), (6, iv x6), (7, iv x2)]) [1, 3, 4, 0] rfl ?_
      exact (ih _ _ _ _ _ h).2 rfl
    · replace h := hF h c1
      refine AW.aloadr_n 0 dX9_comesTo_20 rfl ?_
      refine AW.iload 4 dX9_comesTo_21 rfl ?_
      refine AW.iconst dX9_comesTo_23 ?_
      refine AW.iload 3 dX9_comesTo_24 rfl ?_
      obtain ⟨r2, e3, h⟩ := hC h
      refine AW.callVi (As := [iv x7, iv 1, iv x6]) (st := []) (Voyage_pass_ok e3) cq_X9_71 cr_5_X9_pass (Nat.le_trans (by decide) hdd) rfl dX9_comesTo_26 rfl (Nat.le_of_ble_eq_true rfl) ?_
      refine AW.istore (lv1 := [(6, iv r2.1), (0, rv z 5), (2, iv x2), (3, iv x3), (7, iv x7)]) dX9_comesTo_29 (by decide) rfl ?_
      refine AW.iinc (lv1 := [(7, iv (x7 + 1)), (6, iv r2.1), (0, rv z 5), (2, iv x2), (3, iv x3)]) 4 dX9_comesTo_31 rfl (by decide) rfl ?_
      refine AW.goto (tgt := 14) dX9_comesTo_34 (by decide) ?_
      refine AW.sub (lv1 := [(0, rv z 5), (2, iv x2), (3, iv x3), (6, iv r2.1), (7, iv (x7 + 1))]) [2, 3, 4, 1, 0] rfl ?_
      exact (ih _ _ _ _ _ h).1 rfl
  · subst h9
    replace h := hF h (by decide)
    replace h := hT h rfl
    refine AW.iload 3 dX9_comesTo_40 rfl ?_
    refine AW.iload_n 1 dX9_comesTo_42 rfl ?_
    refine AW.icmp_le (tgt := 65) dX9_comesTo_43 (by decide) (fun c1 => ?_) (fun c1 => ?_)
    · replace h := hT h c1
      refine AW.iload 2 dX9_comesTo_65 rfl ?_
      exact AW.iret1 rfl dX9_comesTo_67 h rfl
    · replace h := hF h c1
      refine AW.aloadr_n 0 dX9_comesTo_46 rfl ?_
      refine AW.iload 3 dX9_comesTo_47 rfl ?_
      refine AW.iconst dX9_comesTo_49 ?_
      refine AW.isub dX9_comesTo_50 ?_
      refine AW.iconst dX9_comesTo_51 ?_
      refine AW.iload 2 dX9_comesTo_52 rfl ?_
      obtain ⟨r2, e3, h⟩ := hC h
      refine AW.callVi (As := [iv (x7 - 1), iv 0, iv x6]) (st := []) (Voyage_pass_ok e3) cq_X9_71 cr_5_X9_pass (Nat.le_trans (by decide) hdd) rfl dX9_comesTo_54 rfl (Nat.le_of_ble_eq_true rfl) ?_
      refine AW.istore (lv1 := [(6, iv r2.1), (0, rv z 5), (3, iv x3), (7, iv x7)]) dX9_comesTo_57 (by decide) rfl ?_
      refine AW.iinc (lv1 := [(7, iv (x7 + (-1))), (6, iv r2.1), (0, rv z 5), (3, iv x3)]) 3 dX9_comesTo_59 rfl (by decide) rfl ?_
      refine AW.goto (tgt := 40) dX9_comesTo_62 (by decide) ?_
      refine AW.sub (lv1 := [(0, rv z 5), (3, iv x3), (6, iv r2.1), (7, iv (x7 + (-1)))]) [2, 3, 1, 0] rfl ?_
      exact (ih _ _ _ _ _ h).2 rfl
theorem Voyage_comesTo_ok {z : AZ} {x1 : Int} {x2 : Int} {x3 : Int} {x4 : Int} {x5 : Int} {g : AG} {r : Int × AG} (h : Voyage_comesTo x1 x2 x3 x4 x5 g = some r) : AMf z yX9_comesTo cX9_comesTo 8 (some .int) 4 [rv z 5, iv x1, iv x2, iv x3, iv x4, iv x5] g r := by
  intro d hdd
  refine AM.of (by decide +kernel) (Nat.le_of_ble_eq_true rfl) ?_
  show AW z (RX9, cX9_comesTo, 8, (some .int)) d (QD (some .int) r) 0 [(0, rv z 5), (1, iv x1), (2, iv x2), (3, iv x3), (4, iv x4), (5, iv x5)] [] g
  unfold Voyage_comesTo at h
  refine AW.aloadr_n 0 dX9_comesTo_0 rfl ?_
  refine AW.iload_n 1 dX9_comesTo_1 rfl ?_
  refine AW.iload 5 dX9_comesTo_2 rfl ?_
  obtain ⟨r1, e2, h⟩ := hC h
  refine AW.callVv (As := [iv x1, iv x5]) (st := []) (Voyage_setOut_ok e2) cq_X9_67 cr_5_X9_setOut (Nat.le_trans (by decide) hdd) rfl dX9_comesTo_4 rfl (Nat.le_of_ble_eq_true rfl) ?_
  refine AW.iload 4 dX9_comesTo_7 rfl ?_
  refine AW.istore (lv1 := [(6, iv x4), (0, rv z 5), (1, iv x1), (2, iv x2), (3, iv x3), (4, iv x4), (5, iv x5)]) dX9_comesTo_9 (by decide) rfl ?_
  refine AW.iload_n 3 dX9_comesTo_11 rfl ?_
  refine AW.istore (lv1 := [(7, iv x2), (6, iv x4), (0, rv z 5), (1, iv x1), (2, iv x2), (3, iv x3), (4, iv x4), (5, iv x5)]) dX9_comesTo_12 (by decide) rfl ?_
  refine AW.sub (lv1 := [(0, rv z 5), (2, iv x2), (3, iv x3), (6, iv x4), (7, iv x2)]) [2, 4, 5, 1, 0] rfl ?_
  exact (Voyage_comesTo_b_ok hdd _ _ _ _ _ h).1 rfl
theorem X_comes_ok {z : AZ} {x1 : Int} {x2 : Int} {x3 : Int} {x4 : Int} {g : AG} {r : Int × AG} (h : X_comes x1 x2 x3 x4 g = some r) : AMf z yX11_comes cX11_comes 5 (some .int) 5 [rv z 0, iv x1, iv x2, iv x3, iv x4] g r := by
  intro d hdd
  refine AM.of (by decide +kernel) (Nat.le_of_ble_eq_true rfl) ?_
  show AW z (RX11, cX11_comes, 5, (some .int)) d (QD (some .int) r) 0 [(0, rv z 0), (1, iv x1), (2, iv x2), (3, iv x3), (4, iv x4)] [] g
  unfold X_comes at h
  refine AW.aloadr_n 0 dX11_comes_0 rfl ?_
  refine AW.iload_n 1 dX11_comes_1 rfl ?_
  refine AW.iload_n 2 dX11_comes_2 rfl ?_
  refine AW.iload_n 3 dX11_comes_3 rfl ?_
  refine AW.iload 4 dX11_comes_4 rfl ?_
  refine AW.callVi (As := [iv x1, iv x2, iv x3, iv x4]) (st := []) X_isWay_ok cq_X11_176 cr_0_X11_isWay (Nat.le_trans (by decide) hdd) rfl dX11_comes_6 rfl (Nat.le_of_ble_eq_true rfl) ?_
  refine AW.if_ne (tgt := 14) dX11_comes_9 (by decide) (fun c1 => ?_) (fun c1 => ?_)
  · replace h := hF h c1
    refine AW.aloadr_n 0 dX11_comes_14 rfl ?_
    refine AW.getR af_X11_40_0 sr_0_4 dX11_comes_15 ?_
    refine AW.aloadr_n 0 dX11_comes_18 rfl ?_
    refine AW.getR af_X11_49_0 sr_0_5 dX11_comes_19 ?_
    refine AW.getR af_X11_180_6 sr_6_6 dX11_comes_22 ?_
    refine AW.iload_n 1 dX11_comes_25 rfl ?_
    obtain ⟨k2, h⟩ := hK h
    refine AW.iald kc_51 sk_51 k2 dX11_comes_26 ?_
    refine AW.iload_n 2 dX11_comes_27 rfl ?_
    refine AW.iload_n 3 dX11_comes_28 rfl ?_
    refine AW.iload 4 dX11_comes_29 rfl ?_
    refine AW.iconst dX11_comes_31 ?_
    obtain ⟨r3, e4, h⟩ := hC h
    refine AW.callVi (As := [iv (g 51 (ix x1)), iv x2, iv x3, iv x4, iv 1]) (st := []) (Voyage_comesTo_ok e4) cq_X11_183 cr_5_X9_comesTo (Nat.le_trans (by decide) hdd) rfl dX11_comes_32 rfl (Nat.le_of_ble_eq_true rfl) ?_
    exact AW.iret1 rfl dX11_comes_35 h rfl
  · replace h := hT h c1
    refine AW.iconst dX11_comes_12 ?_
    exact AW.iret1 rfl dX11_comes_13 h rfl
set_option synthInstance.maxHeartbeats 2000000 in
theorem Voyage_reach_b_ok {z : AZ} {d : Nat} (hdd : 4 ≤ d) {x2 : Int} : ∀ (tag : Nat) (x4 : Int) (g : AG) (r : Int × AG), Voyage_reach_b x2 tag x4 g = some r → (tag = 1 → AW z (RX9, cX9_reach, 5, none) d (QD none r) 16 [(0, rv z 5), (2, iv x2), (4, iv x4)] [] g) ∧ (tag = 2 → AW z (RX9, cX9_reach, 5, none) d (QD none r) 55 [(0, rv z 5), (4, iv x4)] [] g) := by
  refine Voyage_reach_b.partial_correctness x2 (fun tag x4 g r => (tag = 1 → AW z (RX9, cX9_reach, 5, none) d (QD none r) 16 [(0, rv z 5), (2, iv x2), (4, iv x4)] [] g) ∧ (tag = 2 → AW z (RX9, cX9_reach, 5, none) d (QD none r) 55 [(0, rv z 5), (4, iv x4)] [] g)) ?_
  intro fb9 ih tag x4 g r h
  refine ⟨fun h9 => ?_, fun h9 => ?_⟩
  · subst h9
    replace h := hT h rfl
    refine AW.iload 2 dX9_reach_16 rfl ?_
    refine AW.bipush dX9_reach_18 (by decide) (by decide) ?_
    refine AW.icmp_ge (tgt := 52) dX9_reach_20 (by decide) (fun c1 => ?_) (fun c1 => ?_)
    · replace h := hT h c1
      refine AW.iload_n 1 dX9_reach_52 rfl ?_
      refine AW.istore (lv1 := [(4, iv x2), (0, rv z 5), (2, iv x2)]) dX9_reach_53 (by decide) rfl ?_
      refine AW.sub (lv1 := [(0, rv z 5), (4, iv x2)]) [1, 0] rfl ?_
      exact (ih _ _ _ _ h).2 rfl
    · replace h := hF h c1
      refine AW.aloadr_n 0 dX9_reach_23 rfl ?_
      refine AW.getR af_X9_18_5 sr_5_4 dX9_reach_24 ?_
      refine AW.iload 2 dX9_reach_27 rfl ?_
      refine AW.iconst dX9_reach_29 ?_
      refine AW.iadd dX9_reach_30 ?_
      refine AW.aloadr_n 0 dX9_reach_31 rfl ?_
      refine AW.iload 2 dX9_reach_32 rfl ?_
      refine AW.iconst dX9_reach_34 ?_
      refine AW.aloadr_n 0 dX9_reach_35 rfl ?_
      refine AW.getR af_X9_18_5 sr_5_4 dX9_reach_36 ?_
      refine AW.iload 2 dX9_reach_39 rfl ?_
      obtain ⟨k2, h⟩ := hK h
      refine AW.iald kc_46 sk_46 k2 dX9_reach_41 ?_
      obtain ⟨r3, e4, h⟩ := hC h
      refine AW.callVi (As := [iv x4, iv 1, iv (g 46 (ix x4))]) (st := [iv (x4 + 1), rv z 46]) (Voyage_pass_ok e4) cq_X9_71 cr_5_X9_pass (Nat.le_trans (by decide) hdd) rfl dX9_reach_42 rfl (Nat.le_of_ble_eq_true rfl) ?_
      obtain ⟨k5, h⟩ := hK h
      obtain ⟨g6, e7, h⟩ := hBe h
      refine AW.iast kc_46 sk_46 k5 dX9_reach_45 e7 ?_
      refine AW.iinc (lv1 := [(4, iv (x4 + 1)), (0, rv z 5), (2, iv x2)]) 2 dX9_reach_46 rfl (by decide) rfl ?_
      refine AW.goto (tgt := 16) dX9_reach_49 (by decide) ?_
      refine AW.sub (lv1 := [(0, rv z 5), (2, iv x2), (4, iv (x4 + 1))]) [1, 2, 0] rfl ?_
      exact (ih _ _ _ _ h).1 rfl
  · subst h9
    replace h := hF h (by decide)
    replace h := hT h rfl
    refine AW.iload 1 dX9_reach_55 rfl ?_
    refine AW.if_le (tgt := 91) dX9_reach_57 (by decide) (fun c1 => ?_) (fun c1 => ?_)
    · replace h := hT h c1
      exact AW.vret1 rfl dX9_reach_91 h rfl
    · replace h := hF h c1
      refine AW.aloadr_n 0 dX9_reach_60 rfl ?_
      refine AW.getR af_X9_18_5 sr_5_4 dX9_reach_61 ?_
      refine AW.iload 1 dX9_reach_64 rfl ?_
      refine AW.iconst dX9_reach_66 ?_
      refine AW.isub dX9_reach_67 ?_
      refine AW.aloadr_n 0 dX9_reach_68 rfl ?_
      refine AW.iload 1 dX9_reach_69 rfl ?_
      refine AW.iconst dX9_reach_71 ?_
      refine AW.isub dX9_reach_72 ?_
      refine AW.iconst dX9_reach_73 ?_
      refine AW.aloadr_n 0 dX9_reach_74 rfl ?_
      refine AW.getR af_X9_18_5 sr_5_4 dX9_reach_75 ?_
      refine AW.iload 1 dX9_reach_78 rfl ?_
      obtain ⟨k2, h⟩ := hK h
      refine AW.iald kc_46 sk_46 k2 dX9_reach_80 ?_
      obtain ⟨r3, e4, h⟩ := hC h
      refine AW.callVi (As := [iv (x4 - 1), iv 0, iv (g 46 (ix x4))]) (st := [iv (x4 - 1), rv z 46]) (Voyage_pass_ok e4) cq_X9_71 cr_5_X9_pass (Nat.le_trans (by decide) hdd) rfl dX9_reach_81 rfl (Nat.le_of_ble_eq_true rfl) ?_
      obtain ⟨k5, h⟩ := hK h
      obtain ⟨g6, e7, h⟩ := hBe h
      refine AW.iast kc_46 sk_46 k5 dX9_reach_84 e7 ?_
      refine AW.iinc (lv1 := [(4, iv (x4 + (-1))), (0, rv z 5)]) 1 dX9_reach_85 rfl (by decide) rfl ?_
      refine AW.goto (tgt := 55) dX9_reach_88 (by decide) ?_
      refine AW.sub (lv1 := [(0, rv z 5), (4, iv (x4 + (-1)))]) [1, 0] rfl ?_
      exact (ih _ _ _ _ h).2 rfl
theorem Voyage_reach_ok {z : AZ} {x1 : Int} {x2 : Int} {x3 : Int} {g : AG} {r : Int × AG} (h : Voyage_reach x1 x2 x3 g = some r) : AMf z yX9_reach cX9_reach 5 none 4 [rv z 5, iv x1, iv x2, iv x3] g r := by
  intro d hdd
  refine AM.of (by decide +kernel) (Nat.le_of_ble_eq_true rfl) ?_
  show AW z (RX9, cX9_reach, 5, none) d (QD none r) 0 [(0, rv z 5), (1, iv x1), (2, iv x2), (3, iv x3)] [] g
  unfold Voyage_reach at h
  refine AW.aloadr_n 0 dX9_reach_0 rfl ?_
  refine AW.iload_n 1 dX9_reach_1 rfl ?_
  refine AW.iconst dX9_reach_2 ?_
  obtain ⟨r1, e2, h⟩ := hC h
  refine AW.callVv (As := [iv x1, iv 1]) (st := []) (Voyage_setOut_ok e2) cq_X9_67 cr_5_X9_setOut (Nat.le_trans (by decide) hdd) rfl dX9_reach_3 rfl (Nat.le_of_ble_eq_true rfl) ?_
  refine AW.aloadr_n 0 dX9_reach_6 rfl ?_
  refine AW.getR af_X9_18_5 sr_5_4 dX9_reach_7 ?_
  refine AW.iload_n 2 dX9_reach_10 rfl ?_
  refine AW.iload_n 3 dX9_reach_11 rfl ?_
  obtain ⟨k3, h⟩ := hK h
  obtain ⟨g4, e5, h⟩ := hBe h
  refine AW.iast kc_46 sk_46 k3 dX9_reach_12 e5 ?_
  refine AW.iload_n 2 dX9_reach_13 rfl ?_
  refine AW.istore (lv1 := [(4, iv x2), (0, rv z 5), (1, iv x1), (2, iv x2), (3, iv x3)]) dX9_reach_14 (by decide) rfl ?_
  refine AW.sub (lv1 := [(0, rv z 5), (2, iv x2), (4, iv x2)]) [1, 3, 0] rfl ?_
  exact (Voyage_reach_b_ok hdd _ _ _ _ h).1 rfl
set_option synthInstance.maxHeartbeats 2000000 in
theorem Voyage_reached_b_ok {z : AZ} {d : Nat} (hdd : 0 ≤ d) {x1 : Int} : ∀ (x2 : Int) (x3 : Int) (g : AG) (r : Int × AG), Voyage_reached_b x1 x2 x3 g = some r → AW z (RX9, cX9_reached, 4, (some .int)) d (QD (some .int) r) 4 [(0, rv z 5), (1, iv x1), (2, iv x2), (3, iv x3)] [] g := by
  refine Voyage_reached_b.partial_correctness x1 (fun x2 x3 g r => AW z (RX9, cX9_reached, 4, (some .int)) d (QD (some .int) r) 4 [(0, rv z 5), (1, iv x1), (2, iv x2), (3, iv x3)] [] g) ?_
  intro fb9 ih x2 x3 g r h
  refine AW.iload_n 3 dX9_reached_4 rfl ?_
  refine AW.bipush dX9_reached_5 (by decide) (by decide) ?_
  refine AW.icmp_ge (tgt := 42) dX9_reached_7 (by decide) (fun c1 => ?_) (fun c1 => ?_)
  · replace h := hT h c1
    refine AW.iload_n 2 dX9_reached_42 rfl ?_
    exact AW.iret1 rfl dX9_reached_43 h rfl
  · replace h := hF h c1
    refine AW.aloadr_n 0 dX9_reached_10 rfl ?_
    refine AW.getR af_X9_18_5 sr_5_4 dX9_reached_11 ?_
    refine AW.iload_n 3 dX9_reached_14 rfl ?_
    obtain ⟨k2, h⟩ := hK h
    refine AW.iald kc_46 sk_46 k2 dX9_reached_15 ?_
    refine AW.iconst dX9_reached_16 ?_
    obtain ⟨r5, e6, h⟩ := hC h
    refine AW.join (tgt := 36) (lv1 := [(0, rv z 5), (1, iv x1), (2, iv r5.1), (3, iv x3)]) (st1 := []) (g1 := r5.2) ?_ (fun J17 => ?_)
    · refine AW.iinc (lv1 := [(3, iv (x3 + 1)), (0, rv z 5), (1, iv x1), (2, iv r5.1)]) 3 dX9_reached_36 rfl (by decide) rfl ?_
      refine AW.goto (tgt := 4) dX9_reached_39 (by decide) ?_
      refine AW.sub (lv1 := [(0, rv z 5), (1, iv x1), (2, iv r5.1), (3, iv (x3 + 1))]) [1, 2, 3, 0] rfl ?_
      exact ih _ _ _ _ h
    replace h := e6
    refine AW.icmp_eq (tgt := 36) dX9_reached_17 (by decide) (fun c3 => ?_) (fun c3 => ?_)
    · replace h := hT h c3
      cases h
      exact J17
    · replace h := hF h c3
      refine AW.aloadr_n 0 dX9_reached_20 rfl ?_
      refine AW.getR af_X9_18_5 sr_5_4 dX9_reached_21 ?_
      refine AW.iload_n 3 dX9_reached_24 rfl ?_
      refine AW.iald kc_46 sk_46 k2 dX9_reached_25 ?_
      refine AW.iload_n 1 dX9_reached_26 rfl ?_
      refine AW.icmp_gt (tgt := 36) dX9_reached_27 (by decide) (fun c4 => ?_) (fun c4 => ?_)
      · replace h := hT h c4
        cases h
        exact J17
      · replace h := hF h c4
        refine AW.iload_n 2 dX9_reached_30 rfl ?_
        refine AW.iconst dX9_reached_31 ?_
        refine AW.iload_n 3 dX9_reached_32 rfl ?_
        refine AW.ishl dX9_reached_33 ?_
        refine AW.ior dX9_reached_34 ?_
        refine AW.istore_n (lv1 := [(2, iv (orI x2 (shlI 1 x3))), (0, rv z 5), (1, iv x1), (3, iv x3)]) dX9_reached_35 (by decide) rfl ?_
        refine AW.sub (lv1 := [(0, rv z 5), (1, iv x1), (2, iv (orI x2 (shlI 1 x3))), (3, iv x3)]) [1, 2, 0, 3] rfl ?_
        cases h
        exact J17
theorem Voyage_reached_ok {z : AZ} {x1 : Int} {g : AG} {r : Int × AG} (h : Voyage_reached x1 g = some r) : AMf z yX9_reached cX9_reached 4 (some .int) 0 [rv z 5, iv x1] g r := by
  intro d hdd
  refine AM.of (by decide +kernel) (Nat.le_of_ble_eq_true rfl) ?_
  show AW z (RX9, cX9_reached, 4, (some .int)) d (QD (some .int) r) 0 [(0, rv z 5), (1, iv x1)] [] g
  unfold Voyage_reached at h
  refine AW.iconst dX9_reached_0 ?_
  refine AW.istore_n (lv1 := [(2, iv 0), (0, rv z 5), (1, iv x1)]) dX9_reached_1 (by decide) rfl ?_
  refine AW.iconst dX9_reached_2 ?_
  refine AW.istore_n (lv1 := [(3, iv 0), (2, iv 0), (0, rv z 5), (1, iv x1)]) dX9_reached_3 (by decide) rfl ?_
  refine AW.sub (lv1 := [(0, rv z 5), (1, iv x1), (2, iv 0), (3, iv 0)]) [2, 3, 1, 0] rfl ?_
  exact Voyage_reached_b_ok hdd _ _ _ _ h
theorem X_maybe_ok {z : AZ} {x1 : Int} {x2 : Int} {x3 : Int} {x4 : Int} {g : AG} {r : Int × AG} (h : X_maybe x1 x2 x3 x4 g = some r) : AMf z yX11_maybe cX11_maybe 5 (some .int) 5 [rv z 0, iv x1, iv x2, iv x3, iv x4] g r := by
  intro d hdd
  refine AM.of (by decide +kernel) (Nat.le_of_ble_eq_true rfl) ?_
  show AW z (RX11, cX11_maybe, 5, (some .int)) d (QD (some .int) r) 0 [(0, rv z 0), (1, iv x1), (2, iv x2), (3, iv x3), (4, iv x4)] [] g
  unfold X_maybe at h
  refine AW.aloadr_n 0 dX11_maybe_0 rfl ?_
  refine AW.iload_n 1 dX11_maybe_1 rfl ?_
  refine AW.iload_n 2 dX11_maybe_2 rfl ?_
  refine AW.iload_n 2 dX11_maybe_3 rfl ?_
  refine AW.iload_n 3 dX11_maybe_4 rfl ?_
  refine AW.callVi (As := [iv x1, iv x2, iv x2, iv x3]) (st := []) X_isWay_ok cq_X11_176 cr_0_X11_isWay (Nat.le_trans (by decide) hdd) rfl dX11_maybe_5 rfl (Nat.le_of_ble_eq_true rfl) ?_
  refine AW.if_eq (tgt := 25) dX11_maybe_8 (by decide) (fun c1 => ?_) (fun c1 => ?_)
  · replace h := hT h c1
    refine AW.iconst dX11_maybe_25 ?_
    exact AW.iret1 rfl dX11_maybe_26 h rfl
  · replace h := hF h c1
    refine AW.iload 4 dX11_maybe_11 rfl ?_
    refine AW.callSi (As := [iv x4]) (st := []) X_isTime_ok cq_X11_114 st_X11_isTime (Nat.le_trans (by decide) hdd) rfl dX11_maybe_13 rfl (Nat.le_of_ble_eq_true rfl) ?_
    refine AW.if_eq (tgt := 25) dX11_maybe_16 (by decide) (fun c2 => ?_) (fun c2 => ?_)
    · replace h := hT h c2
      refine AW.iconst dX11_maybe_25 ?_
      exact AW.iret1 rfl dX11_maybe_26 h rfl
    · replace h := hF h c2
      refine AW.iload_n 3 dX11_maybe_19 rfl ?_
      refine AW.iload 4 dX11_maybe_20 rfl ?_
      refine AW.icmp_le (tgt := 27) dX11_maybe_22 (by decide) (fun c3 => ?_) (fun c3 => ?_)
      · replace h := hT h c3
        refine AW.aloadr_n 0 dX11_maybe_27 rfl ?_
        refine AW.getR af_X11_40_0 sr_0_4 dX11_maybe_28 ?_
        refine AW.aloadr_n 0 dX11_maybe_31 rfl ?_
        refine AW.getR af_X11_49_0 sr_0_5 dX11_maybe_32 ?_
        refine AW.getR af_X11_180_6 sr_6_6 dX11_maybe_35 ?_
        refine AW.iload_n 1 dX11_maybe_38 rfl ?_
        obtain ⟨k4, h⟩ := hK h
        refine AW.iald kc_51 sk_51 k4 dX11_maybe_39 ?_
        refine AW.iload_n 2 dX11_maybe_40 rfl ?_
        refine AW.iload_n 3 dX11_maybe_41 rfl ?_
        obtain ⟨r5, e6, h⟩ := hC h
        refine AW.callVv (As := [iv (g 51 (ix x1)), iv x2, iv x3]) (st := []) (Voyage_reach_ok e6) cq_X11_187 cr_5_X9_reach (Nat.le_trans (by decide) hdd) rfl dX11_maybe_42 rfl (Nat.le_of_ble_eq_true rfl) ?_
        refine AW.aloadr_n 0 dX11_maybe_45 rfl ?_
        refine AW.getR af_X11_40_0 sr_0_4 dX11_maybe_46 ?_
        refine AW.iload 4 dX11_maybe_49 rfl ?_
        obtain ⟨r7, e8, h⟩ := hC h
        refine AW.callVi (As := [iv x4]) (st := []) (Voyage_reached_ok e8) cq_X11_190 cr_5_X9_reached (Nat.le_trans (by decide) hdd) rfl dX11_maybe_51 rfl (Nat.le_of_ble_eq_true rfl) ?_
        exact AW.iret1 rfl dX11_maybe_54 h rfl
      · replace h := hF h c3
        refine AW.iconst dX11_maybe_25 ?_
        exact AW.iret1 rfl dX11_maybe_26 h rfl
theorem Rules_valueOf_ok {z : AZ} {x1 : Int} {g : AG} {r : Int × AG} (h : Rules_valueOf x1 g = some r) : AMf z yX6_valueOf cX6_valueOf 2 (some .int) 3 [rv z 2, iv x1] g r := by
  intro d hdd
  refine AM.of (by decide +kernel) (Nat.le_of_ble_eq_true rfl) ?_
  show AW z (RX6, cX6_valueOf, 2, (some .int)) d (QD (some .int) r) 0 [(0, rv z 2), (1, iv x1)] [] g
  unfold Rules_valueOf at h
  refine AW.iload_n 1 dX6_valueOf_0 rfl ?_
  refine AW.iconst dX6_valueOf_1 ?_
  refine AW.aloadr_n 0 dX6_valueOf_2 rfl ?_
  refine AW.getI af_X6_52_2 sr_2_3 dX6_valueOf_3 ?_
  refine AW.iconst dX6_valueOf_6 ?_
  refine AW.isub dX6_valueOf_7 ?_
  refine AW.callN0 (As := [iv x1, iv 0, iv ((g 2 3) - 1)]) (st := []) X_within_ok ns_X6_78 in_X11 cd_X11_within st_X11_within (by decide) (Nat.le_trans (by decide) hdd) rfl (Nat.le_of_ble_eq_true rfl) dX6_valueOf_8 rfl ?_
  obtain ⟨r5, e6, h⟩ := hC h
  refine AW.join (tgt := 34) (lv1 := []) (st1 := [iv r5.1]) (g1 := r5.2) ?_ (fun J11 => ?_)
  · exact AW.iret1 rfl dX6_valueOf_34 h rfl
  replace h := e6
  refine AW.if_eq (tgt := 33) dX6_valueOf_11 (by decide) (fun c1 => ?_) (fun c1 => ?_)
  · replace h := hT h c1
    refine AW.iconst dX6_valueOf_33 ?_
    refine AW.sub (lv1 := []) [] rfl ?_
    cases h
    exact J11
  · replace h := hF h c1
    refine AW.aloadr_n 0 dX6_valueOf_14 rfl ?_
    refine AW.aloadr_n 0 dX6_valueOf_15 rfl ?_
    refine AW.getR af_X6_21_2 sr_2_5 dX6_valueOf_16 ?_
    refine AW.iload_n 1 dX6_valueOf_19 rfl ?_
    obtain ⟨k2, h⟩ := hK h
    refine AW.iald kc_20 sk_20 k2 dX6_valueOf_20 ?_
    refine AW.aloadr_n 0 dX6_valueOf_21 rfl ?_
    refine AW.getR af_X6_24_2 sr_2_6 dX6_valueOf_22 ?_
    refine AW.iload_n 1 dX6_valueOf_25 rfl ?_
    refine AW.iald kc_21 sk_21 k2 dX6_valueOf_26 ?_
    obtain ⟨r3, e4, h⟩ := hC h
    refine AW.callVi (As := [iv (g 20 (ix x1)), iv (g 21 (ix x1))]) (st := []) (Rules_run_ok e4) cq_X6_74 cr_2_X6_run (Nat.le_trans (by decide) hdd) rfl dX6_valueOf_27 rfl (Nat.le_of_ble_eq_true rfl) ?_
    refine AW.goto (tgt := 34) dX6_valueOf_30 (by decide) ?_
    refine AW.sub (lv1 := []) [] rfl ?_
    cases h
    exact J11
theorem Boats_harmOfLock_ok {z : AZ} {x1 : Int} {x2 : Int} {g : AG} {r : Int × AG} (h : Boats_harmOfLock x1 x2 g = some r) : AMf z yX0_harmOfLock cX0_harmOfLock 4 (some .int) 4 [rv z 6, iv x1, iv x2] g r := by
  intro d hdd
  refine AM.of (by decide +kernel) (Nat.le_of_ble_eq_true rfl) ?_
  show AW z (RX0, cX0_harmOfLock, 4, (some .int)) d (QD (some .int) r) 0 [(0, rv z 6), (1, iv x1), (2, iv x2)] [] g
  unfold Boats_harmOfLock at h
  refine AW.aloadr_n 0 dX0_harmOfLock_0 rfl ?_
  refine AW.getR af_X0_42_6 sr_6_1 dX0_harmOfLock_1 ?_
  refine AW.iload_n 2 dX0_harmOfLock_4 rfl ?_
  refine AW.aloadr_n 0 dX0_harmOfLock_5 rfl ?_
  refine AW.getR af_X0_38_6 sr_6_0 dX0_harmOfLock_6 ?_
  refine AW.getI af_X0_104_1 sr_1_5 dX0_harmOfLock_9 ?_
  obtain ⟨r1, e2, h⟩ := hC h
  refine AW.callVv (As := [iv x2, iv (g 1 5)]) (st := []) (Rules_askDay_ok e2) cq_X0_109 cr_2_X6_askDay (Nat.le_trans (by decide) hdd) rfl dX0_harmOfLock_12 rfl (Nat.le_of_ble_eq_true rfl) ?_
  refine AW.aloadr_n 0 dX0_harmOfLock_15 rfl ?_
  refine AW.getR af_X0_42_6 sr_6_1 dX0_harmOfLock_16 ?_
  refine AW.getR af_X0_115_2 sr_2_13 dX0_harmOfLock_19 ?_
  refine AW.iconst dX0_harmOfLock_22 ?_
  refine AW.aloadr_n 0 dX0_harmOfLock_23 rfl ?_
  refine AW.getR af_X0_9_6 sr_6_3 dX0_harmOfLock_24 ?_
  refine AW.iload_n 1 dX0_harmOfLock_27 rfl ?_
  obtain ⟨k3, h⟩ := hK h
  refine AW.iald kc_48 sk_48 k3 dX0_harmOfLock_28 ?_
  obtain ⟨g4, e5, h⟩ := hBe h
  refine AW.iast kc_27 sk_27 (by decide) dX0_harmOfLock_29 e5 ?_
  refine AW.aloadr_n 0 dX0_harmOfLock_30 rfl ?_
  refine AW.getR af_X0_42_6 sr_6_1 dX0_harmOfLock_31 ?_
  refine AW.getR af_X0_115_2 sr_2_13 dX0_harmOfLock_34 ?_
  refine AW.iconst dX0_harmOfLock_37 ?_
  refine AW.aloadr_n 0 dX0_harmOfLock_38 rfl ?_
  refine AW.getR af_X0_15_6 sr_6_4 dX0_harmOfLock_39 ?_
  refine AW.iload_n 1 dX0_harmOfLock_42 rfl ?_
  refine AW.iald kc_49 sk_49 k3 dX0_harmOfLock_43 ?_
  obtain ⟨g6, e7, h⟩ := hBe h
  refine AW.iast kc_27 sk_27 (by decide) dX0_harmOfLock_44 e7 ?_
  refine AW.aloadr_n 0 dX0_harmOfLock_45 rfl ?_
  refine AW.getR af_X0_42_6 sr_6_1 dX0_harmOfLock_46 ?_
  refine AW.getR af_X0_115_2 sr_2_13 dX0_harmOfLock_49 ?_
  refine AW.bipush dX0_harmOfLock_52 (by decide) (by decide) ?_
  refine AW.aloadr_n 0 dX0_harmOfLock_54 rfl ?_
  refine AW.getR af_X0_21_6 sr_6_6 dX0_harmOfLock_55 ?_
  refine AW.iload_n 1 dX0_harmOfLock_58 rfl ?_
  refine AW.iald kc_51 sk_51 k3 dX0_harmOfLock_59 ?_
  obtain ⟨g8, e9, h⟩ := hBe h
  refine AW.iast kc_27 sk_27 (by decide) dX0_harmOfLock_60 e9 ?_
  refine AW.aloadr_n 0 dX0_harmOfLock_61 rfl ?_
  refine AW.getR af_X0_42_6 sr_6_1 dX0_harmOfLock_62 ?_
  refine AW.bipush dX0_harmOfLock_65 (by decide) (by decide) ?_
  obtain ⟨r10, e11, h⟩ := hC h
  refine AW.callVi (As := [iv 104]) (st := []) (Rules_serving_ok e11) cq_X0_118 cr_2_X6_serving (Nat.le_trans (by decide) hdd) rfl dX0_harmOfLock_67 rfl (Nat.le_of_ble_eq_true rfl) ?_
  refine AW.istore_n (lv1 := [(3, iv r10.1), (0, rv z 6), (1, iv x1), (2, iv x2)]) dX0_harmOfLock_70 (by decide) rfl ?_
  refine AW.iload_n 0 dX0_harmOfLock_71 rfl ?_
  refine AW.iconst dX0_harmOfLock_72 ?_
  obtain ⟨r15, e16, h⟩ := hC h
  refine AW.join (tgt := 98) (lv1 := []) (st1 := [iv r15.1]) (g1 := r15.2) ?_ (fun J73 => ?_)
  · exact AW.iret1 rfl dX0_harmOfLock_98 h rfl
  replace h := e16
  refine AW.icmp_ne (tgt := 80) dX0_harmOfLock_73 (by decide) (fun c12 => ?_) (fun c12 => ?_)
  · replace h := hF h c12
    refine AW.iconst dX0_harmOfLock_80 ?_
    refine AW.sipush dX0_harmOfLock_81 (by decide) (by decide) ?_
    refine AW.aloadr_n 1 dX0_harmOfLock_84 rfl ?_
    refine AW.getR af_X0_42_6 sr_6_1 dX0_harmOfLock_85 ?_
    refine AW.iload_n 0 dX0_harmOfLock_88 rfl ?_
    obtain ⟨r13, e14, h⟩ := hC h
    refine AW.callVi (As := [iv r10.1]) (st := [iv 999, iv 0]) (Rules_valueOf_ok e14) cq_X0_121 cr_2_X6_valueOf (Nat.le_trans (by decide) hdd) rfl dX0_harmOfLock_89 rfl (Nat.le_of_ble_eq_true rfl) ?_
    refine AW.mmin (st := [iv 0]) cm_X0_124 mst_min mini mcd_min (Nat.le_trans (by decide) hdd) (Nat.le_of_ble_eq_true rfl) dX0_harmOfLock_92 ?_
    refine AW.mmax (st := []) cm_X0_71 mst_max mini mcd_max (Nat.le_trans (by decide) hdd) (Nat.le_of_ble_eq_true rfl) dX0_harmOfLock_95 ?_
    refine AW.sub (lv1 := []) [] rfl ?_
    cases h
    exact J73
  · replace h := hT h c12
    refine AW.iconst dX0_harmOfLock_76 ?_
    refine AW.goto (tgt := 98) dX0_harmOfLock_77 (by decide) ?_
    refine AW.sub (lv1 := []) [] rfl ?_
    cases h
    exact J73
set_option synthInstance.maxHeartbeats 2000000 in
theorem Boats_harmOfLatestWay_b_ok {z : AZ} {d : Nat} (hdd : 5 ≤ d) {x1 : Int} : ∀ (x2 : Int) (x3 : Int) (g : AG) (r : Int × AG), Boats_harmOfLatestWay_b x1 x2 x3 g = some r → AW z (RX0, cX0_harmOfLatestWay, 4, (some .int)) d (QD (some .int) r) 4 [(0, rv z 6), (1, iv x1), (2, iv x2), (3, iv x3)] [] g := by
  refine Boats_harmOfLatestWay_b.partial_correctness x1 (fun x2 x3 g r => AW z (RX0, cX0_harmOfLatestWay, 4, (some .int)) d (QD (some .int) r) 4 [(0, rv z 6), (1, iv x1), (2, iv x2), (3, iv x3)] [] g) ?_
  intro fb9 ih x2 x3 g r h
  refine AW.iload_n 3 dX0_harmOfLatestWay_4 rfl ?_
  refine AW.bipush dX0_harmOfLatestWay_5 (by decide) (by decide) ?_
  refine AW.icmp_ge (tgt := 47) dX0_harmOfLatestWay_7 (by decide) (fun c1 => ?_) (fun c1 => ?_)
  · replace h := hT h c1
    refine AW.iload_n 2 dX0_harmOfLatestWay_47 rfl ?_
    exact AW.iret1 rfl dX0_harmOfLatestWay_48 h rfl
  · replace h := hF h c1
    refine AW.aloadr_n 0 dX0_harmOfLatestWay_10 rfl ?_
    refine AW.getR af_X0_46_6 sr_6_2 dX0_harmOfLatestWay_11 ?_
    refine AW.getR af_X0_98_5 sr_5_5 dX0_harmOfLatestWay_14 ?_
    refine AW.iload_n 3 dX0_harmOfLatestWay_17 rfl ?_
    obtain ⟨k2, h⟩ := hK h
    refine AW.iald kc_47 sk_47 k2 dX0_harmOfLatestWay_18 ?_
    obtain ⟨r6, e7, h⟩ := hC h
    refine AW.join (tgt := 41) (lv1 := [(0, rv z 6), (1, iv x1), (2, iv r6.1), (3, iv x3)]) (st1 := []) (g1 := r6.2) ?_ (fun J19 => ?_)
    · refine AW.iinc (lv1 := [(3, iv (x3 + 1)), (0, rv z 6), (1, iv x1), (2, iv r6.1)]) 3 dX0_harmOfLatestWay_41 rfl (by decide) rfl ?_
      refine AW.goto (tgt := 4) dX0_harmOfLatestWay_44 (by decide) ?_
      refine AW.sub (lv1 := [(0, rv z 6), (1, iv x1), (2, iv r6.1), (3, iv (x3 + 1))]) [1, 2, 3, 0] rfl ?_
      exact ih _ _ _ _ h
    replace h := e7
    refine AW.if_le (tgt := 41) dX0_harmOfLatestWay_19 (by decide) (fun c3 => ?_) (fun c3 => ?_)
    · replace h := hT h c3
      cases h
      exact J19
    · replace h := hF h c3
      refine AW.iload_n 2 dX0_harmOfLatestWay_22 rfl ?_
      refine AW.aloadr_n 0 dX0_harmOfLatestWay_23 rfl ?_
      refine AW.getR af_X0_46_6 sr_6_2 dX0_harmOfLatestWay_24 ?_
      refine AW.getR af_X0_98_5 sr_5_5 dX0_harmOfLatestWay_27 ?_
      refine AW.iload_n 3 dX0_harmOfLatestWay_30 rfl ?_
      refine AW.iald kc_47 sk_47 k2 dX0_harmOfLatestWay_31 ?_
      refine AW.aloadr_n 0 dX0_harmOfLatestWay_32 rfl ?_
      refine AW.iload_n 1 dX0_harmOfLatestWay_33 rfl ?_
      refine AW.iload_n 3 dX0_harmOfLatestWay_34 rfl ?_
      obtain ⟨r4, e5, h⟩ := hC h
      refine AW.callVi (As := [iv x1, iv x3]) (st := [iv (g 47 (ix x3)), iv x2]) (Boats_harmOfLock_ok e5) cq_X0_101 cr_6_X0_harmOfLock (Nat.le_trans (by decide) hdd) rfl dX0_harmOfLatestWay_35 rfl (Nat.le_of_ble_eq_true rfl) ?_
      refine AW.imul dX0_harmOfLatestWay_38 ?_
      refine AW.iadd dX0_harmOfLatestWay_39 ?_
      refine AW.istore_n (lv1 := [(2, iv (x2 + ((g 47 (ix x3)) * r4.1))), (0, rv z 6), (1, iv x1), (3, iv x3)]) dX0_harmOfLatestWay_40 (by decide) rfl ?_
      refine AW.sub (lv1 := [(0, rv z 6), (1, iv x1), (2, iv (x2 + ((g 47 (ix x3)) * r4.1))), (3, iv x3)]) [1, 2, 0, 3] rfl ?_
      cases h
      exact J19
theorem Boats_harmOfLatestWay_ok {z : AZ} {x1 : Int} {g : AG} {r : Int × AG} (h : Boats_harmOfLatestWay x1 g = some r) : AMf z yX0_harmOfLatestWay cX0_harmOfLatestWay 4 (some .int) 5 [rv z 6, iv x1] g r := by
  intro d hdd
  refine AM.of (by decide +kernel) (Nat.le_of_ble_eq_true rfl) ?_
  show AW z (RX0, cX0_harmOfLatestWay, 4, (some .int)) d (QD (some .int) r) 0 [(0, rv z 6), (1, iv x1)] [] g
  unfold Boats_harmOfLatestWay at h
  refine AW.iconst dX0_harmOfLatestWay_0 ?_
  refine AW.istore_n (lv1 := [(2, iv 0), (0, rv z 6), (1, iv x1)]) dX0_harmOfLatestWay_1 (by decide) rfl ?_
  refine AW.iconst dX0_harmOfLatestWay_2 ?_
  refine AW.istore_n (lv1 := [(3, iv 0), (2, iv 0), (0, rv z 6), (1, iv x1)]) dX0_harmOfLatestWay_3 (by decide) rfl ?_
  refine AW.sub (lv1 := [(0, rv z 6), (1, iv x1), (2, iv 0), (3, iv 0)]) [2, 3, 1, 0] rfl ?_
  exact Boats_harmOfLatestWay_b_ok hdd _ _ _ _ h
theorem X_harm_ok {z : AZ} {x1 : Int} {x2 : Int} {x3 : Int} {x4 : Int} {g : AG} {r : Int × AG} (h : X_harm x1 x2 x3 x4 g = some r) : AMf z yX11_harm cX11_harm 6 (some .int) 6 [rv z 0, iv x1, iv x2, iv x3, iv x4] g r := by
  intro d hdd
  refine AM.of (by decide +kernel) (Nat.le_of_ble_eq_true rfl) ?_
  show AW z (RX11, cX11_harm, 6, (some .int)) d (QD (some .int) r) 0 [(0, rv z 0), (1, iv x1), (2, iv x2), (3, iv x3), (4, iv x4)] [] g
  unfold X_harm at h
  refine AW.aloadr_n 0 dX11_harm_0 rfl ?_
  refine AW.iload_n 1 dX11_harm_1 rfl ?_
  refine AW.iload_n 2 dX11_harm_2 rfl ?_
  refine AW.iload_n 3 dX11_harm_3 rfl ?_
  refine AW.iload 4 dX11_harm_4 rfl ?_
  refine AW.callVi (As := [iv x1, iv x2, iv x3, iv x4]) (st := []) X_isWay_ok cq_X11_176 cr_0_X11_isWay (Nat.le_trans (by decide) hdd) rfl dX11_harm_6 rfl (Nat.le_of_ble_eq_true rfl) ?_
  refine AW.if_ne (tgt := 14) dX11_harm_9 (by decide) (fun c1 => ?_) (fun c1 => ?_)
  · replace h := hF h c1
    refine AW.aloadr_n 0 dX11_harm_14 rfl ?_
    refine AW.getR af_X11_40_0 sr_0_4 dX11_harm_15 ?_
    refine AW.aloadr_n 0 dX11_harm_18 rfl ?_
    refine AW.getR af_X11_49_0 sr_0_5 dX11_harm_19 ?_
    refine AW.getR af_X11_180_6 sr_6_6 dX11_harm_22 ?_
    refine AW.iload_n 1 dX11_harm_25 rfl ?_
    obtain ⟨k2, h⟩ := hK h
    refine AW.iald kc_51 sk_51 k2 dX11_harm_26 ?_
    refine AW.iload_n 2 dX11_harm_27 rfl ?_
    refine AW.iload_n 3 dX11_harm_28 rfl ?_
    refine AW.iload 4 dX11_harm_29 rfl ?_
    refine AW.iconst dX11_harm_31 ?_
    obtain ⟨r3, e4, h⟩ := hC h
    refine AW.callVi (As := [iv (g 51 (ix x1)), iv x2, iv x3, iv x4, iv 1]) (st := []) (Voyage_comesTo_ok e4) cq_X11_183 cr_5_X9_comesTo (Nat.le_trans (by decide) hdd) rfl dX11_harm_32 rfl (Nat.le_of_ble_eq_true rfl) ?_
    refine AW.istore (lv1 := [(5, iv r3.1), (0, rv z 0), (1, iv x1), (2, iv x2), (3, iv x3), (4, iv x4)]) dX11_harm_35 (by decide) rfl ?_
    refine AW.iload 0 dX11_harm_37 rfl ?_
    refine AW.iconst dX11_harm_39 ?_
    obtain ⟨r8, e9, h⟩ := hC h
    refine AW.join (tgt := 55) (lv1 := []) (st1 := [iv r8.1]) (g1 := r8.2) ?_ (fun J40 => ?_)
    · exact AW.iret1 rfl dX11_harm_55 h rfl
    replace h := e9
    refine AW.icmp_ne (tgt := 47) dX11_harm_40 (by decide) (fun c5 => ?_) (fun c5 => ?_)
    · replace h := hF h c5
      refine AW.aloadr_n 1 dX11_harm_47 rfl ?_
      refine AW.getR af_X11_49_0 sr_0_5 dX11_harm_48 ?_
      refine AW.iload_n 2 dX11_harm_51 rfl ?_
      obtain ⟨r6, e7, h⟩ := hC h
      refine AW.callVi (As := [iv x1]) (st := []) (Boats_harmOfLatestWay_ok e7) cq_X11_194 cr_6_X0_harmOfLatestWay (Nat.le_trans (by decide) hdd) rfl dX11_harm_52 rfl (Nat.le_of_ble_eq_true rfl) ?_
      refine AW.sub (lv1 := []) [] rfl ?_
      cases h
      exact J40
    · replace h := hT h c5
      refine AW.iconst dX11_harm_43 ?_
      refine AW.goto (tgt := 55) dX11_harm_44 (by decide) ?_
      refine AW.sub (lv1 := []) [] rfl ?_
      cases h
      exact J40
  · replace h := hT h c1
    refine AW.iconst dX11_harm_12 ?_
    exact AW.iret1 rfl dX11_harm_13 h rfl
theorem Trips_lateBy_ok {z : AZ} {x1 : Int} {x2 : Int} {g : AG} {r : Int × AG} (h : Trips_lateBy x1 x2 g = some r) : AMf z yX7_lateBy cX7_lateBy 4 (some .int) 5 [rv z 7, iv x1, iv x2] g r := by
  intro d hdd
  refine AM.of (by decide +kernel) (Nat.le_of_ble_eq_true rfl) ?_
  show AW z (RX7, cX7_lateBy, 4, (some .int)) d (QD (some .int) r) 0 [(0, rv z 7), (1, iv x1), (2, iv x2)] [] g
  unfold Trips_lateBy at h
  refine AW.aloadr_n 0 dX7_lateBy_0 rfl ?_
  refine AW.getR af_X7_35_7 sr_7_2 dX7_lateBy_1 ?_
  refine AW.aloadr_n 0 dX7_lateBy_4 rfl ?_
  refine AW.getR af_X7_27_7 sr_7_0 dX7_lateBy_5 ?_
  refine AW.getR af_X7_43_6 sr_6_6 dX7_lateBy_8 ?_
  refine AW.aloadr_n 0 dX7_lateBy_11 rfl ?_
  refine AW.getR af_X7_9_7 sr_7_3 dX7_lateBy_12 ?_
  refine AW.iload_n 1 dX7_lateBy_15 rfl ?_
  obtain ⟨k1, h⟩ := hK h
  refine AW.iald kc_76 sk_76 k1 dX7_lateBy_16 ?_
  obtain ⟨k2, h⟩ := hK h
  refine AW.iald kc_51 sk_51 k2 dX7_lateBy_17 ?_
  refine AW.aloadr_n 0 dX7_lateBy_18 rfl ?_
  refine AW.getR af_X7_15_7 sr_7_4 dX7_lateBy_19 ?_
  refine AW.iload_n 1 dX7_lateBy_22 rfl ?_
  refine AW.iald kc_77 sk_77 k1 dX7_lateBy_23 ?_
  refine AW.aloadr_n 0 dX7_lateBy_24 rfl ?_
  refine AW.getR af_X7_18_7 sr_7_5 dX7_lateBy_25 ?_
  refine AW.iload_n 1 dX7_lateBy_28 rfl ?_
  refine AW.iald kc_78 sk_78 k1 dX7_lateBy_29 ?_
  refine AW.aloadr_n 0 dX7_lateBy_30 rfl ?_
  refine AW.getR af_X7_21_7 sr_7_6 dX7_lateBy_31 ?_
  refine AW.iload_n 1 dX7_lateBy_34 rfl ?_
  refine AW.iald kc_79 sk_79 k1 dX7_lateBy_35 ?_
  refine AW.iload_n 2 dX7_lateBy_36 rfl ?_
  obtain ⟨r3, e4, h⟩ := hC h
  refine AW.callVi (As := [iv (g 51 (ix (g 76 (ix x1)))), iv (g 77 (ix x1)), iv (g 78 (ix x1)), iv (g 79 (ix x1)), iv x2]) (st := []) (Voyage_comesTo_ok e4) cq_X7_48 cr_5_X9_comesTo (Nat.le_trans (by decide) hdd) rfl dX7_lateBy_37 rfl (Nat.le_of_ble_eq_true rfl) ?_
  refine AW.istore_n (lv1 := [(3, iv r3.1), (0, rv z 7), (1, iv x1), (2, iv x2)]) dX7_lateBy_40 (by decide) rfl ?_
  refine AW.iload_n 0 dX7_lateBy_41 rfl ?_
  refine AW.iconst dX7_lateBy_42 ?_
  obtain ⟨r6, e7, h⟩ := hC h
  refine AW.join (tgt := 64) (lv1 := []) (st1 := [iv r6.1]) (g1 := r6.2) ?_ (fun J43 => ?_)
  · exact AW.iret1 rfl dX7_lateBy_64 h rfl
  replace h := e7
  refine AW.icmp_ne (tgt := 52) dX7_lateBy_43 (by decide) (fun c5 => ?_) (fun c5 => ?_)
  · replace h := hF h c5
    refine AW.iconst dX7_lateBy_52 ?_
    refine AW.iload_n 0 dX7_lateBy_53 rfl ?_
    refine AW.aloadr_n 1 dX7_lateBy_54 rfl ?_
    refine AW.getR af_X7_24_7 sr_7_7 dX7_lateBy_55 ?_
    refine AW.iload_n 2 dX7_lateBy_58 rfl ?_
    refine AW.iald kc_80 sk_80 k1 dX7_lateBy_59 ?_
    refine AW.isub dX7_lateBy_60 ?_
    refine AW.mmax (st := []) cm_X7_54 mst_max mini mcd_max (Nat.le_trans (by decide) hdd) (Nat.le_of_ble_eq_true rfl) dX7_lateBy_61 ?_
    refine AW.sub (lv1 := []) [] rfl ?_
    cases h
    exact J43
  · replace h := hT h c5
    refine AW.sipush dX7_lateBy_46 (by decide) (by decide) ?_
    refine AW.goto (tgt := 64) dX7_lateBy_49 (by decide) ?_
    refine AW.sub (lv1 := []) [] rfl ?_
    cases h
    exact J43
theorem Rules_askWeek_ok {z : AZ} {x1 : Int} {g : AG} {r : Int × AG} (h : Rules_askWeek x1 g = some r) : AMf z yX6_askWeek cX6_askWeek 2 none 1 [rv z 2, iv x1] g r := by
  intro d hdd
  refine AM.of (by decide +kernel) (Nat.le_of_ble_eq_true rfl) ?_
  show AW z (RX6, cX6_askWeek, 2, none) d (QD none r) 0 [(0, rv z 2), (1, iv x1)] [] g
  unfold Rules_askWeek at h
  refine AW.aloadr_n 0 dX6_askWeek_0 rfl ?_
  refine AW.getR af_X6_42_2 sr_2_13 dX6_askWeek_1 ?_
  refine AW.iconst dX6_askWeek_4 ?_
  obtain ⟨g1, e2, h⟩ := hBe h
  refine AW.callSv (st := []) (fill_ok kc_27 sk_27 (by decide)) cf_X6_58 st_fill (Nat.le_trans (by decide) hdd) rfl dX6_askWeek_5 rfl (Nat.le_of_ble_eq_true rfl) ?_
  rw [← e2]
  refine AW.aloadr_n 0 dX6_askWeek_8 rfl ?_
  refine AW.getR af_X6_42_2 sr_2_13 dX6_askWeek_9 ?_
  refine AW.iconst dX6_askWeek_12 ?_
  refine AW.iload_n 1 dX6_askWeek_13 rfl ?_
  obtain ⟨g3, e4, h⟩ := hBe h
  refine AW.iast kc_27 sk_27 (by decide) dX6_askWeek_14 e4 ?_
  exact AW.vret1 rfl dX6_askWeek_15 h rfl
theorem Boats_priceLine_ok {z : AZ} {x1 : Int} {x2 : Int} {x3 : Int} {g : AG} {r : Int × AG} (h : Boats_priceLine x1 x2 x3 g = some r) : AMf z yX0_priceLine cX0_priceLine 4 (some .int) 4 [rv z 6, iv x1, iv x2, iv x3] g r := by
  intro d hdd
  refine AM.of (by decide +kernel) (Nat.le_of_ble_eq_true rfl) ?_
  show AW z (RX0, cX0_priceLine, 4, (some .int)) d (QD (some .int) r) 0 [(0, rv z 6), (1, iv x1), (2, iv x2), (3, iv x3)] [] g
  unfold Boats_priceLine at h
  refine AW.aloadr_n 0 dX0_priceLine_0 rfl ?_
  refine AW.getR af_X0_42_6 sr_6_1 dX0_priceLine_1 ?_
  refine AW.iload_n 2 dX0_priceLine_4 rfl ?_
  obtain ⟨r1, e2, h⟩ := hC h
  refine AW.callVv (As := [iv x2]) (st := []) (Rules_askWeek_ok e2) cq_X0_127 cr_2_X6_askWeek (Nat.le_trans (by decide) hdd) rfl dX0_priceLine_5 rfl (Nat.le_of_ble_eq_true rfl) ?_
  refine AW.aloadr_n 0 dX0_priceLine_8 rfl ?_
  refine AW.getR af_X0_42_6 sr_6_1 dX0_priceLine_9 ?_
  refine AW.getR af_X0_115_2 sr_2_13 dX0_priceLine_12 ?_
  refine AW.iconst dX0_priceLine_15 ?_
  refine AW.aloadr_n 0 dX0_priceLine_16 rfl ?_
  refine AW.getR af_X0_9_6 sr_6_3 dX0_priceLine_17 ?_
  refine AW.iload_n 1 dX0_priceLine_20 rfl ?_
  obtain ⟨k3, h⟩ := hK h
  refine AW.iald kc_48 sk_48 k3 dX0_priceLine_21 ?_
  obtain ⟨g4, e5, h⟩ := hBe h
  refine AW.iast kc_27 sk_27 (by decide) dX0_priceLine_22 e5 ?_
  refine AW.aloadr_n 0 dX0_priceLine_23 rfl ?_
  refine AW.getR af_X0_42_6 sr_6_1 dX0_priceLine_24 ?_
  refine AW.getR af_X0_115_2 sr_2_13 dX0_priceLine_27 ?_
  refine AW.iconst dX0_priceLine_30 ?_
  refine AW.iload_n 3 dX0_priceLine_31 rfl ?_
  obtain ⟨t6, e7, h⟩ := hBe h
  refine AW.join (tgt := 40) (lv1 := [(0, rv z 6), (1, iv x1), (2, iv x2), (3, iv x3)]) (st1 := [iv t6, iv 4, rv z 27]) (g1 := g4) ?_ (fun J32 => ?_)
  · obtain ⟨g8, e9, h⟩ := hBe h
    refine AW.iast kc_27 sk_27 (by decide) dX0_priceLine_40 e9 ?_
    refine AW.aloadr_n 0 dX0_priceLine_41 rfl ?_
    refine AW.getR af_X0_42_6 sr_6_1 dX0_priceLine_42 ?_
    refine AW.getR af_X0_115_2 sr_2_13 dX0_priceLine_45 ?_
    refine AW.iconst dX0_priceLine_48 ?_
    refine AW.aloadr_n 0 dX0_priceLine_49 rfl ?_
    refine AW.getR af_X0_15_6 sr_6_4 dX0_priceLine_50 ?_
    refine AW.iload_n 1 dX0_priceLine_53 rfl ?_
    refine AW.iald kc_49 sk_49 k3 dX0_priceLine_54 ?_
    obtain ⟨g10, e11, h⟩ := hBe h
    refine AW.iast kc_27 sk_27 (by decide) dX0_priceLine_55 e11 ?_
    refine AW.aloadr_n 0 dX0_priceLine_56 rfl ?_
    refine AW.getR af_X0_42_6 sr_6_1 dX0_priceLine_57 ?_
    refine AW.bipush dX0_priceLine_60 (by decide) (by decide) ?_
    obtain ⟨r12, e13, h⟩ := hC h
    refine AW.callVi (As := [iv 102]) (st := []) (Rules_serving_ok e13) cq_X0_118 cr_2_X6_serving (Nat.le_trans (by decide) hdd) rfl dX0_priceLine_62 rfl (Nat.le_of_ble_eq_true rfl) ?_
    exact AW.iret1 rfl dX0_priceLine_65 h rfl
  refine AW.if_eq (tgt := 39) dX0_priceLine_32 (by decide) (fun c14 => ?_) (fun c14 => ?_)
  · refine AW.iconst dX0_priceLine_39 ?_
    exact AW.val (e7.trans (if_pos c14)) J32
  · refine AW.iconst dX0_priceLine_35 ?_
    refine AW.goto (tgt := 40) dX0_priceLine_36 (by decide) ?_
    exact AW.val (e7.trans (if_neg c14)) J32
theorem Trips_refund_ok {z : AZ} {x1 : Int} {g : AG} {r : Int × AG} (h : Trips_refund x1 g = some r) : AMf z yX7_refund cX7_refund 6 (some .int) 6 [rv z 7, iv x1] g r := by
  intro d hdd
  refine AM.of (by decide +kernel) (Nat.le_of_ble_eq_true rfl) ?_
  show AW z (RX7, cX7_refund, 6, (some .int)) d (QD (some .int) r) 0 [(0, rv z 7), (1, iv x1)] [] g
  unfold Trips_refund at h
  refine AW.aloadr_n 0 dX7_refund_0 rfl ?_
  refine AW.iload_n 1 dX7_refund_1 rfl ?_
  refine AW.iconst dX7_refund_2 ?_
  obtain ⟨r1, e2, h⟩ := hC h
  refine AW.callVi (As := [iv x1, iv 1]) (st := []) (Trips_lateBy_ok e2) cq_X7_60 cr_7_X7_lateBy (Nat.le_trans (by decide) hdd) rfl dX7_refund_3 rfl (Nat.le_of_ble_eq_true rfl) ?_
  refine AW.istore_n (lv1 := [(2, iv r1.1), (0, rv z 7), (1, iv x1)]) dX7_refund_6 (by decide) rfl ?_
  refine AW.iload_n 0 dX7_refund_7 rfl ?_
  refine AW.if_ne (tgt := 13) dX7_refund_8 (by decide) (fun c3 => ?_) (fun c3 => ?_)
  · replace h := hF h c3
    refine AW.aloadr_n 1 dX7_refund_13 rfl ?_
    refine AW.getR af_X7_27_7 sr_7_0 dX7_refund_14 ?_
    refine AW.aloadr_n 1 dX7_refund_17 rfl ?_
    refine AW.getR af_X7_9_7 sr_7_3 dX7_refund_18 ?_
    refine AW.iload_n 2 dX7_refund_21 rfl ?_
    obtain ⟨k4, h⟩ := hK h
    refine AW.iald kc_76 sk_76 k4 dX7_refund_22 ?_
    refine AW.aloadr_n 1 dX7_refund_23 rfl ?_
    refine AW.getR af_X7_21_7 sr_7_6 dX7_refund_24 ?_
    refine AW.iload_n 2 dX7_refund_27 rfl ?_
    refine AW.iald kc_79 sk_79 k4 dX7_refund_28 ?_
    refine AW.sipush dX7_refund_29 (by decide) (by decide) ?_
    refine AW.idiv dX7_refund_32 (by decide) ?_
    refine AW.bipush dX7_refund_33 (by decide) (by decide) ?_
    refine AW.idiv dX7_refund_35 (by decide) ?_
    refine AW.aloadr_n 1 dX7_refund_36 rfl ?_
    refine AW.getR af_X7_15_7 sr_7_4 dX7_refund_37 ?_
    refine AW.iload_n 2 dX7_refund_40 rfl ?_
    refine AW.iald kc_77 sk_77 k4 dX7_refund_41 ?_
    refine AW.aloadr_n 1 dX7_refund_42 rfl ?_
    refine AW.getR af_X7_18_7 sr_7_5 dX7_refund_43 ?_
    refine AW.iload_n 2 dX7_refund_46 rfl ?_
    refine AW.iald kc_78 sk_78 k4 dX7_refund_47 ?_
    obtain ⟨t5, e6, h⟩ := hBe h
    refine AW.join (tgt := 56) (lv1 := [(2, iv r1.1), (0, rv z 7), (1, iv x1)]) (st1 := [iv t5, iv ((nw ((nw (r1.2 79 (ix x1))).tdiv 1440)).tdiv 7), iv (r1.2 76 (ix x1)), rv z 6]) (g1 := r1.2) ?_ (fun J48 => ?_)
    · obtain ⟨r7, e8, h⟩ := hC h
      refine AW.callVi (As := [iv (r1.2 76 (ix x1)), iv ((nw ((nw (r1.2 79 (ix x1))).tdiv 1440)).tdiv 7), iv t5]) (st := []) (Boats_priceLine_ok e8) cq_X7_73 cr_6_X0_priceLine (Nat.le_trans (by decide) hdd) rfl dX7_refund_56 rfl (Nat.le_of_ble_eq_true rfl) ?_
      refine AW.istore_n (lv1 := [(3, iv r7.1), (2, iv r1.1), (0, rv z 7), (1, iv x1)]) dX7_refund_59 (by decide) rfl ?_
      refine AW.iload_n 0 dX7_refund_60 rfl ?_
      refine AW.iconst dX7_refund_61 ?_
      refine AW.icmp_ne (tgt := 68) dX7_refund_62 (by decide) (fun c9 => ?_) (fun c9 => ?_)
      · replace h := hF h c9
        refine AW.bipush dX7_refund_68 (by decide) (by decide) ?_
        refine AW.iload_n 1 dX7_refund_70 rfl ?_
        refine AW.sipush dX7_refund_71 (by decide) (by decide) ?_
        refine AW.iadd dX7_refund_74 ?_
        refine AW.iconst dX7_refund_75 ?_
        refine AW.isub dX7_refund_76 ?_
        refine AW.sipush dX7_refund_77 (by decide) (by decide) ?_
        refine AW.idiv dX7_refund_80 (by decide) ?_
        refine AW.mmin (st := []) cm_X7_77 mst_min mini mcd_min (Nat.le_trans (by decide) hdd) (Nat.le_of_ble_eq_true rfl) dX7_refund_81 ?_
        refine AW.i2l dX7_refund_84 ?_
        refine AW.lstore (lv1 := [(4, jv (nw (mnI 7 ((nw ((r1.1 + 1440) - 1)).tdiv 1440)))), (3, iv r7.1), (2, iv r1.1), (0, rv z 7), (1, iv x1)]) dX7_refund_85 (by decide) rfl ?_
        refine AW.aloadr_n 3 dX7_refund_87 rfl ?_
        refine AW.getR af_X7_31_7 sr_7_1 dX7_refund_88 ?_
        refine AW.iload_n 1 dX7_refund_91 rfl ?_
        obtain ⟨r10, e11, h⟩ := hC h
        refine AW.callVi (As := [iv r7.1]) (st := []) (Rules_valueOf_ok e11) cq_X7_80 cr_2_X6_valueOf (Nat.le_trans (by decide) hdd) rfl dX7_refund_92 rfl (Nat.le_of_ble_eq_true rfl) ?_
        refine AW.i2l dX7_refund_95 ?_
        refine AW.lload 0 dX7_refund_96 rfl ?_
        refine AW.lmul dX7_refund_98 ?_
        refine AW.ldc2 dX7_refund_99 cw_X7_85 ?_
        refine AW.ldiv dX7_refund_102 (by decide) ?_
        refine AW.l2i dX7_refund_103 ?_
        exact AW.iret1 rfl dX7_refund_104 h rfl
      · replace h := hT h c9
        refine AW.ldc dX7_refund_65 cw_X7_64 ?_
        exact AW.iret1 rfl dX7_refund_67 h rfl
    refine AW.icmp_eq (tgt := 55) dX7_refund_48 (by decide) (fun c12 => ?_) (fun c12 => ?_)
    · refine AW.iconst dX7_refund_55 ?_
      exact AW.val (e6.trans (if_pos c12)) J48
    · refine AW.iconst dX7_refund_51 ?_
      refine AW.goto (tgt := 56) dX7_refund_52 (by decide) ?_
      exact AW.val (e6.trans (if_neg c12)) J48
  · replace h := hT h c3
    refine AW.iconst dX7_refund_11 ?_
    exact AW.iret1 rfl dX7_refund_12 h rfl
theorem Trips_isBackInTime_ok {z : AZ} {x1 : Int} {x2 : Int} {g : AG} {r : Int × AG} (h : Trips_isBackInTime x1 x2 g = some r) : AMf z yX7_isBackInTime cX7_isBackInTime 6 (some .boolean) 5 [rv z 7, iv x1, iv x2] g r := by
  intro d hdd
  refine AM.of (by decide +kernel) (Nat.le_of_ble_eq_true rfl) ?_
  show AW z (RX7, cX7_isBackInTime, 6, (some .boolean)) d (QD (some .boolean) r) 0 [(0, rv z 7), (1, iv x1), (2, iv x2)] [] g
  unfold Trips_isBackInTime at h
  refine AW.aloadr_n 0 dX7_isBackInTime_0 rfl ?_
  refine AW.getR af_X7_27_7 sr_7_0 dX7_isBackInTime_1 ?_
  refine AW.getR af_X7_43_6 sr_6_6 dX7_isBackInTime_4 ?_
  refine AW.aloadr_n 0 dX7_isBackInTime_7 rfl ?_
  refine AW.getR af_X7_9_7 sr_7_3 dX7_isBackInTime_8 ?_
  refine AW.iload_n 1 dX7_isBackInTime_11 rfl ?_
  obtain ⟨k1, h⟩ := hK h
  refine AW.iald kc_76 sk_76 k1 dX7_isBackInTime_12 ?_
  obtain ⟨k2, h⟩ := hK h
  refine AW.iald kc_51 sk_51 k2 dX7_isBackInTime_13 ?_
  refine AW.istore_n (lv1 := [(3, iv (g 51 (ix (g 76 (ix x1))))), (0, rv z 7), (1, iv x1), (2, iv x2)]) dX7_isBackInTime_14 (by decide) rfl ?_
  refine AW.aloadr_n 1 dX7_isBackInTime_15 rfl ?_
  refine AW.getR af_X7_35_7 sr_7_2 dX7_isBackInTime_16 ?_
  refine AW.iload_n 0 dX7_isBackInTime_19 rfl ?_
  refine AW.aloadr_n 1 dX7_isBackInTime_20 rfl ?_
  refine AW.getR af_X7_15_7 sr_7_4 dX7_isBackInTime_21 ?_
  refine AW.iload_n 2 dX7_isBackInTime_24 rfl ?_
  refine AW.iald kc_77 sk_77 k1 dX7_isBackInTime_25 ?_
  refine AW.iload_n 3 dX7_isBackInTime_26 rfl ?_
  refine AW.aloadr_n 1 dX7_isBackInTime_27 rfl ?_
  refine AW.getR af_X7_21_7 sr_7_6 dX7_isBackInTime_28 ?_
  refine AW.iload_n 2 dX7_isBackInTime_31 rfl ?_
  refine AW.iald kc_79 sk_79 k1 dX7_isBackInTime_32 ?_
  refine AW.iconst dX7_isBackInTime_33 ?_
  obtain ⟨r3, e4, h⟩ := hC h
  refine AW.callVi (As := [iv (g 51 (ix (g 76 (ix x1)))), iv (g 77 (ix x1)), iv x2, iv (g 79 (ix x1)), iv 1]) (st := []) (Voyage_comesTo_ok e4) cq_X7_48 cr_5_X9_comesTo (Nat.le_trans (by decide) hdd) rfl dX7_isBackInTime_34 rfl (Nat.le_of_ble_eq_true rfl) ?_
  refine AW.istore (lv1 := [(4, iv r3.1), (3, iv (g 51 (ix (g 76 (ix x1))))), (0, rv z 7), (1, iv x1), (2, iv x2)]) dX7_isBackInTime_37 (by decide) rfl ?_
  refine AW.iload 0 dX7_isBackInTime_39 rfl ?_
  refine AW.iconst dX7_isBackInTime_41 ?_
  refine AW.icmp_ne (tgt := 47) dX7_isBackInTime_42 (by decide) (fun c5 => ?_) (fun c5 => ?_)
  · replace h := hF h c5
    refine AW.aloadr_n 2 dX7_isBackInTime_47 rfl ?_
    refine AW.getR af_X7_35_7 sr_7_2 dX7_isBackInTime_48 ?_
    refine AW.iload_n 1 dX7_isBackInTime_51 rfl ?_
    refine AW.iload_n 4 dX7_isBackInTime_52 rfl ?_
    refine AW.aloadr_n 2 dX7_isBackInTime_53 rfl ?_
    refine AW.getR af_X7_15_7 sr_7_4 dX7_isBackInTime_54 ?_
    refine AW.iload_n 3 dX7_isBackInTime_57 rfl ?_
    refine AW.iald kc_77 sk_77 k1 dX7_isBackInTime_58 ?_
    refine AW.iload 0 dX7_isBackInTime_59 rfl ?_
    refine AW.iconst dX7_isBackInTime_61 ?_
    obtain ⟨r6, e7, h⟩ := hC h
    refine AW.callVi (As := [iv (g 51 (ix (g 76 (ix x1)))), iv x2, iv (r3.2 77 (ix x1)), iv r3.1, iv 1]) (st := []) (Voyage_comesTo_ok e7) cq_X7_48 cr_5_X9_comesTo (Nat.le_trans (by decide) hdd) rfl dX7_isBackInTime_62 rfl (Nat.le_of_ble_eq_true rfl) ?_
    refine AW.istore (lv1 := [(5, iv r6.1), (4, iv r3.1), (3, iv (g 51 (ix (g 76 (ix x1))))), (0, rv z 7), (1, iv x1), (2, iv x2)]) dX7_isBackInTime_65 (by decide) rfl ?_
    refine AW.iload 0 dX7_isBackInTime_67 rfl ?_
    refine AW.iconst dX7_isBackInTime_69 ?_
    obtain ⟨r12, e13, h⟩ := hC h
    refine AW.join (tgt := 89) (lv1 := []) (st1 := [iv r12.1]) (g1 := r12.2) ?_ (fun J70 => ?_)
    · obtain ⟨k14, h⟩ := hK h
      exact AW.zret1 rfl k14 dX7_isBackInTime_89 h rfl
    replace h := e13
    refine AW.icmp_eq (tgt := 88) dX7_isBackInTime_70 (by decide) (fun c8 => ?_) (fun c8 => ?_)
    · replace h := hT h c8
      refine AW.iconst dX7_isBackInTime_88 ?_
      refine AW.sub (lv1 := []) [] rfl ?_
      cases h
      exact J70
    · replace h := hF h c8
      refine AW.iload 0 dX7_isBackInTime_73 rfl ?_
      refine AW.aloadr_n 3 dX7_isBackInTime_75 rfl ?_
      refine AW.getR af_X7_24_7 sr_7_7 dX7_isBackInTime_76 ?_
      refine AW.iload_n 4 dX7_isBackInTime_79 rfl ?_
      refine AW.iald kc_80 sk_80 k1 dX7_isBackInTime_80 ?_
      obtain ⟨t9, e10, h⟩ := hBe h
      refine AW.join (tgt := 89) (lv1 := [(5, iv r6.1), (4, iv r3.1), (3, iv (g 51 (ix (g 76 (ix x1))))), (0, rv z 7), (1, iv x1), (2, iv x2)]) (st1 := [iv t9]) (g1 := r6.2) ?_ (fun J81 => ?_)
      · refine AW.sub (lv1 := []) [] rfl ?_
        cases h
        exact J70
      refine AW.icmp_gt (tgt := 88) dX7_isBackInTime_81 (by decide) (fun c11 => ?_) (fun c11 => ?_)
      · refine AW.iconst dX7_isBackInTime_88 ?_
        exact AW.val (e10.trans (if_pos c11)) J81
      · refine AW.iconst dX7_isBackInTime_84 ?_
        refine AW.goto (tgt := 89) dX7_isBackInTime_85 (by decide) ?_
        exact AW.val (e10.trans (if_neg c11)) J81
  · replace h := hT h c5
    refine AW.iconst dX7_isBackInTime_45 ?_
    exact AW.zret1 rfl (Or.inl rfl) dX7_isBackInTime_46 h rfl
set_option synthInstance.maxHeartbeats 2000000 in
theorem Trips_turningBack_b_ok {z : AZ} {d : Nat} (hdd : 6 ≤ d) {x1 : Int} {x3 : Int} {x4 : Int} : ∀ (x2 : Int) (x5 : Int) (g : AG) (r : Int × AG), Trips_turningBack_b x1 x3 x4 x2 x5 g = some r → AW z (RX7, cX7_turningBack, 7, (some .int)) d (QD (some .int) r) 45 [(0, rv z 7), (1, iv x1), (2, iv x2), (3, iv x3), (4, iv x4), (5, iv x5)] [] g := by
  refine Trips_turningBack_b.partial_correctness x1 x3 x4 (fun x2 x5 g r => AW z (RX7, cX7_turningBack, 7, (some .int)) d (QD (some .int) r) 45 [(0, rv z 7), (1, iv x1), (2, iv x2), (3, iv x3), (4, iv x4), (5, iv x5)] [] g) ?_
  intro fb9 ih x2 x5 g r h
  refine AW.iload 5 dX7_turningBack_45 rfl ?_
  refine AW.iload 4 dX7_turningBack_47 rfl ?_
  refine AW.icmp_gt (tgt := 84) dX7_turningBack_49 (by decide) (fun c1 => ?_) (fun c1 => ?_)
  · replace h := hT h c1
    refine AW.iload_n 2 dX7_turningBack_84 rfl ?_
    exact AW.iret1 rfl dX7_turningBack_85 h rfl
  · replace h := hF h c1
    refine AW.aloadr_n 0 dX7_turningBack_52 rfl ?_
    refine AW.getR af_X7_15_7 sr_7_4 dX7_turningBack_53 ?_
    refine AW.iload_n 1 dX7_turningBack_56 rfl ?_
    obtain ⟨k2, h⟩ := hK h
    refine AW.iald kc_77 sk_77 k2 dX7_turningBack_57 ?_
    refine AW.iload 5 dX7_turningBack_58 rfl ?_
    refine AW.iload_n 3 dX7_turningBack_60 rfl ?_
    refine AW.imul dX7_turningBack_61 ?_
    refine AW.iadd dX7_turningBack_62 ?_
    refine AW.istore (lv1 := [(6, iv ((g 77 (ix x1)) + (x5 * x3))), (0, rv z 7), (1, iv x1), (2, iv x2), (3, iv x3), (4, iv x4), (5, iv x5)]) dX7_turningBack_63 (by decide) rfl ?_
    refine AW.aloadr_n 1 dX7_turningBack_65 rfl ?_
    refine AW.iload_n 2 dX7_turningBack_66 rfl ?_
    refine AW.iload 0 dX7_turningBack_67 rfl ?_
    obtain ⟨r3, e4, h⟩ := hC h
    refine AW.callVi (As := [iv x1, iv ((g 77 (ix x1)) + (x5 * x3))]) (st := []) (Trips_isBackInTime_ok e4) cq_X7_69 cr_7_X7_isBackInTime (Nat.le_trans (by decide) hdd) rfl dX7_turningBack_69 rfl (Nat.le_of_ble_eq_true rfl) ?_
    obtain ⟨r6, e7, h⟩ := hC h
    refine AW.join (tgt := 78) (lv1 := [(0, rv z 7), (1, iv x1), (2, iv r6.1), (3, iv x3), (4, iv x4), (5, iv x5)]) (st1 := []) (g1 := r6.2) ?_ (fun J72 => ?_)
    · refine AW.iinc (lv1 := [(5, iv (x5 + 1)), (0, rv z 7), (1, iv x1), (2, iv r6.1), (3, iv x3), (4, iv x4)]) 5 dX7_turningBack_78 rfl (by decide) rfl ?_
      refine AW.goto (tgt := 45) dX7_turningBack_81 (by decide) ?_
      refine AW.sub (lv1 := [(0, rv z 7), (1, iv x1), (2, iv r6.1), (3, iv x3), (4, iv x4), (5, iv (x5 + 1))]) [1, 2, 3, 4, 5, 0] rfl ?_
      exact ih _ _ _ _ h
    replace h := e7
    refine AW.if_eq (tgt := 78) dX7_turningBack_72 (by decide) (fun c5 => ?_) (fun c5 => ?_)
    · replace h := hT h c5
      refine AW.sub (lv1 := [(0, rv z 7), (1, iv x1), (2, iv x2), (3, iv x3), (4, iv x4), (5, iv x5)]) [1, 2, 3, 4, 5, 6] rfl ?_
      cases h
      exact J72
    · replace h := hF h c5
      refine AW.iload 0 dX7_turningBack_75 rfl ?_
      refine AW.istore_n (lv1 := [(2, iv ((g 77 (ix x1)) + (x5 * x3))), (6, iv ((g 77 (ix x1)) + (x5 * x3))), (0, rv z 7), (1, iv x1), (3, iv x3), (4, iv x4), (5, iv x5)]) dX7_turningBack_77 (by decide) rfl ?_
      refine AW.sub (lv1 := [(0, rv z 7), (1, iv x1), (2, iv ((g 77 (ix x1)) + (x5 * x3))), (3, iv x3), (4, iv x4), (5, iv x5)]) [2, 3, 0, 4, 5, 6] rfl ?_
      cases h
      exact J72
theorem Trips_turningBack_ok {z : AZ} {x1 : Int} {g : AG} {r : Int × AG} (h : Trips_turningBack x1 g = some r) : AMf z yX7_turningBack cX7_turningBack 7 (some .int) 6 [rv z 7, iv x1] g r := by
  intro d hdd
  refine AM.of (by decide +kernel) (Nat.le_of_ble_eq_true rfl) ?_
  show AW z (RX7, cX7_turningBack, 7, (some .int)) d (QD (some .int) r) 0 [(0, rv z 7), (1, iv x1)] [] g
  unfold Trips_turningBack at h
  refine AW.ldc dX7_turningBack_0 cw_X7_64 ?_
  refine AW.istore_n (lv1 := [(2, iv (-1000000)), (0, rv z 7), (1, iv x1)]) dX7_turningBack_2 (by decide) rfl ?_
  refine AW.aloadr_n 1 dX7_turningBack_3 rfl ?_
  refine AW.getR af_X7_18_7 sr_7_5 dX7_turningBack_4 ?_
  refine AW.iload_n 2 dX7_turningBack_7 rfl ?_
  obtain ⟨k1, h⟩ := hK h
  refine AW.iald kc_78 sk_78 k1 dX7_turningBack_8 ?_
  refine AW.aloadr_n 1 dX7_turningBack_9 rfl ?_
  refine AW.getR af_X7_15_7 sr_7_4 dX7_turningBack_10 ?_
  refine AW.iload_n 2 dX7_turningBack_13 rfl ?_
  refine AW.iald kc_77 sk_77 k1 dX7_turningBack_14 ?_
  obtain ⟨t2, e3, h⟩ := hBe h
  refine AW.join (tgt := 23) (lv1 := [(2, iv (-1000000)), (0, rv z 7), (1, iv x1)]) (st1 := [iv t2]) (g1 := g) ?_ (fun J15 => ?_)
  · refine AW.istore_n (lv1 := [(3, iv t2), (2, iv (-1000000)), (0, rv z 7), (1, iv x1)]) dX7_turningBack_23 (by decide) rfl ?_
    refine AW.aloadr_n 2 dX7_turningBack_24 rfl ?_
    refine AW.getR af_X7_18_7 sr_7_5 dX7_turningBack_25 ?_
    refine AW.iload_n 3 dX7_turningBack_28 rfl ?_
    refine AW.iald kc_78 sk_78 k1 dX7_turningBack_29 ?_
    refine AW.aloadr_n 2 dX7_turningBack_30 rfl ?_
    refine AW.getR af_X7_15_7 sr_7_4 dX7_turningBack_31 ?_
    refine AW.iload_n 3 dX7_turningBack_34 rfl ?_
    refine AW.iald kc_77 sk_77 k1 dX7_turningBack_35 ?_
    refine AW.isub dX7_turningBack_36 ?_
    refine AW.mabs (st := []) cm_X7_65 mst_abs mini mcd_abs (Nat.le_trans (by decide) hdd) (Nat.le_of_ble_eq_true rfl) dX7_turningBack_37 ?_
    refine AW.istore (lv1 := [(4, iv (abI ((g 78 (ix x1)) - (g 77 (ix x1))))), (3, iv t2), (2, iv (-1000000)), (0, rv z 7), (1, iv x1)]) dX7_turningBack_40 (by decide) rfl ?_
    refine AW.iconst dX7_turningBack_42 ?_
    refine AW.istore (lv1 := [(5, iv 0), (4, iv (abI ((g 78 (ix x1)) - (g 77 (ix x1))))), (3, iv t2), (2, iv (-1000000)), (0, rv z 7), (1, iv x1)]) dX7_turningBack_43 (by decide) rfl ?_
    refine AW.sub (lv1 := [(0, rv z 7), (1, iv x1), (2, iv (-1000000)), (3, iv t2), (4, iv (abI ((g 78 (ix x1)) - (g 77 (ix x1))))), (5, iv 0)]) [4, 5, 3, 2, 1, 0] rfl ?_
    exact Trips_turningBack_b_ok hdd _ _ _ _ h
  refine AW.icmp_ge (tgt := 22) dX7_turningBack_15 (by decide) (fun c4 => ?_) (fun c4 => ?_)
  · refine AW.iconst dX7_turningBack_22 ?_
    exact AW.val (e3.trans (if_pos c4)) J15
  · refine AW.iconst dX7_turningBack_18 ?_
    refine AW.goto (tgt := 23) dX7_turningBack_19 (by decide) ?_
    exact AW.val (e3.trans (if_neg c4)) J15
theorem X_back_ok {z : AZ} {x1 : Int} {x2 : Int} {g : AG} {r : Int × AG} (h : X_back x1 x2 g = some r) : AMf z yX11_back cX11_back 3 (some .int) 7 [rv z 0, iv x1, iv x2] g r := by
  intro d hdd
  refine AM.of (by decide +kernel) (Nat.le_of_ble_eq_true rfl) ?_
  show AW z (RX11, cX11_back, 3, (some .int)) d (QD (some .int) r) 0 [(0, rv z 0), (1, iv x1), (2, iv x2)] [] g
  unfold X_back at h
  refine AW.iload_n 1 dX11_back_0 rfl ?_
  refine AW.iconst dX11_back_1 ?_
  refine AW.aloadr_n 0 dX11_back_2 rfl ?_
  refine AW.getR af_X11_58_0 sr_0_6 dX11_back_3 ?_
  refine AW.getI af_X11_197_7 sr_7_8 dX11_back_6 ?_
  refine AW.iconst dX11_back_9 ?_
  refine AW.isub dX11_back_10 ?_
  refine AW.callSi (As := [iv x1, iv 0, iv ((g 7 8) - 1)]) (st := []) X_within_ok cq_X11_99 st_X11_within (Nat.le_trans (by decide) hdd) rfl dX11_back_11 rfl (Nat.le_of_ble_eq_true rfl) ?_
  refine AW.if_ne (tgt := 20) dX11_back_14 (by decide) (fun c1 => ?_) (fun c1 => ?_)
  · replace h := hF h c1
    refine AW.iload_n 2 dX11_back_20 rfl ?_
    refine AW.if_ne (tgt := 33) dX11_back_21 (by decide) (fun c2 => ?_) (fun c2 => ?_)
    · replace h := hF h c2
      refine AW.iload_n 2 dX11_back_33 rfl ?_
      refine AW.iconst dX11_back_34 ?_
      obtain ⟨r6, e7, h⟩ := hC h
      refine AW.join (tgt := 51) (lv1 := []) (st1 := [iv r6.1]) (g1 := r6.2) ?_ (fun J35 => ?_)
      · exact AW.iret1 rfl dX11_back_51 h rfl
      replace h := e7
      refine AW.icmp_ne (tgt := 49) dX11_back_35 (by decide) (fun c3 => ?_) (fun c3 => ?_)
      · replace h := hF h c3
        refine AW.ldc dX11_back_49 cw_X11_198 ?_
        refine AW.sub (lv1 := []) [] rfl ?_
        cases h
        exact J35
      · replace h := hT h c3
        refine AW.aloadr_n 0 dX11_back_38 rfl ?_
        refine AW.getR af_X11_58_0 sr_0_6 dX11_back_39 ?_
        refine AW.iload_n 1 dX11_back_42 rfl ?_
        obtain ⟨r4, e5, h⟩ := hC h
        refine AW.callVi (As := [iv x1]) (st := []) (Trips_refund_ok e5) cq_X11_202 cr_7_X7_refund (Nat.le_trans (by decide) hdd) rfl dX11_back_43 rfl (Nat.le_of_ble_eq_true rfl) ?_
        refine AW.goto (tgt := 51) dX11_back_46 (by decide) ?_
        refine AW.sub (lv1 := []) [] rfl ?_
        cases h
        exact J35
    · replace h := hT h c2
      refine AW.aloadr_n 0 dX11_back_24 rfl ?_
      refine AW.getR af_X11_58_0 sr_0_6 dX11_back_25 ?_
      refine AW.iload_n 1 dX11_back_28 rfl ?_
      obtain ⟨r8, e9, h⟩ := hC h
      refine AW.callVi (As := [iv x1]) (st := []) (Trips_turningBack_ok e9) cq_X11_199 cr_7_X7_turningBack (Nat.le_trans (by decide) hdd) rfl dX11_back_29 rfl (Nat.le_of_ble_eq_true rfl) ?_
      exact AW.iret1 rfl dX11_back_32 h rfl
  · replace h := hT h c1
    refine AW.ldc dX11_back_17 cw_X11_198 ?_
    exact AW.iret1 rfl dX11_back_19 h rfl
set_option synthInstance.maxHeartbeats 2000000 in
theorem X_rung_b_ok {z : AZ} {d : Nat} (hdd : 6 ≤ d) : ∀ (x1 : Int) (x2 : Int) (g : AG) (r : Int × AG), X_rung_b x1 x2 g = some r → AW z (RX11, cX11_rung, 3, (some .int)) d (QD (some .int) r) 4 [(0, rv z 0), (1, iv x1), (2, iv x2)] [] g := by
  refine X_rung_b.partial_correctness (fun x1 x2 g r => AW z (RX11, cX11_rung, 3, (some .int)) d (QD (some .int) r) 4 [(0, rv z 0), (1, iv x1), (2, iv x2)] [] g) ?_
  intro fb9 ih x1 x2 g r h
  refine AW.iload_n 2 dX11_rung_4 rfl ?_
  refine AW.aloadr_n 0 dX11_rung_5 rfl ?_
  refine AW.getR af_X11_58_0 sr_0_6 dX11_rung_6 ?_
  refine AW.getI af_X11_197_7 sr_7_8 dX11_rung_9 ?_
  refine AW.icmp_ge (tgt := 51) dX11_rung_12 (by decide) (fun c1 => ?_) (fun c1 => ?_)
  · replace h := hT h c1
    refine AW.iload_n 1 dX11_rung_51 rfl ?_
    exact AW.iret1 rfl dX11_rung_52 h rfl
  · replace h := hF h c1
    refine AW.aloadr_n 0 dX11_rung_15 rfl ?_
    refine AW.getR af_X11_58_0 sr_0_6 dX11_rung_16 ?_
    refine AW.iload_n 2 dX11_rung_19 rfl ?_
    refine AW.iconst dX11_rung_20 ?_
    obtain ⟨r2, e3, h⟩ := hC h
    refine AW.callVi (As := [iv x2, iv 1]) (st := []) (Trips_lateBy_ok e3) cq_X11_205 cr_7_X7_lateBy (Nat.le_trans (by decide) hdd) rfl dX11_rung_21 rfl (Nat.le_of_ble_eq_true rfl) ?_
    obtain ⟨r8, e9, h⟩ := hC h
    refine AW.join (tgt := 45) (lv1 := [(0, rv z 0), (1, iv r8.1), (2, iv x2)]) (st1 := []) (g1 := r8.2) ?_ (fun J24 => ?_)
    · refine AW.iinc (lv1 := [(2, iv (x2 + 1)), (0, rv z 0), (1, iv r8.1)]) 2 dX11_rung_45 rfl (by decide) rfl ?_
      refine AW.goto (tgt := 4) dX11_rung_48 (by decide) ?_
      refine AW.sub (lv1 := [(0, rv z 0), (1, iv r8.1), (2, iv (x2 + 1))]) [1, 2, 0] rfl ?_
      exact ih _ _ _ _ h
    replace h := e9
    refine AW.if_le (tgt := 45) dX11_rung_24 (by decide) (fun c4 => ?_) (fun c4 => ?_)
    · replace h := hT h c4
      cases h
      exact J24
    · replace h := hF h c4
      refine AW.aloadr_n 0 dX11_rung_27 rfl ?_
      refine AW.getR af_X11_58_0 sr_0_6 dX11_rung_28 ?_
      refine AW.iload_n 2 dX11_rung_31 rfl ?_
      refine AW.iconst dX11_rung_32 ?_
      obtain ⟨r5, e6, h⟩ := hC h
      refine AW.callVi (As := [iv x2, iv 0]) (st := []) (Trips_lateBy_ok e6) cq_X11_205 cr_7_X7_lateBy (Nat.le_trans (by decide) hdd) rfl dX11_rung_33 rfl (Nat.le_of_ble_eq_true rfl) ?_
      refine AW.if_ne (tgt := 45) dX11_rung_36 (by decide) (fun c7 => ?_) (fun c7 => ?_)
      · replace h := hF h c7
        cases h
        exact J24
      · replace h := hT h c7
        refine AW.iload_n 1 dX11_rung_39 rfl ?_
        refine AW.iconst dX11_rung_40 ?_
        refine AW.iload_n 2 dX11_rung_41 rfl ?_
        refine AW.ishl dX11_rung_42 ?_
        refine AW.ior dX11_rung_43 ?_
        refine AW.istore_n (lv1 := [(1, iv (orI x1 (shlI 1 x2))), (0, rv z 0), (2, iv x2)]) dX11_rung_44 (by decide) rfl ?_
        refine AW.sub (lv1 := [(0, rv z 0), (1, iv (orI x1 (shlI 1 x2))), (2, iv x2)]) [1, 0, 2] rfl ?_
        cases h
        exact J24
theorem X_rung_ok {z : AZ} {g : AG} {r : Int × AG} (h : X_rung g = some r) : AMf z yX11_rung cX11_rung 3 (some .int) 6 [rv z 0] g r := by
  intro d hdd
  refine AM.of (by decide +kernel) (Nat.le_of_ble_eq_true rfl) ?_
  show AW z (RX11, cX11_rung, 3, (some .int)) d (QD (some .int) r) 0 [(0, rv z 0)] [] g
  unfold X_rung at h
  refine AW.iconst dX11_rung_0 ?_
  refine AW.istore_n (lv1 := [(1, iv 0), (0, rv z 0)]) dX11_rung_1 (by decide) rfl ?_
  refine AW.iconst dX11_rung_2 ?_
  refine AW.istore_n (lv1 := [(2, iv 0), (1, iv 0), (0, rv z 0)]) dX11_rung_3 (by decide) rfl ?_
  refine AW.sub (lv1 := [(0, rv z 0), (1, iv 0), (2, iv 0)]) [2, 1, 0] rfl ?_
  exact X_rung_b_ok hdd _ _ _ _ h
theorem Canal_setPump_ok {z : AZ} {x1 : Int} {x2 : Int} {g : AG} {r : Int × AG} (h : Canal_setPump x1 x2 g = some r) : AMf z yX2_setPump cX2_setPump 3 none 0 [rv z 1, iv x1, iv x2] g r := by
  intro d hdd
  refine AM.of (by decide +kernel) (Nat.le_of_ble_eq_true rfl) ?_
  show AW z (RX2, cX2_setPump, 3, none) d (QD none r) 0 [(0, rv z 1), (1, iv x1), (2, iv x2)] [] g
  unfold Canal_setPump at h
  refine AW.iload_n 2 dX2_setPump_0 rfl ?_
  obtain ⟨r6, e7, h⟩ := hC h
  refine AW.join (tgt := 33) (lv1 := []) (st1 := []) (g1 := r6) ?_ (fun J1 => ?_)
  · exact AW.vret1 rfl dX2_setPump_33 h rfl
  replace h := e7
  refine AW.if_eq (tgt := 19) dX2_setPump_1 (by decide) (fun c1 => ?_) (fun c1 => ?_)
  · replace h := hT h c1
    refine AW.aloadr_n 0 dX2_setPump_19 rfl ?_
    refine AW.duprr dX2_setPump_20 ?_
    refine AW.getI af_X2_37_1 sr_1_6 dX2_setPump_21 ?_
    refine AW.iconst dX2_setPump_24 ?_
    refine AW.iload_n 1 dX2_setPump_25 rfl ?_
    refine AW.ishl dX2_setPump_26 ?_
    refine AW.iconst dX2_setPump_27 ?_
    refine AW.ixor dX2_setPump_28 ?_
    refine AW.iand dX2_setPump_29 ?_
    obtain ⟨g2, e3, h⟩ := hBe h
    refine AW.putI ap_X2_37_1 sr_1_6 dX2_setPump_30 e3 ?_
    refine AW.sub (lv1 := []) [] rfl ?_
    cases h
    exact J1
  · replace h := hF h c1
    refine AW.aloadr_n 0 dX2_setPump_4 rfl ?_
    refine AW.duprr dX2_setPump_5 ?_
    refine AW.getI af_X2_37_1 sr_1_6 dX2_setPump_6 ?_
    refine AW.iconst dX2_setPump_9 ?_
    refine AW.iload_n 1 dX2_setPump_10 rfl ?_
    refine AW.ishl dX2_setPump_11 ?_
    refine AW.ior dX2_setPump_12 ?_
    obtain ⟨g4, e5, h⟩ := hBe h
    refine AW.putI ap_X2_37_1 sr_1_6 dX2_setPump_13 e5 ?_
    refine AW.goto (tgt := 33) dX2_setPump_16 (by decide) ?_
    refine AW.sub (lv1 := []) [] rfl ?_
    cases h
    exact J1
theorem X_pump_ok {z : AZ} {x1 : Int} {x2 : Int} {g : AG} {r : Int × AG} (h : X_pump x1 x2 g = some r) : AMf z yX11_pump cX11_pump 3 (some .boolean) 2 [rv z 0, iv x1, iv x2] g r := by
  intro d hdd
  refine AM.of (by decide +kernel) (Nat.le_of_ble_eq_true rfl) ?_
  show AW z (RX11, cX11_pump, 3, (some .boolean)) d (QD (some .boolean) r) 0 [(0, rv z 0), (1, iv x1), (2, iv x2)] [] g
  unfold X_pump at h
  refine AW.iload_n 1 dX11_pump_0 rfl ?_
  refine AW.callSi (As := [iv x1]) (st := []) X_isPoint_ok cq_X11_111 st_X11_isPoint (Nat.le_trans (by decide) hdd) rfl dX11_pump_1 rfl (Nat.le_of_ble_eq_true rfl) ?_
  refine AW.if_ne (tgt := 9) dX11_pump_4 (by decide) (fun c1 => ?_) (fun c1 => ?_)
  · replace h := hF h c1
    refine AW.aloadr_n 0 dX11_pump_9 rfl ?_
    refine AW.getR af_X11_12_0 sr_0_0 dX11_pump_10 ?_
    refine AW.iload_n 1 dX11_pump_13 rfl ?_
    refine AW.iload_n 2 dX11_pump_14 rfl ?_
    obtain ⟨r2, e3, h⟩ := hC h
    refine AW.callVv (As := [iv x1, iv x2]) (st := []) (Canal_setPump_ok e3) cq_X11_209 cr_1_X2_setPump (Nat.le_trans (by decide) hdd) rfl dX11_pump_15 rfl (Nat.le_of_ble_eq_true rfl) ?_
    refine AW.iconst dX11_pump_18 ?_
    exact AW.zret1 rfl (Or.inr rfl) dX11_pump_19 h rfl
  · replace h := hT h c1
    refine AW.iconst dX11_pump_7 ?_
    exact AW.zret1 rfl (Or.inl rfl) dX11_pump_8 h rfl
set_option synthInstance.maxHeartbeats 2000000 in
theorem Voyage_nextPump_b_ok {z : AZ} {d : Nat} (hdd : 0 ≤ d) : ∀ (x1 : Int) (x2 : Int) (g : AG) (r : Int × AG), Voyage_nextPump_b x1 x2 g = some r → AW z (RX9, cX9_nextPump, 4, (some .int)) d (QD (some .int) r) 4 [(0, rv z 5), (1, iv x1), (2, iv x2)] [] g := by
  refine Voyage_nextPump_b.partial_correctness (fun x1 x2 g r => AW z (RX9, cX9_nextPump, 4, (some .int)) d (QD (some .int) r) 4 [(0, rv z 5), (1, iv x1), (2, iv x2)] [] g) ?_
  intro fb9 ih x1 x2 g r h
  refine AW.iload_n 2 dX9_nextPump_4 rfl ?_
  refine AW.bipush dX9_nextPump_5 (by decide) (by decide) ?_
  refine AW.icmp_ge (tgt := 72) dX9_nextPump_7 (by decide) (fun c1 => ?_) (fun c1 => ?_)
  · replace h := hT h c1
    refine AW.iload_n 1 dX9_nextPump_72 rfl ?_
    exact AW.iret1 rfl dX9_nextPump_73 h rfl
  · replace h := hF h c1
    refine AW.aloadr_n 0 dX9_nextPump_10 rfl ?_
    refine AW.getR af_X9_24_5 sr_5_0 dX9_nextPump_11 ?_
    refine AW.getI af_X9_75_1 sr_1_6 dX9_nextPump_14 ?_
    refine AW.iload_n 2 dX9_nextPump_17 rfl ?_
    refine AW.ishr dX9_nextPump_18 ?_
    refine AW.iconst dX9_nextPump_19 ?_
    refine AW.iand dX9_nextPump_20 ?_
    obtain ⟨r7, e8, h⟩ := hC h
    refine AW.join (tgt := 39) (lv1 := [(0, rv z 5), (1, iv x1), (2, iv x2)]) (st1 := [iv r7.1]) (g1 := r7.2) ?_ (fun J21 => ?_)
    · refine AW.istore_n (lv1 := [(3, iv r7.1), (0, rv z 5), (1, iv x1), (2, iv x2)]) dX9_nextPump_39 (by decide) rfl ?_
      refine AW.iload_n 0 dX9_nextPump_40 rfl ?_
      obtain ⟨r14, e15, h⟩ := hC h
      refine AW.join (tgt := 66) (lv1 := [(0, rv z 5), (1, iv r14.1), (2, iv x2)]) (st1 := []) (g1 := r14.2) ?_ (fun J41 => ?_)
      · refine AW.iinc (lv1 := [(2, iv (x2 + 1)), (0, rv z 5), (1, iv r14.1)]) 2 dX9_nextPump_66 rfl (by decide) rfl ?_
        refine AW.goto (tgt := 4) dX9_nextPump_69 (by decide) ?_
        refine AW.sub (lv1 := [(0, rv z 5), (1, iv r14.1), (2, iv (x2 + 1))]) [1, 2, 0] rfl ?_
        exact ih _ _ _ _ h
      replace h := e15
      refine AW.if_eq (tgt := 66) dX9_nextPump_41 (by decide) (fun c9 => ?_) (fun c9 => ?_)
      · replace h := hT h c9
        refine AW.sub (lv1 := [(0, rv z 5), (1, iv x1), (2, iv x2)]) [1, 2, 3] rfl ?_
        cases h
        exact J41
      · replace h := hF h c9
        refine AW.iload_n 2 dX9_nextPump_44 rfl ?_
        refine AW.iconst dX9_nextPump_45 ?_
        refine AW.icmp_eq (tgt := 64) dX9_nextPump_46 (by decide) (fun c10 => ?_) (fun c10 => ?_)
        · replace h := hT h c10
          refine AW.iload_n 3 dX9_nextPump_64 rfl ?_
          refine AW.istore_n (lv1 := [(1, iv x2), (3, iv r7.1), (0, rv z 5), (2, iv x2)]) dX9_nextPump_65 (by decide) rfl ?_
          refine AW.sub (lv1 := [(0, rv z 5), (1, iv x2), (2, iv x2)]) [2, 0, 3] rfl ?_
          cases h
          exact J41
        · replace h := hF h c10
          refine AW.aloadr_n 1 dX9_nextPump_49 rfl ?_
          refine AW.getR af_X9_18_5 sr_5_4 dX9_nextPump_50 ?_
          refine AW.iload_n 3 dX9_nextPump_53 rfl ?_
          obtain ⟨k11, h⟩ := hK h
          refine AW.iald kc_46 sk_46 k11 dX9_nextPump_54 ?_
          refine AW.aloadr_n 1 dX9_nextPump_55 rfl ?_
          refine AW.getR af_X9_18_5 sr_5_4 dX9_nextPump_56 ?_
          refine AW.iload_n 2 dX9_nextPump_59 rfl ?_
          obtain ⟨k12, h⟩ := hK h
          refine AW.iald kc_46 sk_46 k12 dX9_nextPump_60 ?_
          refine AW.icmp_ge (tgt := 66) dX9_nextPump_61 (by decide) (fun c13 => ?_) (fun c13 => ?_)
          · replace h := hT h c13
            refine AW.sub (lv1 := [(0, rv z 5), (1, iv x1), (2, iv x2)]) [1, 2, 3] rfl ?_
            cases h
            exact J41
          · replace h := hF h c13
            refine AW.iload_n 3 dX9_nextPump_64 rfl ?_
            refine AW.istore_n (lv1 := [(1, iv x2), (3, iv r7.1), (0, rv z 5), (2, iv x2)]) dX9_nextPump_65 (by decide) rfl ?_
            refine AW.sub (lv1 := [(0, rv z 5), (1, iv x2), (2, iv x2)]) [2, 0, 3] rfl ?_
            cases h
            exact J41
    replace h := e8
    refine AW.if_eq (tgt := 38) dX9_nextPump_21 (by decide) (fun c2 => ?_) (fun c2 => ?_)
    · replace h := hT h c2
      refine AW.iconst dX9_nextPump_38 ?_
      cases h
      exact J21
    · replace h := hF h c2
      refine AW.aloadr_n 0 dX9_nextPump_24 rfl ?_
      refine AW.getR af_X9_18_5 sr_5_4 dX9_nextPump_25 ?_
      refine AW.iload_n 2 dX9_nextPump_28 rfl ?_
      obtain ⟨k3, h⟩ := hK h
      refine AW.iald kc_46 sk_46 k3 dX9_nextPump_29 ?_
      refine AW.iconst dX9_nextPump_30 ?_
      obtain ⟨t4, e5, h⟩ := hBe h
      refine AW.join (tgt := 39) (lv1 := [(0, rv z 5), (1, iv x1), (2, iv x2)]) (st1 := [iv t4]) (g1 := g) ?_ (fun J31 => ?_)
      · cases h
        exact J21
      refine AW.icmp_eq (tgt := 38) dX9_nextPump_31 (by decide) (fun c6 => ?_) (fun c6 => ?_)
      · refine AW.iconst dX9_nextPump_38 ?_
        exact AW.val (e5.trans (if_pos c6)) J31
      · refine AW.iconst dX9_nextPump_34 ?_
        refine AW.goto (tgt := 39) dX9_nextPump_35 (by decide) ?_
        exact AW.val (e5.trans (if_neg c6)) J31
theorem Voyage_nextPump_ok {z : AZ} {g : AG} {r : Int × AG} (h : Voyage_nextPump g = some r) : AMf z yX9_nextPump cX9_nextPump 4 (some .int) 0 [rv z 5] g r := by
  intro d hdd
  refine AM.of (by decide +kernel) (Nat.le_of_ble_eq_true rfl) ?_
  show AW z (RX9, cX9_nextPump, 4, (some .int)) d (QD (some .int) r) 0 [(0, rv z 5)] [] g
  unfold Voyage_nextPump at h
  refine AW.iconst dX9_nextPump_0 ?_
  refine AW.istore_n (lv1 := [(1, iv (-1)), (0, rv z 5)]) dX9_nextPump_1 (by decide) rfl ?_
  refine AW.iconst dX9_nextPump_2 ?_
  refine AW.istore_n (lv1 := [(2, iv 0), (1, iv (-1)), (0, rv z 5)]) dX9_nextPump_3 (by decide) rfl ?_
  refine AW.sub (lv1 := [(0, rv z 5), (1, iv (-1)), (2, iv 0)]) [2, 1, 0] rfl ?_
  exact Voyage_nextPump_b_ok hdd _ _ _ _ h
theorem X_pumped_ok {z : AZ} {x1 : Int} {x2 : Int} {x3 : Int} {x4 : Int} {x5 : Int} {g : AG} {r : Int × AG} (h : X_pumped x1 x2 x3 x4 x5 g = some r) : AMf z yX11_pumped cX11_pumped 8 (some .int) 5 [rv z 0, iv x1, iv x2, iv x3, iv x4, iv x5] g r := by
  intro d hdd
  refine AM.of (by decide +kernel) (Nat.le_of_ble_eq_true rfl) ?_
  show AW z (RX11, cX11_pumped, 8, (some .int)) d (QD (some .int) r) 0 [(0, rv z 0), (1, iv x1), (2, iv x2), (3, iv x3), (4, iv x4), (5, iv x5)] [] g
  unfold X_pumped at h
  refine AW.aloadr_n 0 dX11_pumped_0 rfl ?_
  refine AW.iload_n 1 dX11_pumped_1 rfl ?_
  refine AW.iload_n 2 dX11_pumped_2 rfl ?_
  refine AW.iload_n 2 dX11_pumped_3 rfl ?_
  refine AW.iload_n 3 dX11_pumped_4 rfl ?_
  refine AW.callVi (As := [iv x1, iv x2, iv x2, iv x3]) (st := []) X_isWay_ok cq_X11_176 cr_0_X11_isWay (Nat.le_trans (by decide) hdd) rfl dX11_pumped_5 rfl (Nat.le_of_ble_eq_true rfl) ?_
  refine AW.if_eq (tgt := 25) dX11_pumped_8 (by decide) (fun c1 => ?_) (fun c1 => ?_)
  · replace h := hT h c1
    refine AW.iconst dX11_pumped_25 ?_
    exact AW.iret1 rfl dX11_pumped_26 h rfl
  · replace h := hF h c1
    refine AW.iload 4 dX11_pumped_11 rfl ?_
    refine AW.callSi (As := [iv x4]) (st := []) X_isTime_ok cq_X11_114 st_X11_isTime (Nat.le_trans (by decide) hdd) rfl dX11_pumped_13 rfl (Nat.le_of_ble_eq_true rfl) ?_
    refine AW.if_eq (tgt := 25) dX11_pumped_16 (by decide) (fun c2 => ?_) (fun c2 => ?_)
    · replace h := hT h c2
      refine AW.iconst dX11_pumped_25 ?_
      exact AW.iret1 rfl dX11_pumped_26 h rfl
    · replace h := hF h c2
      refine AW.iload 4 dX11_pumped_19 rfl ?_
      refine AW.iload_n 3 dX11_pumped_21 rfl ?_
      refine AW.icmp_le (tgt := 27) dX11_pumped_22 (by decide) (fun c3 => ?_) (fun c3 => ?_)
      · replace h := hT h c3
        refine AW.aloadr_n 0 dX11_pumped_27 rfl ?_
        refine AW.getR af_X11_40_0 sr_0_4 dX11_pumped_28 ?_
        refine AW.aloadr_n 0 dX11_pumped_31 rfl ?_
        refine AW.getR af_X11_49_0 sr_0_5 dX11_pumped_32 ?_
        refine AW.getR af_X11_180_6 sr_6_6 dX11_pumped_35 ?_
        refine AW.iload_n 1 dX11_pumped_38 rfl ?_
        obtain ⟨k4, h⟩ := hK h
        refine AW.iald kc_51 sk_51 k4 dX11_pumped_39 ?_
        refine AW.iload_n 2 dX11_pumped_40 rfl ?_
        refine AW.iload_n 3 dX11_pumped_41 rfl ?_
        obtain ⟨r5, e6, h⟩ := hC h
        refine AW.callVv (As := [iv (g 51 (ix x1)), iv x2, iv x3]) (st := []) (Voyage_reach_ok e6) cq_X11_187 cr_5_X9_reach (Nat.le_trans (by decide) hdd) rfl dX11_pumped_42 rfl (Nat.le_of_ble_eq_true rfl) ?_
        refine AW.aloadr_n 0 dX11_pumped_45 rfl ?_
        refine AW.getR af_X11_40_0 sr_0_4 dX11_pumped_46 ?_
        obtain ⟨r7, e8, h⟩ := hC h
        refine AW.callVi (As := []) (st := []) (Voyage_nextPump_ok e8) cq_X11_213 cr_5_X9_nextPump (Nat.le_trans (by decide) hdd) rfl dX11_pumped_49 rfl (Nat.le_of_ble_eq_true rfl) ?_
        refine AW.istore (lv1 := [(6, iv r7.1), (0, rv z 0), (1, iv x1), (2, iv x2), (3, iv x3), (4, iv x4), (5, iv x5)]) dX11_pumped_52 (by decide) rfl ?_
        refine AW.iload 0 dX11_pumped_54 rfl ?_
        refine AW.iconst dX11_pumped_56 ?_
        refine AW.icmp_eq (tgt := 70) dX11_pumped_57 (by decide) (fun c9 => ?_) (fun c9 => ?_)
        · replace h := hT h c9
          refine AW.iconst dX11_pumped_70 ?_
          exact AW.iret1 rfl dX11_pumped_71 h rfl
        · replace h := hF h c9
          refine AW.iload 6 dX11_pumped_60 rfl ?_
          refine AW.iconst dX11_pumped_62 ?_
          refine AW.iconst dX11_pumped_63 ?_
          refine AW.callSi (As := [iv x5, iv 0, iv 2]) (st := []) X_within_ok cq_X11_99 st_X11_within (Nat.le_trans (by decide) hdd) rfl dX11_pumped_64 rfl (Nat.le_of_ble_eq_true rfl) ?_
          refine AW.if_ne (tgt := 72) dX11_pumped_67 (by decide) (fun c10 => ?_) (fun c10 => ?_)
          · replace h := hF h c10
            refine AW.iload 6 dX11_pumped_72 rfl ?_
            refine AW.if_ne (tgt := 80) dX11_pumped_74 (by decide) (fun c11 => ?_) (fun c11 => ?_)
            · replace h := hF h c11
              refine AW.aloadr_n 1 dX11_pumped_80 rfl ?_
              refine AW.getR af_X11_40_0 sr_0_4 dX11_pumped_81 ?_
              refine AW.getR af_X11_216_5 sr_5_4 dX11_pumped_84 ?_
              refine AW.iload 0 dX11_pumped_87 rfl ?_
              obtain ⟨k12, h⟩ := hK h
              refine AW.iald kc_46 sk_46 k12 dX11_pumped_89 ?_
              refine AW.istore (lv1 := [(7, iv (r7.2 46 (ix r7.1))), (6, iv r7.1), (0, rv z 0), (1, iv x1), (2, iv x2), (3, iv x3), (4, iv x4), (5, iv x5)]) dX11_pumped_90 (by decide) rfl ?_
              refine AW.iload 7 dX11_pumped_92 rfl ?_
              refine AW.iconst dX11_pumped_94 ?_
              refine AW.icmp_ne (tgt := 101) dX11_pumped_95 (by decide) (fun c13 => ?_) (fun c13 => ?_)
              · replace h := hF h c13
                refine AW.iload 6 dX11_pumped_101 rfl ?_
                refine AW.sipush dX11_pumped_103 (by decide) (by decide) ?_
                refine AW.iadd dX11_pumped_106 ?_
                refine AW.iload 0 dX11_pumped_107 rfl ?_
                obtain ⟨t14, e15, h⟩ := hBe h
                refine AW.join (tgt := 117) (lv1 := [(7, iv (r7.2 46 (ix r7.1))), (6, iv r7.1), (0, rv z 0), (1, iv x1), (2, iv x2), (3, iv x3), (4, iv x4), (5, iv x5)]) (st1 := [iv t14]) (g1 := r7.2) ?_ (fun J109 => ?_)
                · exact AW.iret1 rfl dX11_pumped_117 h rfl
                refine AW.icmp_ge (tgt := 116) dX11_pumped_109 (by decide) (fun c16 => ?_) (fun c16 => ?_)
                · refine AW.iconst dX11_pumped_116 ?_
                  exact AW.val (e15.trans (if_pos c16)) J109
                · refine AW.iconst dX11_pumped_112 ?_
                  refine AW.goto (tgt := 117) dX11_pumped_113 (by decide) ?_
                  exact AW.val (e15.trans (if_neg c16)) J109
              · replace h := hT h c13
                refine AW.iload 0 dX11_pumped_98 rfl ?_
                exact AW.iret1 rfl dX11_pumped_100 h rfl
            · replace h := hT h c11
              refine AW.iload 0 dX11_pumped_77 rfl ?_
              exact AW.iret1 rfl dX11_pumped_79 h rfl
          · replace h := hT h c10
            refine AW.iconst dX11_pumped_70 ?_
            exact AW.iret1 rfl dX11_pumped_71 h rfl
      · replace h := hF h c3
        refine AW.iconst dX11_pumped_25 ?_
        exact AW.iret1 rfl dX11_pumped_26 h rfl
set_option synthInstance.maxHeartbeats 2000000 in
theorem X_enough_b_ok {z : AZ} {d : Nat} (hdd : 5 ≤ d) {x2 : Int} {x3 : Int} {x4 : Int} {x5 : Int} : ∀ (tag : Nat) (x6 : Int) (g : AG) (r : Int × AG), X_enough_b x2 x3 x4 x5 tag x6 g = some r → (tag = 1 → AW z (RX11, cX11_enough, 8, (some .int)) d (QD (some .int) r) 25 [(0, rv z 0), (2, iv x2), (3, iv x3), (4, iv x4), (5, iv x5), (6, iv x6)] [] g) ∧ (tag = 2 → AW z (RX11, cX11_enough, 8, (some .int)) d (QD (some .int) r) 78 [(0, rv z 0), (2, iv x2), (3, iv x3), (4, iv x4), (5, iv x5), (6, iv x6)] [] g) := by
  refine X_enough_b.partial_correctness x2 x3 x4 x5 (fun tag x6 g r => (tag = 1 → AW z (RX11, cX11_enough, 8, (some .int)) d (QD (some .int) r) 25 [(0, rv z 0), (2, iv x2), (3, iv x3), (4, iv x4), (5, iv x5), (6, iv x6)] [] g) ∧ (tag = 2 → AW z (RX11, cX11_enough, 8, (some .int)) d (QD (some .int) r) 78 [(0, rv z 0), (2, iv x2), (3, iv x3), (4, iv x4), (5, iv x5), (6, iv x6)] [] g)) ?_
  intro fb9 ih tag x6 g r h
  refine ⟨fun h9 => ?_, fun h9 => ?_⟩
  · subst h9
    replace h := hT h rfl
    refine AW.iload 5 dX11_enough_25 rfl ?_
    refine AW.bipush dX11_enough_27 (by decide) (by decide) ?_
    refine AW.icmp_gt (tgt := 84) dX11_enough_29 (by decide) (fun c1 => ?_) (fun c1 => ?_)
    · replace h := hT h c1
      refine AW.iconst dX11_enough_84 ?_
      exact AW.iret1 rfl dX11_enough_85 h rfl
    · replace h := hF h c1
      refine AW.iload 3 dX11_enough_32 rfl ?_
      refine AW.iload 5 dX11_enough_34 rfl ?_
      refine AW.iadd dX11_enough_36 ?_
      refine AW.callSi (As := [iv (x4 + x6)]) (st := []) X_isTime_ok cq_X11_114 st_X11_isTime (Nat.le_trans (by decide) hdd) rfl dX11_enough_37 rfl (Nat.le_of_ble_eq_true rfl) ?_
      refine AW.if_eq (tgt := 84) dX11_enough_40 (by decide) (fun c2 => ?_) (fun c2 => ?_)
      · replace h := hT h c2
        refine AW.iconst dX11_enough_84 ?_
        exact AW.iret1 rfl dX11_enough_85 h rfl
      · replace h := hF h c2
        refine AW.aloadr_n 0 dX11_enough_43 rfl ?_
        refine AW.getR af_X11_40_0 sr_0_4 dX11_enough_44 ?_
        refine AW.iload 5 dX11_enough_47 rfl ?_
        refine AW.iload_n 1 dX11_enough_49 rfl ?_
        refine AW.iload_n 2 dX11_enough_50 rfl ?_
        refine AW.iload 3 dX11_enough_51 rfl ?_
        refine AW.iload 5 dX11_enough_53 rfl ?_
        refine AW.iadd dX11_enough_55 ?_
        refine AW.iconst dX11_enough_56 ?_
        obtain ⟨r3, e4, h⟩ := hC h
        refine AW.callVi (As := [iv x6, iv x2, iv x3, iv (x4 + x6), iv 1]) (st := []) (Voyage_comesTo_ok e4) cq_X11_183 cr_5_X9_comesTo (Nat.le_trans (by decide) hdd) rfl dX11_enough_57 rfl (Nat.le_of_ble_eq_true rfl) ?_
        refine AW.istore (lv1 := [(7, iv r3.1), (0, rv z 0), (2, iv x2), (3, iv x3), (4, iv x4), (5, iv x5), (6, iv x6)]) dX11_enough_60 (by decide) rfl ?_
        refine AW.iload 0 dX11_enough_62 rfl ?_
        refine AW.iconst dX11_enough_64 ?_
        refine AW.icmp_eq (tgt := 78) dX11_enough_65 (by decide) (fun c5 => ?_) (fun c5 => ?_)
        · replace h := hT h c5
          refine AW.sub (lv1 := [(0, rv z 0), (2, iv x2), (3, iv x3), (4, iv x4), (5, iv x5), (6, iv x6)]) [1, 2, 3, 4, 5, 6] rfl ?_
          exact (ih _ _ _ _ h).2 rfl
        · replace h := hF h c5
          refine AW.iload 0 dX11_enough_68 rfl ?_
          refine AW.iload 5 dX11_enough_70 rfl ?_
          refine AW.icmp_gt (tgt := 78) dX11_enough_72 (by decide) (fun c6 => ?_) (fun c6 => ?_)
          · replace h := hT h c6
            refine AW.sub (lv1 := [(0, rv z 0), (2, iv x2), (3, iv x3), (4, iv x4), (5, iv x5), (6, iv x6)]) [1, 2, 3, 4, 5, 6] rfl ?_
            exact (ih _ _ _ _ h).2 rfl
          · replace h := hF h c6
            refine AW.iload 6 dX11_enough_75 rfl ?_
            exact AW.iret1 rfl dX11_enough_77 h rfl
  · subst h9
    replace h := hF h (by decide)
    replace h := hT h rfl
    refine AW.iinc (lv1 := [(6, iv (x6 + 1)), (0, rv z 0), (2, iv x2), (3, iv x3), (4, iv x4), (5, iv x5)]) 5 dX11_enough_78 rfl (by decide) rfl ?_
    refine AW.goto (tgt := 25) dX11_enough_81 (by decide) ?_
    refine AW.sub (lv1 := [(0, rv z 0), (2, iv x2), (3, iv x3), (4, iv x4), (5, iv x5), (6, iv (x6 + 1))]) [1, 2, 3, 4, 5, 0] rfl ?_
    exact (ih _ _ _ _ h).1 rfl
theorem X_enough_ok {z : AZ} {x1 : Int} {x2 : Int} {x3 : Int} {x4 : Int} {x5 : Int} {g : AG} {r : Int × AG} (h : X_enough x1 x2 x3 x4 x5 g = some r) : AMf z yX11_enough cX11_enough 8 (some .int) 5 [rv z 0, iv x1, iv x2, iv x3, iv x4, iv x5] g r := by
  intro d hdd
  refine AM.of (by decide +kernel) (Nat.le_of_ble_eq_true rfl) ?_
  show AW z (RX11, cX11_enough, 8, (some .int)) d (QD (some .int) r) 0 [(0, rv z 0), (1, iv x1), (2, iv x2), (3, iv x3), (4, iv x4), (5, iv x5)] [] g
  unfold X_enough at h
  refine AW.aloadr_n 0 dX11_enough_0 rfl ?_
  refine AW.iload_n 1 dX11_enough_1 rfl ?_
  refine AW.iload_n 2 dX11_enough_2 rfl ?_
  refine AW.iload_n 3 dX11_enough_3 rfl ?_
  refine AW.iload 4 dX11_enough_4 rfl ?_
  refine AW.callVi (As := [iv x1, iv x2, iv x3, iv x4]) (st := []) X_isWay_ok cq_X11_176 cr_0_X11_isWay (Nat.le_trans (by decide) hdd) rfl dX11_enough_6 rfl (Nat.le_of_ble_eq_true rfl) ?_
  refine AW.if_eq (tgt := 20) dX11_enough_9 (by decide) (fun c1 => ?_) (fun c1 => ?_)
  · replace h := hT h c1
    refine AW.iconst dX11_enough_20 ?_
    exact AW.iret1 rfl dX11_enough_21 h rfl
  · replace h := hF h c1
    refine AW.iload 5 dX11_enough_12 rfl ?_
    refine AW.callSi (As := [iv x5]) (st := []) X_isTime_ok cq_X11_114 st_X11_isTime (Nat.le_trans (by decide) hdd) rfl dX11_enough_14 rfl (Nat.le_of_ble_eq_true rfl) ?_
    refine AW.if_ne (tgt := 22) dX11_enough_17 (by decide) (fun c2 => ?_) (fun c2 => ?_)
    · replace h := hF h c2
      refine AW.iconst dX11_enough_22 ?_
      refine AW.istore (lv1 := [(6, iv 0), (0, rv z 0), (1, iv x1), (2, iv x2), (3, iv x3), (4, iv x4), (5, iv x5)]) dX11_enough_23 (by decide) rfl ?_
      refine AW.sub (lv1 := [(0, rv z 0), (2, iv x2), (3, iv x3), (4, iv x4), (5, iv x5), (6, iv 0)]) [1, 3, 4, 5, 6, 0] rfl ?_
      exact (X_enough_b_ok hdd _ _ _ _ h).1 rfl
    · replace h := hT h c2
      refine AW.iconst dX11_enough_20 ?_
      exact AW.iret1 rfl dX11_enough_21 h rfl
theorem Trips_add_ok {z : AZ} {x1 : Int} {x2 : Int} {x3 : Int} {x4 : Int} {x5 : Int} {g : AG} {r : Int × AG} (h : Trips_add x1 x2 x3 x4 x5 g = some r) : AMf z yX7_add cX7_add 6 (some .int) 0 [rv z 7, iv x1, iv x2, iv x3, iv x4, iv x5] g r := by
  intro d hdd
  refine AM.of (by decide +kernel) (Nat.le_of_ble_eq_true rfl) ?_
  show AW z (RX7, cX7_add, 6, (some .int)) d (QD (some .int) r) 0 [(0, rv z 7), (1, iv x1), (2, iv x2), (3, iv x3), (4, iv x4), (5, iv x5)] [] g
  unfold Trips_add at h
  refine AW.aloadr_n 0 dX7_add_0 rfl ?_
  refine AW.getI af_X7_39_7 sr_7_8 dX7_add_1 ?_
  refine AW.bipush dX7_add_4 (by decide) (by decide) ?_
  refine AW.icmp_lt (tgt := 11) dX7_add_6 (by decide) (fun c1 => ?_) (fun c1 => ?_)
  · replace h := hT h c1
    refine AW.aloadr_n 0 dX7_add_11 rfl ?_
    refine AW.getR af_X7_9_7 sr_7_3 dX7_add_12 ?_
    refine AW.aloadr_n 0 dX7_add_15 rfl ?_
    refine AW.getI af_X7_39_7 sr_7_8 dX7_add_16 ?_
    refine AW.iload_n 1 dX7_add_19 rfl ?_
    obtain ⟨k2, h⟩ := hK h
    obtain ⟨g3, e4, h⟩ := hBe h
    refine AW.iast kc_76 sk_76 k2 dX7_add_20 e4 ?_
    refine AW.aloadr_n 0 dX7_add_21 rfl ?_
    refine AW.getR af_X7_15_7 sr_7_4 dX7_add_22 ?_
    refine AW.aloadr_n 0 dX7_add_25 rfl ?_
    refine AW.getI af_X7_39_7 sr_7_8 dX7_add_26 ?_
    refine AW.iload_n 2 dX7_add_29 rfl ?_
    obtain ⟨k5, h⟩ := hK h
    obtain ⟨g6, e7, h⟩ := hBe h
    refine AW.iast kc_77 sk_77 k5 dX7_add_30 e7 ?_
    refine AW.aloadr_n 0 dX7_add_31 rfl ?_
    refine AW.getR af_X7_18_7 sr_7_5 dX7_add_32 ?_
    refine AW.aloadr_n 0 dX7_add_35 rfl ?_
    refine AW.getI af_X7_39_7 sr_7_8 dX7_add_36 ?_
    refine AW.iload_n 3 dX7_add_39 rfl ?_
    obtain ⟨k8, h⟩ := hK h
    obtain ⟨g9, e10, h⟩ := hBe h
    refine AW.iast kc_78 sk_78 k8 dX7_add_40 e10 ?_
    refine AW.aloadr_n 0 dX7_add_41 rfl ?_
    refine AW.getR af_X7_21_7 sr_7_6 dX7_add_42 ?_
    refine AW.aloadr_n 0 dX7_add_45 rfl ?_
    refine AW.getI af_X7_39_7 sr_7_8 dX7_add_46 ?_
    refine AW.iload 4 dX7_add_49 rfl ?_
    obtain ⟨k11, h⟩ := hK h
    obtain ⟨g12, e13, h⟩ := hBe h
    refine AW.iast kc_79 sk_79 k11 dX7_add_51 e13 ?_
    refine AW.aloadr_n 0 dX7_add_52 rfl ?_
    refine AW.getR af_X7_24_7 sr_7_7 dX7_add_53 ?_
    refine AW.aloadr_n 0 dX7_add_56 rfl ?_
    refine AW.getI af_X7_39_7 sr_7_8 dX7_add_57 ?_
    refine AW.iload 5 dX7_add_60 rfl ?_
    obtain ⟨k14, h⟩ := hK h
    obtain ⟨g15, e16, h⟩ := hBe h
    refine AW.iast kc_80 sk_80 k14 dX7_add_62 e16 ?_
    refine AW.aloadr_n 0 dX7_add_63 rfl ?_
    refine AW.duprr dX7_add_64 ?_
    refine AW.getI af_X7_39_7 sr_7_8 dX7_add_65 ?_
    refine AW.iconst dX7_add_68 ?_
    refine AW.iadd dX7_add_69 ?_
    obtain ⟨g17, e18, h⟩ := hBe h
    refine AW.putI ap_X7_39_7 sr_7_8 dX7_add_70 e18 ?_
    refine AW.aloadr_n 0 dX7_add_73 rfl ?_
    refine AW.getI af_X7_39_7 sr_7_8 dX7_add_74 ?_
    refine AW.iconst dX7_add_77 ?_
    refine AW.isub dX7_add_78 ?_
    exact AW.iret1 rfl dX7_add_79 h rfl
  · replace h := hF h c1
    refine AW.iconst dX7_add_9 ?_
    exact AW.iret1 rfl dX7_add_10 h rfl
theorem X_trip_ok {z : AZ} {x1 : Int} {x2 : Int} {x3 : Int} {x4 : Int} {x5 : Int} {g : AG} {r : Int × AG} (h : X_trip x1 x2 x3 x4 x5 g = some r) : AMf z yX11_trip cX11_trip 6 (some .int) 3 [rv z 0, iv x1, iv x2, iv x3, iv x4, iv x5] g r := by
  intro d hdd
  refine AM.of (by decide +kernel) (Nat.le_of_ble_eq_true rfl) ?_
  show AW z (RX11, cX11_trip, 6, (some .int)) d (QD (some .int) r) 0 [(0, rv z 0), (1, iv x1), (2, iv x2), (3, iv x3), (4, iv x4), (5, iv x5)] [] g
  unfold X_trip at h
  refine AW.aloadr_n 0 dX11_trip_0 rfl ?_
  refine AW.iload_n 1 dX11_trip_1 rfl ?_
  refine AW.iload_n 2 dX11_trip_2 rfl ?_
  refine AW.iload_n 3 dX11_trip_3 rfl ?_
  refine AW.iload 4 dX11_trip_4 rfl ?_
  refine AW.callVi (As := [iv x1, iv x2, iv x3, iv x4]) (st := []) X_isWay_ok cq_X11_176 cr_0_X11_isWay (Nat.le_trans (by decide) hdd) rfl dX11_trip_6 rfl (Nat.le_of_ble_eq_true rfl) ?_
  refine AW.if_eq (tgt := 20) dX11_trip_9 (by decide) (fun c1 => ?_) (fun c1 => ?_)
  · replace h := hT h c1
    refine AW.iconst dX11_trip_20 ?_
    exact AW.iret1 rfl dX11_trip_21 h rfl
  · replace h := hF h c1
    refine AW.iload 5 dX11_trip_12 rfl ?_
    refine AW.callSi (As := [iv x5]) (st := []) X_isTime_ok cq_X11_114 st_X11_isTime (Nat.le_trans (by decide) hdd) rfl dX11_trip_14 rfl (Nat.le_of_ble_eq_true rfl) ?_
    refine AW.if_ne (tgt := 22) dX11_trip_17 (by decide) (fun c2 => ?_) (fun c2 => ?_)
    · replace h := hF h c2
      refine AW.aloadr_n 0 dX11_trip_22 rfl ?_
      refine AW.getR af_X11_58_0 sr_0_6 dX11_trip_23 ?_
      refine AW.iload_n 1 dX11_trip_26 rfl ?_
      refine AW.iload_n 2 dX11_trip_27 rfl ?_
      refine AW.iload_n 3 dX11_trip_28 rfl ?_
      refine AW.iload 4 dX11_trip_29 rfl ?_
      refine AW.iload 5 dX11_trip_31 rfl ?_
      obtain ⟨r3, e4, h⟩ := hC h
      refine AW.callVi (As := [iv x1, iv x2, iv x3, iv x4, iv x5]) (st := []) (Trips_add_ok e4) cq_X11_219 cr_7_X7_add (Nat.le_trans (by decide) hdd) rfl dX11_trip_33 rfl (Nat.le_of_ble_eq_true rfl) ?_
      exact AW.iret1 rfl dX11_trip_36 h rfl
    · replace h := hT h c2
      refine AW.iconst dX11_trip_20 ?_
      exact AW.iret1 rfl dX11_trip_21 h rfl
set_option synthInstance.maxHeartbeats 2000000 in
theorem Trips_howManyLate_b_ok {z : AZ} {d : Nat} (hdd : 6 ≤ d) : ∀ (x1 : Int) (x2 : Int) (g : AG) (r : Int × AG), Trips_howManyLate_b x1 x2 g = some r → AW z (RX7, cX7_howManyLate, 3, (some .int)) d (QD (some .int) r) 4 [(0, rv z 7), (1, iv x1), (2, iv x2)] [] g := by
  refine Trips_howManyLate_b.partial_correctness (fun x1 x2 g r => AW z (RX7, cX7_howManyLate, 3, (some .int)) d (QD (some .int) r) 4 [(0, rv z 7), (1, iv x1), (2, iv x2)] [] g) ?_
  intro fb9 ih x1 x2 g r h
  refine AW.iload_n 2 dX7_howManyLate_4 rfl ?_
  refine AW.aloadr_n 0 dX7_howManyLate_5 rfl ?_
  refine AW.getI af_X7_39_7 sr_7_8 dX7_howManyLate_6 ?_
  refine AW.icmp_ge (tgt := 30) dX7_howManyLate_9 (by decide) (fun c1 => ?_) (fun c1 => ?_)
  · replace h := hT h c1
    refine AW.iload_n 1 dX7_howManyLate_30 rfl ?_
    exact AW.iret1 rfl dX7_howManyLate_31 h rfl
  · replace h := hF h c1
    refine AW.aloadr_n 0 dX7_howManyLate_12 rfl ?_
    refine AW.iload_n 2 dX7_howManyLate_13 rfl ?_
    refine AW.iconst dX7_howManyLate_14 ?_
    obtain ⟨r2, e3, h⟩ := hC h
    refine AW.callVi (As := [iv x2, iv 1]) (st := []) (Trips_lateBy_ok e3) cq_X7_60 cr_7_X7_lateBy (Nat.le_trans (by decide) hdd) rfl dX7_howManyLate_15 rfl (Nat.le_of_ble_eq_true rfl) ?_
    obtain ⟨r5, e6, h⟩ := hC h
    refine AW.join (tgt := 24) (lv1 := [(0, rv z 7), (1, iv r5.1), (2, iv x2)]) (st1 := []) (g1 := r5.2) ?_ (fun J18 => ?_)
    · refine AW.iinc (lv1 := [(2, iv (x2 + 1)), (0, rv z 7), (1, iv r5.1)]) 2 dX7_howManyLate_24 rfl (by decide) rfl ?_
      refine AW.goto (tgt := 4) dX7_howManyLate_27 (by decide) ?_
      refine AW.sub (lv1 := [(0, rv z 7), (1, iv r5.1), (2, iv (x2 + 1))]) [1, 2, 0] rfl ?_
      exact ih _ _ _ _ h
    replace h := e6
    refine AW.if_le (tgt := 24) dX7_howManyLate_18 (by decide) (fun c4 => ?_) (fun c4 => ?_)
    · replace h := hT h c4
      cases h
      exact J18
    · replace h := hF h c4
      refine AW.iinc (lv1 := [(1, iv (x1 + 1)), (0, rv z 7), (2, iv x2)]) 1 dX7_howManyLate_21 rfl (by decide) rfl ?_
      refine AW.sub (lv1 := [(0, rv z 7), (1, iv (x1 + 1)), (2, iv x2)]) [1, 0, 2] rfl ?_
      cases h
      exact J18
theorem Trips_howManyLate_ok {z : AZ} {g : AG} {r : Int × AG} (h : Trips_howManyLate g = some r) : AMf z yX7_howManyLate cX7_howManyLate 3 (some .int) 6 [rv z 7] g r := by
  intro d hdd
  refine AM.of (by decide +kernel) (Nat.le_of_ble_eq_true rfl) ?_
  show AW z (RX7, cX7_howManyLate, 3, (some .int)) d (QD (some .int) r) 0 [(0, rv z 7)] [] g
  unfold Trips_howManyLate at h
  refine AW.iconst dX7_howManyLate_0 ?_
  refine AW.istore_n (lv1 := [(1, iv 0), (0, rv z 7)]) dX7_howManyLate_1 (by decide) rfl ?_
  refine AW.iconst dX7_howManyLate_2 ?_
  refine AW.istore_n (lv1 := [(2, iv 0), (1, iv 0), (0, rv z 7)]) dX7_howManyLate_3 (by decide) rfl ?_
  refine AW.sub (lv1 := [(0, rv z 7), (1, iv 0), (2, iv 0)]) [2, 1, 0] rfl ?_
  exact Trips_howManyLate_b_ok hdd _ _ _ _ h
theorem X_late_ok {z : AZ} {x1 : Int} {g : AG} {r : Int × AG} (h : X_late x1 g = some r) : AMf z yX11_late cX11_late 2 (some .int) 7 [rv z 0, iv x1] g r := by
  intro d hdd
  refine AM.of (by decide +kernel) (Nat.le_of_ble_eq_true rfl) ?_
  show AW z (RX11, cX11_late, 2, (some .int)) d (QD (some .int) r) 0 [(0, rv z 0), (1, iv x1)] [] g
  unfold X_late at h
  refine AW.iload_n 1 dX11_late_0 rfl ?_
  refine AW.iconst dX11_late_1 ?_
  refine AW.icmp_ne (tgt := 13) dX11_late_2 (by decide) (fun c1 => ?_) (fun c1 => ?_)
  · replace h := hF h c1
    refine AW.iload_n 1 dX11_late_13 rfl ?_
    refine AW.iconst dX11_late_14 ?_
    refine AW.aloadr_n 0 dX11_late_15 rfl ?_
    refine AW.getR af_X11_58_0 sr_0_6 dX11_late_16 ?_
    refine AW.getI af_X11_197_7 sr_7_8 dX11_late_19 ?_
    refine AW.iconst dX11_late_22 ?_
    refine AW.isub dX11_late_23 ?_
    refine AW.callSi (As := [iv x1, iv 0, iv ((g 7 8) - 1)]) (st := []) X_within_ok cq_X11_99 st_X11_within (Nat.le_trans (by decide) hdd) rfl dX11_late_24 rfl (Nat.le_of_ble_eq_true rfl) ?_
    obtain ⟨r5, e6, h⟩ := hC h
    refine AW.join (tgt := 43) (lv1 := []) (st1 := [iv r5.1]) (g1 := r5.2) ?_ (fun J27 => ?_)
    · exact AW.iret1 rfl dX11_late_43 h rfl
    replace h := e6
    refine AW.if_eq (tgt := 42) dX11_late_27 (by decide) (fun c2 => ?_) (fun c2 => ?_)
    · replace h := hT h c2
      refine AW.iconst dX11_late_42 ?_
      refine AW.sub (lv1 := []) [] rfl ?_
      cases h
      exact J27
    · replace h := hF h c2
      refine AW.aloadr_n 0 dX11_late_30 rfl ?_
      refine AW.getR af_X11_58_0 sr_0_6 dX11_late_31 ?_
      refine AW.iload_n 1 dX11_late_34 rfl ?_
      refine AW.iconst dX11_late_35 ?_
      obtain ⟨r3, e4, h⟩ := hC h
      refine AW.callVi (As := [iv x1, iv 1]) (st := []) (Trips_lateBy_ok e4) cq_X11_205 cr_7_X7_lateBy (Nat.le_trans (by decide) hdd) rfl dX11_late_36 rfl (Nat.le_of_ble_eq_true rfl) ?_
      refine AW.goto (tgt := 43) dX11_late_39 (by decide) ?_
      refine AW.sub (lv1 := []) [] rfl ?_
      cases h
      exact J27
  · replace h := hT h c1
    refine AW.aloadr_n 0 dX11_late_5 rfl ?_
    refine AW.getR af_X11_58_0 sr_0_6 dX11_late_6 ?_
    obtain ⟨r7, e8, h⟩ := hC h
    refine AW.callVi (As := []) (st := []) (Trips_howManyLate_ok e8) cq_X11_222 cr_7_X7_howManyLate (Nat.le_trans (by decide) hdd) rfl dX11_late_9 rfl (Nat.le_of_ble_eq_true rfl) ?_
    exact AW.iret1 rfl dX11_late_12 h rfl
set_option synthInstance.maxHeartbeats 2000000 in
theorem Boats_addLog_b_ok {z : AZ} {d : Nat} (hdd : 0 ≤ d) {x1 : Int} {x2 : Int} {x3 : Int} {x4 : Int} {g : AG} : ∀ (r : Int × AG), Boats_addLog_b x1 x2 x3 x4 g = some r → AW z (RX0, cX0_addLog, 5, (some .int)) d (QD (some .int) r) 37 [(0, rv z 6), (1, iv x1), (2, iv x2), (3, iv x3), (4, iv x4)] [] g := by
  refine Boats_addLog_b.partial_correctness x1 x2 x3 x4 g (fun r => AW z (RX0, cX0_addLog, 5, (some .int)) d (QD (some .int) r) 37 [(0, rv z 6), (1, iv x1), (2, iv x2), (3, iv x3), (4, iv x4)] [] g) ?_
  intro fb9 ih r h
  refine AW.aloadr_n 0 dX0_addLog_37 rfl ?_
  refine AW.getR af_X0_26_6 sr_6_8 dX0_addLog_38 ?_
  refine AW.iload_n 1 dX0_addLog_41 rfl ?_
  obtain ⟨k1, h⟩ := hK h
  refine AW.aald (b := 53) kc_52 sk_52 sb_52 k1 dX0_addLog_42 ?_
  refine AW.iload 4 dX0_addLog_43 rfl ?_
  refine AW.iload_n 2 dX0_addLog_45 rfl ?_
  obtain ⟨k2, h⟩ := hK h
  obtain ⟨g3, e4, h⟩ := hBe h
  refine AW.iast (s2_53 _ (ix_lt k1)).1 (s2_53 _ (ix_lt k1)).2 k2 dX0_addLog_46 e4 ?_
  refine AW.aloadr_n 0 dX0_addLog_47 rfl ?_
  refine AW.getR af_X0_29_6 sr_6_9 dX0_addLog_48 ?_
  refine AW.iload_n 1 dX0_addLog_51 rfl ?_
  refine AW.aald (b := 64) kc_63 sk_63 sb_63 k1 dX0_addLog_52 ?_
  refine AW.iload 4 dX0_addLog_53 rfl ?_
  refine AW.iload_n 3 dX0_addLog_55 rfl ?_
  obtain ⟨g5, e6, h⟩ := hBe h
  refine AW.iast (s2_64 _ (ix_lt k1)).1 (s2_64 _ (ix_lt k1)).2 k2 dX0_addLog_56 e6 ?_
  refine AW.aloadr_n 0 dX0_addLog_57 rfl ?_
  refine AW.getR af_X0_32_6 sr_6_10 dX0_addLog_58 ?_
  refine AW.iload_n 1 dX0_addLog_61 rfl ?_
  refine AW.iload 4 dX0_addLog_62 rfl ?_
  refine AW.iconst dX0_addLog_64 ?_
  refine AW.iadd dX0_addLog_65 ?_
  obtain ⟨g7, e8, h⟩ := hBe h
  refine AW.iast kc_74 sk_74 k1 dX0_addLog_66 e8 ?_
  refine AW.iload 4 dX0_addLog_67 rfl ?_
  refine AW.iconst dX0_addLog_69 ?_
  refine AW.iadd dX0_addLog_70 ?_
  exact AW.iret1 rfl dX0_addLog_71 h rfl
theorem Boats_addLog_ok {z : AZ} {x1 : Int} {x2 : Int} {x3 : Int} {g : AG} {r : Int × AG} (h : Boats_addLog x1 x2 x3 g = some r) : AMf z yX0_addLog cX0_addLog 5 (some .int) 0 [rv z 6, iv x1, iv x2, iv x3] g r := by
  intro d hdd
  refine AM.of (by decide +kernel) (Nat.le_of_ble_eq_true rfl) ?_
  show AW z (RX0, cX0_addLog, 5, (some .int)) d (QD (some .int) r) 0 [(0, rv z 6), (1, iv x1), (2, iv x2), (3, iv x3)] [] g
  unfold Boats_addLog at h
  refine AW.aloadr_n 0 dX0_addLog_0 rfl ?_
  refine AW.getR af_X0_32_6 sr_6_10 dX0_addLog_1 ?_
  refine AW.iload_n 1 dX0_addLog_4 rfl ?_
  obtain ⟨k1, h⟩ := hK h
  refine AW.iald kc_74 sk_74 k1 dX0_addLog_5 ?_
  refine AW.istore (lv1 := [(4, iv (g 74 (ix x1))), (0, rv z 6), (1, iv x1), (2, iv x2), (3, iv x3)]) dX0_addLog_6 (by decide) rfl ?_
  refine AW.iload 0 dX0_addLog_8 rfl ?_
  refine AW.bipush dX0_addLog_10 (by decide) (by decide) ?_
  refine AW.icmp_ge (tgt := 35) dX0_addLog_12 (by decide) (fun c2 => ?_) (fun c2 => ?_)
  · replace h := hT h c2
    refine AW.iconst dX0_addLog_35 ?_
    exact AW.iret1 rfl dX0_addLog_36 h rfl
  · replace h := hF h c2
    refine AW.iload 0 dX0_addLog_15 rfl ?_
    refine AW.if_le (tgt := 37) dX0_addLog_17 (by decide) (fun c3 => ?_) (fun c3 => ?_)
    · replace h := hT h c3
      refine AW.sub (lv1 := [(0, rv z 6), (1, iv x1), (2, iv x2), (3, iv x3), (4, iv (g 74 (ix x1)))]) [1, 2, 3, 4, 0] rfl ?_
      exact Boats_addLog_b_ok hdd _ h
    · replace h := hF h c3
      refine AW.iload_n 4 dX0_addLog_20 rfl ?_
      refine AW.aloadr_n 1 dX0_addLog_21 rfl ?_
      refine AW.getR af_X0_29_6 sr_6_9 dX0_addLog_22 ?_
      refine AW.iload_n 2 dX0_addLog_25 rfl ?_
      refine AW.aald (b := 64) kc_63 sk_63 sb_63 k1 dX0_addLog_26 ?_
      refine AW.iload 0 dX0_addLog_27 rfl ?_
      refine AW.iconst dX0_addLog_29 ?_
      refine AW.isub dX0_addLog_30 ?_
      obtain ⟨k4, h⟩ := hK h
      refine AW.iald (s2_64 _ (ix_lt k1)).1 (s2_64 _ (ix_lt k1)).2 k4 dX0_addLog_31 ?_
      refine AW.icmp_gt (tgt := 37) dX0_addLog_32 (by decide) (fun c5 => ?_) (fun c5 => ?_)
      · replace h := hT h c5
        refine AW.sub (lv1 := [(0, rv z 6), (1, iv x1), (2, iv x2), (3, iv x3), (4, iv (g 74 (ix x1)))]) [1, 2, 3, 4, 0] rfl ?_
        exact Boats_addLog_b_ok hdd _ h
      · replace h := hF h c5
        refine AW.iconst dX0_addLog_35 ?_
        exact AW.iret1 rfl dX0_addLog_36 h rfl
theorem X_log_ok {z : AZ} {x1 : Int} {x2 : Int} {x3 : Int} {g : AG} {r : Int × AG} (h : X_log x1 x2 x3 g = some r) : AMf z yX11_log cX11_log 4 (some .int) 3 [rv z 0, iv x1, iv x2, iv x3] g r := by
  intro d hdd
  refine AM.of (by decide +kernel) (Nat.le_of_ble_eq_true rfl) ?_
  show AW z (RX11, cX11_log, 4, (some .int)) d (QD (some .int) r) 0 [(0, rv z 0), (1, iv x1), (2, iv x2), (3, iv x3)] [] g
  unfold X_log at h
  refine AW.aloadr_n 0 dX11_log_0 rfl ?_
  refine AW.iload_n 1 dX11_log_1 rfl ?_
  refine AW.iload_n 2 dX11_log_2 rfl ?_
  refine AW.iload_n 2 dX11_log_3 rfl ?_
  refine AW.iload_n 3 dX11_log_4 rfl ?_
  refine AW.callVi (As := [iv x1, iv x2, iv x2, iv x3]) (st := []) X_isWay_ok cq_X11_176 cr_0_X11_isWay (Nat.le_trans (by decide) hdd) rfl dX11_log_5 rfl (Nat.le_of_ble_eq_true rfl) ?_
  refine AW.if_ne (tgt := 13) dX11_log_8 (by decide) (fun c1 => ?_) (fun c1 => ?_)
  · replace h := hF h c1
    refine AW.aloadr_n 0 dX11_log_13 rfl ?_
    refine AW.getR af_X11_49_0 sr_0_5 dX11_log_14 ?_
    refine AW.iload_n 1 dX11_log_17 rfl ?_
    refine AW.iload_n 2 dX11_log_18 rfl ?_
    refine AW.iload_n 3 dX11_log_19 rfl ?_
    obtain ⟨r2, e3, h⟩ := hC h
    refine AW.callVi (As := [iv x1, iv x2, iv x3]) (st := []) (Boats_addLog_ok e3) cq_X11_225 cr_6_X0_addLog (Nat.le_trans (by decide) hdd) rfl dX11_log_20 rfl (Nat.le_of_ble_eq_true rfl) ?_
    exact AW.iret1 rfl dX11_log_23 h rfl
  · replace h := hT h c1
    refine AW.iconst dX11_log_11 ?_
    exact AW.iret1 rfl dX11_log_12 h rfl
theorem Boats_placeOf_ok {z : AZ} {x1 : Int} {x2 : Int} {g : AG} {r : Int × AG} (h : Boats_placeOf x1 x2 g = some r) : AMf z yX0_placeOf cX0_placeOf 3 (some .int) 0 [rv z 6, iv x1, iv x2] g r := by
  intro d hdd
  refine AM.of (by decide +kernel) (Nat.le_of_ble_eq_true rfl) ?_
  show AW z (RX0, cX0_placeOf, 3, (some .int)) d (QD (some .int) r) 0 [(0, rv z 6), (1, iv x1), (2, iv x2)] [] g
  unfold Boats_placeOf at h
  refine AW.iload_n 2 dX0_placeOf_0 rfl ?_
  obtain ⟨r5, e6, h⟩ := hC h
  refine AW.join (tgt := 21) (lv1 := []) (st1 := [iv r5.1]) (g1 := r5.2) ?_ (fun J1 => ?_)
  · exact AW.iret1 rfl dX0_placeOf_21 h rfl
  replace h := e6
  refine AW.if_ge (tgt := 13) dX0_placeOf_1 (by decide) (fun c1 => ?_) (fun c1 => ?_)
  · replace h := hT h c1
    refine AW.aloadr_n 0 dX0_placeOf_13 rfl ?_
    refine AW.getR af_X0_26_6 sr_6_8 dX0_placeOf_14 ?_
    refine AW.iload_n 1 dX0_placeOf_17 rfl ?_
    obtain ⟨k2, h⟩ := hK h
    refine AW.aald (b := 53) kc_52 sk_52 sb_52 k2 dX0_placeOf_18 ?_
    refine AW.iload_n 2 dX0_placeOf_19 rfl ?_
    obtain ⟨k3, h⟩ := hK h
    refine AW.iald (s2_53 _ (ix_lt k2)).1 (s2_53 _ (ix_lt k2)).2 k3 dX0_placeOf_20 ?_
    refine AW.sub (lv1 := []) [] rfl ?_
    cases h
    exact J1
  · replace h := hF h c1
    refine AW.aloadr_n 0 dX0_placeOf_4 rfl ?_
    refine AW.getR af_X0_18_6 sr_6_5 dX0_placeOf_5 ?_
    refine AW.iload_n 1 dX0_placeOf_8 rfl ?_
    obtain ⟨k4, h⟩ := hK h
    refine AW.iald kc_50 sk_50 k4 dX0_placeOf_9 ?_
    refine AW.goto (tgt := 21) dX0_placeOf_10 (by decide) ?_
    refine AW.sub (lv1 := []) [] rfl ?_
    cases h
    exact J1
theorem Boats_timeOf_ok {z : AZ} {x1 : Int} {x2 : Int} {g : AG} {r : Int × AG} (h : Boats_timeOf x1 x2 g = some r) : AMf z yX0_timeOf cX0_timeOf 3 (some .int) 0 [rv z 6, iv x1, iv x2] g r := by
  intro d hdd
  refine AM.of (by decide +kernel) (Nat.le_of_ble_eq_true rfl) ?_
  show AW z (RX0, cX0_timeOf, 3, (some .int)) d (QD (some .int) r) 0 [(0, rv z 6), (1, iv x1), (2, iv x2)] [] g
  unfold Boats_timeOf at h
  refine AW.iload_n 2 dX0_timeOf_0 rfl ?_
  obtain ⟨r4, e5, h⟩ := hC h
  refine AW.join (tgt := 16) (lv1 := []) (st1 := [iv r4.1]) (g1 := r4.2) ?_ (fun J1 => ?_)
  · exact AW.iret1 rfl dX0_timeOf_16 h rfl
  replace h := e5
  refine AW.if_ge (tgt := 8) dX0_timeOf_1 (by decide) (fun c1 => ?_) (fun c1 => ?_)
  · replace h := hT h c1
    refine AW.aloadr_n 0 dX0_timeOf_8 rfl ?_
    refine AW.getR af_X0_29_6 sr_6_9 dX0_timeOf_9 ?_
    refine AW.iload_n 1 dX0_timeOf_12 rfl ?_
    obtain ⟨k2, h⟩ := hK h
    refine AW.aald (b := 64) kc_63 sk_63 sb_63 k2 dX0_timeOf_13 ?_
    refine AW.iload_n 2 dX0_timeOf_14 rfl ?_
    obtain ⟨k3, h⟩ := hK h
    refine AW.iald (s2_64 _ (ix_lt k2)).1 (s2_64 _ (ix_lt k2)).2 k3 dX0_timeOf_15 ?_
    refine AW.sub (lv1 := []) [] rfl ?_
    cases h
    exact J1
  · replace h := hF h c1
    refine AW.iconst dX0_timeOf_4 ?_
    refine AW.goto (tgt := 16) dX0_timeOf_5 (by decide) ?_
    refine AW.sub (lv1 := []) [] rfl ?_
    cases h
    exact J1
theorem Boats_canBetween_ok {z : AZ} {x1 : Int} {x2 : Int} {x3 : Int} {x4 : Int} {x5 : Int} {g : AG} {r : Int × AG} (h : Boats_canBetween x1 x2 x3 x4 x5 g = some r) : AMf z yX0_canBetween cX0_canBetween 12 (some .boolean) 5 [rv z 6, iv x1, iv x2, iv x3, iv x4, iv x5] g r := by
  intro d hdd
  refine AM.of (by decide +kernel) (Nat.le_of_ble_eq_true rfl) ?_
  show AW z (RX0, cX0_canBetween, 12, (some .boolean)) d (QD (some .boolean) r) 0 [(0, rv z 6), (1, iv x1), (2, iv x2), (3, iv x3), (4, iv x4), (5, iv x5)] [] g
  unfold Boats_canBetween at h
  refine AW.iload_n 2 dX0_canBetween_0 rfl ?_
  refine AW.iconst dX0_canBetween_1 ?_
  refine AW.iadd dX0_canBetween_2 ?_
  refine AW.istore (lv1 := [(6, iv (x2 + 1)), (0, rv z 6), (1, iv x1), (2, iv x2), (3, iv x3), (4, iv x4), (5, iv x5)]) dX0_canBetween_3 (by decide) rfl ?_
  refine AW.iload 0 dX0_canBetween_5 rfl ?_
  refine AW.aloadr_n 1 dX0_canBetween_7 rfl ?_
  refine AW.getR af_X0_32_6 sr_6_10 dX0_canBetween_8 ?_
  refine AW.iload_n 2 dX0_canBetween_11 rfl ?_
  obtain ⟨k1, h⟩ := hK h
  refine AW.iald kc_74 sk_74 k1 dX0_canBetween_12 ?_
  obtain ⟨t2, e3, h⟩ := hBe h
  refine AW.join (tgt := 21) (lv1 := [(6, iv (x2 + 1)), (0, rv z 6), (1, iv x1), (2, iv x2), (3, iv x3), (4, iv x4), (5, iv x5)]) (st1 := [iv t2]) (g1 := g) ?_ (fun J13 => ?_)
  · refine AW.istore (lv1 := [(7, iv t2), (6, iv (x2 + 1)), (0, rv z 6), (1, iv x1), (2, iv x2), (3, iv x3), (4, iv x4), (5, iv x5)]) dX0_canBetween_21 (by decide) rfl ?_
    refine AW.iload 0 dX0_canBetween_23 rfl ?_
    obtain ⟨r6, e7, h⟩ := hC h
    refine AW.join (tgt := 43) (lv1 := [(0, rv z 6), (1, iv x1), (2, iv x2), (3, iv x3), (4, iv x4), (5, iv x5), (6, iv (x2 + 1)), (7, iv t2)]) (st1 := [iv r6.1]) (g1 := r6.2) ?_ (fun J25 => ?_)
    · refine AW.istore (lv1 := [(8, iv r6.1), (0, rv z 6), (1, iv x1), (2, iv x2), (3, iv x3), (4, iv x4), (5, iv x5), (6, iv (x2 + 1)), (7, iv t2)]) dX0_canBetween_43 (by decide) rfl ?_
      refine AW.aloadr_n 1 dX0_canBetween_45 rfl ?_
      refine AW.getR af_X0_46_6 sr_6_2 dX0_canBetween_46 ?_
      refine AW.aloadr_n 1 dX0_canBetween_49 rfl ?_
      refine AW.getR af_X0_21_6 sr_6_6 dX0_canBetween_50 ?_
      refine AW.iload_n 2 dX0_canBetween_53 rfl ?_
      refine AW.iald kc_51 sk_51 k1 dX0_canBetween_54 ?_
      refine AW.aloadr_n 1 dX0_canBetween_55 rfl ?_
      refine AW.iload_n 2 dX0_canBetween_56 rfl ?_
      refine AW.iload_n 3 dX0_canBetween_57 rfl ?_
      obtain ⟨r8, e9, h⟩ := hC h
      refine AW.callVi (As := [iv x1, iv x2]) (st := [iv (r6.2 51 (ix x1)), rv z 5]) (Boats_placeOf_ok e9) cq_X0_58 cr_6_X0_placeOf (Nat.le_trans (by decide) hdd) rfl dX0_canBetween_58 rfl (Nat.le_of_ble_eq_true rfl) ?_
      refine AW.iload_n 4 dX0_canBetween_61 rfl ?_
      refine AW.aloadr_n 1 dX0_canBetween_62 rfl ?_
      refine AW.iload_n 2 dX0_canBetween_63 rfl ?_
      refine AW.iload_n 3 dX0_canBetween_64 rfl ?_
      obtain ⟨r10, e11, h⟩ := hC h
      refine AW.callVi (As := [iv x1, iv x2]) (st := [iv x3, iv r8.1, iv (r6.2 51 (ix x1)), rv z 5]) (Boats_timeOf_ok e11) cq_X0_62 cr_6_X0_timeOf (Nat.le_trans (by decide) hdd) rfl dX0_canBetween_65 rfl (Nat.le_of_ble_eq_true rfl) ?_
      refine AW.iconst dX0_canBetween_68 ?_
      obtain ⟨r12, e13, h⟩ := hC h
      refine AW.callVi (As := [iv (r6.2 51 (ix x1)), iv r8.1, iv x3, iv r10.1, iv 1]) (st := []) (Voyage_comesTo_ok e13) cq_X0_65 cr_5_X9_comesTo (Nat.le_trans (by decide) hdd) rfl dX0_canBetween_69 rfl (Nat.le_of_ble_eq_true rfl) ?_
      refine AW.istore (lv1 := [(9, iv r12.1), (8, iv r6.1), (0, rv z 6), (1, iv x1), (2, iv x2), (3, iv x3), (4, iv x4), (5, iv x5), (6, iv (x2 + 1)), (7, iv t2)]) dX0_canBetween_72 (by decide) rfl ?_
      refine AW.iload 0 dX0_canBetween_74 rfl ?_
      refine AW.iload 6 dX0_canBetween_76 rfl ?_
      refine AW.mmax (st := []) cm_X0_71 mst_max mini mcd_max (Nat.le_trans (by decide) hdd) (Nat.le_of_ble_eq_true rfl) dX0_canBetween_78 ?_
      refine AW.istore (lv1 := [(10, iv (mxI r12.1 x4)), (9, iv r12.1), (8, iv r6.1), (0, rv z 6), (1, iv x1), (2, iv x2), (3, iv x3), (4, iv x4), (5, iv x5), (6, iv (x2 + 1)), (7, iv t2)]) dX0_canBetween_81 (by decide) rfl ?_
      refine AW.iload 1 dX0_canBetween_83 rfl ?_
      refine AW.iconst dX0_canBetween_85 ?_
      refine AW.icmp_eq (tgt := 103) dX0_canBetween_86 (by decide) (fun c14 => ?_) (fun c14 => ?_)
      · replace h := hT h c14
        refine AW.iconst dX0_canBetween_103 ?_
        exact AW.zret1 rfl (Or.inl rfl) dX0_canBetween_104 h rfl
      · replace h := hF h c14
        refine AW.iload 0 dX0_canBetween_89 rfl ?_
        refine AW.iload 8 dX0_canBetween_91 rfl ?_
        refine AW.icmp_gt (tgt := 103) dX0_canBetween_93 (by decide) (fun c15 => ?_) (fun c15 => ?_)
        · replace h := hT h c15
          refine AW.iconst dX0_canBetween_103 ?_
          exact AW.zret1 rfl (Or.inl rfl) dX0_canBetween_104 h rfl
        · replace h := hF h c15
          refine AW.iload 0 dX0_canBetween_96 rfl ?_
          refine AW.iload 2 dX0_canBetween_98 rfl ?_
          refine AW.icmp_lt (tgt := 105) dX0_canBetween_100 (by decide) (fun c16 => ?_) (fun c16 => ?_)
          · replace h := hT h c16
            refine AW.iload 10 dX0_canBetween_105 rfl ?_
            refine AW.if_eq (tgt := 112) dX0_canBetween_107 (by decide) (fun c17 => ?_) (fun c17 => ?_)
            · replace h := hT h c17
              refine AW.aloadr_n 3 dX0_canBetween_112 rfl ?_
              refine AW.getR af_X0_46_6 sr_6_2 dX0_canBetween_113 ?_
              refine AW.aloadr_n 3 dX0_canBetween_116 rfl ?_
              refine AW.getR af_X0_21_6 sr_6_6 dX0_canBetween_117 ?_
              refine AW.iload_n 4 dX0_canBetween_120 rfl ?_
              refine AW.iald kc_51 sk_51 k1 dX0_canBetween_121 ?_
              refine AW.iload_n 6 dX0_canBetween_122 rfl ?_
              refine AW.aloadr_n 3 dX0_canBetween_123 rfl ?_
              refine AW.getR af_X0_26_6 sr_6_8 dX0_canBetween_124 ?_
              refine AW.iload_n 4 dX0_canBetween_127 rfl ?_
              refine AW.aald (b := 53) kc_52 sk_52 sb_52 k1 dX0_canBetween_128 ?_
              refine AW.iload 9 dX0_canBetween_129 rfl ?_
              obtain ⟨k18, h⟩ := hK h
              refine AW.iald (s2_53 _ (ix_lt k1)).1 (s2_53 _ (ix_lt k1)).2 k18 dX0_canBetween_131 ?_
              refine AW.iload 0 dX0_canBetween_132 rfl ?_
              refine AW.iconst dX0_canBetween_134 ?_
              obtain ⟨r19, e20, h⟩ := hC h
              refine AW.callVi (As := [iv (r12.2 51 (ix x1)), iv x3, iv (r12.2 (53 + ix x1) (ix (x2 + 1))), iv (mxI r12.1 x4), iv 1]) (st := []) (Voyage_comesTo_ok e20) cq_X0_65 cr_5_X9_comesTo (Nat.le_trans (by decide) hdd) rfl dX0_canBetween_135 rfl (Nat.le_of_ble_eq_true rfl) ?_
              refine AW.istore (lv1 := [(11, iv r19.1), (10, iv (mxI r12.1 x4)), (9, iv r12.1), (8, iv r6.1), (0, rv z 6), (1, iv x1), (2, iv x2), (3, iv x3), (4, iv x4), (5, iv x5), (6, iv (x2 + 1)), (7, iv t2)]) dX0_canBetween_138 (by decide) rfl ?_
              refine AW.iload 0 dX0_canBetween_140 rfl ?_
              refine AW.iconst dX0_canBetween_142 ?_
              obtain ⟨t21, e22, h⟩ := hBe h
              refine AW.join (tgt := 158) (lv1 := [(11, iv r19.1), (10, iv (mxI r12.1 x4)), (9, iv r12.1), (8, iv r6.1), (0, rv z 6), (1, iv x1), (2, iv x2), (3, iv x3), (4, iv x4), (5, iv x5), (6, iv (x2 + 1)), (7, iv t2)]) (st1 := [iv t21]) (g1 := r19.2) ?_ (fun J143 => ?_)
              · exact AW.zret1 rfl (by rw [e22]; (repeat' split) <;> first | exact Or.inl rfl | exact Or.inr rfl) dX0_canBetween_158 h rfl
              refine AW.icmp_eq (tgt := 157) dX0_canBetween_143 (by decide) (fun c23 => ?_) (fun c23 => ?_)
              · refine AW.iconst dX0_canBetween_157 ?_
                exact AW.val (e22.trans (if_pos c23)) J143
              · refine AW.iload 0 dX0_canBetween_146 rfl ?_
                refine AW.iload 3 dX0_canBetween_148 rfl ?_
                refine AW.icmp_gt (tgt := 157) dX0_canBetween_150 (by decide) (fun c24 => ?_) (fun c24 => ?_)
                · refine AW.iconst dX0_canBetween_157 ?_
                  exact AW.val (e22.trans ((if_neg c23).trans (if_pos c24))) J143
                · refine AW.iconst dX0_canBetween_153 ?_
                  refine AW.goto (tgt := 158) dX0_canBetween_154 (by decide) ?_
                  exact AW.val (e22.trans ((if_neg c23).trans (if_neg c24))) J143
            · replace h := hF h c17
              refine AW.iconst dX0_canBetween_110 ?_
              exact AW.zret1 rfl (Or.inr rfl) dX0_canBetween_111 h rfl
          · replace h := hF h c16
            refine AW.iconst dX0_canBetween_103 ?_
            exact AW.zret1 rfl (Or.inl rfl) dX0_canBetween_104 h rfl
    replace h := e7
    refine AW.if_eq (tgt := 34) dX0_canBetween_25 (by decide) (fun c4 => ?_) (fun c4 => ?_)
    · replace h := hT h c4
      refine AW.aloadr_n 2 dX0_canBetween_34 rfl ?_
      refine AW.getR af_X0_29_6 sr_6_9 dX0_canBetween_35 ?_
      refine AW.iload_n 3 dX0_canBetween_38 rfl ?_
      refine AW.aald (b := 64) kc_63 sk_63 sb_63 k1 dX0_canBetween_39 ?_
      refine AW.iload 1 dX0_canBetween_40 rfl ?_
      obtain ⟨k5, h⟩ := hK h
      refine AW.iald (s2_64 _ (ix_lt k1)).1 (s2_64 _ (ix_lt k1)).2 k5 dX0_canBetween_42 ?_
      refine AW.sub (lv1 := [(0, rv z 6), (1, iv x1), (2, iv x2), (3, iv x3), (4, iv x4), (5, iv x5), (6, iv (x2 + 1)), (7, iv t2)]) [2, 3, 4, 5, 6, 7, 1, 0] rfl ?_
      cases h
      exact J25
    · replace h := hF h c4
      refine AW.sipush dX0_canBetween_28 (by decide) (by decide) ?_
      refine AW.goto (tgt := 43) dX0_canBetween_31 (by decide) ?_
      refine AW.sub (lv1 := [(0, rv z 6), (1, iv x1), (2, iv x2), (3, iv x3), (4, iv x4), (5, iv x5), (6, iv (x2 + 1)), (7, iv t2)]) [2, 3, 4, 5, 6, 7, 1, 0] rfl ?_
      cases h
      exact J25
  refine AW.icmp_lt (tgt := 20) dX0_canBetween_13 (by decide) (fun c25 => ?_) (fun c25 => ?_)
  · refine AW.iconst dX0_canBetween_20 ?_
    exact AW.val (e3.trans (if_pos c25)) J13
  · refine AW.iconst dX0_canBetween_16 ?_
    refine AW.goto (tgt := 21) dX0_canBetween_17 (by decide) ?_
    exact AW.val (e3.trans (if_neg c25)) J13
set_option synthInstance.maxHeartbeats 2000000 in
theorem Boats_canHaveBeen_b_ok {z : AZ} {d : Nat} (hdd : 6 ≤ d) {x1 : Int} {x2 : Int} {x3 : Int} {x4 : Int} : ∀ (x5 : Int) (g : AG) (r : Int × AG), Boats_canHaveBeen_b x1 x2 x3 x4 x5 g = some r → AW z (RX0, cX0_canHaveBeen, 6, (some .boolean)) d (QD (some .boolean) r) 3 [(0, rv z 6), (1, iv x1), (2, iv x2), (3, iv x3), (4, iv x4), (5, iv x5)] [] g := by
  refine Boats_canHaveBeen_b.partial_correctness x1 x2 x3 x4 (fun x5 g r => AW z (RX0, cX0_canHaveBeen, 6, (some .boolean)) d (QD (some .boolean) r) 3 [(0, rv z 6), (1, iv x1), (2, iv x2), (3, iv x3), (4, iv x4), (5, iv x5)] [] g) ?_
  intro fb9 ih x5 g r h
  refine AW.iload 5 dX0_canHaveBeen_3 rfl ?_
  refine AW.aloadr_n 0 dX0_canHaveBeen_5 rfl ?_
  refine AW.getR af_X0_32_6 sr_6_10 dX0_canHaveBeen_6 ?_
  refine AW.iload_n 1 dX0_canHaveBeen_9 rfl ?_
  obtain ⟨k1, h⟩ := hK h
  refine AW.iald kc_74 sk_74 k1 dX0_canHaveBeen_10 ?_
  refine AW.icmp_ge (tgt := 36) dX0_canHaveBeen_11 (by decide) (fun c2 => ?_) (fun c2 => ?_)
  · replace h := hT h c2
    refine AW.iconst dX0_canHaveBeen_36 ?_
    exact AW.zret1 rfl (Or.inl rfl) dX0_canHaveBeen_37 h rfl
  · replace h := hF h c2
    refine AW.aloadr_n 0 dX0_canHaveBeen_14 rfl ?_
    refine AW.iload_n 1 dX0_canHaveBeen_15 rfl ?_
    refine AW.iload 5 dX0_canHaveBeen_16 rfl ?_
    refine AW.iload_n 2 dX0_canHaveBeen_18 rfl ?_
    refine AW.iload_n 3 dX0_canHaveBeen_19 rfl ?_
    refine AW.iload 4 dX0_canHaveBeen_20 rfl ?_
    obtain ⟨r3, e4, h⟩ := hC h
    refine AW.callVi (As := [iv x1, iv x5, iv x2, iv x3, iv x4]) (st := []) (Boats_canBetween_ok e4) cq_X0_54 cr_6_X0_canBetween (Nat.le_trans (by decide) hdd) rfl dX0_canHaveBeen_22 rfl (Nat.le_of_ble_eq_true rfl) ?_
    refine AW.if_eq (tgt := 30) dX0_canHaveBeen_25 (by decide) (fun c5 => ?_) (fun c5 => ?_)
    · replace h := hT h c5
      refine AW.iinc (lv1 := [(5, iv (x5 + 1)), (0, rv z 6), (1, iv x1), (2, iv x2), (3, iv x3), (4, iv x4)]) 5 dX0_canHaveBeen_30 rfl (by decide) rfl ?_
      refine AW.goto (tgt := 3) dX0_canHaveBeen_33 (by decide) ?_
      refine AW.sub (lv1 := [(0, rv z 6), (1, iv x1), (2, iv x2), (3, iv x3), (4, iv x4), (5, iv (x5 + 1))]) [1, 2, 3, 4, 5, 0] rfl ?_
      exact ih _ _ _ h
    · replace h := hF h c5
      refine AW.iconst dX0_canHaveBeen_28 ?_
      exact AW.zret1 rfl (Or.inr rfl) dX0_canHaveBeen_29 h rfl
theorem Boats_canHaveBeen_ok {z : AZ} {x1 : Int} {x2 : Int} {x3 : Int} {x4 : Int} {g : AG} {r : Int × AG} (h : Boats_canHaveBeen x1 x2 x3 x4 g = some r) : AMf z yX0_canHaveBeen cX0_canHaveBeen 6 (some .boolean) 6 [rv z 6, iv x1, iv x2, iv x3, iv x4] g r := by
  intro d hdd
  refine AM.of (by decide +kernel) (Nat.le_of_ble_eq_true rfl) ?_
  show AW z (RX0, cX0_canHaveBeen, 6, (some .boolean)) d (QD (some .boolean) r) 0 [(0, rv z 6), (1, iv x1), (2, iv x2), (3, iv x3), (4, iv x4)] [] g
  unfold Boats_canHaveBeen at h
  refine AW.iconst dX0_canHaveBeen_0 ?_
  refine AW.istore (lv1 := [(5, iv (-1)), (0, rv z 6), (1, iv x1), (2, iv x2), (3, iv x3), (4, iv x4)]) dX0_canHaveBeen_1 (by decide) rfl ?_
  refine AW.sub (lv1 := [(0, rv z 6), (1, iv x1), (2, iv x2), (3, iv x3), (4, iv x4), (5, iv (-1))]) [1, 2, 3, 4, 5, 0] rfl ?_
  exact Boats_canHaveBeen_b_ok hdd _ _ _ h
theorem X_could_ok {z : AZ} {x1 : Int} {x2 : Int} {x3 : Int} {x4 : Int} {g : AG} {r : Int × AG} (h : X_could x1 x2 x3 x4 g = some r) : AMf z yX11_could cX11_could 5 (some .int) 7 [rv z 0, iv x1, iv x2, iv x3, iv x4] g r := by
  intro d hdd
  refine AM.of (by decide +kernel) (Nat.le_of_ble_eq_true rfl) ?_
  show AW z (RX11, cX11_could, 5, (some .int)) d (QD (some .int) r) 0 [(0, rv z 0), (1, iv x1), (2, iv x2), (3, iv x3), (4, iv x4)] [] g
  unfold X_could at h
  refine AW.aloadr_n 0 dX11_could_0 rfl ?_
  refine AW.iload_n 1 dX11_could_1 rfl ?_
  refine AW.iload_n 2 dX11_could_2 rfl ?_
  refine AW.iload_n 2 dX11_could_3 rfl ?_
  refine AW.iload_n 3 dX11_could_4 rfl ?_
  refine AW.callVi (As := [iv x1, iv x2, iv x2, iv x3]) (st := []) X_isWay_ok cq_X11_176 cr_0_X11_isWay (Nat.le_trans (by decide) hdd) rfl dX11_could_5 rfl (Nat.le_of_ble_eq_true rfl) ?_
  refine AW.if_eq (tgt := 25) dX11_could_8 (by decide) (fun c1 => ?_) (fun c1 => ?_)
  · replace h := hT h c1
    refine AW.iconst dX11_could_25 ?_
    exact AW.iret1 rfl dX11_could_26 h rfl
  · replace h := hF h c1
    refine AW.iload 4 dX11_could_11 rfl ?_
    refine AW.callSi (As := [iv x4]) (st := []) X_isTime_ok cq_X11_114 st_X11_isTime (Nat.le_trans (by decide) hdd) rfl dX11_could_13 rfl (Nat.le_of_ble_eq_true rfl) ?_
    refine AW.if_eq (tgt := 25) dX11_could_16 (by decide) (fun c2 => ?_) (fun c2 => ?_)
    · replace h := hT h c2
      refine AW.iconst dX11_could_25 ?_
      exact AW.iret1 rfl dX11_could_26 h rfl
    · replace h := hF h c2
      refine AW.iload_n 3 dX11_could_19 rfl ?_
      refine AW.iload 4 dX11_could_20 rfl ?_
      refine AW.icmp_le (tgt := 27) dX11_could_22 (by decide) (fun c3 => ?_) (fun c3 => ?_)
      · replace h := hT h c3
        refine AW.aloadr_n 0 dX11_could_27 rfl ?_
        refine AW.getR af_X11_49_0 sr_0_5 dX11_could_28 ?_
        refine AW.iload_n 1 dX11_could_31 rfl ?_
        refine AW.iload_n 2 dX11_could_32 rfl ?_
        refine AW.iload_n 3 dX11_could_33 rfl ?_
        refine AW.iload 4 dX11_could_34 rfl ?_
        obtain ⟨r4, e5, h⟩ := hC h
        refine AW.callVi (As := [iv x1, iv x2, iv x3, iv x4]) (st := []) (Boats_canHaveBeen_ok e5) cq_X11_229 cr_6_X0_canHaveBeen (Nat.le_trans (by decide) hdd) rfl dX11_could_36 rfl (Nat.le_of_ble_eq_true rfl) ?_
        obtain ⟨t6, e7, h⟩ := hBe h
        refine AW.join (tgt := 47) (lv1 := [(0, rv z 0), (1, iv x1), (2, iv x2), (3, iv x3), (4, iv x4)]) (st1 := [iv t6]) (g1 := r4.2) ?_ (fun J39 => ?_)
        · exact AW.iret1 rfl dX11_could_47 h rfl
        refine AW.if_eq (tgt := 46) dX11_could_39 (by decide) (fun c8 => ?_) (fun c8 => ?_)
        · refine AW.iconst dX11_could_46 ?_
          exact AW.val (e7.trans (if_pos c8)) J39
        · refine AW.iconst dX11_could_42 ?_
          refine AW.goto (tgt := 47) dX11_could_43 (by decide) ?_
          exact AW.val (e7.trans (if_neg c8)) J39
      · replace h := hF h c3
        refine AW.iconst dX11_could_25 ?_
        exact AW.iret1 rfl dX11_could_26 h rfl
set_option synthInstance.maxHeartbeats 2000000 in
theorem X_whose_b_ok {z : AZ} {d : Nat} (hdd : 7 ≤ d) {x1 : Int} {x2 : Int} {x3 : Int} {x4 : Int} : ∀ (x5 : Int) (x6 : Int) (x7 : Int) (g : AG) (r : Int × AG), X_whose_b x1 x2 x3 x4 x5 x6 x7 g = some r → AW z (RX11, cX11_whose, 8, (some .int)) d (QD (some .int) r) 49 [(0, rv z 0), (1, iv x1), (2, iv x2), (3, iv x3), (4, iv x4), (5, iv x5), (6, iv x6), (7, iv x7)] [] g := by
  refine X_whose_b.partial_correctness x1 x2 x3 x4 (fun x5 x6 x7 g r => AW z (RX11, cX11_whose, 8, (some .int)) d (QD (some .int) r) 49 [(0, rv z 0), (1, iv x1), (2, iv x2), (3, iv x3), (4, iv x4), (5, iv x5), (6, iv x6), (7, iv x7)] [] g) ?_
  intro fb9 ih x5 x6 x7 g r h
  refine AW.iload 7 dX11_whose_49 rfl ?_
  refine AW.aloadr_n 0 dX11_whose_51 rfl ?_
  refine AW.getR af_X11_49_0 sr_0_5 dX11_whose_52 ?_
  refine AW.getI af_X11_103_6 sr_6_7 dX11_whose_55 ?_
  refine AW.icmp_ge (tgt := 95) dX11_whose_58 (by decide) (fun c1 => ?_) (fun c1 => ?_)
  · replace h := hT h c1
    refine AW.iload 4 dX11_whose_95 rfl ?_
    refine AW.if_ne (tgt := 103) dX11_whose_97 (by decide) (fun c2 => ?_) (fun c2 => ?_)
    · replace h := hF h c2
      refine AW.iload 5 dX11_whose_103 rfl ?_
      obtain ⟨r3, e4, h⟩ := hC h
      refine AW.callSi (As := [iv x5]) (st := []) (Integer_bitCount_ok e4) cq_X11_232 st_J6_bitCount_0f7a4 (Nat.le_trans (by decide) hdd) rfl dX11_whose_105 rfl (Nat.le_of_ble_eq_true rfl) ?_
      refine AW.iconst dX11_whose_108 ?_
      obtain ⟨t5, e6, h⟩ := hBe h
      refine AW.join (tgt := 118) (lv1 := [(0, rv z 0), (1, iv x1), (2, iv x2), (3, iv x3), (4, iv x4), (5, iv x5), (6, iv x6), (7, iv x7)]) (st1 := [iv t5]) (g1 := r3.2) ?_ (fun J109 => ?_)
      · exact AW.iret1 rfl dX11_whose_118 h rfl
      refine AW.icmp_ne (tgt := 117) dX11_whose_109 (by decide) (fun c7 => ?_) (fun c7 => ?_)
      · refine AW.iconst dX11_whose_117 ?_
        exact AW.val (e6.trans (if_neg c7)) J109
      · refine AW.iload 6 dX11_whose_112 rfl ?_
        refine AW.goto (tgt := 118) dX11_whose_114 (by decide) ?_
        exact AW.val (e6.trans (if_pos c7)) J109
    · replace h := hT h c2
      refine AW.iload 5 dX11_whose_100 rfl ?_
      exact AW.iret1 rfl dX11_whose_102 h rfl
  · replace h := hF h c1
    refine AW.aloadr_n 0 dX11_whose_61 rfl ?_
    refine AW.getR af_X11_49_0 sr_0_5 dX11_whose_62 ?_
    refine AW.iload 7 dX11_whose_65 rfl ?_
    refine AW.iload_n 1 dX11_whose_67 rfl ?_
    refine AW.iload_n 2 dX11_whose_68 rfl ?_
    refine AW.iload_n 3 dX11_whose_69 rfl ?_
    obtain ⟨r8, e9, h⟩ := hC h
    refine AW.callVi (As := [iv x7, iv x1, iv x2, iv x3]) (st := []) (Boats_canHaveBeen_ok e9) cq_X11_229 cr_6_X0_canHaveBeen (Nat.le_trans (by decide) hdd) rfl dX11_whose_70 rfl (Nat.le_of_ble_eq_true rfl) ?_
    obtain ⟨r11, e12, h⟩ := hC h
    refine AW.join (tgt := 89) (lv1 := [(0, rv z 0), (1, iv x1), (2, iv x2), (3, iv x3), (4, iv x4), (5, iv r11.1), (6, iv r11.2.1), (7, iv x7)]) (st1 := []) (g1 := r11.2.2) ?_ (fun J73 => ?_)
    · refine AW.iinc (lv1 := [(7, iv (x7 + 1)), (0, rv z 0), (1, iv x1), (2, iv x2), (3, iv x3), (4, iv x4), (5, iv r11.1), (6, iv r11.2.1)]) 7 dX11_whose_89 rfl (by decide) rfl ?_
      refine AW.goto (tgt := 49) dX11_whose_92 (by decide) ?_
      refine AW.sub (lv1 := [(0, rv z 0), (1, iv x1), (2, iv x2), (3, iv x3), (4, iv x4), (5, iv r11.1), (6, iv r11.2.1), (7, iv (x7 + 1))]) [1, 2, 3, 4, 5, 6, 7, 0] rfl ?_
      exact ih _ _ _ _ _ h
    replace h := e12
    refine AW.if_eq (tgt := 89) dX11_whose_73 (by decide) (fun c10 => ?_) (fun c10 => ?_)
    · replace h := hT h c10
      cases h
      exact J73
    · replace h := hF h c10
      refine AW.iload 5 dX11_whose_76 rfl ?_
      refine AW.iconst dX11_whose_78 ?_
      refine AW.iload 7 dX11_whose_79 rfl ?_
      refine AW.ishl dX11_whose_81 ?_
      refine AW.ior dX11_whose_82 ?_
      refine AW.istore (lv1 := [(5, iv (orI x5 (shlI 1 x7))), (0, rv z 0), (1, iv x1), (2, iv x2), (3, iv x3), (4, iv x4), (6, iv x6), (7, iv x7)]) dX11_whose_83 (by decide) rfl ?_
      refine AW.iload 7 dX11_whose_85 rfl ?_
      refine AW.istore (lv1 := [(6, iv x7), (5, iv (orI x5 (shlI 1 x7))), (0, rv z 0), (1, iv x1), (2, iv x2), (3, iv x3), (4, iv x4), (7, iv x7)]) dX11_whose_87 (by decide) rfl ?_
      refine AW.sub (lv1 := [(0, rv z 0), (1, iv x1), (2, iv x2), (3, iv x3), (4, iv x4), (5, iv (orI x5 (shlI 1 x7))), (6, iv x7), (7, iv x7)]) [2, 3, 4, 5, 6, 1, 0, 7] rfl ?_
      cases h
      exact J73
theorem X_whose_ok {z : AZ} {x1 : Int} {x2 : Int} {x3 : Int} {x4 : Int} {g : AG} {r : Int × AG} (h : X_whose x1 x2 x3 x4 g = some r) : AMf z yX11_whose cX11_whose 8 (some .int) 7 [rv z 0, iv x1, iv x2, iv x3, iv x4] g r := by
  intro d hdd
  refine AM.of (by decide +kernel) (Nat.le_of_ble_eq_true rfl) ?_
  show AW z (RX11, cX11_whose, 8, (some .int)) d (QD (some .int) r) 0 [(0, rv z 0), (1, iv x1), (2, iv x2), (3, iv x3), (4, iv x4)] [] g
  unfold X_whose at h
  refine AW.iload_n 1 dX11_whose_0 rfl ?_
  refine AW.callSi (As := [iv x1]) (st := []) X_isPoint_ok cq_X11_111 st_X11_isPoint (Nat.le_trans (by decide) hdd) rfl dX11_whose_1 rfl (Nat.le_of_ble_eq_true rfl) ?_
  refine AW.if_eq (tgt := 26) dX11_whose_4 (by decide) (fun c1 => ?_) (fun c1 => ?_)
  · replace h := hT h c1
    refine AW.iconst dX11_whose_26 ?_
    exact AW.iret1 rfl dX11_whose_27 h rfl
  · replace h := hF h c1
    refine AW.iload_n 2 dX11_whose_7 rfl ?_
    refine AW.callSi (As := [iv x2]) (st := []) X_isTime_ok cq_X11_114 st_X11_isTime (Nat.le_trans (by decide) hdd) rfl dX11_whose_8 rfl (Nat.le_of_ble_eq_true rfl) ?_
    refine AW.if_eq (tgt := 26) dX11_whose_11 (by decide) (fun c2 => ?_) (fun c2 => ?_)
    · replace h := hT h c2
      refine AW.iconst dX11_whose_26 ?_
      exact AW.iret1 rfl dX11_whose_27 h rfl
    · replace h := hF h c2
      refine AW.iload_n 3 dX11_whose_14 rfl ?_
      refine AW.callSi (As := [iv x3]) (st := []) X_isTime_ok cq_X11_114 st_X11_isTime (Nat.le_trans (by decide) hdd) rfl dX11_whose_15 rfl (Nat.le_of_ble_eq_true rfl) ?_
      refine AW.if_eq (tgt := 26) dX11_whose_18 (by decide) (fun c3 => ?_) (fun c3 => ?_)
      · replace h := hT h c3
        refine AW.iconst dX11_whose_26 ?_
        exact AW.iret1 rfl dX11_whose_27 h rfl
      · replace h := hF h c3
        refine AW.iload_n 2 dX11_whose_21 rfl ?_
        refine AW.iload_n 3 dX11_whose_22 rfl ?_
        refine AW.icmp_le (tgt := 28) dX11_whose_23 (by decide) (fun c4 => ?_) (fun c4 => ?_)
        · replace h := hT h c4
          refine AW.iload 4 dX11_whose_28 rfl ?_
          refine AW.iconst dX11_whose_30 ?_
          refine AW.iconst dX11_whose_31 ?_
          refine AW.callSi (As := [iv x4, iv 0, iv 1]) (st := []) X_within_ok cq_X11_99 st_X11_within (Nat.le_trans (by decide) hdd) rfl dX11_whose_32 rfl (Nat.le_of_ble_eq_true rfl) ?_
          refine AW.if_ne (tgt := 40) dX11_whose_35 (by decide) (fun c5 => ?_) (fun c5 => ?_)
          · replace h := hF h c5
            refine AW.iconst dX11_whose_40 ?_
            refine AW.istore (lv1 := [(5, iv 0), (0, rv z 0), (1, iv x1), (2, iv x2), (3, iv x3), (4, iv x4)]) dX11_whose_41 (by decide) rfl ?_
            refine AW.iconst dX11_whose_43 ?_
            refine AW.istore (lv1 := [(6, iv (-1)), (5, iv 0), (0, rv z 0), (1, iv x1), (2, iv x2), (3, iv x3), (4, iv x4)]) dX11_whose_44 (by decide) rfl ?_
            refine AW.iconst dX11_whose_46 ?_
            refine AW.istore (lv1 := [(7, iv 0), (6, iv (-1)), (5, iv 0), (0, rv z 0), (1, iv x1), (2, iv x2), (3, iv x3), (4, iv x4)]) dX11_whose_47 (by decide) rfl ?_
            refine AW.sub (lv1 := [(0, rv z 0), (1, iv x1), (2, iv x2), (3, iv x3), (4, iv x4), (5, iv 0), (6, iv (-1)), (7, iv 0)]) [3, 4, 5, 6, 7, 2, 1, 0] rfl ?_
            exact X_whose_b_ok hdd _ _ _ _ _ h
          · replace h := hT h c5
            refine AW.iconst dX11_whose_38 ?_
            exact AW.iret1 rfl dX11_whose_39 h rfl
        · replace h := hF h c4
          refine AW.iconst dX11_whose_26 ?_
          exact AW.iret1 rfl dX11_whose_27 h rfl
set_option synthInstance.maxHeartbeats 2000000 in
theorem Boats_lastLog_b_ok {z : AZ} {d : Nat} (hdd : 0 ≤ d) {x1 : Int} {x2 : Int} {g : AG} : ∀ (x3 : Int) (x4 : Int) (r : Int × AG), Boats_lastLog_b x1 x2 g x3 x4 = some r → AW z (RX0, cX0_lastLog, 5, (some .int)) d (QD (some .int) r) 5 [(0, rv z 6), (1, iv x1), (2, iv x2), (3, iv x3), (4, iv x4)] [] g := by
  refine Boats_lastLog_b.partial_correctness x1 x2 g (fun x3 x4 r => AW z (RX0, cX0_lastLog, 5, (some .int)) d (QD (some .int) r) 5 [(0, rv z 6), (1, iv x1), (2, iv x2), (3, iv x3), (4, iv x4)] [] g) ?_
  intro fb9 ih x3 x4 r h
  refine AW.iload 4 dX0_lastLog_5 rfl ?_
  refine AW.aloadr_n 0 dX0_lastLog_7 rfl ?_
  refine AW.getR af_X0_32_6 sr_6_10 dX0_lastLog_8 ?_
  refine AW.iload_n 1 dX0_lastLog_11 rfl ?_
  obtain ⟨k1, h⟩ := hK h
  refine AW.iald kc_74 sk_74 k1 dX0_lastLog_12 ?_
  refine AW.icmp_ge (tgt := 38) dX0_lastLog_13 (by decide) (fun c2 => ?_) (fun c2 => ?_)
  · replace h := hT h c2
    refine AW.iload_n 3 dX0_lastLog_38 rfl ?_
    exact AW.iret1 rfl dX0_lastLog_39 h rfl
  · replace h := hF h c2
    refine AW.aloadr_n 0 dX0_lastLog_16 rfl ?_
    refine AW.getR af_X0_29_6 sr_6_9 dX0_lastLog_17 ?_
    refine AW.iload_n 1 dX0_lastLog_20 rfl ?_
    refine AW.aald (b := 64) kc_63 sk_63 sb_63 k1 dX0_lastLog_21 ?_
    refine AW.iload 4 dX0_lastLog_22 rfl ?_
    obtain ⟨k3, h⟩ := hK h
    refine AW.iald (s2_64 _ (ix_lt k1)).1 (s2_64 _ (ix_lt k1)).2 k3 dX0_lastLog_24 ?_
    refine AW.iload_n 2 dX0_lastLog_25 rfl ?_
    refine AW.icmp_gt (tgt := 38) dX0_lastLog_26 (by decide) (fun c4 => ?_) (fun c4 => ?_)
    · replace h := hT h c4
      refine AW.iload_n 3 dX0_lastLog_38 rfl ?_
      exact AW.iret1 rfl dX0_lastLog_39 h rfl
    · replace h := hF h c4
      refine AW.iload 4 dX0_lastLog_29 rfl ?_
      refine AW.istore_n (lv1 := [(3, iv x4), (0, rv z 6), (1, iv x1), (2, iv x2), (4, iv x4)]) dX0_lastLog_31 (by decide) rfl ?_
      refine AW.iinc (lv1 := [(4, iv (x4 + 1)), (3, iv x4), (0, rv z 6), (1, iv x1), (2, iv x2)]) 4 dX0_lastLog_32 rfl (by decide) rfl ?_
      refine AW.goto (tgt := 5) dX0_lastLog_35 (by decide) ?_
      refine AW.sub (lv1 := [(0, rv z 6), (1, iv x1), (2, iv x2), (3, iv x4), (4, iv (x4 + 1))]) [2, 3, 4, 1, 0] rfl ?_
      exact ih _ _ _ h
theorem Boats_lastLog_ok {z : AZ} {x1 : Int} {x2 : Int} {g : AG} {r : Int × AG} (h : Boats_lastLog x1 x2 g = some r) : AMf z yX0_lastLog cX0_lastLog 5 (some .int) 0 [rv z 6, iv x1, iv x2] g r := by
  intro d hdd
  refine AM.of (by decide +kernel) (Nat.le_of_ble_eq_true rfl) ?_
  show AW z (RX0, cX0_lastLog, 5, (some .int)) d (QD (some .int) r) 0 [(0, rv z 6), (1, iv x1), (2, iv x2)] [] g
  unfold Boats_lastLog at h
  refine AW.iconst dX0_lastLog_0 ?_
  refine AW.istore_n (lv1 := [(3, iv (-1)), (0, rv z 6), (1, iv x1), (2, iv x2)]) dX0_lastLog_1 (by decide) rfl ?_
  refine AW.iconst dX0_lastLog_2 ?_
  refine AW.istore (lv1 := [(4, iv 0), (3, iv (-1)), (0, rv z 6), (1, iv x1), (2, iv x2)]) dX0_lastLog_3 (by decide) rfl ?_
  refine AW.sub (lv1 := [(0, rv z 6), (1, iv x1), (2, iv x2), (3, iv (-1)), (4, iv 0)]) [2, 3, 4, 1, 0] rfl ?_
  exact Boats_lastLog_b_ok hdd _ _ _ h
set_option synthInstance.maxHeartbeats 2000000 in
theorem Boats_settleTonight_b_ok {z : AZ} {d : Nat} (hdd : 5 ≤ d) {x1 : Int} : ∀ (tag : Nat) (x2 : Int) (x4 : Int) (x5 : Int) (g : AG) (r : Int × AG), Boats_settleTonight_b x1 tag x2 x4 x5 g = some r → (tag = 1 → AW z (RX0, cX0_settleTonight, 6, none) d (QD none r) 10 [(0, rv z 6), (1, iv x1), (2, iv x2)] [] g) ∧ (tag = 2 → AW z (RX0, cX0_settleTonight, 6, none) d (QD none r) 63 [(0, rv z 6), (1, iv x1), (2, iv x2), (4, iv x4), (5, iv x5)] [] g) := by
  refine Boats_settleTonight_b.partial_correctness x1 (fun tag x2 x4 x5 g r => (tag = 1 → AW z (RX0, cX0_settleTonight, 6, none) d (QD none r) 10 [(0, rv z 6), (1, iv x1), (2, iv x2)] [] g) ∧ (tag = 2 → AW z (RX0, cX0_settleTonight, 6, none) d (QD none r) 63 [(0, rv z 6), (1, iv x1), (2, iv x2), (4, iv x4), (5, iv x5)] [] g)) ?_
  intro fb9 ih tag x2 x4 x5 g r h
  refine ⟨fun h9 => ?_, fun h9 => ?_⟩
  · subst h9
    replace h := hT h rfl
    refine AW.iload_n 2 dX0_settleTonight_10 rfl ?_
    refine AW.aloadr_n 0 dX0_settleTonight_11 rfl ?_
    refine AW.getI af_X0_50_6 sr_6_7 dX0_settleTonight_12 ?_
    refine AW.icmp_ge (tgt := 101) dX0_settleTonight_15 (by decide) (fun c1 => ?_) (fun c1 => ?_)
    · replace h := hT h c1
      exact AW.vret1 rfl dX0_settleTonight_101 h rfl
    · replace h := hF h c1
      refine AW.aloadr_n 0 dX0_settleTonight_18 rfl ?_
      refine AW.iload_n 2 dX0_settleTonight_19 rfl ?_
      refine AW.iload_n 1 dX0_settleTonight_20 rfl ?_
      obtain ⟨r2, e3, h⟩ := hC h
      refine AW.callVi (As := [iv x2, iv x1]) (st := []) (Boats_lastLog_ok e3) cq_X0_82 cr_6_X0_lastLog (Nat.le_trans (by decide) hdd) rfl dX0_settleTonight_21 rfl (Nat.le_of_ble_eq_true rfl) ?_
      refine AW.istore_n (lv1 := [(3, iv r2.1), (0, rv z 6), (1, iv x1), (2, iv x2)]) dX0_settleTonight_24 (by decide) rfl ?_
      refine AW.aloadr_n 1 dX0_settleTonight_25 rfl ?_
      refine AW.getR af_X0_46_6 sr_6_2 dX0_settleTonight_26 ?_
      refine AW.aloadr_n 1 dX0_settleTonight_29 rfl ?_
      refine AW.getR af_X0_21_6 sr_6_6 dX0_settleTonight_30 ?_
      refine AW.iload_n 3 dX0_settleTonight_33 rfl ?_
      obtain ⟨k4, h⟩ := hK h
      refine AW.iald kc_51 sk_51 k4 dX0_settleTonight_34 ?_
      refine AW.aloadr_n 1 dX0_settleTonight_35 rfl ?_
      refine AW.iload_n 3 dX0_settleTonight_36 rfl ?_
      refine AW.iload_n 0 dX0_settleTonight_37 rfl ?_
      obtain ⟨r5, e6, h⟩ := hC h
      refine AW.callVi (As := [iv x2, iv r2.1]) (st := [iv (r2.2 51 (ix x2)), rv z 5]) (Boats_placeOf_ok e6) cq_X0_58 cr_6_X0_placeOf (Nat.le_trans (by decide) hdd) rfl dX0_settleTonight_38 rfl (Nat.le_of_ble_eq_true rfl) ?_
      refine AW.aloadr_n 1 dX0_settleTonight_41 rfl ?_
      refine AW.iload_n 3 dX0_settleTonight_42 rfl ?_
      refine AW.iload_n 0 dX0_settleTonight_43 rfl ?_
      obtain ⟨r7, e8, h⟩ := hC h
      refine AW.callVi (As := [iv x2, iv r2.1]) (st := [iv r5.1, iv (r2.2 51 (ix x2)), rv z 5]) (Boats_timeOf_ok e8) cq_X0_62 cr_6_X0_timeOf (Nat.le_trans (by decide) hdd) rfl dX0_settleTonight_44 rfl (Nat.le_of_ble_eq_true rfl) ?_
      obtain ⟨r9, e10, h⟩ := hC h
      refine AW.callVv (As := [iv (r2.2 51 (ix x2)), iv r5.1, iv r7.1]) (st := []) (Voyage_reach_ok e10) cq_X0_85 cr_5_X9_reach (Nat.le_trans (by decide) hdd) rfl dX0_settleTonight_47 rfl (Nat.le_of_ble_eq_true rfl) ?_
      refine AW.aloadr_n 1 dX0_settleTonight_50 rfl ?_
      refine AW.getR af_X0_46_6 sr_6_2 dX0_settleTonight_51 ?_
      refine AW.iload_n 2 dX0_settleTonight_54 rfl ?_
      obtain ⟨r11, e12, h⟩ := hC h
      refine AW.callVi (As := [iv x1]) (st := []) (Voyage_reached_ok e12) cq_X0_89 cr_5_X9_reached (Nat.le_trans (by decide) hdd) rfl dX0_settleTonight_55 rfl (Nat.le_of_ble_eq_true rfl) ?_
      refine AW.istore (lv1 := [(4, iv r11.1), (3, iv r2.1), (0, rv z 6), (1, iv x1), (2, iv x2)]) dX0_settleTonight_58 (by decide) rfl ?_
      refine AW.iconst dX0_settleTonight_60 ?_
      refine AW.istore (lv1 := [(5, iv 0), (4, iv r11.1), (3, iv r2.1), (0, rv z 6), (1, iv x1), (2, iv x2)]) dX0_settleTonight_61 (by decide) rfl ?_
      refine AW.sub (lv1 := [(0, rv z 6), (1, iv x1), (2, iv x2), (4, iv r11.1), (5, iv 0)]) [3, 4, 5, 1, 0] rfl ?_
      exact (ih _ _ _ _ _ _ h).2 rfl
  · subst h9
    replace h := hF h (by decide)
    replace h := hT h rfl
    refine AW.iload 4 dX0_settleTonight_63 rfl ?_
    refine AW.bipush dX0_settleTonight_65 (by decide) (by decide) ?_
    refine AW.icmp_ge (tgt := 95) dX0_settleTonight_67 (by decide) (fun c1 => ?_) (fun c1 => ?_)
    · replace h := hT h c1
      refine AW.iinc (lv1 := [(2, iv (x2 + 1)), (0, rv z 6), (1, iv x1), (4, iv x4), (5, iv x5)]) 2 dX0_settleTonight_95 rfl (by decide) rfl ?_
      refine AW.goto (tgt := 10) dX0_settleTonight_98 (by decide) ?_
      refine AW.sub (lv1 := [(0, rv z 6), (1, iv x1), (2, iv (x2 + 1))]) [1, 2, 0] rfl ?_
      exact (ih _ _ _ _ _ _ h).1 rfl
    · replace h := hF h c1
      refine AW.aloadr_n 0 dX0_settleTonight_70 rfl ?_
      refine AW.getR af_X0_35_6 sr_6_11 dX0_settleTonight_71 ?_
      refine AW.iload 4 dX0_settleTonight_74 rfl ?_
      refine AW.dup2r dX0_settleTonight_76 ?_
      obtain ⟨k2, h⟩ := hK h
      refine AW.iald kc_75 sk_75 k2 dX0_settleTonight_77 ?_
      refine AW.iload 3 dX0_settleTonight_78 rfl ?_
      refine AW.iload 4 dX0_settleTonight_80 rfl ?_
      refine AW.ishr dX0_settleTonight_82 ?_
      refine AW.iconst dX0_settleTonight_83 ?_
      refine AW.iand dX0_settleTonight_84 ?_
      refine AW.iload_n 2 dX0_settleTonight_85 rfl ?_
      refine AW.ishl dX0_settleTonight_86 ?_
      refine AW.ior dX0_settleTonight_87 ?_
      obtain ⟨g3, e4, h⟩ := hBe h
      refine AW.iast kc_75 sk_75 k2 dX0_settleTonight_88 e4 ?_
      refine AW.iinc (lv1 := [(5, iv (x5 + 1)), (0, rv z 6), (1, iv x1), (2, iv x2), (4, iv x4)]) 4 dX0_settleTonight_89 rfl (by decide) rfl ?_
      refine AW.goto (tgt := 63) dX0_settleTonight_92 (by decide) ?_
      refine AW.sub (lv1 := [(0, rv z 6), (1, iv x1), (2, iv x2), (4, iv x4), (5, iv (x5 + 1))]) [1, 2, 3, 4, 0] rfl ?_
      exact (ih _ _ _ _ _ _ h).2 rfl
theorem Boats_settleTonight_ok {z : AZ} {x1 : Int} {g : AG} {r : Int × AG} (h : Boats_settleTonight x1 g = some r) : AMf z yX0_settleTonight cX0_settleTonight 6 none 5 [rv z 6, iv x1] g r := by
  intro d hdd
  refine AM.of (by decide +kernel) (Nat.le_of_ble_eq_true rfl) ?_
  show AW z (RX0, cX0_settleTonight, 6, none) d (QD none r) 0 [(0, rv z 6), (1, iv x1)] [] g
  unfold Boats_settleTonight at h
  refine AW.aloadr_n 0 dX0_settleTonight_0 rfl ?_
  refine AW.getR af_X0_35_6 sr_6_11 dX0_settleTonight_1 ?_
  refine AW.iconst dX0_settleTonight_4 ?_
  obtain ⟨g1, e2, h⟩ := hBe h
  refine AW.callSv (st := []) (fill_ok kc_75 sk_75 (by decide)) cf_X0_76 st_fill (Nat.le_trans (by decide) hdd) rfl dX0_settleTonight_5 rfl (Nat.le_of_ble_eq_true rfl) ?_
  rw [← e2]
  refine AW.iconst dX0_settleTonight_8 ?_
  refine AW.istore_n (lv1 := [(2, iv 0), (0, rv z 6), (1, iv x1)]) dX0_settleTonight_9 (by decide) rfl ?_
  refine AW.sub (lv1 := [(0, rv z 6), (1, iv x1), (2, iv 0)]) [1, 2, 0] rfl ?_
  exact (Boats_settleTonight_b_ok hdd _ _ _ _ _ _ h).1 rfl
set_option synthInstance.maxHeartbeats 2000000 in
theorem Boats_crowd_b_ok {z : AZ} {d : Nat} (hdd : 1 ≤ d) : ∀ (x1 : Int) (x2 : Int) (g : AG) (r : Int × AG), Boats_crowd_b x1 x2 g = some r → AW z (RX0, cX0_crowd, 3, (some .int)) d (QD (some .int) r) 4 [(0, rv z 6), (1, iv x1), (2, iv x2)] [] g := by
  refine Boats_crowd_b.partial_correctness (fun x1 x2 g r => AW z (RX0, cX0_crowd, 3, (some .int)) d (QD (some .int) r) 4 [(0, rv z 6), (1, iv x1), (2, iv x2)] [] g) ?_
  intro fb9 ih x1 x2 g r h
  refine AW.iload_n 2 dX0_crowd_4 rfl ?_
  refine AW.bipush dX0_crowd_5 (by decide) (by decide) ?_
  refine AW.icmp_ge (tgt := 39) dX0_crowd_7 (by decide) (fun c1 => ?_) (fun c1 => ?_)
  · replace h := hT h c1
    refine AW.iload_n 1 dX0_crowd_39 rfl ?_
    exact AW.iret1 rfl dX0_crowd_40 h rfl
  · replace h := hF h c1
    refine AW.aloadr_n 0 dX0_crowd_10 rfl ?_
    refine AW.getR af_X0_35_6 sr_6_11 dX0_crowd_11 ?_
    refine AW.iload_n 2 dX0_crowd_14 rfl ?_
    obtain ⟨k2, h⟩ := hK h
    refine AW.iald kc_75 sk_75 k2 dX0_crowd_15 ?_
    obtain ⟨r3, e4, h⟩ := hC h
    refine AW.callSi (As := [iv (g 75 (ix x2))]) (st := []) (Integer_bitCount_ok e4) cq_X0_93 st_J6_bitCount_0f7a4 (Nat.le_trans (by decide) hdd) rfl dX0_crowd_16 rfl (Nat.le_of_ble_eq_true rfl) ?_
    refine AW.aloadr_n 0 dX0_crowd_19 rfl ?_
    refine AW.getR af_X0_35_6 sr_6_11 dX0_crowd_20 ?_
    refine AW.iload_n 1 dX0_crowd_23 rfl ?_
    obtain ⟨k5, h⟩ := hK h
    refine AW.iald kc_75 sk_75 k5 dX0_crowd_24 ?_
    obtain ⟨r6, e7, h⟩ := hC h
    refine AW.callSi (As := [iv (r3.2 75 (ix x1))]) (st := [iv r3.1]) (Integer_bitCount_ok e7) cq_X0_93 st_J6_bitCount_0f7a4 (Nat.le_trans (by decide) hdd) rfl dX0_crowd_25 rfl (Nat.le_of_ble_eq_true rfl) ?_
    obtain ⟨r9, e10, h⟩ := hC h
    refine AW.join (tgt := 33) (lv1 := [(0, rv z 6), (1, iv r9.1), (2, iv x2)]) (st1 := []) (g1 := r9.2) ?_ (fun J28 => ?_)
    · refine AW.iinc (lv1 := [(2, iv (x2 + 1)), (0, rv z 6), (1, iv r9.1)]) 2 dX0_crowd_33 rfl (by decide) rfl ?_
      refine AW.goto (tgt := 4) dX0_crowd_36 (by decide) ?_
      refine AW.sub (lv1 := [(0, rv z 6), (1, iv r9.1), (2, iv (x2 + 1))]) [1, 2, 0] rfl ?_
      exact ih _ _ _ _ h
    replace h := e10
    refine AW.icmp_le (tgt := 33) dX0_crowd_28 (by decide) (fun c8 => ?_) (fun c8 => ?_)
    · replace h := hT h c8
      cases h
      exact J28
    · replace h := hF h c8
      refine AW.iload_n 2 dX0_crowd_31 rfl ?_
      refine AW.istore_n (lv1 := [(1, iv x2), (0, rv z 6), (2, iv x2)]) dX0_crowd_32 (by decide) rfl ?_
      refine AW.sub (lv1 := [(0, rv z 6), (1, iv x2), (2, iv x2)]) [1, 0, 2] rfl ?_
      cases h
      exact J28
theorem Boats_crowd_ok {z : AZ} {g : AG} {r : Int × AG} (h : Boats_crowd g = some r) : AMf z yX0_crowd cX0_crowd 3 (some .int) 1 [rv z 6] g r := by
  intro d hdd
  refine AM.of (by decide +kernel) (Nat.le_of_ble_eq_true rfl) ?_
  show AW z (RX0, cX0_crowd, 3, (some .int)) d (QD (some .int) r) 0 [(0, rv z 6)] [] g
  unfold Boats_crowd at h
  refine AW.iconst dX0_crowd_0 ?_
  refine AW.istore_n (lv1 := [(1, iv 0), (0, rv z 6)]) dX0_crowd_1 (by decide) rfl ?_
  refine AW.iconst dX0_crowd_2 ?_
  refine AW.istore_n (lv1 := [(2, iv 1), (1, iv 0), (0, rv z 6)]) dX0_crowd_3 (by decide) rfl ?_
  refine AW.sub (lv1 := [(0, rv z 6), (1, iv 0), (2, iv 1)]) [2, 1, 0] rfl ?_
  exact Boats_crowd_b_ok hdd _ _ _ _ h
theorem X_tonight_ok {z : AZ} {x1 : Int} {x2 : Int} {g : AG} {r : Int × AG} (h : X_tonight x1 x2 g = some r) : AMf z yX11_tonight cX11_tonight 4 (some .int) 6 [rv z 0, iv x1, iv x2] g r := by
  intro d hdd
  refine AM.of (by decide +kernel) (Nat.le_of_ble_eq_true rfl) ?_
  show AW z (RX11, cX11_tonight, 4, (some .int)) d (QD (some .int) r) 0 [(0, rv z 0), (1, iv x1), (2, iv x2)] [] g
  unfold X_tonight at h
  refine AW.iload_n 1 dX11_tonight_0 rfl ?_
  refine AW.callSi (As := [iv x1]) (st := []) X_isTime_ok cq_X11_114 st_X11_isTime (Nat.le_trans (by decide) hdd) rfl dX11_tonight_1 rfl (Nat.le_of_ble_eq_true rfl) ?_
  refine AW.if_eq (tgt := 17) dX11_tonight_4 (by decide) (fun c1 => ?_) (fun c1 => ?_)
  · replace h := hT h c1
    refine AW.iconst dX11_tonight_17 ?_
    exact AW.iret1 rfl dX11_tonight_18 h rfl
  · replace h := hF h c1
    refine AW.iload_n 2 dX11_tonight_7 rfl ?_
    refine AW.iconst dX11_tonight_8 ?_
    refine AW.bipush dX11_tonight_9 (by decide) (by decide) ?_
    refine AW.callSi (As := [iv x2, iv 0, iv 17]) (st := []) X_within_ok cq_X11_99 st_X11_within (Nat.le_trans (by decide) hdd) rfl dX11_tonight_11 rfl (Nat.le_of_ble_eq_true rfl) ?_
    refine AW.if_ne (tgt := 19) dX11_tonight_14 (by decide) (fun c2 => ?_) (fun c2 => ?_)
    · replace h := hF h c2
      refine AW.aloadr_n 0 dX11_tonight_19 rfl ?_
      refine AW.getR af_X11_49_0 sr_0_5 dX11_tonight_20 ?_
      refine AW.iload_n 1 dX11_tonight_23 rfl ?_
      obtain ⟨r3, e4, h⟩ := hC h
      refine AW.callVv (As := [iv x1]) (st := []) (Boats_settleTonight_ok e4) cq_X11_237 cr_6_X0_settleTonight (Nat.le_trans (by decide) hdd) rfl dX11_tonight_24 rfl (Nat.le_of_ble_eq_true rfl) ?_
      refine AW.iload_n 2 dX11_tonight_27 rfl ?_
      refine AW.bipush dX11_tonight_28 (by decide) (by decide) ?_
      refine AW.icmp_ge (tgt := 43) dX11_tonight_30 (by decide) (fun c5 => ?_) (fun c5 => ?_)
      · replace h := hT h c5
        refine AW.aloadr_n 0 dX11_tonight_43 rfl ?_
        refine AW.getR af_X11_49_0 sr_0_5 dX11_tonight_44 ?_
        obtain ⟨r6, e7, h⟩ := hC h
        refine AW.callVi (As := []) (st := []) (Boats_crowd_ok e7) cq_X11_243 cr_6_X0_crowd (Nat.le_trans (by decide) hdd) rfl dX11_tonight_47 rfl (Nat.le_of_ble_eq_true rfl) ?_
        refine AW.istore_n (lv1 := [(3, iv r6.1), (0, rv z 0), (1, iv x1), (2, iv x2)]) dX11_tonight_50 (by decide) rfl ?_
        refine AW.iload_n 3 dX11_tonight_51 rfl ?_
        refine AW.bipush dX11_tonight_52 (by decide) (by decide) ?_
        obtain ⟨r12, e13, h⟩ := hC h
        refine AW.join (tgt := 73) (lv1 := []) (st1 := [iv r12.1]) (g1 := r12.2) ?_ (fun J54 => ?_)
        · exact AW.iret1 rfl dX11_tonight_73 h rfl
        replace h := e13
        refine AW.icmp_ne (tgt := 61) dX11_tonight_54 (by decide) (fun c8 => ?_) (fun c8 => ?_)
        · replace h := hF h c8
          refine AW.aloadr_n 1 dX11_tonight_61 rfl ?_
          refine AW.getR af_X11_49_0 sr_0_5 dX11_tonight_62 ?_
          refine AW.getR af_X11_240_6 sr_6_11 dX11_tonight_65 ?_
          refine AW.iload_n 0 dX11_tonight_68 rfl ?_
          obtain ⟨k9, h⟩ := hK h
          refine AW.iald kc_75 sk_75 k9 dX11_tonight_69 ?_
          obtain ⟨r10, e11, h⟩ := hC h
          refine AW.callSi (As := [iv (r6.2 75 (ix r6.1))]) (st := []) (Integer_bitCount_ok e11) cq_X11_232 st_J6_bitCount_0f7a4 (Nat.le_trans (by decide) hdd) rfl dX11_tonight_70 rfl (Nat.le_of_ble_eq_true rfl) ?_
          refine AW.sub (lv1 := []) [] rfl ?_
          cases h
          exact J54
        · replace h := hT h c8
          refine AW.iload_n 0 dX11_tonight_57 rfl ?_
          refine AW.goto (tgt := 73) dX11_tonight_58 (by decide) ?_
          refine AW.sub (lv1 := []) [] rfl ?_
          cases h
          exact J54
      · replace h := hF h c5
        refine AW.aloadr_n 0 dX11_tonight_33 rfl ?_
        refine AW.getR af_X11_49_0 sr_0_5 dX11_tonight_34 ?_
        refine AW.getR af_X11_240_6 sr_6_11 dX11_tonight_37 ?_
        refine AW.iload_n 2 dX11_tonight_40 rfl ?_
        obtain ⟨k14, h⟩ := hK h
        refine AW.iald kc_75 sk_75 k14 dX11_tonight_41 ?_
        exact AW.iret1 rfl dX11_tonight_42 h rfl
    · replace h := hT h c2
      refine AW.iconst dX11_tonight_17 ?_
      exact AW.iret1 rfl dX11_tonight_18 h rfl
theorem LockQueue_minutesOf_8_84_ok {z : AZ} {x2 : Int} {g : AG} {r : Int × AG} (h : LockQueue_minutesOf_8_84 x2 g = some r) : AMf z yX3_minutesOf cX3_minutesOf 3 (some .int) 0 [rv z 8, rv z 84, iv x2] g r := by
  intro d hdd
  refine AM.of (by decide +kernel) (Nat.le_of_ble_eq_true rfl) ?_
  show AW z (RX3, cX3_minutesOf, 3, (some .int)) d (QD (some .int) r) 0 [(0, rv z 8), (1, rv z 84), (2, iv x2)] [] g
  unfold LockQueue_minutesOf_8_84 at h
  refine AW.iload_n 2 dX3_minutesOf_0 rfl ?_
  obtain ⟨r9, e10, h⟩ := hC h
  refine AW.join (tgt := 32) (lv1 := []) (st1 := [iv r9.1]) (g1 := r9.2) ?_ (fun J1 => ?_)
  · exact AW.iret1 rfl dX3_minutesOf_32 h rfl
  replace h := e10
  refine AW.if_le (tgt := 30) dX3_minutesOf_1 (by decide) (fun c1 => ?_) (fun c1 => ?_)
  · replace h := hT h c1
    refine AW.bipush dX3_minutesOf_30 (by decide) (by decide) ?_
    refine AW.sub (lv1 := []) [] rfl ?_
    cases h
    exact J1
  · replace h := hF h c1
    refine AW.aloadr_n 0 dX3_minutesOf_4 rfl ?_
    refine AW.getR af_X3_15_8 sr_8_1 dX3_minutesOf_5 ?_
    refine AW.aloadr_n 1 dX3_minutesOf_8 rfl ?_
    refine AW.iload_n 2 dX3_minutesOf_9 rfl ?_
    obtain ⟨k2, h⟩ := hK h
    refine AW.iald kc_84 sk_84 k2 dX3_minutesOf_10 ?_
    obtain ⟨k3, h⟩ := hK h
    refine AW.iald kc_82 sk_82 k3 dX3_minutesOf_11 ?_
    refine AW.aloadr_n 0 dX3_minutesOf_12 rfl ?_
    refine AW.getR af_X3_15_8 sr_8_1 dX3_minutesOf_13 ?_
    refine AW.aloadr_n 1 dX3_minutesOf_16 rfl ?_
    refine AW.iload_n 2 dX3_minutesOf_17 rfl ?_
    refine AW.iconst dX3_minutesOf_18 ?_
    refine AW.isub dX3_minutesOf_19 ?_
    obtain ⟨k4, h⟩ := hK h
    refine AW.iald kc_84 sk_84 k4 dX3_minutesOf_20 ?_
    obtain ⟨k5, h⟩ := hK h
    refine AW.iald kc_82 sk_82 k5 dX3_minutesOf_21 ?_
    obtain ⟨t6, e7, h⟩ := hBe h
    refine AW.join (tgt := 32) (lv1 := [(0, rv z 8), (1, rv z 84), (2, iv x2)]) (st1 := [iv t6]) (g1 := g) ?_ (fun J22 => ?_)
    · refine AW.sub (lv1 := []) [] rfl ?_
      cases h
      exact J1
    refine AW.icmp_ne (tgt := 30) dX3_minutesOf_22 (by decide) (fun c8 => ?_) (fun c8 => ?_)
    · refine AW.bipush dX3_minutesOf_30 (by decide) (by decide) ?_
      exact AW.val (e7.trans (if_neg c8)) J22
    · refine AW.bipush dX3_minutesOf_25 (by decide) (by decide) ?_
      refine AW.goto (tgt := 32) dX3_minutesOf_27 (by decide) ?_
      exact AW.val (e7.trans (if_pos c8)) J22
set_option synthInstance.maxHeartbeats 2000000 in
theorem LockQueue_waitOf_b_ok {z : AZ} {d : Nat} (hdd : 1 ≤ d) : ∀ (x2 : Int) (x3 : Int) (x4 : Int) (g : AG) (r : Int × AG), LockQueue_waitOf_b x2 x3 x4 g = some r → AW z (RX3, cX3_waitOf, 6, (some .int)) d (QD (some .int) r) 7 [(0, rv z 8), (1, rv z 84), (2, iv x2), (3, iv x3), (4, iv x4)] [] g := by
  refine LockQueue_waitOf_b.partial_correctness (fun x2 x3 x4 g r => AW z (RX3, cX3_waitOf, 6, (some .int)) d (QD (some .int) r) 7 [(0, rv z 8), (1, rv z 84), (2, iv x2), (3, iv x3), (4, iv x4)] [] g) ?_
  intro fb9 ih x2 x3 x4 g r h
  refine AW.iload 4 dX3_waitOf_7 rfl ?_
  refine AW.aloadr_n 0 dX3_waitOf_9 rfl ?_
  refine AW.getI af_X3_24_8 sr_8_2 dX3_waitOf_10 ?_
  refine AW.icmp_ge (tgt := 63) dX3_waitOf_13 (by decide) (fun c1 => ?_) (fun c1 => ?_)
  · replace h := hT h c1
    refine AW.iload_n 2 dX3_waitOf_63 rfl ?_
    exact AW.iret1 rfl dX3_waitOf_64 h rfl
  · replace h := hF h c1
    refine AW.aloadr_n 0 dX3_waitOf_16 rfl ?_
    refine AW.getR af_X3_9_8 sr_8_0 dX3_waitOf_17 ?_
    refine AW.aloadr_n 1 dX3_waitOf_20 rfl ?_
    refine AW.iload 4 dX3_waitOf_21 rfl ?_
    obtain ⟨k2, h⟩ := hK h
    refine AW.iald kc_84 sk_84 k2 dX3_waitOf_23 ?_
    obtain ⟨k3, h⟩ := hK h
    refine AW.iald kc_81 sk_81 k3 dX3_waitOf_24 ?_
    refine AW.iload_n 3 dX3_waitOf_25 rfl ?_
    refine AW.mmax (st := []) cm_X3_45 mst_max mini mcd_max (Nat.le_trans (by decide) hdd) (Nat.le_of_ble_eq_true rfl) dX3_waitOf_26 ?_
    refine AW.istore (lv1 := [(5, iv (mxI (g 81 (ix (g 84 (ix x4)))) x3)), (0, rv z 8), (1, rv z 84), (2, iv x2), (3, iv x3), (4, iv x4)]) dX3_waitOf_29 (by decide) rfl ?_
    refine AW.iload_n 3 dX3_waitOf_31 rfl ?_
    refine AW.iload 0 dX3_waitOf_32 rfl ?_
    refine AW.aloadr_n 1 dX3_waitOf_34 rfl ?_
    refine AW.getR af_X3_9_8 sr_8_0 dX3_waitOf_35 ?_
    refine AW.aloadr_n 2 dX3_waitOf_38 rfl ?_
    refine AW.iload 5 dX3_waitOf_39 rfl ?_
    refine AW.iald kc_84 sk_84 k2 dX3_waitOf_41 ?_
    refine AW.iald kc_81 sk_81 k3 dX3_waitOf_42 ?_
    refine AW.isub dX3_waitOf_43 ?_
    refine AW.iadd dX3_waitOf_44 ?_
    refine AW.istore_n (lv1 := [(2, iv (x2 + ((mxI (g 81 (ix (g 84 (ix x4)))) x3) - (g 81 (ix (g 84 (ix x4))))))), (5, iv (mxI (g 81 (ix (g 84 (ix x4)))) x3)), (0, rv z 8), (1, rv z 84), (3, iv x3), (4, iv x4)]) dX3_waitOf_45 (by decide) rfl ?_
    refine AW.iload 1 dX3_waitOf_46 rfl ?_
    refine AW.aloadr_n 2 dX3_waitOf_48 rfl ?_
    refine AW.aloadr_n 3 dX3_waitOf_49 rfl ?_
    refine AW.iload 5 dX3_waitOf_50 rfl ?_
    obtain ⟨r4, e5, h⟩ := hC h
    refine AW.callVi (As := [rv z 84, iv x4]) (st := [iv (mxI (g 81 (ix (g 84 (ix x4)))) x3)]) (LockQueue_minutesOf_8_84_ok e5) cq_X3_51 cr_8_X3_minutesOf (Nat.le_trans (by decide) hdd) rfl dX3_waitOf_52 rfl (Nat.le_of_ble_eq_true rfl) ?_
    refine AW.iadd dX3_waitOf_55 ?_
    refine AW.istore_n (lv1 := [(3, iv ((mxI (g 81 (ix (g 84 (ix x4)))) x3) + r4.1)), (2, iv (x2 + ((mxI (g 81 (ix (g 84 (ix x4)))) x3) - (g 81 (ix (g 84 (ix x4))))))), (5, iv (mxI (g 81 (ix (g 84 (ix x4)))) x3)), (0, rv z 8), (1, rv z 84), (4, iv x4)]) dX3_waitOf_56 (by decide) rfl ?_
    refine AW.iinc (lv1 := [(4, iv (x4 + 1)), (3, iv ((mxI (g 81 (ix (g 84 (ix x4)))) x3) + r4.1)), (2, iv (x2 + ((mxI (g 81 (ix (g 84 (ix x4)))) x3) - (g 81 (ix (g 84 (ix x4))))))), (5, iv (mxI (g 81 (ix (g 84 (ix x4)))) x3)), (0, rv z 8), (1, rv z 84)]) 5 dX3_waitOf_57 rfl (by decide) rfl ?_
    refine AW.goto (tgt := 7) dX3_waitOf_60 (by decide) ?_
    refine AW.sub (lv1 := [(0, rv z 8), (1, rv z 84), (2, iv (x2 + ((mxI (g 81 (ix (g 84 (ix x4)))) x3) - (g 81 (ix (g 84 (ix x4))))))), (3, iv ((mxI (g 81 (ix (g 84 (ix x4)))) x3) + r4.1)), (4, iv (x4 + 1))]) [4, 5, 2, 1, 0] rfl ?_
    exact ih _ _ _ _ _ h
theorem LockQueue_waitOf_ok {z : AZ} {g : AG} {r : Int × AG} (h : LockQueue_waitOf g = some r) : AMf z yX3_waitOf cX3_waitOf 6 (some .int) 1 [rv z 8, rv z 84] g r := by
  intro d hdd
  refine AM.of (by decide +kernel) (Nat.le_of_ble_eq_true rfl) ?_
  show AW z (RX3, cX3_waitOf, 6, (some .int)) d (QD (some .int) r) 0 [(0, rv z 8), (1, rv z 84)] [] g
  unfold LockQueue_waitOf at h
  refine AW.iconst dX3_waitOf_0 ?_
  refine AW.istore_n (lv1 := [(2, iv 0), (0, rv z 8), (1, rv z 84)]) dX3_waitOf_1 (by decide) rfl ?_
  refine AW.iconst dX3_waitOf_2 ?_
  refine AW.istore_n (lv1 := [(3, iv 0), (2, iv 0), (0, rv z 8), (1, rv z 84)]) dX3_waitOf_3 (by decide) rfl ?_
  refine AW.iconst dX3_waitOf_4 ?_
  refine AW.istore (lv1 := [(4, iv 0), (3, iv 0), (2, iv 0), (0, rv z 8), (1, rv z 84)]) dX3_waitOf_5 (by decide) rfl ?_
  refine AW.sub (lv1 := [(0, rv z 8), (1, rv z 84), (2, iv 0), (3, iv 0), (4, iv 0)]) [3, 4, 2, 1, 0] rfl ?_
  exact LockQueue_waitOf_b_ok hdd _ _ _ _ _ h
theorem LockQueue_minutesOf_8_83_ok {z : AZ} {x2 : Int} {g : AG} {r : Int × AG} (h : LockQueue_minutesOf_8_83 x2 g = some r) : AMf z yX3_minutesOf cX3_minutesOf 3 (some .int) 0 [rv z 8, rv z 83, iv x2] g r := by
  intro d hdd
  refine AM.of (by decide +kernel) (Nat.le_of_ble_eq_true rfl) ?_
  show AW z (RX3, cX3_minutesOf, 3, (some .int)) d (QD (some .int) r) 0 [(0, rv z 8), (1, rv z 83), (2, iv x2)] [] g
  unfold LockQueue_minutesOf_8_83 at h
  refine AW.iload_n 2 dX3_minutesOf_0 rfl ?_
  obtain ⟨r9, e10, h⟩ := hC h
  refine AW.join (tgt := 32) (lv1 := []) (st1 := [iv r9.1]) (g1 := r9.2) ?_ (fun J1 => ?_)
  · exact AW.iret1 rfl dX3_minutesOf_32 h rfl
  replace h := e10
  refine AW.if_le (tgt := 30) dX3_minutesOf_1 (by decide) (fun c1 => ?_) (fun c1 => ?_)
  · replace h := hT h c1
    refine AW.bipush dX3_minutesOf_30 (by decide) (by decide) ?_
    refine AW.sub (lv1 := []) [] rfl ?_
    cases h
    exact J1
  · replace h := hF h c1
    refine AW.aloadr_n 0 dX3_minutesOf_4 rfl ?_
    refine AW.getR af_X3_15_8 sr_8_1 dX3_minutesOf_5 ?_
    refine AW.aloadr_n 1 dX3_minutesOf_8 rfl ?_
    refine AW.iload_n 2 dX3_minutesOf_9 rfl ?_
    obtain ⟨k2, h⟩ := hK h
    refine AW.iald kc_83 sk_83 k2 dX3_minutesOf_10 ?_
    obtain ⟨k3, h⟩ := hK h
    refine AW.iald kc_82 sk_82 k3 dX3_minutesOf_11 ?_
    refine AW.aloadr_n 0 dX3_minutesOf_12 rfl ?_
    refine AW.getR af_X3_15_8 sr_8_1 dX3_minutesOf_13 ?_
    refine AW.aloadr_n 1 dX3_minutesOf_16 rfl ?_
    refine AW.iload_n 2 dX3_minutesOf_17 rfl ?_
    refine AW.iconst dX3_minutesOf_18 ?_
    refine AW.isub dX3_minutesOf_19 ?_
    obtain ⟨k4, h⟩ := hK h
    refine AW.iald kc_83 sk_83 k4 dX3_minutesOf_20 ?_
    obtain ⟨k5, h⟩ := hK h
    refine AW.iald kc_82 sk_82 k5 dX3_minutesOf_21 ?_
    obtain ⟨t6, e7, h⟩ := hBe h
    refine AW.join (tgt := 32) (lv1 := [(0, rv z 8), (1, rv z 83), (2, iv x2)]) (st1 := [iv t6]) (g1 := g) ?_ (fun J22 => ?_)
    · refine AW.sub (lv1 := []) [] rfl ?_
      cases h
      exact J1
    refine AW.icmp_ne (tgt := 30) dX3_minutesOf_22 (by decide) (fun c8 => ?_) (fun c8 => ?_)
    · refine AW.bipush dX3_minutesOf_30 (by decide) (by decide) ?_
      exact AW.val (e7.trans (if_neg c8)) J22
    · refine AW.bipush dX3_minutesOf_25 (by decide) (by decide) ?_
      refine AW.goto (tgt := 32) dX3_minutesOf_27 (by decide) ?_
      exact AW.val (e7.trans (if_pos c8)) J22
set_option synthInstance.maxHeartbeats 2000000 in
theorem LockQueue_putNext_b_ok {z : AZ} {rec : Int → Int → Int → Int → AG → Option (Int × AG)} {Dr : Nat} (hC9 : 1 ≤ Dr) (hrec : ∀ (x1 : Int) (x2 : Int) (x3 : Int) (x4 : Int) (g : AG) (r : Int × AG), rec x1 x2 x3 x4 g = some r → AMf z yX3_putNext cX3_putNext 8 none Dr [rv z 8, iv x1, iv x2, iv x3, iv x4] g r) {d : Nat} (hdd : Dr + 1 ≤ d) {x1 : Int} {x2 : Int} {x3 : Int} {x4 : Int} : ∀ (x5 : Int) (g : AG) (r : Int × AG), LockQueue_putNext_b rec x1 x2 x3 x4 x5 g = some r → AW z (RX3, cX3_putNext, 8, none) d (QD none r) 35 [(0, rv z 8), (1, iv x1), (2, iv x2), (3, iv x3), (4, iv x4), (5, iv x5)] [] g := by
  refine LockQueue_putNext_b.partial_correctness rec x1 x2 x3 x4 (fun x5 g r => AW z (RX3, cX3_putNext, 8, none) d (QD none r) 35 [(0, rv z 8), (1, iv x1), (2, iv x2), (3, iv x3), (4, iv x4), (5, iv x5)] [] g) ?_
  intro fb9 ih x5 g r h
  refine AW.iload 5 dX3_putNext_35 rfl ?_
  refine AW.aloadr_n 0 dX3_putNext_37 rfl ?_
  refine AW.getI af_X3_24_8 sr_8_2 dX3_putNext_38 ?_
  refine AW.icmp_ge (tgt := 131) dX3_putNext_41 (by decide) (fun c1 => ?_) (fun c1 => ?_)
  · replace h := hT h c1
    exact AW.vret1 rfl dX3_putNext_131 h rfl
  · replace h := hF h c1
    refine AW.aloadr_n 0 dX3_putNext_44 rfl ?_
    refine AW.getR af_X3_9_8 sr_8_0 dX3_putNext_45 ?_
    refine AW.iload 5 dX3_putNext_48 rfl ?_
    obtain ⟨k2, h⟩ := hK h
    refine AW.iald kc_81 sk_81 k2 dX3_putNext_50 ?_
    refine AW.iload_n 3 dX3_putNext_51 rfl ?_
    refine AW.mmax (st := []) cm_X3_45 mst_max mini mcd_max (by omega) (Nat.le_of_ble_eq_true rfl) dX3_putNext_52 ?_
    refine AW.istore (lv1 := [(6, iv (mxI (g 81 (ix x5)) x3)), (0, rv z 8), (1, iv x1), (2, iv x2), (3, iv x3), (4, iv x4), (5, iv x5)]) dX3_putNext_55 (by decide) rfl ?_
    refine AW.iload 5 dX3_putNext_57 rfl ?_
    refine AW.iload 0 dX3_putNext_59 rfl ?_
    refine AW.iadd dX3_putNext_61 ?_
    refine AW.aloadr_n 1 dX3_putNext_62 rfl ?_
    refine AW.getR af_X3_9_8 sr_8_0 dX3_putNext_63 ?_
    refine AW.iload 6 dX3_putNext_66 rfl ?_
    refine AW.iald kc_81 sk_81 k2 dX3_putNext_68 ?_
    refine AW.isub dX3_putNext_69 ?_
    refine AW.istore (lv1 := [(7, iv ((x4 + (mxI (g 81 (ix x5)) x3)) - (g 81 (ix x5)))), (6, iv (mxI (g 81 (ix x5)) x3)), (0, rv z 8), (1, iv x1), (2, iv x2), (3, iv x3), (4, iv x4), (5, iv x5)]) dX3_putNext_70 (by decide) rfl ?_
    refine AW.iload_n 4 dX3_putNext_72 rfl ?_
    refine AW.iload 7 dX3_putNext_73 rfl ?_
    refine AW.ishr dX3_putNext_75 ?_
    refine AW.iconst dX3_putNext_76 ?_
    refine AW.iand dX3_putNext_77 ?_
    obtain ⟨r12, e13, h⟩ := hC h
    refine AW.join (tgt := 125) (lv1 := [(0, rv z 8), (1, iv x1), (2, iv x2), (3, iv x3), (4, iv x4), (5, iv x5)]) (st1 := []) (g1 := r12) ?_ (fun J78 => ?_)
    · refine AW.iinc (lv1 := [(5, iv (x5 + 1)), (0, rv z 8), (1, iv x1), (2, iv x2), (3, iv x3), (4, iv x4)]) 5 dX3_putNext_125 rfl (by decide) rfl ?_
      refine AW.goto (tgt := 35) dX3_putNext_128 (by decide) ?_
      refine AW.sub (lv1 := [(0, rv z 8), (1, iv x1), (2, iv x2), (3, iv x3), (4, iv x4), (5, iv (x5 + 1))]) [1, 2, 3, 4, 5, 0] rfl ?_
      exact ih _ _ _ h
    replace h := e13
    refine AW.if_ne (tgt := 125) dX3_putNext_78 (by decide) (fun c3 => ?_) (fun c3 => ?_)
    · replace h := hF h c3
      refine AW.sub (lv1 := [(0, rv z 8), (1, iv x1), (2, iv x2), (3, iv x3), (4, iv x4), (5, iv x5)]) [2, 3, 4, 5, 6, 7] rfl ?_
      cases h
      exact J78
    · replace h := hT h c3
      refine AW.iload 0 dX3_putNext_81 rfl ?_
      refine AW.aloadr_n 2 dX3_putNext_83 rfl ?_
      refine AW.getI af_X3_31_8 sr_8_4 dX3_putNext_84 ?_
      refine AW.icmp_ge (tgt := 125) dX3_putNext_87 (by decide) (fun c4 => ?_) (fun c4 => ?_)
      · replace h := hT h c4
        refine AW.sub (lv1 := [(0, rv z 8), (1, iv x1), (2, iv x2), (3, iv x3), (4, iv x4), (5, iv x5)]) [2, 3, 4, 5, 6, 7] rfl ?_
        cases h
        exact J78
      · replace h := hF h c4
        refine AW.aloadr_n 2 dX3_putNext_90 rfl ?_
        refine AW.getR af_X3_18_8 sr_8_5 dX3_putNext_91 ?_
        refine AW.iload_n 3 dX3_putNext_94 rfl ?_
        refine AW.iload 7 dX3_putNext_95 rfl ?_
        obtain ⟨k5, h⟩ := hK h
        obtain ⟨g6, e7, h⟩ := hBe h
        refine AW.iast kc_83 sk_83 k5 dX3_putNext_97 e7 ?_
        refine AW.aloadr_n 2 dX3_putNext_98 rfl ?_
        refine AW.iload_n 3 dX3_putNext_99 rfl ?_
        refine AW.iconst dX3_putNext_100 ?_
        refine AW.iadd dX3_putNext_101 ?_
        refine AW.iload_n 4 dX3_putNext_102 rfl ?_
        refine AW.iconst dX3_putNext_103 ?_
        refine AW.iload 7 dX3_putNext_104 rfl ?_
        refine AW.ishl dX3_putNext_106 ?_
        refine AW.ior dX3_putNext_107 ?_
        refine AW.iload 1 dX3_putNext_108 rfl ?_
        refine AW.aloadr_n 2 dX3_putNext_110 rfl ?_
        refine AW.aloadr_n 2 dX3_putNext_111 rfl ?_
        refine AW.getR af_X3_18_8 sr_8_5 dX3_putNext_112 ?_
        refine AW.iload_n 3 dX3_putNext_115 rfl ?_
        obtain ⟨r8, e9, h⟩ := hC h
        refine AW.callVi (As := [rv z 83, iv x1]) (st := [iv (mxI (g 81 (ix x5)) x3), iv (orI x2 (shlI 1 x5)), iv (x1 + 1), rv z 8]) (LockQueue_minutesOf_8_83_ok e9) cq_X3_51 cr_8_X3_minutesOf (by omega) rfl dX3_putNext_116 rfl (Nat.le_of_ble_eq_true rfl) ?_
        refine AW.iadd dX3_putNext_119 ?_
        refine AW.iload 0 dX3_putNext_120 rfl ?_
        obtain ⟨r10, e11, h⟩ := hC h
        refine AW.callSv (As := [rv z 8, iv (x1 + 1), iv (orI x2 (shlI 1 x5)), iv ((mxI (g 81 (ix x5)) x3) + r8.1), iv ((x4 + (mxI (g 81 (ix x5)) x3)) - (g 81 (ix x5)))]) (st := []) (hrec _ _ _ _ _ _ e11) cq_X3_41 st_X3_putNext (by omega) rfl dX3_putNext_122 rfl (Nat.le_of_ble_eq_true rfl) ?_
        refine AW.sub (lv1 := [(0, rv z 8), (1, iv x1), (2, iv x2), (3, iv x3), (4, iv x4), (5, iv x5)]) [2, 3, 4, 5, 6, 7] rfl ?_
        cases h
        exact J78
theorem LockQueue_putNext_s_ok {z : AZ} {rec : Int → Int → Int → Int → AG → Option (Int × AG)} {Dr : Nat} (hC9 : 1 ≤ Dr) (hrec : ∀ (x1 : Int) (x2 : Int) (x3 : Int) (x4 : Int) (g : AG) (r : Int × AG), rec x1 x2 x3 x4 g = some r → AMf z yX3_putNext cX3_putNext 8 none Dr [rv z 8, iv x1, iv x2, iv x3, iv x4] g r) {x1 : Int} {x2 : Int} {x3 : Int} {x4 : Int} {g : AG} {r : Int × AG} (h : LockQueue_putNext_s rec x1 x2 x3 x4 g = some r) : AMf z yX3_putNext cX3_putNext 8 none (Dr + 1) [rv z 8, iv x1, iv x2, iv x3, iv x4] g r := by
  intro d hdd
  refine AM.of (by decide +kernel) (Nat.le_of_ble_eq_true rfl) ?_
  show AW z (RX3, cX3_putNext, 8, none) d (QD none r) 0 [(0, rv z 8), (1, iv x1), (2, iv x2), (3, iv x3), (4, iv x4)] [] g
  unfold LockQueue_putNext_s at h
  refine AW.iload_n 1 dX3_putNext_0 rfl ?_
  refine AW.aloadr_n 0 dX3_putNext_1 rfl ?_
  refine AW.getI af_X3_24_8 sr_8_2 dX3_putNext_2 ?_
  refine AW.icmp_lt (tgt := 32) dX3_putNext_5 (by decide) (fun c1 => ?_) (fun c1 => ?_)
  · replace h := hT h c1
    refine AW.iconst dX3_putNext_32 ?_
    refine AW.istore (lv1 := [(5, iv 0), (0, rv z 8), (1, iv x1), (2, iv x2), (3, iv x3), (4, iv x4)]) dX3_putNext_33 (by decide) rfl ?_
    refine AW.sub (lv1 := [(0, rv z 8), (1, iv x1), (2, iv x2), (3, iv x3), (4, iv x4), (5, iv 0)]) [1, 2, 3, 4, 5, 0] rfl ?_
    exact LockQueue_putNext_b_ok hC9 hrec hdd _ _ _ h
  · replace h := hF h c1
    refine AW.aloadr_n 0 dX3_putNext_8 rfl ?_
    refine AW.iload 4 dX3_putNext_9 rfl ?_
    obtain ⟨g2, e3, h⟩ := hBe h
    refine AW.putI ap_X3_31_8 sr_8_4 dX3_putNext_11 e3 ?_
    refine AW.aloadr_n 0 dX3_putNext_14 rfl ?_
    refine AW.getR af_X3_18_8 sr_8_5 dX3_putNext_15 ?_
    refine AW.iconst dX3_putNext_18 ?_
    refine AW.aloadr_n 0 dX3_putNext_19 rfl ?_
    refine AW.getR af_X3_21_8 sr_8_6 dX3_putNext_20 ?_
    refine AW.iconst dX3_putNext_23 ?_
    refine AW.aloadr_n 0 dX3_putNext_24 rfl ?_
    refine AW.getI af_X3_24_8 sr_8_2 dX3_putNext_25 ?_
    obtain ⟨k4, h⟩ := hK h
    obtain ⟨g5, e6, h⟩ := hBe h
    refine AW.copyi cc_X3_55 ac_n ac_s ac_i kc_83 sk_83 kc_84 sk_84 k4 (Nat.le_of_ble_eq_true rfl) (by omega) dX3_putNext_28 e6 ?_
    exact AW.vret1 rfl dX3_putNext_31 h rfl
theorem LockQueue_putNext_ok {z : AZ} {n : Nat} {x1 : Int} {x2 : Int} {x3 : Int} {x4 : Int} {g : AG} {r : Int × AG} (h : LockQueue_putNext n x1 x2 x3 x4 g = some r) : AMf z yX3_putNext cX3_putNext 8 none (1 + n * 1) [rv z 8, iv x1, iv x2, iv x3, iv x4] g r := by
  induction n generalizing x1 x2 x3 x4 g r with
  | zero => cases h
  | succ n ih =>
    have q := LockQueue_putNext_s_ok (z := z) (Dr := 1 + n * 1) (Nat.le_add_right _ _) (fun x1 x2 x3 x4 g r h9 => ih h9) h
    rw [show 1 + (n + 1) * 1 = 1 + n * 1 + 1 by rw [Nat.add_mul]; omega]
    exact q
set_option synthInstance.maxHeartbeats 2000000 in
theorem LockQueue_findBest_b_ok {z : AZ} {d : Nat} (hdd : 11 ≤ d) : ∀ (x1 : Int) (g : AG) (r : Int × AG), LockQueue_findBest_b x1 g = some r → AW z (RX3, cX3_findBest, 2, none) d (QD none r) 2 [(0, rv z 8), (1, iv x1)] [] g := by
  refine LockQueue_findBest_b.partial_correctness (fun x1 g r => AW z (RX3, cX3_findBest, 2, none) d (QD none r) 2 [(0, rv z 8), (1, iv x1)] [] g) ?_
  intro fb9 ih x1 g r h
  refine AW.iload_n 1 dX3_findBest_2 rfl ?_
  refine AW.aloadr_n 0 dX3_findBest_3 rfl ?_
  refine AW.getI af_X3_24_8 sr_8_2 dX3_findBest_4 ?_
  refine AW.icmp_ge (tgt := 23) dX3_findBest_7 (by decide) (fun c1 => ?_) (fun c1 => ?_)
  · replace h := hT h c1
    refine AW.aloadr_n 0 dX3_findBest_23 rfl ?_
    refine AW.aloadr_n 0 dX3_findBest_24 rfl ?_
    refine AW.aloadr_n 0 dX3_findBest_25 rfl ?_
    refine AW.getR af_X3_21_8 sr_8_6 dX3_findBest_26 ?_
    obtain ⟨r2, e3, h⟩ := hC h
    refine AW.callVi (As := [rv z 84]) (st := [rv z 8]) (LockQueue_waitOf_ok e3) cq_X3_37 cr_8_X3_waitOf (Nat.le_trans (by decide) hdd) rfl dX3_findBest_29 rfl (Nat.le_of_ble_eq_true rfl) ?_
    obtain ⟨g4, e5, h⟩ := hBe h
    refine AW.putI ap_X3_28_8 sr_8_3 dX3_findBest_32 e5 ?_
    refine AW.aloadr_n 0 dX3_findBest_35 rfl ?_
    refine AW.aloadr_n 0 dX3_findBest_36 rfl ?_
    refine AW.getI af_X3_28_8 sr_8_3 dX3_findBest_37 ?_
    obtain ⟨g6, e7, h⟩ := hBe h
    refine AW.putI ap_X3_31_8 sr_8_4 dX3_findBest_40 e7 ?_
    refine AW.aloadr_n 0 dX3_findBest_43 rfl ?_
    refine AW.iconst dX3_findBest_44 ?_
    refine AW.iconst dX3_findBest_45 ?_
    refine AW.iconst dX3_findBest_46 ?_
    refine AW.iconst dX3_findBest_47 ?_
    obtain ⟨r8, e9, h⟩ := hC h
    refine AW.callSv (As := [rv z 8, iv 0, iv 0, iv 0, iv 0]) (st := []) ((LockQueue_putNext_ok (n := 9)) e9) cq_X3_41 st_X3_putNext (Nat.le_trans (by decide) hdd) rfl dX3_findBest_48 rfl (Nat.le_of_ble_eq_true rfl) ?_
    exact AW.vret1 rfl dX3_findBest_51 h rfl
  · replace h := hF h c1
    refine AW.aloadr_n 0 dX3_findBest_10 rfl ?_
    refine AW.getR af_X3_21_8 sr_8_6 dX3_findBest_11 ?_
    refine AW.iload_n 1 dX3_findBest_14 rfl ?_
    refine AW.iload_n 1 dX3_findBest_15 rfl ?_
    obtain ⟨k10, h⟩ := hK h
    obtain ⟨g11, e12, h⟩ := hBe h
    refine AW.iast kc_84 sk_84 k10 dX3_findBest_16 e12 ?_
    refine AW.iinc (lv1 := [(1, iv (x1 + 1)), (0, rv z 8)]) 1 dX3_findBest_17 rfl (by decide) rfl ?_
    refine AW.goto (tgt := 2) dX3_findBest_20 (by decide) ?_
    refine AW.sub (lv1 := [(0, rv z 8), (1, iv (x1 + 1))]) [1, 0] rfl ?_
    exact ih _ _ _ h
theorem LockQueue_findBest_ok {z : AZ} {g : AG} {r : Int × AG} (h : LockQueue_findBest g = some r) : AMf z yX3_findBest cX3_findBest 2 none 11 [rv z 8] g r := by
  intro d hdd
  refine AM.of (by decide +kernel) (Nat.le_of_ble_eq_true rfl) ?_
  show AW z (RX3, cX3_findBest, 2, none) d (QD none r) 0 [(0, rv z 8)] [] g
  unfold LockQueue_findBest at h
  refine AW.iconst dX3_findBest_0 ?_
  refine AW.istore_n (lv1 := [(1, iv 0), (0, rv z 8)]) dX3_findBest_1 (by decide) rfl ?_
  refine AW.sub (lv1 := [(0, rv z 8), (1, iv 0)]) [1, 0] rfl ?_
  exact LockQueue_findBest_b_ok hdd _ _ _ h
set_option synthInstance.maxHeartbeats 2000000 in
theorem LockQueue_add_b_ok {z : AZ} {d : Nat} (hdd : 12 ≤ d) {x1 : Int} {x2 : Int} {g : AG} : ∀ (r : Int × AG), LockQueue_add_b x1 x2 g = some r → AW z (RX3, cX3_add, 3, (some .int)) d (QD (some .int) r) 33 [(0, rv z 8), (1, iv x1), (2, iv x2)] [] g := by
  refine LockQueue_add_b.partial_correctness x1 x2 g (fun r => AW z (RX3, cX3_add, 3, (some .int)) d (QD (some .int) r) 33 [(0, rv z 8), (1, iv x1), (2, iv x2)] [] g) ?_
  intro fb9 ih r h
  refine AW.aloadr_n 0 dX3_add_33 rfl ?_
  refine AW.getR af_X3_9_8 sr_8_0 dX3_add_34 ?_
  refine AW.aloadr_n 0 dX3_add_37 rfl ?_
  refine AW.getI af_X3_24_8 sr_8_2 dX3_add_38 ?_
  refine AW.iload_n 1 dX3_add_41 rfl ?_
  obtain ⟨k1, h⟩ := hK h
  obtain ⟨g2, e3, h⟩ := hBe h
  refine AW.iast kc_81 sk_81 k1 dX3_add_42 e3 ?_
  refine AW.aloadr_n 0 dX3_add_43 rfl ?_
  refine AW.getR af_X3_15_8 sr_8_1 dX3_add_44 ?_
  refine AW.aloadr_n 0 dX3_add_47 rfl ?_
  refine AW.getI af_X3_24_8 sr_8_2 dX3_add_48 ?_
  refine AW.iload_n 2 dX3_add_51 rfl ?_
  obtain ⟨k4, h⟩ := hK h
  obtain ⟨g5, e6, h⟩ := hBe h
  refine AW.iast kc_82 sk_82 k4 dX3_add_52 e6 ?_
  refine AW.aloadr_n 0 dX3_add_53 rfl ?_
  refine AW.duprr dX3_add_54 ?_
  refine AW.getI af_X3_24_8 sr_8_2 dX3_add_55 ?_
  refine AW.iconst dX3_add_58 ?_
  refine AW.iadd dX3_add_59 ?_
  obtain ⟨g7, e8, h⟩ := hBe h
  refine AW.putI ap_X3_24_8 sr_8_2 dX3_add_60 e8 ?_
  refine AW.aloadr_n 0 dX3_add_63 rfl ?_
  obtain ⟨r9, e10, h⟩ := hC h
  refine AW.callVv (As := []) (st := []) (LockQueue_findBest_ok e10) cq_X3_34 cr_8_X3_findBest (Nat.le_trans (by decide) hdd) rfl dX3_add_64 rfl (Nat.le_of_ble_eq_true rfl) ?_
  refine AW.aloadr_n 0 dX3_add_67 rfl ?_
  refine AW.getI af_X3_24_8 sr_8_2 dX3_add_68 ?_
  exact AW.iret1 rfl dX3_add_71 h rfl
theorem LockQueue_add_ok {z : AZ} {x1 : Int} {x2 : Int} {g : AG} {r : Int × AG} (h : LockQueue_add x1 x2 g = some r) : AMf z yX3_add cX3_add 3 (some .int) 12 [rv z 8, iv x1, iv x2] g r := by
  intro d hdd
  refine AM.of (by decide +kernel) (Nat.le_of_ble_eq_true rfl) ?_
  show AW z (RX3, cX3_add, 3, (some .int)) d (QD (some .int) r) 0 [(0, rv z 8), (1, iv x1), (2, iv x2)] [] g
  unfold LockQueue_add at h
  refine AW.aloadr_n 0 dX3_add_0 rfl ?_
  refine AW.getI af_X3_24_8 sr_8_2 dX3_add_1 ?_
  refine AW.bipush dX3_add_4 (by decide) (by decide) ?_
  refine AW.icmp_ge (tgt := 31) dX3_add_6 (by decide) (fun c1 => ?_) (fun c1 => ?_)
  · replace h := hT h c1
    refine AW.iconst dX3_add_31 ?_
    exact AW.iret1 rfl dX3_add_32 h rfl
  · replace h := hF h c1
    refine AW.aloadr_n 0 dX3_add_9 rfl ?_
    refine AW.getI af_X3_24_8 sr_8_2 dX3_add_10 ?_
    refine AW.if_le (tgt := 33) dX3_add_13 (by decide) (fun c2 => ?_) (fun c2 => ?_)
    · replace h := hT h c2
      exact LockQueue_add_b_ok hdd _ h
    · replace h := hF h c2
      refine AW.iload_n 1 dX3_add_16 rfl ?_
      refine AW.aloadr_n 0 dX3_add_17 rfl ?_
      refine AW.getR af_X3_9_8 sr_8_0 dX3_add_18 ?_
      refine AW.aloadr_n 0 dX3_add_21 rfl ?_
      refine AW.getI af_X3_24_8 sr_8_2 dX3_add_22 ?_
      refine AW.iconst dX3_add_25 ?_
      refine AW.isub dX3_add_26 ?_
      obtain ⟨k3, h⟩ := hK h
      refine AW.iald kc_81 sk_81 k3 dX3_add_27 ?_
      refine AW.icmp_ge (tgt := 33) dX3_add_28 (by decide) (fun c4 => ?_) (fun c4 => ?_)
      · replace h := hT h c4
        exact LockQueue_add_b_ok hdd _ h
      · replace h := hF h c4
        refine AW.iconst dX3_add_31 ?_
        exact AW.iret1 rfl dX3_add_32 h rfl
theorem LockQueue_clear_ok {z : AZ} {g : AG} {r : Int × AG} (h : LockQueue_clear g = some r) : AMf z yX3_clear cX3_clear 1 none 0 [rv z 8] g r := by
  intro d hdd
  refine AM.of (by decide +kernel) (Nat.le_of_ble_eq_true rfl) ?_
  show AW z (RX3, cX3_clear, 1, none) d (QD none r) 0 [(0, rv z 8)] [] g
  unfold LockQueue_clear at h
  refine AW.aloadr_n 0 dX3_clear_0 rfl ?_
  refine AW.iconst dX3_clear_1 ?_
  obtain ⟨g1, e2, h⟩ := hBe h
  refine AW.putI ap_X3_24_8 sr_8_2 dX3_clear_2 e2 ?_
  refine AW.aloadr_n 0 dX3_clear_5 rfl ?_
  refine AW.iconst dX3_clear_6 ?_
  obtain ⟨g3, e4, h⟩ := hBe h
  refine AW.putI ap_X3_28_8 sr_8_3 dX3_clear_7 e4 ?_
  refine AW.aloadr_n 0 dX3_clear_10 rfl ?_
  refine AW.iconst dX3_clear_11 ?_
  obtain ⟨g5, e6, h⟩ := hBe h
  refine AW.putI ap_X3_31_8 sr_8_4 dX3_clear_12 e6 ?_
  exact AW.vret1 rfl dX3_clear_15 h rfl
theorem X_queue_ok {z : AZ} {x1 : Int} {x2 : Int} {g : AG} {r : Int × AG} (h : X_queue x1 x2 g = some r) : AMf z yX11_queue cX11_queue 3 (some .int) 13 [rv z 0, iv x1, iv x2] g r := by
  intro d hdd
  refine AM.of (by decide +kernel) (Nat.le_of_ble_eq_true rfl) ?_
  show AW z (RX11, cX11_queue, 3, (some .int)) d (QD (some .int) r) 0 [(0, rv z 0), (1, iv x1), (2, iv x2)] [] g
  unfold X_queue at h
  refine AW.iload_n 2 dX11_queue_0 rfl ?_
  refine AW.iconst dX11_queue_1 ?_
  refine AW.icmp_ne (tgt := 14) dX11_queue_2 (by decide) (fun c1 => ?_) (fun c1 => ?_)
  · replace h := hF h c1
    refine AW.iload_n 2 dX11_queue_14 rfl ?_
    refine AW.iconst dX11_queue_15 ?_
    refine AW.iconst dX11_queue_16 ?_
    refine AW.callSi (As := [iv x2, iv 0, iv 1]) (st := []) X_within_ok cq_X11_99 st_X11_within (Nat.le_trans (by decide) hdd) rfl dX11_queue_17 rfl (Nat.le_of_ble_eq_true rfl) ?_
    refine AW.if_eq (tgt := 34) dX11_queue_20 (by decide) (fun c2 => ?_) (fun c2 => ?_)
    · replace h := hT h c2
      refine AW.iconst dX11_queue_34 ?_
      exact AW.iret1 rfl dX11_queue_35 h rfl
    · replace h := hF h c2
      refine AW.iload_n 1 dX11_queue_23 rfl ?_
      refine AW.iconst dX11_queue_24 ?_
      refine AW.sipush dX11_queue_25 (by decide) (by decide) ?_
      refine AW.callSi (As := [iv x1, iv 0, iv 9999]) (st := []) X_within_ok cq_X11_99 st_X11_within (Nat.le_trans (by decide) hdd) rfl dX11_queue_28 rfl (Nat.le_of_ble_eq_true rfl) ?_
      refine AW.if_ne (tgt := 36) dX11_queue_31 (by decide) (fun c3 => ?_) (fun c3 => ?_)
      · replace h := hF h c3
        refine AW.aloadr_n 0 dX11_queue_36 rfl ?_
        refine AW.getR af_X11_65_0 sr_0_7 dX11_queue_37 ?_
        refine AW.iload_n 1 dX11_queue_40 rfl ?_
        refine AW.iload_n 2 dX11_queue_41 rfl ?_
        obtain ⟨r4, e5, h⟩ := hC h
        refine AW.callVi (As := [iv x1, iv x2]) (st := []) (LockQueue_add_ok e5) cq_X11_249 cr_8_X3_add (Nat.le_trans (by decide) hdd) rfl dX11_queue_42 rfl (Nat.le_of_ble_eq_true rfl) ?_
        exact AW.iret1 rfl dX11_queue_45 h rfl
      · replace h := hT h c3
        refine AW.iconst dX11_queue_34 ?_
        exact AW.iret1 rfl dX11_queue_35 h rfl
  · replace h := hT h c1
    refine AW.aloadr_n 0 dX11_queue_5 rfl ?_
    refine AW.getR af_X11_65_0 sr_0_7 dX11_queue_6 ?_
    obtain ⟨r6, e7, h⟩ := hC h
    refine AW.callVv (As := []) (st := []) (LockQueue_clear_ok e7) cq_X11_246 cr_8_X3_clear (Nat.le_trans (by decide) hdd) rfl dX11_queue_9 rfl (Nat.le_of_ble_eq_true rfl) ?_
    refine AW.iconst dX11_queue_12 ?_
    exact AW.iret1 rfl dX11_queue_13 h rfl
set_option synthInstance.maxHeartbeats 2000000 in
theorem LockQueue_lockfulsAsCome_b_ok {z : AZ} {d : Nat} (hdd : 0 ≤ d) {g : AG} : ∀ (x1 : Int) (x2 : Int) (r : Int × AG), LockQueue_lockfulsAsCome_b g x1 x2 = some r → AW z (RX3, cX3_lockfulsAsCome, 3, (some .int)) d (QD (some .int) r) 7 [(0, rv z 8), (1, iv x1), (2, iv x2)] [] g := by
  refine LockQueue_lockfulsAsCome_b.partial_correctness g (fun x1 x2 r => AW z (RX3, cX3_lockfulsAsCome, 3, (some .int)) d (QD (some .int) r) 7 [(0, rv z 8), (1, iv x1), (2, iv x2)] [] g) ?_
  intro fb9 ih x1 x2 r h
  refine AW.iload_n 2 dX3_lockfulsAsCome_7 rfl ?_
  refine AW.aloadr_n 0 dX3_lockfulsAsCome_8 rfl ?_
  refine AW.getI af_X3_24_8 sr_8_2 dX3_lockfulsAsCome_9 ?_
  refine AW.icmp_ge (tgt := 46) dX3_lockfulsAsCome_12 (by decide) (fun c1 => ?_) (fun c1 => ?_)
  · replace h := hT h c1
    refine AW.iload_n 1 dX3_lockfulsAsCome_46 rfl ?_
    exact AW.iret1 rfl dX3_lockfulsAsCome_47 h rfl
  · replace h := hF h c1
    refine AW.iload_n 1 dX3_lockfulsAsCome_15 rfl ?_
    refine AW.aloadr_n 0 dX3_lockfulsAsCome_16 rfl ?_
    refine AW.getR af_X3_15_8 sr_8_1 dX3_lockfulsAsCome_17 ?_
    refine AW.iload_n 2 dX3_lockfulsAsCome_20 rfl ?_
    obtain ⟨k2, h⟩ := hK h
    refine AW.iald kc_82 sk_82 k2 dX3_lockfulsAsCome_21 ?_
    refine AW.aloadr_n 0 dX3_lockfulsAsCome_22 rfl ?_
    refine AW.getR af_X3_15_8 sr_8_1 dX3_lockfulsAsCome_23 ?_
    refine AW.iload_n 2 dX3_lockfulsAsCome_26 rfl ?_
    refine AW.iconst dX3_lockfulsAsCome_27 ?_
    refine AW.isub dX3_lockfulsAsCome_28 ?_
    obtain ⟨k3, h⟩ := hK h
    refine AW.iald kc_82 sk_82 k3 dX3_lockfulsAsCome_29 ?_
    obtain ⟨t4, e5, h⟩ := hBe h
    refine AW.join (tgt := 38) (lv1 := [(0, rv z 8), (1, iv x1), (2, iv x2)]) (st1 := [iv t4, iv x1]) (g1 := g) ?_ (fun J30 => ?_)
    · refine AW.isub dX3_lockfulsAsCome_38 ?_
      refine AW.istore_n (lv1 := [(1, iv (x1 - t4)), (0, rv z 8), (2, iv x2)]) dX3_lockfulsAsCome_39 (by decide) rfl ?_
      refine AW.iinc (lv1 := [(2, iv (x2 + 1)), (1, iv (x1 - t4)), (0, rv z 8)]) 2 dX3_lockfulsAsCome_40 rfl (by decide) rfl ?_
      refine AW.goto (tgt := 7) dX3_lockfulsAsCome_43 (by decide) ?_
      refine AW.sub (lv1 := [(0, rv z 8), (1, iv (x1 - t4)), (2, iv (x2 + 1))]) [2, 1, 0] rfl ?_
      exact ih _ _ _ h
    refine AW.icmp_ne (tgt := 37) dX3_lockfulsAsCome_30 (by decide) (fun c6 => ?_) (fun c6 => ?_)
    · refine AW.iconst dX3_lockfulsAsCome_37 ?_
      exact AW.val (e5.trans (if_neg c6)) J30
    · refine AW.iconst dX3_lockfulsAsCome_33 ?_
      refine AW.goto (tgt := 38) dX3_lockfulsAsCome_34 (by decide) ?_
      exact AW.val (e5.trans (if_pos c6)) J30
theorem LockQueue_lockfulsAsCome_ok {z : AZ} {g : AG} {r : Int × AG} (h : LockQueue_lockfulsAsCome g = some r) : AMf z yX3_lockfulsAsCome cX3_lockfulsAsCome 3 (some .int) 0 [rv z 8] g r := by
  intro d hdd
  refine AM.of (by decide +kernel) (Nat.le_of_ble_eq_true rfl) ?_
  show AW z (RX3, cX3_lockfulsAsCome, 3, (some .int)) d (QD (some .int) r) 0 [(0, rv z 8)] [] g
  unfold LockQueue_lockfulsAsCome at h
  refine AW.aloadr_n 0 dX3_lockfulsAsCome_0 rfl ?_
  refine AW.getI af_X3_24_8 sr_8_2 dX3_lockfulsAsCome_1 ?_
  refine AW.istore_n (lv1 := [(1, iv (g 8 2)), (0, rv z 8)]) dX3_lockfulsAsCome_4 (by decide) rfl ?_
  refine AW.iconst dX3_lockfulsAsCome_5 ?_
  refine AW.istore_n (lv1 := [(2, iv 1), (1, iv (g 8 2)), (0, rv z 8)]) dX3_lockfulsAsCome_6 (by decide) rfl ?_
  refine AW.sub (lv1 := [(0, rv z 8), (1, iv (g 8 2)), (2, iv 1)]) [2, 1, 0] rfl ?_
  exact LockQueue_lockfulsAsCome_b_ok hdd _ _ _ h
set_option synthInstance.maxHeartbeats 2000000 in
theorem LockQueue_lockfulsAtBest_b_ok {z : AZ} {d : Nat} (hdd : 0 ≤ d) {g : AG} : ∀ (x1 : Int) (x2 : Int) (r : Int × AG), LockQueue_lockfulsAtBest_b g x1 x2 = some r → AW z (RX3, cX3_lockfulsAtBest, 3, (some .int)) d (QD (some .int) r) 7 [(0, rv z 8), (1, iv x1), (2, iv x2)] [] g := by
  refine LockQueue_lockfulsAtBest_b.partial_correctness g (fun x1 x2 r => AW z (RX3, cX3_lockfulsAtBest, 3, (some .int)) d (QD (some .int) r) 7 [(0, rv z 8), (1, iv x1), (2, iv x2)] [] g) ?_
  intro fb9 ih x1 x2 r h
  refine AW.iload_n 2 dX3_lockfulsAtBest_7 rfl ?_
  refine AW.aloadr_n 0 dX3_lockfulsAtBest_8 rfl ?_
  refine AW.getI af_X3_24_8 sr_8_2 dX3_lockfulsAtBest_9 ?_
  refine AW.icmp_ge (tgt := 56) dX3_lockfulsAtBest_12 (by decide) (fun c1 => ?_) (fun c1 => ?_)
  · replace h := hT h c1
    refine AW.iload_n 1 dX3_lockfulsAtBest_56 rfl ?_
    exact AW.iret1 rfl dX3_lockfulsAtBest_57 h rfl
  · replace h := hF h c1
    refine AW.iload_n 1 dX3_lockfulsAtBest_15 rfl ?_
    refine AW.aloadr_n 0 dX3_lockfulsAtBest_16 rfl ?_
    refine AW.getR af_X3_15_8 sr_8_1 dX3_lockfulsAtBest_17 ?_
    refine AW.aloadr_n 0 dX3_lockfulsAtBest_20 rfl ?_
    refine AW.getR af_X3_21_8 sr_8_6 dX3_lockfulsAtBest_21 ?_
    refine AW.iload_n 2 dX3_lockfulsAtBest_24 rfl ?_
    obtain ⟨k2, h⟩ := hK h
    refine AW.iald kc_84 sk_84 k2 dX3_lockfulsAtBest_25 ?_
    obtain ⟨k3, h⟩ := hK h
    refine AW.iald kc_82 sk_82 k3 dX3_lockfulsAtBest_26 ?_
    refine AW.aloadr_n 0 dX3_lockfulsAtBest_27 rfl ?_
    refine AW.getR af_X3_15_8 sr_8_1 dX3_lockfulsAtBest_28 ?_
    refine AW.aloadr_n 0 dX3_lockfulsAtBest_31 rfl ?_
    refine AW.getR af_X3_21_8 sr_8_6 dX3_lockfulsAtBest_32 ?_
    refine AW.iload_n 2 dX3_lockfulsAtBest_35 rfl ?_
    refine AW.iconst dX3_lockfulsAtBest_36 ?_
    refine AW.isub dX3_lockfulsAtBest_37 ?_
    obtain ⟨k4, h⟩ := hK h
    refine AW.iald kc_84 sk_84 k4 dX3_lockfulsAtBest_38 ?_
    obtain ⟨k5, h⟩ := hK h
    refine AW.iald kc_82 sk_82 k5 dX3_lockfulsAtBest_39 ?_
    obtain ⟨t6, e7, h⟩ := hBe h
    refine AW.join (tgt := 48) (lv1 := [(0, rv z 8), (1, iv x1), (2, iv x2)]) (st1 := [iv t6, iv x1]) (g1 := g) ?_ (fun J40 => ?_)
    · refine AW.isub dX3_lockfulsAtBest_48 ?_
      refine AW.istore_n (lv1 := [(1, iv (x1 - t6)), (0, rv z 8), (2, iv x2)]) dX3_lockfulsAtBest_49 (by decide) rfl ?_
      refine AW.iinc (lv1 := [(2, iv (x2 + 1)), (1, iv (x1 - t6)), (0, rv z 8)]) 2 dX3_lockfulsAtBest_50 rfl (by decide) rfl ?_
      refine AW.goto (tgt := 7) dX3_lockfulsAtBest_53 (by decide) ?_
      refine AW.sub (lv1 := [(0, rv z 8), (1, iv (x1 - t6)), (2, iv (x2 + 1))]) [2, 1, 0] rfl ?_
      exact ih _ _ _ h
    refine AW.icmp_ne (tgt := 47) dX3_lockfulsAtBest_40 (by decide) (fun c8 => ?_) (fun c8 => ?_)
    · refine AW.iconst dX3_lockfulsAtBest_47 ?_
      exact AW.val (e7.trans (if_neg c8)) J40
    · refine AW.iconst dX3_lockfulsAtBest_43 ?_
      refine AW.goto (tgt := 48) dX3_lockfulsAtBest_44 (by decide) ?_
      exact AW.val (e7.trans (if_pos c8)) J40
theorem LockQueue_lockfulsAtBest_ok {z : AZ} {g : AG} {r : Int × AG} (h : LockQueue_lockfulsAtBest g = some r) : AMf z yX3_lockfulsAtBest cX3_lockfulsAtBest 3 (some .int) 0 [rv z 8] g r := by
  intro d hdd
  refine AM.of (by decide +kernel) (Nat.le_of_ble_eq_true rfl) ?_
  show AW z (RX3, cX3_lockfulsAtBest, 3, (some .int)) d (QD (some .int) r) 0 [(0, rv z 8)] [] g
  unfold LockQueue_lockfulsAtBest at h
  refine AW.aloadr_n 0 dX3_lockfulsAtBest_0 rfl ?_
  refine AW.getI af_X3_24_8 sr_8_2 dX3_lockfulsAtBest_1 ?_
  refine AW.istore_n (lv1 := [(1, iv (g 8 2)), (0, rv z 8)]) dX3_lockfulsAtBest_4 (by decide) rfl ?_
  refine AW.iconst dX3_lockfulsAtBest_5 ?_
  refine AW.istore_n (lv1 := [(2, iv 1), (1, iv (g 8 2)), (0, rv z 8)]) dX3_lockfulsAtBest_6 (by decide) rfl ?_
  refine AW.sub (lv1 := [(0, rv z 8), (1, iv (g 8 2)), (2, iv 1)]) [2, 1, 0] rfl ?_
  exact LockQueue_lockfulsAtBest_b_ok hdd _ _ _ h
theorem LockQueue_atBest_ok {z : AZ} {x1 : Int} {g : AG} {r : Int × AG} (h : LockQueue_atBest x1 g = some r) : AMf z yX3_atBest cX3_atBest 2 (some .int) 1 [rv z 8, iv x1] g r := by
  intro d hdd
  refine AM.of (by decide +kernel) (Nat.le_of_ble_eq_true rfl) ?_
  show AW z (RX3, cX3_atBest, 2, (some .int)) d (QD (some .int) r) 0 [(0, rv z 8), (1, iv x1)] [] g
  unfold LockQueue_atBest at h
  refine AW.iload_n 1 dX3_atBest_0 rfl ?_
  refine AW.bipush dX3_atBest_1 (by decide) (by decide) ?_
  refine AW.isub dX3_atBest_3 ?_
  refine AW.iconst dX3_atBest_4 ?_
  refine AW.aloadr_n 0 dX3_atBest_5 rfl ?_
  refine AW.getI af_X3_24_8 sr_8_2 dX3_atBest_6 ?_
  refine AW.iconst dX3_atBest_9 ?_
  refine AW.isub dX3_atBest_10 ?_
  refine AW.callN0 (As := [iv (x1 - 10), iv 0, iv ((g 8 2) - 1)]) (st := []) X_within_ok ns_X3_61 in_X11 cd_X11_within st_X11_within (by decide) (Nat.le_trans (by decide) hdd) rfl (Nat.le_of_ble_eq_true rfl) dX3_atBest_11 rfl ?_
  obtain ⟨r3, e4, h⟩ := hC h
  refine AW.join (tgt := 30) (lv1 := []) (st1 := [iv r3.1]) (g1 := r3.2) ?_ (fun J14 => ?_)
  · exact AW.iret1 rfl dX3_atBest_30 h rfl
  replace h := e4
  refine AW.if_eq (tgt := 29) dX3_atBest_14 (by decide) (fun c1 => ?_) (fun c1 => ?_)
  · replace h := hT h c1
    refine AW.iconst dX3_atBest_29 ?_
    refine AW.sub (lv1 := []) [] rfl ?_
    cases h
    exact J14
  · replace h := hF h c1
    refine AW.aloadr_n 0 dX3_atBest_17 rfl ?_
    refine AW.getR af_X3_21_8 sr_8_6 dX3_atBest_18 ?_
    refine AW.iload_n 1 dX3_atBest_21 rfl ?_
    refine AW.bipush dX3_atBest_22 (by decide) (by decide) ?_
    refine AW.isub dX3_atBest_24 ?_
    obtain ⟨k2, h⟩ := hK h
    refine AW.iald kc_84 sk_84 k2 dX3_atBest_25 ?_
    refine AW.goto (tgt := 30) dX3_atBest_26 (by decide) ?_
    refine AW.sub (lv1 := []) [] rfl ?_
    cases h
    exact J14
theorem X_lock_ok {z : AZ} {x1 : Int} {g : AG} {r : Int × AG} (h : X_lock x1 g = some r) : AMf z yX11_lock cX11_lock 2 (some .int) 2 [rv z 0, iv x1] g r := by
  intro d hdd
  refine AM.of (by decide +kernel) (Nat.le_of_ble_eq_true rfl) ?_
  show AW z (RX11, cX11_lock, 2, (some .int)) d (QD (some .int) r) 0 [(0, rv z 0), (1, iv x1)] [] g
  unfold X_lock at h
  refine AW.iload_n 1 dX11_lock_0 rfl ?_
  by_cases c1 : nw x1 = 0
  · replace h := hT h c1
    refine AW.tsIn (tgt := 32) 0 dX11_lock_1 c1 (by decide) (by decide) (by rfl) (by decide) ?_
    refine AW.aloadr_n 0 dX11_lock_32 rfl ?_
    refine AW.getR af_X11_65_0 sr_0_7 dX11_lock_33 ?_
    refine AW.getI af_X11_252_8 sr_8_3 dX11_lock_36 ?_
    exact AW.iret1 rfl dX11_lock_39 h rfl
  · replace h := hF h c1
    by_cases c2 : nw x1 = 1
    · replace h := hT h c2
      refine AW.tsIn (tgt := 40) 1 dX11_lock_1 c2 (by decide) (by decide) (by rfl) (by decide) ?_
      refine AW.aloadr_n 0 dX11_lock_40 rfl ?_
      refine AW.getR af_X11_65_0 sr_0_7 dX11_lock_41 ?_
      refine AW.getI af_X11_255_8 sr_8_4 dX11_lock_44 ?_
      exact AW.iret1 rfl dX11_lock_47 h rfl
    · replace h := hF h c2
      by_cases c3 : nw x1 = 2
      · replace h := hT h c3
        refine AW.tsIn (tgt := 48) 2 dX11_lock_1 c3 (by decide) (by decide) (by rfl) (by decide) ?_
        refine AW.aloadr_n 0 dX11_lock_48 rfl ?_
        refine AW.getR af_X11_65_0 sr_0_7 dX11_lock_49 ?_
        obtain ⟨r4, e5, h⟩ := hC h
        refine AW.callVi (As := []) (st := []) (LockQueue_lockfulsAsCome_ok e5) cq_X11_258 cr_8_X3_lockfulsAsCome (Nat.le_trans (by decide) hdd) rfl dX11_lock_52 rfl (Nat.le_of_ble_eq_true rfl) ?_
        exact AW.iret1 rfl dX11_lock_55 h rfl
      · replace h := hF h c3
        by_cases c6 : nw x1 = 3
        · replace h := hT h c6
          refine AW.tsIn (tgt := 56) 3 dX11_lock_1 c6 (by decide) (by decide) (by rfl) (by decide) ?_
          refine AW.aloadr_n 0 dX11_lock_56 rfl ?_
          refine AW.getR af_X11_65_0 sr_0_7 dX11_lock_57 ?_
          obtain ⟨r7, e8, h⟩ := hC h
          refine AW.callVi (As := []) (st := []) (LockQueue_lockfulsAtBest_ok e8) cq_X11_261 cr_8_X3_lockfulsAtBest (Nat.le_trans (by decide) hdd) rfl dX11_lock_60 rfl (Nat.le_of_ble_eq_true rfl) ?_
          exact AW.iret1 rfl dX11_lock_63 h rfl
        · replace h := hF h c6
          refine AW.tsOut (tgt := 64) dX11_lock_1 (by omega) (by decide) ?_
          refine AW.aloadr_n 0 dX11_lock_64 rfl ?_
          refine AW.getR af_X11_65_0 sr_0_7 dX11_lock_65 ?_
          refine AW.iload_n 1 dX11_lock_68 rfl ?_
          obtain ⟨r9, e10, h⟩ := hC h
          refine AW.callVi (As := [iv x1]) (st := []) (LockQueue_atBest_ok e10) cq_X11_264 cr_8_X3_atBest (Nat.le_trans (by decide) hdd) rfl dX11_lock_69 rfl (Nat.le_of_ble_eq_true rfl) ?_
          exact AW.iret1 rfl dX11_lock_72 h rfl
theorem X_isWeek_ok {z : AZ} {x0 : Int} {g : AG} : AMf z yX11_isWeek cX11_isWeek 1 (some .boolean) 1 [iv x0] g ((X_isWeek x0), g) := by
  intro d hdd
  refine AM.of (by decide +kernel) (Nat.le_of_ble_eq_true rfl) ?_
  show AW z (RX11, cX11_isWeek, 1, (some .boolean)) d (QD (some .boolean) ((X_isWeek x0), g)) 0 [(0, iv x0)] [] g
  refine AW.iload_n 0 dX11_isWeek_0 rfl ?_
  refine AW.iconst dX11_isWeek_1 ?_
  refine AW.bipush dX11_isWeek_2 (by decide) (by decide) ?_
  refine AW.callSi (As := [iv x0, iv 0, iv 9]) (st := []) X_within_ok cq_X11_99 st_X11_within (Nat.le_trans (by decide) hdd) rfl dX11_isWeek_4 rfl (Nat.le_of_ble_eq_true rfl) ?_
  exact AW.zret rfl X_within_01 dX11_isWeek_7 ⟨congrArg (fun v => some (iv v)) (show X_isWeek x0  = (X_within x0 0 9) from rfl).symm, rfl⟩
set_option synthInstance.maxHeartbeats 2000000 in
theorem Bookings_putInOrder_b_ok {z : AZ} {d : Nat} (hdd : 0 ≤ d) : ∀ (tag : Nat) (x1 : Int) (x2 : Int) (x3 : Int) (g : AG) (r : Int × AG), Bookings_putInOrder_b tag x1 x2 x3 g = some r → (tag = 1 → AW z (RX1, cX1_putInOrder, 4, none) d (QD none r) 4 [(0, rv z 9), (1, iv x1), (2, iv x2)] [] g) ∧ (tag = 2 → AW z (RX1, cX1_putInOrder, 4, none) d (QD none r) 12 [(0, rv z 9), (1, iv x1), (2, iv x2), (3, iv x3)] [] g) := by
  refine Bookings_putInOrder_b.partial_correctness (fun tag x1 x2 x3 g r => (tag = 1 → AW z (RX1, cX1_putInOrder, 4, none) d (QD none r) 4 [(0, rv z 9), (1, iv x1), (2, iv x2)] [] g) ∧ (tag = 2 → AW z (RX1, cX1_putInOrder, 4, none) d (QD none r) 12 [(0, rv z 9), (1, iv x1), (2, iv x2), (3, iv x3)] [] g)) ?_
  intro fb9 ih tag x1 x2 x3 g r h
  refine ⟨fun h9 => ?_, fun h9 => ?_⟩
  · subst h9
    replace h := hT h rfl
    refine AW.iload_n 2 dX1_putInOrder_4 rfl ?_
    refine AW.bipush dX1_putInOrder_5 (by decide) (by decide) ?_
    refine AW.icmp_ge (tgt := 52) dX1_putInOrder_7 (by decide) (fun c1 => ?_) (fun c1 => ?_)
    · replace h := hT h c1
      exact AW.vret1 rfl dX1_putInOrder_52 h rfl
    · replace h := hF h c1
      refine AW.iconst dX1_putInOrder_10 ?_
      refine AW.istore_n (lv1 := [(3, iv 0), (0, rv z 9), (1, iv x1), (2, iv x2)]) dX1_putInOrder_11 (by decide) rfl ?_
      refine AW.sub (lv1 := [(0, rv z 9), (1, iv x1), (2, iv x2), (3, iv 0)]) [1, 2, 3, 0] rfl ?_
      exact (ih _ _ _ _ _ _ h).2 rfl
  · subst h9
    replace h := hF h (by decide)
    replace h := hT h rfl
    refine AW.iload_n 3 dX1_putInOrder_12 rfl ?_
    refine AW.aloadr_n 0 dX1_putInOrder_13 rfl ?_
    refine AW.getI af_X1_48_9 sr_9_4 dX1_putInOrder_14 ?_
    refine AW.icmp_ge (tgt := 46) dX1_putInOrder_17 (by decide) (fun c1 => ?_) (fun c1 => ?_)
    · replace h := hT h c1
      refine AW.iinc (lv1 := [(2, iv (x2 + 1)), (0, rv z 9), (1, iv x1), (3, iv x3)]) 2 dX1_putInOrder_46 rfl (by decide) rfl ?_
      refine AW.goto (tgt := 4) dX1_putInOrder_49 (by decide) ?_
      refine AW.sub (lv1 := [(0, rv z 9), (1, iv x1), (2, iv (x2 + 1))]) [1, 2, 0] rfl ?_
      exact (ih _ _ _ _ _ _ h).1 rfl
    · replace h := hF h c1
      refine AW.aloadr_n 0 dX1_putInOrder_20 rfl ?_
      refine AW.getR af_X1_18_9 sr_9_2 dX1_putInOrder_21 ?_
      refine AW.iload_n 3 dX1_putInOrder_24 rfl ?_
      obtain ⟨k2, h⟩ := hK h
      refine AW.iald kc_87 sk_87 k2 dX1_putInOrder_25 ?_
      refine AW.iload_n 2 dX1_putInOrder_26 rfl ?_
      obtain ⟨r7, e8, h⟩ := hC h
      refine AW.join (tgt := 40) (lv1 := [(0, rv z 9), (1, iv r7.1), (2, iv x2), (3, iv x3)]) (st1 := []) (g1 := r7.2) ?_ (fun J27 => ?_)
      · refine AW.iinc (lv1 := [(3, iv (x3 + 1)), (0, rv z 9), (1, iv r7.1), (2, iv x2)]) 3 dX1_putInOrder_40 rfl (by decide) rfl ?_
        refine AW.goto (tgt := 12) dX1_putInOrder_43 (by decide) ?_
        refine AW.sub (lv1 := [(0, rv z 9), (1, iv r7.1), (2, iv x2), (3, iv (x3 + 1))]) [1, 2, 3, 0] rfl ?_
        exact (ih _ _ _ _ _ _ h).2 rfl
      replace h := e8
      refine AW.icmp_ne (tgt := 40) dX1_putInOrder_27 (by decide) (fun c3 => ?_) (fun c3 => ?_)
      · replace h := hF h c3
        cases h
        exact J27
      · replace h := hT h c3
        refine AW.aloadr_n 0 dX1_putInOrder_30 rfl ?_
        refine AW.getR af_X1_24_9 sr_9_5 dX1_putInOrder_31 ?_
        refine AW.iload_n 1 dX1_putInOrder_34 rfl ?_
        refine AW.iload_n 3 dX1_putInOrder_35 rfl ?_
        obtain ⟨k4, h⟩ := hK h
        obtain ⟨g5, e6, h⟩ := hBe h
        refine AW.iast kc_89 sk_89 k4 dX1_putInOrder_36 e6 ?_
        refine AW.iinc (lv1 := [(1, iv (x1 + 1)), (0, rv z 9), (2, iv x2), (3, iv x3)]) 1 dX1_putInOrder_37 rfl (by decide) rfl ?_
        refine AW.sub (lv1 := [(0, rv z 9), (1, iv (x1 + 1)), (2, iv x2), (3, iv x3)]) [1, 0, 2, 3] rfl ?_
        cases h
        exact J27
theorem Bookings_putInOrder_ok {z : AZ} {g : AG} {r : Int × AG} (h : Bookings_putInOrder g = some r) : AMf z yX1_putInOrder cX1_putInOrder 4 none 0 [rv z 9] g r := by
  intro d hdd
  refine AM.of (by decide +kernel) (Nat.le_of_ble_eq_true rfl) ?_
  show AW z (RX1, cX1_putInOrder, 4, none) d (QD none r) 0 [(0, rv z 9)] [] g
  unfold Bookings_putInOrder at h
  refine AW.iconst dX1_putInOrder_0 ?_
  refine AW.istore_n (lv1 := [(1, iv 0), (0, rv z 9)]) dX1_putInOrder_1 (by decide) rfl ?_
  refine AW.iconst dX1_putInOrder_2 ?_
  refine AW.istore_n (lv1 := [(2, iv 0), (1, iv 0), (0, rv z 9)]) dX1_putInOrder_3 (by decide) rfl ?_
  refine AW.sub (lv1 := [(0, rv z 9), (1, iv 0), (2, iv 0)]) [2, 1, 0] rfl ?_
  exact (Bookings_putInOrder_b_ok hdd _ _ _ _ _ _ h).1 rfl
theorem Bookings_add_ok {z : AZ} {x1 : Int} {x2 : Int} {x3 : Int} {x4 : Int} {g : AG} {r : Int × AG} (h : Bookings_add x1 x2 x3 x4 g = some r) : AMf z yX1_add cX1_add 5 (some .int) 1 [rv z 9, iv x1, iv x2, iv x3, iv x4] g r := by
  intro d hdd
  refine AM.of (by decide +kernel) (Nat.le_of_ble_eq_true rfl) ?_
  show AW z (RX1, cX1_add, 5, (some .int)) d (QD (some .int) r) 0 [(0, rv z 9), (1, iv x1), (2, iv x2), (3, iv x3), (4, iv x4)] [] g
  unfold Bookings_add at h
  refine AW.aloadr_n 0 dX1_add_0 rfl ?_
  refine AW.getI af_X1_48_9 sr_9_4 dX1_add_1 ?_
  refine AW.bipush dX1_add_4 (by decide) (by decide) ?_
  refine AW.icmp_lt (tgt := 11) dX1_add_6 (by decide) (fun c1 => ?_) (fun c1 => ?_)
  · replace h := hT h c1
    refine AW.aloadr_n 0 dX1_add_11 rfl ?_
    refine AW.getR af_X1_9_9 sr_9_0 dX1_add_12 ?_
    refine AW.aloadr_n 0 dX1_add_15 rfl ?_
    refine AW.getI af_X1_48_9 sr_9_4 dX1_add_16 ?_
    refine AW.iload_n 1 dX1_add_19 rfl ?_
    obtain ⟨k2, h⟩ := hK h
    obtain ⟨g3, e4, h⟩ := hBe h
    refine AW.iast kc_85 sk_85 k2 dX1_add_20 e4 ?_
    refine AW.aloadr_n 0 dX1_add_21 rfl ?_
    refine AW.getR af_X1_15_9 sr_9_1 dX1_add_22 ?_
    refine AW.aloadr_n 0 dX1_add_25 rfl ?_
    refine AW.getI af_X1_48_9 sr_9_4 dX1_add_26 ?_
    refine AW.iload_n 2 dX1_add_29 rfl ?_
    obtain ⟨k5, h⟩ := hK h
    obtain ⟨g6, e7, h⟩ := hBe h
    refine AW.iast kc_86 sk_86 k5 dX1_add_30 e7 ?_
    refine AW.aloadr_n 0 dX1_add_31 rfl ?_
    refine AW.getR af_X1_18_9 sr_9_2 dX1_add_32 ?_
    refine AW.aloadr_n 0 dX1_add_35 rfl ?_
    refine AW.getI af_X1_48_9 sr_9_4 dX1_add_36 ?_
    refine AW.iload_n 3 dX1_add_39 rfl ?_
    obtain ⟨k8, h⟩ := hK h
    obtain ⟨g9, e10, h⟩ := hBe h
    refine AW.iast kc_87 sk_87 k8 dX1_add_40 e10 ?_
    refine AW.aloadr_n 0 dX1_add_41 rfl ?_
    refine AW.getR af_X1_21_9 sr_9_3 dX1_add_42 ?_
    refine AW.aloadr_n 0 dX1_add_45 rfl ?_
    refine AW.getI af_X1_48_9 sr_9_4 dX1_add_46 ?_
    refine AW.iload 4 dX1_add_49 rfl ?_
    obtain ⟨k11, h⟩ := hK h
    obtain ⟨g12, e13, h⟩ := hBe h
    refine AW.iast kc_88 sk_88 k11 dX1_add_51 e13 ?_
    refine AW.aloadr_n 0 dX1_add_52 rfl ?_
    refine AW.duprr dX1_add_53 ?_
    refine AW.getI af_X1_48_9 sr_9_4 dX1_add_54 ?_
    refine AW.iconst dX1_add_57 ?_
    refine AW.iadd dX1_add_58 ?_
    obtain ⟨g14, e15, h⟩ := hBe h
    refine AW.putI ap_X1_48_9 sr_9_4 dX1_add_59 e15 ?_
    refine AW.aloadr_n 0 dX1_add_62 rfl ?_
    refine AW.iconst dX1_add_63 ?_
    obtain ⟨g16, e17, h⟩ := hBe h
    refine AW.putI ap_X1_52_9 sr_9_11 dX1_add_64 e17 ?_
    refine AW.aloadr_n 0 dX1_add_67 rfl ?_
    obtain ⟨r18, e19, h⟩ := hC h
    refine AW.callVv (As := []) (st := []) (Bookings_putInOrder_ok e19) cq_X1_55 cr_9_X1_putInOrder (Nat.le_trans (by decide) hdd) rfl dX1_add_68 rfl (Nat.le_of_ble_eq_true rfl) ?_
    refine AW.aloadr_n 0 dX1_add_71 rfl ?_
    refine AW.getI af_X1_48_9 sr_9_4 dX1_add_72 ?_
    refine AW.iconst dX1_add_75 ?_
    refine AW.isub dX1_add_76 ?_
    exact AW.iret1 rfl dX1_add_77 h rfl
  · replace h := hF h c1
    refine AW.iconst dX1_add_9 ?_
    exact AW.iret1 rfl dX1_add_10 h rfl
theorem X_booking_ok {z : AZ} {x1 : Int} {x2 : Int} {x3 : Int} {x4 : Int} {g : AG} {r : Int × AG} (h : X_booking x1 x2 x3 x4 g = some r) : AMf z yX11_booking cX11_booking 5 (some .int) 2 [rv z 0, iv x1, iv x2, iv x3, iv x4] g r := by
  intro d hdd
  refine AM.of (by decide +kernel) (Nat.le_of_ble_eq_true rfl) ?_
  show AW z (RX11, cX11_booking, 5, (some .int)) d (QD (some .int) r) 0 [(0, rv z 0), (1, iv x1), (2, iv x2), (3, iv x3), (4, iv x4)] [] g
  unfold X_booking at h
  refine AW.iload_n 1 dX11_booking_0 rfl ?_
  refine AW.callSi (As := [iv x1]) (st := []) X_isPoint_ok cq_X11_111 st_X11_isPoint (Nat.le_trans (by decide) hdd) rfl dX11_booking_1 rfl (Nat.le_of_ble_eq_true rfl) ?_
  refine AW.if_eq (tgt := 29) dX11_booking_4 (by decide) (fun c1 => ?_) (fun c1 => ?_)
  · replace h := hT h c1
    refine AW.iconst dX11_booking_29 ?_
    exact AW.iret1 rfl dX11_booking_30 h rfl
  · replace h := hF h c1
    refine AW.iload_n 2 dX11_booking_7 rfl ?_
    refine AW.callSi (As := [iv x2]) (st := []) X_isPoint_ok cq_X11_111 st_X11_isPoint (Nat.le_trans (by decide) hdd) rfl dX11_booking_8 rfl (Nat.le_of_ble_eq_true rfl) ?_
    refine AW.if_eq (tgt := 29) dX11_booking_11 (by decide) (fun c2 => ?_) (fun c2 => ?_)
    · replace h := hT h c2
      refine AW.iconst dX11_booking_29 ?_
      exact AW.iret1 rfl dX11_booking_30 h rfl
    · replace h := hF h c2
      refine AW.iload_n 3 dX11_booking_14 rfl ?_
      refine AW.callSi (As := [iv x3]) (st := []) X_isWeek_ok cq_X11_267 st_X11_isWeek (Nat.le_trans (by decide) hdd) rfl dX11_booking_15 rfl (Nat.le_of_ble_eq_true rfl) ?_
      refine AW.if_eq (tgt := 29) dX11_booking_18 (by decide) (fun c3 => ?_) (fun c3 => ?_)
      · replace h := hT h c3
        refine AW.iconst dX11_booking_29 ?_
        exact AW.iret1 rfl dX11_booking_30 h rfl
      · replace h := hF h c3
        refine AW.iload 4 dX11_booking_21 rfl ?_
        refine AW.callSi (As := [iv x4]) (st := []) X_isBerths_ok cq_X11_143 st_X11_isBerths (Nat.le_trans (by decide) hdd) rfl dX11_booking_23 rfl (Nat.le_of_ble_eq_true rfl) ?_
        refine AW.if_ne (tgt := 31) dX11_booking_26 (by decide) (fun c4 => ?_) (fun c4 => ?_)
        · replace h := hF h c4
          refine AW.aloadr_n 0 dX11_booking_31 rfl ?_
          refine AW.getR af_X11_72_0 sr_0_8 dX11_booking_32 ?_
          refine AW.iload_n 1 dX11_booking_35 rfl ?_
          refine AW.iload_n 2 dX11_booking_36 rfl ?_
          refine AW.iload_n 3 dX11_booking_37 rfl ?_
          refine AW.iload 4 dX11_booking_38 rfl ?_
          obtain ⟨r5, e6, h⟩ := hC h
          refine AW.callVi (As := [iv x1, iv x2, iv x3, iv x4]) (st := []) (Bookings_add_ok e6) cq_X11_270 cr_9_X1_add (Nat.le_trans (by decide) hdd) rfl dX11_booking_40 rfl (Nat.le_of_ble_eq_true rfl) ?_
          exact AW.iret1 rfl dX11_booking_43 h rfl
        · replace h := hT h c4
          refine AW.iconst dX11_booking_29 ?_
          exact AW.iret1 rfl dX11_booking_30 h rfl
theorem Bookings_hire_ok {z : AZ} {x1 : Int} {x2 : Int} {x3 : Int} {g : AG} {r : Int × AG} (h : Bookings_hire x1 x2 x3 g = some r) : AMf z yX1_hire cX1_hire 4 none 0 [rv z 9, iv x1, iv x2, iv x3] g r := by
  intro d hdd
  refine AM.of (by decide +kernel) (Nat.le_of_ble_eq_true rfl) ?_
  show AW z (RX1, cX1_hire, 4, none) d (QD none r) 0 [(0, rv z 9), (1, iv x1), (2, iv x2), (3, iv x3)] [] g
  unfold Bookings_hire at h
  refine AW.aloadr_n 0 dX1_hire_0 rfl ?_
  refine AW.getR af_X1_27_9 sr_9_6 dX1_hire_1 ?_
  refine AW.iload_n 1 dX1_hire_4 rfl ?_
  obtain ⟨k1, h⟩ := hK h
  refine AW.iald kc_90 sk_90 k1 dX1_hire_5 ?_
  refine AW.iload_n 2 dX1_hire_6 rfl ?_
  obtain ⟨r8, e9, h⟩ := hC h
  refine AW.join (tgt := 25) (lv1 := [(0, rv z 9), (1, iv x1), (2, iv x2), (3, iv x3)]) (st1 := []) (g1 := r8) ?_ (fun J7 => ?_)
  · refine AW.aloadr_n 0 dX1_hire_25 rfl ?_
    refine AW.getR af_X1_27_9 sr_9_6 dX1_hire_26 ?_
    refine AW.iload_n 1 dX1_hire_29 rfl ?_
    refine AW.iload_n 2 dX1_hire_30 rfl ?_
    obtain ⟨g10, e11, h⟩ := hBe h
    refine AW.iast kc_90 sk_90 k1 dX1_hire_31 e11 ?_
    refine AW.aloadr_n 0 dX1_hire_32 rfl ?_
    refine AW.getR af_X1_30_9 sr_9_7 dX1_hire_33 ?_
    refine AW.iload_n 1 dX1_hire_36 rfl ?_
    refine AW.iload_n 3 dX1_hire_37 rfl ?_
    obtain ⟨g12, e13, h⟩ := hBe h
    refine AW.iast kc_91 sk_91 k1 dX1_hire_38 e13 ?_
    exact AW.vret1 rfl dX1_hire_39 h rfl
  replace h := e9
  refine AW.icmp_ne (tgt := 20) dX1_hire_7 (by decide) (fun c2 => ?_) (fun c2 => ?_)
  · replace h := hF h c2
    refine AW.aloadr_n 0 dX1_hire_20 rfl ?_
    refine AW.iconst dX1_hire_21 ?_
    obtain ⟨g3, e4, h⟩ := hBe h
    refine AW.putI ap_X1_52_9 sr_9_11 dX1_hire_22 e4 ?_
    cases h
    exact J7
  · replace h := hT h c2
    refine AW.aloadr_n 0 dX1_hire_10 rfl ?_
    refine AW.getR af_X1_30_9 sr_9_7 dX1_hire_11 ?_
    refine AW.iload_n 1 dX1_hire_14 rfl ?_
    refine AW.iald kc_91 sk_91 k1 dX1_hire_15 ?_
    refine AW.iload_n 3 dX1_hire_16 rfl ?_
    refine AW.icmp_eq (tgt := 25) dX1_hire_17 (by decide) (fun c5 => ?_) (fun c5 => ?_)
    · replace h := hT h c5
      cases h
      exact J7
    · replace h := hF h c5
      refine AW.aloadr_n 0 dX1_hire_20 rfl ?_
      refine AW.iconst dX1_hire_21 ?_
      obtain ⟨g6, e7, h⟩ := hBe h
      refine AW.putI ap_X1_52_9 sr_9_11 dX1_hire_22 e7 ?_
      cases h
      exact J7
set_option synthInstance.maxHeartbeats 2000000 in
theorem X_hireFirst_b_ok {z : AZ} {d : Nat} (hdd : 1 ≤ d) {x1 : Int} : ∀ (x2 : Int) (g : AG) (r : Int × AG), X_hireFirst_b x1 x2 g = some r → AW z (RX11, cX11_hireFirst, 3, none) d (QD none r) 2 [(0, rv z 0), (1, iv x1), (2, iv x2)] [] g := by
  refine X_hireFirst_b.partial_correctness x1 (fun x2 g r => AW z (RX11, cX11_hireFirst, 3, none) d (QD none r) 2 [(0, rv z 0), (1, iv x1), (2, iv x2)] [] g) ?_
  intro fb9 ih x2 g r h
  refine AW.iload_n 2 dX11_hireFirst_2 rfl ?_
  refine AW.iload_n 1 dX11_hireFirst_3 rfl ?_
  refine AW.icmp_ge (tgt := 39) dX11_hireFirst_4 (by decide) (fun c1 => ?_) (fun c1 => ?_)
  · replace h := hT h c1
    exact AW.vret1 rfl dX11_hireFirst_39 h rfl
  · replace h := hF h c1
    refine AW.aloadr_n 0 dX11_hireFirst_7 rfl ?_
    refine AW.getR af_X11_72_0 sr_0_8 dX11_hireFirst_8 ?_
    refine AW.iload_n 2 dX11_hireFirst_11 rfl ?_
    refine AW.aloadr_n 0 dX11_hireFirst_12 rfl ?_
    refine AW.getR af_X11_49_0 sr_0_5 dX11_hireFirst_13 ?_
    refine AW.getR af_X11_287_6 sr_6_3 dX11_hireFirst_16 ?_
    refine AW.iload_n 2 dX11_hireFirst_19 rfl ?_
    obtain ⟨k2, h⟩ := hK h
    refine AW.iald kc_48 sk_48 k2 dX11_hireFirst_20 ?_
    refine AW.aloadr_n 0 dX11_hireFirst_21 rfl ?_
    refine AW.getR af_X11_49_0 sr_0_5 dX11_hireFirst_22 ?_
    refine AW.getR af_X11_290_6 sr_6_5 dX11_hireFirst_25 ?_
    refine AW.iload_n 2 dX11_hireFirst_28 rfl ?_
    refine AW.iald kc_50 sk_50 k2 dX11_hireFirst_29 ?_
    obtain ⟨r3, e4, h⟩ := hC h
    refine AW.callVv (As := [iv x2, iv (g 48 (ix x2)), iv (g 50 (ix x2))]) (st := []) (Bookings_hire_ok e4) cq_X11_293 cr_9_X1_hire (Nat.le_trans (by decide) hdd) rfl dX11_hireFirst_30 rfl (Nat.le_of_ble_eq_true rfl) ?_
    refine AW.iinc (lv1 := [(2, iv (x2 + 1)), (0, rv z 0), (1, iv x1)]) 2 dX11_hireFirst_33 rfl (by decide) rfl ?_
    refine AW.goto (tgt := 2) dX11_hireFirst_36 (by decide) ?_
    refine AW.sub (lv1 := [(0, rv z 0), (1, iv x1), (2, iv (x2 + 1))]) [1, 2, 0] rfl ?_
    exact ih _ _ _ h
theorem X_hireFirst_ok {z : AZ} {x1 : Int} {g : AG} {r : Int × AG} (h : X_hireFirst x1 g = some r) : AMf z yX11_hireFirst cX11_hireFirst 3 none 1 [rv z 0, iv x1] g r := by
  intro d hdd
  refine AM.of (by decide +kernel) (Nat.le_of_ble_eq_true rfl) ?_
  show AW z (RX11, cX11_hireFirst, 3, none) d (QD none r) 0 [(0, rv z 0), (1, iv x1)] [] g
  unfold X_hireFirst at h
  refine AW.iconst dX11_hireFirst_0 ?_
  refine AW.istore_n (lv1 := [(2, iv 0), (0, rv z 0), (1, iv x1)]) dX11_hireFirst_1 (by decide) rfl ?_
  refine AW.sub (lv1 := [(0, rv z 0), (1, iv x1), (2, iv 0)]) [1, 2, 0] rfl ?_
  exact X_hireFirst_b_ok hdd _ _ _ h
set_option synthInstance.maxHeartbeats 2000000 in
theorem Bookings_canCome_b_ok {z : AZ} {d : Nat} (hdd : 0 ≤ d) {x2 : Int} : ∀ (x3 : Int) (x4 : Int) (g : AG) (r : Int × AG), Bookings_canCome_b x2 x3 x4 g = some r → AW z (RX1, cX1_canCome, 5, (some .boolean)) d (QD (some .boolean) r) 24 [(0, rv z 9), (2, iv x2), (3, iv x3), (4, iv x4)] [] g := by
  refine Bookings_canCome_b.partial_correctness x2 (fun x3 x4 g r => AW z (RX1, cX1_canCome, 5, (some .boolean)) d (QD (some .boolean) r) 24 [(0, rv z 9), (2, iv x2), (3, iv x3), (4, iv x4)] [] g) ?_
  intro fb9 ih x3 x4 g r h
  refine AW.iload 3 dX1_canCome_24 rfl ?_
  refine AW.aloadr_n 0 dX1_canCome_26 rfl ?_
  refine AW.getI af_X1_48_9 sr_9_4 dX1_canCome_27 ?_
  refine AW.icmp_ge (tgt := 79) dX1_canCome_30 (by decide) (fun c1 => ?_) (fun c1 => ?_)
  · replace h := hT h c1
    refine AW.iload_n 2 dX1_canCome_79 rfl ?_
    obtain ⟨k2, h⟩ := hK h
    exact AW.zret1 rfl k2 dX1_canCome_80 h rfl
  · replace h := hF h c1
    refine AW.iload_n 2 dX1_canCome_33 rfl ?_
    refine AW.aloadr_n 0 dX1_canCome_34 rfl ?_
    refine AW.getR af_X1_18_9 sr_9_2 dX1_canCome_35 ?_
    refine AW.iload 3 dX1_canCome_38 rfl ?_
    obtain ⟨k3, h⟩ := hK h
    refine AW.iald kc_87 sk_87 k3 dX1_canCome_40 ?_
    refine AW.aloadr_n 0 dX1_canCome_41 rfl ?_
    refine AW.getR af_X1_18_9 sr_9_2 dX1_canCome_42 ?_
    refine AW.iload_n 1 dX1_canCome_45 rfl ?_
    obtain ⟨k4, h⟩ := hK h
    refine AW.iald kc_87 sk_87 k4 dX1_canCome_46 ?_
    obtain ⟨r9, e10, h⟩ := hC h
    refine AW.join (tgt := 71) (lv1 := [(0, rv z 9), (2, iv x2), (4, iv x4)]) (st1 := [iv r9.1, iv x3]) (g1 := r9.2) ?_ (fun J47 => ?_)
    · refine AW.ior dX1_canCome_71 ?_
      refine AW.istore_n (lv1 := [(3, iv (orI x3 r9.1)), (0, rv z 9), (2, iv x2), (4, iv x4)]) dX1_canCome_72 (by decide) rfl ?_
      refine AW.iinc (lv1 := [(4, iv (x4 + 1)), (3, iv (orI x3 r9.1)), (0, rv z 9), (2, iv x2)]) 3 dX1_canCome_73 rfl (by decide) rfl ?_
      refine AW.goto (tgt := 24) dX1_canCome_76 (by decide) ?_
      refine AW.sub (lv1 := [(0, rv z 9), (2, iv x2), (3, iv (orI x3 r9.1)), (4, iv (x4 + 1))]) [2, 3, 1, 0] rfl ?_
      exact ih _ _ _ _ h
    replace h := e10
    refine AW.icmp_ge (tgt := 70) dX1_canCome_47 (by decide) (fun c5 => ?_) (fun c5 => ?_)
    · replace h := hT h c5
      refine AW.iconst dX1_canCome_70 ?_
      refine AW.sub (lv1 := [(0, rv z 9), (2, iv x2), (4, iv x4)]) [0, 1, 3] rfl ?_
      cases h
      exact J47
    · replace h := hF h c5
      refine AW.aloadr_n 0 dX1_canCome_50 rfl ?_
      refine AW.getR af_X1_15_9 sr_9_1 dX1_canCome_51 ?_
      refine AW.iload 3 dX1_canCome_54 rfl ?_
      refine AW.iald kc_86 sk_86 k3 dX1_canCome_56 ?_
      refine AW.aloadr_n 0 dX1_canCome_57 rfl ?_
      refine AW.getR af_X1_9_9 sr_9_0 dX1_canCome_58 ?_
      refine AW.iload_n 1 dX1_canCome_61 rfl ?_
      refine AW.iald kc_85 sk_85 k4 dX1_canCome_62 ?_
      obtain ⟨t6, e7, h⟩ := hBe h
      refine AW.join (tgt := 71) (lv1 := [(0, rv z 9), (2, iv x2), (3, iv x3), (4, iv x4)]) (st1 := [iv t6, iv x3]) (g1 := g) ?_ (fun J63 => ?_)
      · refine AW.sub (lv1 := [(0, rv z 9), (2, iv x2), (4, iv x4)]) [0, 1, 3] rfl ?_
        cases h
        exact J47
      refine AW.icmp_ne (tgt := 70) dX1_canCome_63 (by decide) (fun c8 => ?_) (fun c8 => ?_)
      · refine AW.iconst dX1_canCome_70 ?_
        exact AW.val (e7.trans (if_neg c8)) J63
      · refine AW.iconst dX1_canCome_66 ?_
        refine AW.goto (tgt := 71) dX1_canCome_67 (by decide) ?_
        exact AW.val (e7.trans (if_pos c8)) J63
theorem Bookings_canCome_ok {z : AZ} {x1 : Int} {x2 : Int} {g : AG} {r : Int × AG} (h : Bookings_canCome x1 x2 g = some r) : AMf z yX1_canCome cX1_canCome 5 (some .boolean) 0 [rv z 9, iv x1, iv x2] g r := by
  intro d hdd
  refine AM.of (by decide +kernel) (Nat.le_of_ble_eq_true rfl) ?_
  show AW z (RX1, cX1_canCome, 5, (some .boolean)) d (QD (some .boolean) r) 0 [(0, rv z 9), (1, iv x1), (2, iv x2)] [] g
  unfold Bookings_canCome at h
  refine AW.aloadr_n 0 dX1_canCome_0 rfl ?_
  refine AW.getR af_X1_30_9 sr_9_7 dX1_canCome_1 ?_
  refine AW.iload_n 1 dX1_canCome_4 rfl ?_
  obtain ⟨k1, h⟩ := hK h
  refine AW.iald kc_91 sk_91 k1 dX1_canCome_5 ?_
  refine AW.aloadr_n 0 dX1_canCome_6 rfl ?_
  refine AW.getR af_X1_9_9 sr_9_0 dX1_canCome_7 ?_
  refine AW.iload_n 2 dX1_canCome_10 rfl ?_
  obtain ⟨k2, h⟩ := hK h
  refine AW.iald kc_85 sk_85 k2 dX1_canCome_11 ?_
  obtain ⟨t3, e4, h⟩ := hBe h
  refine AW.join (tgt := 20) (lv1 := [(0, rv z 9), (1, iv x1), (2, iv x2)]) (st1 := [iv t3]) (g1 := g) ?_ (fun J12 => ?_)
  · refine AW.istore_n (lv1 := [(3, iv t3), (0, rv z 9), (1, iv x1), (2, iv x2)]) dX1_canCome_20 (by decide) rfl ?_
    refine AW.iconst dX1_canCome_21 ?_
    refine AW.istore (lv1 := [(4, iv 0), (3, iv t3), (0, rv z 9), (1, iv x1), (2, iv x2)]) dX1_canCome_22 (by decide) rfl ?_
    refine AW.sub (lv1 := [(0, rv z 9), (2, iv x2), (3, iv t3), (4, iv 0)]) [2, 4, 1, 0] rfl ?_
    exact Bookings_canCome_b_ok hdd _ _ _ _ h
  refine AW.icmp_ne (tgt := 19) dX1_canCome_12 (by decide) (fun c5 => ?_) (fun c5 => ?_)
  · refine AW.iconst dX1_canCome_19 ?_
    exact AW.val (e4.trans (if_neg c5)) J12
  · refine AW.iconst dX1_canCome_15 ?_
    refine AW.goto (tgt := 20) dX1_canCome_16 (by decide) ?_
    exact AW.val (e4.trans (if_pos c5)) J12
set_option synthInstance.maxHeartbeats 2000000 in
theorem Bookings_canEverBeGiven_b_ok {z : AZ} {d : Nat} (hdd : 1 ≤ d) {x1 : Int} : ∀ (tag : Nat) (x2 : Int) (g : AG) (r : Int × AG), Bookings_canEverBeGiven_b x1 tag x2 g = some r → (tag = 1 → AW z (RX1, cX1_canEverBeGiven, 3, (some .boolean)) d (QD (some .boolean) r) 2 [(0, rv z 9), (1, iv x1), (2, iv x2)] [] g) ∧ (tag = 2 → AW z (RX1, cX1_canEverBeGiven, 3, (some .boolean)) d (QD (some .boolean) r) 36 [(0, rv z 9), (1, iv x1), (2, iv x2)] [] g) := by
  refine Bookings_canEverBeGiven_b.partial_correctness x1 (fun tag x2 g r => (tag = 1 → AW z (RX1, cX1_canEverBeGiven, 3, (some .boolean)) d (QD (some .boolean) r) 2 [(0, rv z 9), (1, iv x1), (2, iv x2)] [] g) ∧ (tag = 2 → AW z (RX1, cX1_canEverBeGiven, 3, (some .boolean)) d (QD (some .boolean) r) 36 [(0, rv z 9), (1, iv x1), (2, iv x2)] [] g)) ?_
  intro fb9 ih tag x2 g r h
  refine ⟨fun h9 => ?_, fun h9 => ?_⟩
  · subst h9
    replace h := hT h rfl
    refine AW.iload_n 2 dX1_canEverBeGiven_2 rfl ?_
    refine AW.aloadr_n 0 dX1_canEverBeGiven_3 rfl ?_
    refine AW.getI af_X1_64_9 sr_9_10 dX1_canEverBeGiven_4 ?_
    refine AW.icmp_ge (tgt := 42) dX1_canEverBeGiven_7 (by decide) (fun c1 => ?_) (fun c1 => ?_)
    · replace h := hT h c1
      refine AW.iconst dX1_canEverBeGiven_42 ?_
      exact AW.zret1 rfl (Or.inl rfl) dX1_canEverBeGiven_43 h rfl
    · replace h := hF h c1
      refine AW.aloadr_n 0 dX1_canEverBeGiven_10 rfl ?_
      refine AW.getR af_X1_27_9 sr_9_6 dX1_canEverBeGiven_11 ?_
      refine AW.iload_n 2 dX1_canEverBeGiven_14 rfl ?_
      obtain ⟨k2, h⟩ := hK h
      refine AW.iald kc_90 sk_90 k2 dX1_canEverBeGiven_15 ?_
      refine AW.aloadr_n 0 dX1_canEverBeGiven_16 rfl ?_
      refine AW.getR af_X1_21_9 sr_9_3 dX1_canEverBeGiven_17 ?_
      refine AW.iload_n 1 dX1_canEverBeGiven_20 rfl ?_
      obtain ⟨k3, h⟩ := hK h
      refine AW.iald kc_88 sk_88 k3 dX1_canEverBeGiven_21 ?_
      refine AW.icmp_lt (tgt := 36) dX1_canEverBeGiven_22 (by decide) (fun c4 => ?_) (fun c4 => ?_)
      · replace h := hT h c4
        exact (ih _ _ _ _ h).2 rfl
      · replace h := hF h c4
        refine AW.aloadr_n 0 dX1_canEverBeGiven_25 rfl ?_
        refine AW.iload_n 2 dX1_canEverBeGiven_26 rfl ?_
        refine AW.iload_n 1 dX1_canEverBeGiven_27 rfl ?_
        obtain ⟨r5, e6, h⟩ := hC h
        refine AW.callVi (As := [iv x2, iv x1]) (st := []) (Bookings_canCome_ok e6) cq_X1_81 cr_9_X1_canCome (Nat.le_trans (by decide) hdd) rfl dX1_canEverBeGiven_28 rfl (Nat.le_of_ble_eq_true rfl) ?_
        refine AW.if_eq (tgt := 36) dX1_canEverBeGiven_31 (by decide) (fun c7 => ?_) (fun c7 => ?_)
        · replace h := hT h c7
          exact (ih _ _ _ _ h).2 rfl
        · replace h := hF h c7
          refine AW.iconst dX1_canEverBeGiven_34 ?_
          exact AW.zret1 rfl (Or.inr rfl) dX1_canEverBeGiven_35 h rfl
  · subst h9
    replace h := hF h (by decide)
    replace h := hT h rfl
    refine AW.iinc (lv1 := [(2, iv (x2 + 1)), (0, rv z 9), (1, iv x1)]) 2 dX1_canEverBeGiven_36 rfl (by decide) rfl ?_
    refine AW.goto (tgt := 2) dX1_canEverBeGiven_39 (by decide) ?_
    refine AW.sub (lv1 := [(0, rv z 9), (1, iv x1), (2, iv (x2 + 1))]) [1, 2, 0] rfl ?_
    exact (ih _ _ _ _ h).1 rfl
theorem Bookings_canEverBeGiven_ok {z : AZ} {x1 : Int} {g : AG} {r : Int × AG} (h : Bookings_canEverBeGiven x1 g = some r) : AMf z yX1_canEverBeGiven cX1_canEverBeGiven 3 (some .boolean) 1 [rv z 9, iv x1] g r := by
  intro d hdd
  refine AM.of (by decide +kernel) (Nat.le_of_ble_eq_true rfl) ?_
  show AW z (RX1, cX1_canEverBeGiven, 3, (some .boolean)) d (QD (some .boolean) r) 0 [(0, rv z 9), (1, iv x1)] [] g
  unfold Bookings_canEverBeGiven at h
  refine AW.iconst dX1_canEverBeGiven_0 ?_
  refine AW.istore_n (lv1 := [(2, iv 0), (0, rv z 9), (1, iv x1)]) dX1_canEverBeGiven_1 (by decide) rfl ?_
  refine AW.sub (lv1 := [(0, rv z 9), (1, iv x1), (2, iv 0)]) [1, 2, 0] rfl ?_
  exact (Bookings_canEverBeGiven_b_ok hdd _ _ _ _ h).1 rfl
set_option synthInstance.maxHeartbeats 2000000 in
theorem Bookings_compare_b_ok {z : AZ} {d : Nat} (hdd : 1 ≤ d) {x1 : Int} {g : AG} : ∀ (x2 : Int) (x3 : Int) (r : Int × AG), Bookings_compare_b x1 g x2 x3 = some r → AW z (RX1, cX1_compare, 4, none) d (QD none r) 4 [(0, rv z 9), (1, iv x1), (2, iv x2), (3, iv x3)] [] g := by
  refine Bookings_compare_b.partial_correctness x1 g (fun x2 x3 r => AW z (RX1, cX1_compare, 4, none) d (QD none r) 4 [(0, rv z 9), (1, iv x1), (2, iv x2), (3, iv x3)] [] g) ?_
  intro fb9 ih x2 x3 r h
  refine AW.iload_n 3 dX1_compare_4 rfl ?_
  refine AW.aloadr_n 0 dX1_compare_5 rfl ?_
  refine AW.getI af_X1_64_9 sr_9_10 dX1_compare_6 ?_
  refine AW.icmp_ge (tgt := 41) dX1_compare_9 (by decide) (fun c1 => ?_) (fun c1 => ?_)
  · replace h := hT h c1
    refine AW.iload_n 1 dX1_compare_41 rfl ?_
    refine AW.aloadr_n 0 dX1_compare_42 rfl ?_
    refine AW.getI af_X1_67_9 sr_9_15 dX1_compare_43 ?_
    obtain ⟨r19, e20, h⟩ := hC h
    refine AW.join (tgt := 92) (lv1 := []) (st1 := []) (g1 := r19) ?_ (fun J46 => ?_)
    · exact AW.vret1 rfl dX1_compare_92 h rfl
    replace h := e20
    refine AW.icmp_gt (tgt := 65) dX1_compare_46 (by decide) (fun c2 => ?_) (fun c2 => ?_)
    · replace h := hT h c2
      refine AW.aloadr_n 0 dX1_compare_65 rfl ?_
      refine AW.iload_n 1 dX1_compare_66 rfl ?_
      obtain ⟨g3, e4, h⟩ := hBe h
      refine AW.putI ap_X1_67_9 sr_9_15 dX1_compare_67 e4 ?_
      refine AW.aloadr_n 0 dX1_compare_70 rfl ?_
      refine AW.iload_n 2 dX1_compare_71 rfl ?_
      obtain ⟨g5, e6, h⟩ := hBe h
      refine AW.putI ap_X1_70_9 sr_9_16 dX1_compare_72 e6 ?_
      refine AW.aloadr_n 0 dX1_compare_75 rfl ?_
      refine AW.getR af_X1_42_9 sr_9_13 dX1_compare_76 ?_
      refine AW.iconst dX1_compare_79 ?_
      refine AW.aloadr_n 0 dX1_compare_80 rfl ?_
      refine AW.getR af_X1_45_9 sr_9_14 dX1_compare_81 ?_
      refine AW.iconst dX1_compare_84 ?_
      refine AW.aloadr_n 0 dX1_compare_85 rfl ?_
      refine AW.getI af_X1_48_9 sr_9_4 dX1_compare_86 ?_
      obtain ⟨k7, h⟩ := hK h
      obtain ⟨g8, e9, h⟩ := hBe h
      refine AW.copyi cc_X1_92 ac_n ac_s ac_i kc_95 sk_95 kc_96 sk_96 k7 (Nat.le_of_ble_eq_true rfl) (Nat.le_trans (by decide) hdd) dX1_compare_89 e9 ?_
      refine AW.sub (lv1 := []) [] rfl ?_
      cases h
      exact J46
    · replace h := hF h c2
      refine AW.iload_n 1 dX1_compare_49 rfl ?_
      refine AW.aloadr_n 0 dX1_compare_50 rfl ?_
      refine AW.getI af_X1_67_9 sr_9_15 dX1_compare_51 ?_
      refine AW.icmp_ne (tgt := 92) dX1_compare_54 (by decide) (fun c10 => ?_) (fun c10 => ?_)
      · replace h := hF h c10
        refine AW.sub (lv1 := []) [] rfl ?_
        cases h
        exact J46
      · replace h := hT h c10
        refine AW.iload_n 2 dX1_compare_57 rfl ?_
        refine AW.aloadr_n 0 dX1_compare_58 rfl ?_
        refine AW.getI af_X1_70_9 sr_9_16 dX1_compare_59 ?_
        refine AW.icmp_le (tgt := 92) dX1_compare_62 (by decide) (fun c11 => ?_) (fun c11 => ?_)
        · replace h := hT h c11
          refine AW.sub (lv1 := []) [] rfl ?_
          cases h
          exact J46
        · replace h := hF h c11
          refine AW.aloadr_n 0 dX1_compare_65 rfl ?_
          refine AW.iload_n 1 dX1_compare_66 rfl ?_
          obtain ⟨g12, e13, h⟩ := hBe h
          refine AW.putI ap_X1_67_9 sr_9_15 dX1_compare_67 e13 ?_
          refine AW.aloadr_n 0 dX1_compare_70 rfl ?_
          refine AW.iload_n 2 dX1_compare_71 rfl ?_
          obtain ⟨g14, e15, h⟩ := hBe h
          refine AW.putI ap_X1_70_9 sr_9_16 dX1_compare_72 e15 ?_
          refine AW.aloadr_n 0 dX1_compare_75 rfl ?_
          refine AW.getR af_X1_42_9 sr_9_13 dX1_compare_76 ?_
          refine AW.iconst dX1_compare_79 ?_
          refine AW.aloadr_n 0 dX1_compare_80 rfl ?_
          refine AW.getR af_X1_45_9 sr_9_14 dX1_compare_81 ?_
          refine AW.iconst dX1_compare_84 ?_
          refine AW.aloadr_n 0 dX1_compare_85 rfl ?_
          refine AW.getI af_X1_48_9 sr_9_4 dX1_compare_86 ?_
          obtain ⟨k16, h⟩ := hK h
          obtain ⟨g17, e18, h⟩ := hBe h
          refine AW.copyi cc_X1_92 ac_n ac_s ac_i kc_95 sk_95 kc_96 sk_96 k16 (Nat.le_of_ble_eq_true rfl) (Nat.le_trans (by decide) hdd) dX1_compare_89 e18 ?_
          refine AW.sub (lv1 := []) [] rfl ?_
          cases h
          exact J46
  · replace h := hF h c1
    refine AW.iload_n 2 dX1_compare_12 rfl ?_
    refine AW.aloadr_n 0 dX1_compare_13 rfl ?_
    refine AW.getR af_X1_33_9 sr_9_8 dX1_compare_14 ?_
    refine AW.iload_n 3 dX1_compare_17 rfl ?_
    obtain ⟨k21, h⟩ := hK h
    refine AW.iald kc_92 sk_92 k21 dX1_compare_18 ?_
    refine AW.aloadr_n 0 dX1_compare_19 rfl ?_
    refine AW.getR af_X1_30_9 sr_9_7 dX1_compare_20 ?_
    refine AW.iload_n 3 dX1_compare_23 rfl ?_
    refine AW.iald kc_91 sk_91 k21 dX1_compare_24 ?_
    obtain ⟨t22, e23, h⟩ := hBe h
    refine AW.join (tgt := 33) (lv1 := [(0, rv z 9), (1, iv x1), (2, iv x2), (3, iv x3)]) (st1 := [iv t22, iv x2]) (g1 := g) ?_ (fun J25 => ?_)
    · refine AW.iadd dX1_compare_33 ?_
      refine AW.istore_n (lv1 := [(2, iv (x2 + t22)), (0, rv z 9), (1, iv x1), (3, iv x3)]) dX1_compare_34 (by decide) rfl ?_
      refine AW.iinc (lv1 := [(3, iv (x3 + 1)), (2, iv (x2 + t22)), (0, rv z 9), (1, iv x1)]) 3 dX1_compare_35 rfl (by decide) rfl ?_
      refine AW.goto (tgt := 4) dX1_compare_38 (by decide) ?_
      refine AW.sub (lv1 := [(0, rv z 9), (1, iv x1), (2, iv (x2 + t22)), (3, iv (x3 + 1))]) [2, 3, 1, 0] rfl ?_
      exact ih _ _ _ h
    refine AW.icmp_ne (tgt := 32) dX1_compare_25 (by decide) (fun c24 => ?_) (fun c24 => ?_)
    · refine AW.iconst dX1_compare_32 ?_
      exact AW.val (e23.trans (if_neg c24)) J25
    · refine AW.iconst dX1_compare_28 ?_
      refine AW.goto (tgt := 33) dX1_compare_29 (by decide) ?_
      exact AW.val (e23.trans (if_pos c24)) J25
theorem Bookings_compare_ok {z : AZ} {x1 : Int} {g : AG} {r : Int × AG} (h : Bookings_compare x1 g = some r) : AMf z yX1_compare cX1_compare 4 none 1 [rv z 9, iv x1] g r := by
  intro d hdd
  refine AM.of (by decide +kernel) (Nat.le_of_ble_eq_true rfl) ?_
  show AW z (RX1, cX1_compare, 4, none) d (QD none r) 0 [(0, rv z 9), (1, iv x1)] [] g
  unfold Bookings_compare at h
  refine AW.iconst dX1_compare_0 ?_
  refine AW.istore_n (lv1 := [(2, iv 0), (0, rv z 9), (1, iv x1)]) dX1_compare_1 (by decide) rfl ?_
  refine AW.iconst dX1_compare_2 ?_
  refine AW.istore_n (lv1 := [(3, iv 0), (2, iv 0), (0, rv z 9), (1, iv x1)]) dX1_compare_3 (by decide) rfl ?_
  refine AW.sub (lv1 := [(0, rv z 9), (1, iv x1), (2, iv 0), (3, iv 0)]) [2, 3, 1, 0] rfl ?_
  exact Bookings_compare_b_ok hdd _ _ _ h
theorem Bookings_canHave_ok {z : AZ} {x1 : Int} {x2 : Int} {g : AG} {r : Int × AG} (h : Bookings_canHave x1 x2 g = some r) : AMf z yX1_canHave cX1_canHave 3 (some .boolean) 0 [rv z 9, iv x1, iv x2] g r := by
  intro d hdd
  refine AM.of (by decide +kernel) (Nat.le_of_ble_eq_true rfl) ?_
  show AW z (RX1, cX1_canHave, 3, (some .boolean)) d (QD (some .boolean) r) 0 [(0, rv z 9), (1, iv x1), (2, iv x2)] [] g
  unfold Bookings_canHave at h
  refine AW.aloadr_n 0 dX1_canHave_0 rfl ?_
  refine AW.getR af_X1_27_9 sr_9_6 dX1_canHave_1 ?_
  refine AW.iload_n 1 dX1_canHave_4 rfl ?_
  obtain ⟨k1, h⟩ := hK h
  refine AW.iald kc_90 sk_90 k1 dX1_canHave_5 ?_
  refine AW.aloadr_n 0 dX1_canHave_6 rfl ?_
  refine AW.getR af_X1_21_9 sr_9_3 dX1_canHave_7 ?_
  refine AW.iload_n 2 dX1_canHave_10 rfl ?_
  obtain ⟨k2, h⟩ := hK h
  refine AW.iald kc_88 sk_88 k2 dX1_canHave_11 ?_
  obtain ⟨r8, e9, h⟩ := hC h
  refine AW.join (tgt := 50) (lv1 := []) (st1 := [iv r8.1]) (g1 := r8.2) ?_ (fun J12 => ?_)
  · obtain ⟨k10, h⟩ := hK h
    exact AW.zret1 rfl k10 dX1_canHave_50 h rfl
  replace h := e9
  refine AW.icmp_lt (tgt := 49) dX1_canHave_12 (by decide) (fun c3 => ?_) (fun c3 => ?_)
  · replace h := hT h c3
    refine AW.iconst dX1_canHave_49 ?_
    refine AW.sub (lv1 := []) [] rfl ?_
    cases h
    exact J12
  · replace h := hF h c3
    refine AW.aloadr_n 0 dX1_canHave_15 rfl ?_
    refine AW.getR af_X1_33_9 sr_9_8 dX1_canHave_16 ?_
    refine AW.iload_n 1 dX1_canHave_19 rfl ?_
    refine AW.iald kc_92 sk_92 k1 dX1_canHave_20 ?_
    refine AW.aloadr_n 0 dX1_canHave_21 rfl ?_
    refine AW.getR af_X1_9_9 sr_9_0 dX1_canHave_22 ?_
    refine AW.iload_n 2 dX1_canHave_25 rfl ?_
    refine AW.iald kc_85 sk_85 k2 dX1_canHave_26 ?_
    refine AW.icmp_ne (tgt := 49) dX1_canHave_27 (by decide) (fun c4 => ?_) (fun c4 => ?_)
    · replace h := hF h c4
      refine AW.iconst dX1_canHave_49 ?_
      refine AW.sub (lv1 := []) [] rfl ?_
      cases h
      exact J12
    · replace h := hT h c4
      refine AW.aloadr_n 0 dX1_canHave_30 rfl ?_
      refine AW.getR af_X1_36_9 sr_9_9 dX1_canHave_31 ?_
      refine AW.iload_n 1 dX1_canHave_34 rfl ?_
      refine AW.iald kc_93 sk_93 k1 dX1_canHave_35 ?_
      refine AW.aloadr_n 0 dX1_canHave_36 rfl ?_
      refine AW.getR af_X1_18_9 sr_9_2 dX1_canHave_37 ?_
      refine AW.iload_n 2 dX1_canHave_40 rfl ?_
      refine AW.iald kc_87 sk_87 k2 dX1_canHave_41 ?_
      obtain ⟨t5, e6, h⟩ := hBe h
      refine AW.join (tgt := 50) (lv1 := [(0, rv z 9), (1, iv x1), (2, iv x2)]) (st1 := [iv t5]) (g1 := g) ?_ (fun J42 => ?_)
      · refine AW.sub (lv1 := []) [] rfl ?_
        cases h
        exact J12
      refine AW.icmp_ge (tgt := 49) dX1_canHave_42 (by decide) (fun c7 => ?_) (fun c7 => ?_)
      · refine AW.iconst dX1_canHave_49 ?_
        exact AW.val (e6.trans (if_pos c7)) J42
      · refine AW.iconst dX1_canHave_45 ?_
        refine AW.goto (tgt := 50) dX1_canHave_46 (by decide) ?_
        exact AW.val (e6.trans (if_neg c7)) J42
set_option synthInstance.maxHeartbeats 2000000 in
theorem Bookings_giveNext_b_ok {z : AZ} {rec : Int → Int → AG → Option (Int × AG)} {Dr : Nat} (hC9 : 2 ≤ Dr) (hrec : ∀ (x1 : Int) (x2 : Int) (g : AG) (r : Int × AG), rec x1 x2 g = some r → AMf z yX1_giveNext cX1_giveNext 8 none Dr [rv z 9, iv x1, iv x2] g r) {d : Nat} (hdd : Dr + 1 ≤ d) {x1 : Int} {x2 : Int} : ∀ (tag : Nat) (x4 : Int) (x5 : Int) (g : AG) (r : Int × AG), Bookings_giveNext_b rec x1 x2 tag x4 x5 g = some r → (tag = 1 → AW z (RX1, cX1_giveNext, 8, none) d (QD none r) 37 [(0, rv z 9), (1, iv x1), (2, iv x2)] [] g) ∧ (tag = 2 → AW z (RX1, cX1_giveNext, 8, none) d (QD none r) 62 [(0, rv z 9), (1, iv x1), (2, iv x2), (4, iv x4), (5, iv x5)] [] g) := by
  refine Bookings_giveNext_b.partial_correctness rec x1 x2 (fun tag x4 x5 g r => (tag = 1 → AW z (RX1, cX1_giveNext, 8, none) d (QD none r) 37 [(0, rv z 9), (1, iv x1), (2, iv x2)] [] g) ∧ (tag = 2 → AW z (RX1, cX1_giveNext, 8, none) d (QD none r) 62 [(0, rv z 9), (1, iv x1), (2, iv x2), (4, iv x4), (5, iv x5)] [] g)) ?_
  intro fb9 ih tag x4 x5 g r h
  refine ⟨fun h9 => ?_, fun h9 => ?_⟩
  · subst h9
    replace h := hT h rfl
    refine AW.iload_n 1 dX1_giveNext_37 rfl ?_
    refine AW.aloadr_n 0 dX1_giveNext_38 rfl ?_
    refine AW.getI af_X1_48_9 sr_9_4 dX1_giveNext_39 ?_
    refine AW.icmp_lt (tgt := 51) dX1_giveNext_42 (by decide) (fun c1 => ?_) (fun c1 => ?_)
    · replace h := hT h c1
      refine AW.aloadr_n 0 dX1_giveNext_51 rfl ?_
      refine AW.getR af_X1_24_9 sr_9_5 dX1_giveNext_52 ?_
      refine AW.iload_n 1 dX1_giveNext_55 rfl ?_
      obtain ⟨k2, h⟩ := hK h
      refine AW.iald kc_89 sk_89 k2 dX1_giveNext_56 ?_
      refine AW.istore (lv1 := [(4, iv (g 89 (ix x1))), (0, rv z 9), (1, iv x1), (2, iv x2)]) dX1_giveNext_57 (by decide) rfl ?_
      refine AW.iconst dX1_giveNext_59 ?_
      refine AW.istore (lv1 := [(5, iv 0), (4, iv (g 89 (ix x1))), (0, rv z 9), (1, iv x1), (2, iv x2)]) dX1_giveNext_60 (by decide) rfl ?_
      refine AW.sub (lv1 := [(0, rv z 9), (1, iv x1), (2, iv x2), (4, iv (g 89 (ix x1))), (5, iv 0)]) [2, 3, 4, 1, 0] rfl ?_
      exact (ih _ _ _ _ _ h).2 rfl
    · replace h := hF h c1
      refine AW.aloadr_n 0 dX1_giveNext_45 rfl ?_
      refine AW.iload_n 2 dX1_giveNext_46 rfl ?_
      obtain ⟨r3, e4, h⟩ := hC h
      refine AW.callVv (As := [iv x2]) (st := []) (Bookings_compare_ok e4) cq_X1_85 cr_9_X1_compare (by omega) rfl dX1_giveNext_47 rfl (Nat.le_of_ble_eq_true rfl) ?_
      exact AW.vret1 rfl dX1_giveNext_50 h rfl
  · subst h9
    replace h := hF h (by decide)
    replace h := hT h rfl
    refine AW.iload 4 dX1_giveNext_62 rfl ?_
    refine AW.aloadr_n 0 dX1_giveNext_64 rfl ?_
    refine AW.getI af_X1_64_9 sr_9_10 dX1_giveNext_65 ?_
    refine AW.icmp_ge (tgt := 171) dX1_giveNext_68 (by decide) (fun c1 => ?_) (fun c1 => ?_)
    · replace h := hT h c1
      refine AW.aloadr_n 0 dX1_giveNext_171 rfl ?_
      refine AW.getR af_X1_42_9 sr_9_13 dX1_giveNext_172 ?_
      refine AW.iload 3 dX1_giveNext_175 rfl ?_
      refine AW.iconst dX1_giveNext_177 ?_
      obtain ⟨k2, h⟩ := hK h
      obtain ⟨g3, e4, h⟩ := hBe h
      refine AW.iast kc_95 sk_95 k2 dX1_giveNext_178 e4 ?_
      refine AW.aloadr_n 0 dX1_giveNext_179 rfl ?_
      refine AW.iload_n 1 dX1_giveNext_180 rfl ?_
      refine AW.iconst dX1_giveNext_181 ?_
      refine AW.iadd dX1_giveNext_182 ?_
      refine AW.iload_n 2 dX1_giveNext_183 rfl ?_
      obtain ⟨r5, e6, h⟩ := hC h
      refine AW.callSv (As := [rv z 9, iv (x1 + 1), iv x2]) (st := []) (hrec _ _ _ _ e6) cq_X1_77 st_X1_giveNext (by omega) rfl dX1_giveNext_184 rfl (Nat.le_of_ble_eq_true rfl) ?_
      exact AW.vret1 rfl dX1_giveNext_187 h rfl
    · replace h := hF h c1
      refine AW.aloadr_n 0 dX1_giveNext_71 rfl ?_
      refine AW.iload 4 dX1_giveNext_72 rfl ?_
      refine AW.iload 3 dX1_giveNext_74 rfl ?_
      obtain ⟨r7, e8, h⟩ := hC h
      refine AW.callVi (As := [iv x5, iv x4]) (st := []) (Bookings_canHave_ok e8) cq_X1_89 cr_9_X1_canHave (by omega) rfl dX1_giveNext_76 rfl (Nat.le_of_ble_eq_true rfl) ?_
      obtain ⟨r24, e25, h⟩ := hC h
      refine AW.join (tgt := 165) (lv1 := [(0, rv z 9), (1, iv x1), (2, iv x2), (4, iv x4), (5, iv x5)]) (st1 := []) (g1 := r24) ?_ (fun J79 => ?_)
      · refine AW.iinc (lv1 := [(5, iv (x5 + 1)), (0, rv z 9), (1, iv x1), (2, iv x2), (4, iv x4)]) 4 dX1_giveNext_165 rfl (by decide) rfl ?_
        refine AW.goto (tgt := 62) dX1_giveNext_168 (by decide) ?_
        refine AW.sub (lv1 := [(0, rv z 9), (1, iv x1), (2, iv x2), (4, iv x4), (5, iv (x5 + 1))]) [1, 2, 3, 4, 0] rfl ?_
        exact (ih _ _ _ _ _ h).2 rfl
      replace h := e25
      refine AW.if_eq (tgt := 165) dX1_giveNext_79 (by decide) (fun c9 => ?_) (fun c9 => ?_)
      · replace h := hT h c9
        cases h
        exact J79
      · replace h := hF h c9
        refine AW.aloadr_n 0 dX1_giveNext_82 rfl ?_
        refine AW.getR af_X1_33_9 sr_9_8 dX1_giveNext_83 ?_
        refine AW.iload 4 dX1_giveNext_86 rfl ?_
        obtain ⟨k10, h⟩ := hK h
        refine AW.iald kc_92 sk_92 k10 dX1_giveNext_88 ?_
        refine AW.istore (lv1 := [(6, iv (r7.2 92 (ix x5))), (0, rv z 9), (1, iv x1), (2, iv x2), (4, iv x4), (5, iv x5)]) dX1_giveNext_89 (by decide) rfl ?_
        refine AW.aloadr_n 1 dX1_giveNext_91 rfl ?_
        refine AW.getR af_X1_36_9 sr_9_9 dX1_giveNext_92 ?_
        refine AW.iload 5 dX1_giveNext_95 rfl ?_
        refine AW.iald kc_93 sk_93 k10 dX1_giveNext_97 ?_
        refine AW.istore (lv1 := [(7, iv (r7.2 93 (ix x5))), (6, iv (r7.2 92 (ix x5))), (0, rv z 9), (1, iv x1), (2, iv x2), (4, iv x4), (5, iv x5)]) dX1_giveNext_98 (by decide) rfl ?_
        refine AW.aloadr_n 2 dX1_giveNext_100 rfl ?_
        refine AW.getR af_X1_42_9 sr_9_13 dX1_giveNext_101 ?_
        refine AW.iload 5 dX1_giveNext_104 rfl ?_
        refine AW.iload 6 dX1_giveNext_106 rfl ?_
        obtain ⟨k11, h⟩ := hK h
        obtain ⟨g12, e13, h⟩ := hBe h
        refine AW.iast kc_95 sk_95 k11 dX1_giveNext_108 e13 ?_
        refine AW.aloadr_n 2 dX1_giveNext_109 rfl ?_
        refine AW.getR af_X1_33_9 sr_9_8 dX1_giveNext_110 ?_
        refine AW.iload 6 dX1_giveNext_113 rfl ?_
        refine AW.aloadr_n 2 dX1_giveNext_115 rfl ?_
        refine AW.getR af_X1_15_9 sr_9_1 dX1_giveNext_116 ?_
        refine AW.iload 5 dX1_giveNext_119 rfl ?_
        refine AW.iald kc_86 sk_86 k11 dX1_giveNext_121 ?_
        obtain ⟨g14, e15, h⟩ := hBe h
        refine AW.iast kc_92 sk_92 k10 dX1_giveNext_122 e15 ?_
        refine AW.aloadr_n 2 dX1_giveNext_123 rfl ?_
        refine AW.getR af_X1_36_9 sr_9_9 dX1_giveNext_124 ?_
        refine AW.iload 6 dX1_giveNext_127 rfl ?_
        refine AW.aloadr_n 2 dX1_giveNext_129 rfl ?_
        refine AW.getR af_X1_18_9 sr_9_2 dX1_giveNext_130 ?_
        refine AW.iload 5 dX1_giveNext_133 rfl ?_
        refine AW.iald kc_87 sk_87 k11 dX1_giveNext_135 ?_
        obtain ⟨g16, e17, h⟩ := hBe h
        refine AW.iast kc_93 sk_93 k10 dX1_giveNext_136 e17 ?_
        refine AW.aloadr_n 2 dX1_giveNext_137 rfl ?_
        refine AW.iload_n 3 dX1_giveNext_138 rfl ?_
        refine AW.iconst dX1_giveNext_139 ?_
        refine AW.iadd dX1_giveNext_140 ?_
        refine AW.iload_n 4 dX1_giveNext_141 rfl ?_
        refine AW.iconst dX1_giveNext_142 ?_
        refine AW.iadd dX1_giveNext_143 ?_
        obtain ⟨r18, e19, h⟩ := hC h
        refine AW.callSv (As := [rv z 9, iv (x1 + 1), iv (x2 + 1)]) (st := []) (hrec _ _ _ _ e19) cq_X1_77 st_X1_giveNext (by omega) rfl dX1_giveNext_144 rfl (Nat.le_of_ble_eq_true rfl) ?_
        refine AW.aloadr_n 2 dX1_giveNext_147 rfl ?_
        refine AW.getR af_X1_33_9 sr_9_8 dX1_giveNext_148 ?_
        refine AW.iload 6 dX1_giveNext_151 rfl ?_
        refine AW.iload 1 dX1_giveNext_153 rfl ?_
        obtain ⟨g20, e21, h⟩ := hBe h
        refine AW.iast kc_92 sk_92 k10 dX1_giveNext_155 e21 ?_
        refine AW.aloadr_n 2 dX1_giveNext_156 rfl ?_
        refine AW.getR af_X1_36_9 sr_9_9 dX1_giveNext_157 ?_
        refine AW.iload 6 dX1_giveNext_160 rfl ?_
        refine AW.iload 0 dX1_giveNext_162 rfl ?_
        obtain ⟨g22, e23, h⟩ := hBe h
        refine AW.iast kc_93 sk_93 k10 dX1_giveNext_164 e23 ?_
        refine AW.sub (lv1 := [(0, rv z 9), (1, iv x1), (2, iv x2), (4, iv x4), (5, iv x5)]) [2, 3, 4, 5, 6] rfl ?_
        cases h
        exact J79
theorem Bookings_giveNext_s_ok {z : AZ} {rec : Int → Int → AG → Option (Int × AG)} {Dr : Nat} (hC9 : 2 ≤ Dr) (hrec : ∀ (x1 : Int) (x2 : Int) (g : AG) (r : Int × AG), rec x1 x2 g = some r → AMf z yX1_giveNext cX1_giveNext 8 none Dr [rv z 9, iv x1, iv x2] g r) {x1 : Int} {x2 : Int} {g : AG} {r : Int × AG} (h : Bookings_giveNext_s rec x1 x2 g = some r) : AMf z yX1_giveNext cX1_giveNext 8 none (Dr + 1) [rv z 9, iv x1, iv x2] g r := by
  intro d hdd
  refine AM.of (by decide +kernel) (Nat.le_of_ble_eq_true rfl) ?_
  show AW z (RX1, cX1_giveNext, 8, none) d (QD none r) 0 [(0, rv z 9), (1, iv x1), (2, iv x2)] [] g
  unfold Bookings_giveNext_s at h
  refine AW.iload_n 2 dX1_giveNext_0 rfl ?_
  refine AW.aloadr_n 0 dX1_giveNext_1 rfl ?_
  refine AW.getR af_X1_39_9 sr_9_12 dX1_giveNext_2 ?_
  refine AW.iload_n 1 dX1_giveNext_5 rfl ?_
  obtain ⟨k1, h⟩ := hK h
  refine AW.iald kc_94 sk_94 k1 dX1_giveNext_6 ?_
  refine AW.iadd dX1_giveNext_7 ?_
  refine AW.istore_n (lv1 := [(3, iv (x2 + (g 94 (ix x1)))), (0, rv z 9), (1, iv x1), (2, iv x2)]) dX1_giveNext_8 (by decide) rfl ?_
  refine AW.iload_n 0 dX1_giveNext_9 rfl ?_
  refine AW.aloadr_n 1 dX1_giveNext_10 rfl ?_
  refine AW.getI af_X1_67_9 sr_9_15 dX1_giveNext_11 ?_
  refine AW.icmp_lt (tgt := 36) dX1_giveNext_14 (by decide) (fun c2 => ?_) (fun c2 => ?_)
  · replace h := hT h c2
    exact AW.vret1 rfl dX1_giveNext_36 h rfl
  · replace h := hF h c2
    refine AW.iload_n 0 dX1_giveNext_17 rfl ?_
    refine AW.aloadr_n 1 dX1_giveNext_18 rfl ?_
    refine AW.getI af_X1_67_9 sr_9_15 dX1_giveNext_19 ?_
    refine AW.icmp_ne (tgt := 37) dX1_giveNext_22 (by decide) (fun c3 => ?_) (fun c3 => ?_)
    · replace h := hF h c3
      refine AW.sub (lv1 := [(0, rv z 9), (1, iv x1), (2, iv x2)]) [1, 2, 3] rfl ?_
      exact (Bookings_giveNext_b_ok hC9 hrec hdd _ _ _ _ _ h).1 rfl
    · replace h := hT h c3
      refine AW.aloadr_n 1 dX1_giveNext_25 rfl ?_
      refine AW.getI af_X1_70_9 sr_9_16 dX1_giveNext_26 ?_
      refine AW.aloadr_n 1 dX1_giveNext_29 rfl ?_
      refine AW.getI af_X1_64_9 sr_9_10 dX1_giveNext_30 ?_
      refine AW.icmp_lt (tgt := 37) dX1_giveNext_33 (by decide) (fun c4 => ?_) (fun c4 => ?_)
      · replace h := hT h c4
        refine AW.sub (lv1 := [(0, rv z 9), (1, iv x1), (2, iv x2)]) [1, 2, 3] rfl ?_
        exact (Bookings_giveNext_b_ok hC9 hrec hdd _ _ _ _ _ h).1 rfl
      · replace h := hF h c4
        exact AW.vret1 rfl dX1_giveNext_36 h rfl
theorem Bookings_giveNext_ok {z : AZ} {n : Nat} {x1 : Int} {x2 : Int} {g : AG} {r : Int × AG} (h : Bookings_giveNext n x1 x2 g = some r) : AMf z yX1_giveNext cX1_giveNext 8 none (2 + n * 1) [rv z 9, iv x1, iv x2] g r := by
  induction n generalizing x1 x2 g r with
  | zero => cases h
  | succ n ih =>
    have q := Bookings_giveNext_s_ok (z := z) (Dr := 2 + n * 1) (Nat.le_add_right _ _) (fun x1 x2 g r h9 => ih h9) h
    rw [show 2 + (n + 1) * 1 = 2 + n * 1 + 1 by rw [Nat.add_mul]; omega]
    exact q
set_option synthInstance.maxHeartbeats 2000000 in
theorem Bookings_giveBest_b_ok {z : AZ} {d : Nat} (hdd : 13 ≤ d) : ∀ (tag : Nat) (x2 : Int) (g : AG) (r : Int × AG), Bookings_giveBest_b tag x2 g = some r → (tag = 1 → AW z (RX1, cX1_giveBest, 3, none) d (QD none r) 35 [(0, rv z 9), (2, iv x2)] [] g) ∧ (tag = 2 → AW z (RX1, cX1_giveBest, 3, none) d (QD none r) 85 [(0, rv z 9), (2, iv x2)] [] g) := by
  refine Bookings_giveBest_b.partial_correctness (fun tag x2 g r => (tag = 1 → AW z (RX1, cX1_giveBest, 3, none) d (QD none r) 35 [(0, rv z 9), (2, iv x2)] [] g) ∧ (tag = 2 → AW z (RX1, cX1_giveBest, 3, none) d (QD none r) 85 [(0, rv z 9), (2, iv x2)] [] g)) ?_
  intro fb9 ih tag x2 g r h
  refine ⟨fun h9 => ?_, fun h9 => ?_⟩
  · subst h9
    replace h := hT h rfl
    refine AW.iload_n 1 dX1_giveBest_35 rfl ?_
    refine AW.aloadr_n 0 dX1_giveBest_36 rfl ?_
    refine AW.getI af_X1_64_9 sr_9_10 dX1_giveBest_37 ?_
    refine AW.icmp_ge (tgt := 68) dX1_giveBest_40 (by decide) (fun c1 => ?_) (fun c1 => ?_)
    · replace h := hT h c1
      refine AW.aloadr_n 0 dX1_giveBest_68 rfl ?_
      refine AW.getR af_X1_39_9 sr_9_12 dX1_giveBest_69 ?_
      refine AW.aloadr_n 0 dX1_giveBest_72 rfl ?_
      refine AW.getI af_X1_48_9 sr_9_4 dX1_giveBest_73 ?_
      refine AW.iconst dX1_giveBest_76 ?_
      obtain ⟨k2, h⟩ := hK h
      obtain ⟨g3, e4, h⟩ := hBe h
      refine AW.iast kc_94 sk_94 k2 dX1_giveBest_77 e4 ?_
      refine AW.aloadr_n 0 dX1_giveBest_78 rfl ?_
      refine AW.getI af_X1_48_9 sr_9_4 dX1_giveBest_79 ?_
      refine AW.iconst dX1_giveBest_82 ?_
      refine AW.isub dX1_giveBest_83 ?_
      refine AW.istore_n (lv1 := [(2, iv ((g3 9 4) - 1)), (0, rv z 9)]) dX1_giveBest_84 (by decide) rfl ?_
      refine AW.sub (lv1 := [(0, rv z 9), (2, iv ((g3 9 4) - 1))]) [1, 0] rfl ?_
      exact (ih _ _ _ _ h).2 rfl
    · replace h := hF h c1
      refine AW.aloadr_n 0 dX1_giveBest_43 rfl ?_
      refine AW.getR af_X1_33_9 sr_9_8 dX1_giveBest_44 ?_
      refine AW.iload_n 1 dX1_giveBest_47 rfl ?_
      refine AW.aloadr_n 0 dX1_giveBest_48 rfl ?_
      refine AW.getR af_X1_30_9 sr_9_7 dX1_giveBest_49 ?_
      refine AW.iload_n 1 dX1_giveBest_52 rfl ?_
      obtain ⟨k5, h⟩ := hK h
      refine AW.iald kc_91 sk_91 k5 dX1_giveBest_53 ?_
      obtain ⟨g6, e7, h⟩ := hBe h
      refine AW.iast kc_92 sk_92 k5 dX1_giveBest_54 e7 ?_
      refine AW.aloadr_n 0 dX1_giveBest_55 rfl ?_
      refine AW.getR af_X1_36_9 sr_9_9 dX1_giveBest_56 ?_
      refine AW.iload_n 1 dX1_giveBest_59 rfl ?_
      refine AW.iconst dX1_giveBest_60 ?_
      obtain ⟨g8, e9, h⟩ := hBe h
      refine AW.iast kc_93 sk_93 k5 dX1_giveBest_61 e9 ?_
      refine AW.iinc (lv1 := [(2, iv (x2 + 1)), (0, rv z 9)]) 1 dX1_giveBest_62 rfl (by decide) rfl ?_
      refine AW.goto (tgt := 35) dX1_giveBest_65 (by decide) ?_
      refine AW.sub (lv1 := [(0, rv z 9), (2, iv (x2 + 1))]) [1, 0] rfl ?_
      exact (ih _ _ _ _ h).1 rfl
  · subst h9
    replace h := hF h (by decide)
    replace h := hT h rfl
    refine AW.iload_n 1 dX1_giveBest_85 rfl ?_
    refine AW.if_lt (tgt := 128) dX1_giveBest_86 (by decide) (fun c1 => ?_) (fun c1 => ?_)
    · replace h := hT h c1
      refine AW.aloadr_n 0 dX1_giveBest_128 rfl ?_
      refine AW.iconst dX1_giveBest_129 ?_
      refine AW.iconst dX1_giveBest_130 ?_
      obtain ⟨r2, e3, h⟩ := hC h
      refine AW.callSv (As := [rv z 9, iv 0, iv 0]) (st := []) ((Bookings_giveNext_ok (n := 10)) e3) cq_X1_77 st_X1_giveNext (Nat.le_trans (by decide) hdd) rfl dX1_giveBest_131 rfl (Nat.le_of_ble_eq_true rfl) ?_
      exact AW.vret1 rfl dX1_giveBest_134 h rfl
    · replace h := hF h c1
      refine AW.aloadr_n 0 dX1_giveBest_89 rfl ?_
      refine AW.getR af_X1_39_9 sr_9_12 dX1_giveBest_90 ?_
      refine AW.iload_n 1 dX1_giveBest_93 rfl ?_
      refine AW.aloadr_n 0 dX1_giveBest_94 rfl ?_
      refine AW.getR af_X1_39_9 sr_9_12 dX1_giveBest_95 ?_
      refine AW.iload_n 1 dX1_giveBest_98 rfl ?_
      refine AW.iconst dX1_giveBest_99 ?_
      refine AW.iadd dX1_giveBest_100 ?_
      obtain ⟨k4, h⟩ := hK h
      refine AW.iald kc_94 sk_94 k4 dX1_giveBest_101 ?_
      refine AW.aloadr_n 0 dX1_giveBest_102 rfl ?_
      refine AW.aloadr_n 0 dX1_giveBest_103 rfl ?_
      refine AW.getR af_X1_24_9 sr_9_5 dX1_giveBest_104 ?_
      refine AW.iload_n 1 dX1_giveBest_107 rfl ?_
      obtain ⟨k5, h⟩ := hK h
      refine AW.iald kc_89 sk_89 k5 dX1_giveBest_108 ?_
      obtain ⟨r6, e7, h⟩ := hC h
      refine AW.callVi (As := [iv (g 89 (ix x2))]) (st := [iv (g 94 (ix (x2 + 1))), iv x2, rv z 94]) (Bookings_canEverBeGiven_ok e7) cq_X1_73 cr_9_X1_canEverBeGiven (Nat.le_trans (by decide) hdd) rfl dX1_giveBest_109 rfl (Nat.le_of_ble_eq_true rfl) ?_
      obtain ⟨t8, e9, h⟩ := hBe h
      refine AW.join (tgt := 120) (lv1 := [(0, rv z 9), (2, iv x2)]) (st1 := [iv t8, iv (g 94 (ix (x2 + 1))), iv x2, rv z 94]) (g1 := r6.2) ?_ (fun J112 => ?_)
      · refine AW.iadd dX1_giveBest_120 ?_
        obtain ⟨k10, h⟩ := hK h
        obtain ⟨g11, e12, h⟩ := hBe h
        refine AW.iast kc_94 sk_94 k10 dX1_giveBest_121 e12 ?_
        refine AW.iinc (lv1 := [(2, iv (x2 + (-1))), (0, rv z 9)]) 1 dX1_giveBest_122 rfl (by decide) rfl ?_
        refine AW.goto (tgt := 85) dX1_giveBest_125 (by decide) ?_
        refine AW.sub (lv1 := [(0, rv z 9), (2, iv (x2 + (-1)))]) [1, 0] rfl ?_
        exact (ih _ _ _ _ h).2 rfl
      refine AW.if_eq (tgt := 119) dX1_giveBest_112 (by decide) (fun c13 => ?_) (fun c13 => ?_)
      · refine AW.iconst dX1_giveBest_119 ?_
        exact AW.val (e9.trans (if_pos c13)) J112
      · refine AW.iconst dX1_giveBest_115 ?_
        refine AW.goto (tgt := 120) dX1_giveBest_116 (by decide) ?_
        exact AW.val (e9.trans (if_neg c13)) J112
theorem Bookings_giveBest_ok {z : AZ} {x1 : Int} {g : AG} {r : Int × AG} (h : Bookings_giveBest x1 g = some r) : AMf z yX1_giveBest cX1_giveBest 3 none 13 [rv z 9, iv x1] g r := by
  intro d hdd
  refine AM.of (by decide +kernel) (Nat.le_of_ble_eq_true rfl) ?_
  show AW z (RX1, cX1_giveBest, 3, none) d (QD none r) 0 [(0, rv z 9), (1, iv x1)] [] g
  unfold Bookings_giveBest at h
  refine AW.iload_n 1 dX1_giveBest_0 rfl ?_
  refine AW.aloadr_n 0 dX1_giveBest_1 rfl ?_
  refine AW.getI af_X1_52_9 sr_9_11 dX1_giveBest_2 ?_
  refine AW.icmp_ne (tgt := 9) dX1_giveBest_5 (by decide) (fun c1 => ?_) (fun c1 => ?_)
  · replace h := hF h c1
    refine AW.aloadr_n 0 dX1_giveBest_9 rfl ?_
    refine AW.iload_n 1 dX1_giveBest_10 rfl ?_
    refine AW.iconst dX1_giveBest_11 ?_
    refine AW.mmin (st := [rv z 9]) cm_X1_58 mst_min mini mcd_min (Nat.le_trans (by decide) hdd) (Nat.le_of_ble_eq_true rfl) dX1_giveBest_12 ?_
    obtain ⟨g2, e3, h⟩ := hBe h
    refine AW.putI ap_X1_64_9 sr_9_10 dX1_giveBest_15 e3 ?_
    refine AW.aloadr_n 0 dX1_giveBest_18 rfl ?_
    refine AW.iload_n 1 dX1_giveBest_19 rfl ?_
    obtain ⟨g4, e5, h⟩ := hBe h
    refine AW.putI ap_X1_52_9 sr_9_11 dX1_giveBest_20 e5 ?_
    refine AW.aloadr_n 0 dX1_giveBest_23 rfl ?_
    refine AW.iconst dX1_giveBest_24 ?_
    obtain ⟨g6, e7, h⟩ := hBe h
    refine AW.putI ap_X1_67_9 sr_9_15 dX1_giveBest_25 e7 ?_
    refine AW.aloadr_n 0 dX1_giveBest_28 rfl ?_
    refine AW.iconst dX1_giveBest_29 ?_
    obtain ⟨g8, e9, h⟩ := hBe h
    refine AW.putI ap_X1_70_9 sr_9_16 dX1_giveBest_30 e9 ?_
    refine AW.iconst dX1_giveBest_33 ?_
    refine AW.istore_n (lv1 := [(2, iv 0), (0, rv z 9), (1, iv x1)]) dX1_giveBest_34 (by decide) rfl ?_
    refine AW.sub (lv1 := [(0, rv z 9), (2, iv 0)]) [1, 0] rfl ?_
    exact (Bookings_giveBest_b_ok hdd _ _ _ _ h).1 rfl
  · replace h := hT h c1
    exact AW.vret1 rfl dX1_giveBest_8 h rfl
theorem X_given_ok {z : AZ} {x1 : Int} {x2 : Int} {g : AG} {r : Int × AG} (h : X_given x1 x2 g = some r) : AMf z yX11_given cX11_given 3 (some .int) 14 [rv z 0, iv x1, iv x2] g r := by
  intro d hdd
  refine AM.of (by decide +kernel) (Nat.le_of_ble_eq_true rfl) ?_
  show AW z (RX11, cX11_given, 3, (some .int)) d (QD (some .int) r) 0 [(0, rv z 0), (1, iv x1), (2, iv x2)] [] g
  unfold X_given at h
  refine AW.iload_n 1 dX11_given_0 rfl ?_
  refine AW.iconst dX11_given_1 ?_
  refine AW.iconst dX11_given_2 ?_
  refine AW.callSi (As := [iv x1, iv 1, iv 4]) (st := []) X_within_ok cq_X11_99 st_X11_within (Nat.le_trans (by decide) hdd) rfl dX11_given_3 rfl (Nat.le_of_ble_eq_true rfl) ?_
  refine AW.if_eq (tgt := 20) dX11_given_6 (by decide) (fun c1 => ?_) (fun c1 => ?_)
  · replace h := hT h c1
    refine AW.iconst dX11_given_20 ?_
    exact AW.iret1 rfl dX11_given_21 h rfl
  · replace h := hF h c1
    refine AW.iload_n 1 dX11_given_9 rfl ?_
    refine AW.aloadr_n 0 dX11_given_10 rfl ?_
    refine AW.getR af_X11_49_0 sr_0_5 dX11_given_11 ?_
    refine AW.getI af_X11_103_6 sr_6_7 dX11_given_14 ?_
    refine AW.icmp_le (tgt := 22) dX11_given_17 (by decide) (fun c2 => ?_) (fun c2 => ?_)
    · replace h := hT h c2
      refine AW.aloadr_n 0 dX11_given_22 rfl ?_
      refine AW.iload_n 1 dX11_given_23 rfl ?_
      obtain ⟨r3, e4, h⟩ := hC h
      refine AW.callVv (As := [iv x1]) (st := []) (X_hireFirst_ok e4) cq_X11_271 cr_0_X11_hireFirst (Nat.le_trans (by decide) hdd) rfl dX11_given_24 rfl (Nat.le_of_ble_eq_true rfl) ?_
      refine AW.aloadr_n 0 dX11_given_27 rfl ?_
      refine AW.getR af_X11_72_0 sr_0_8 dX11_given_28 ?_
      refine AW.iload_n 1 dX11_given_31 rfl ?_
      obtain ⟨r5, e6, h⟩ := hC h
      refine AW.callVv (As := [iv x1]) (st := []) (Bookings_giveBest_ok e6) cq_X11_274 cr_9_X1_giveBest (Nat.le_trans (by decide) hdd) rfl dX11_given_32 rfl (Nat.le_of_ble_eq_true rfl) ?_
      refine AW.iload_n 2 dX11_given_35 rfl ?_
      refine AW.if_ne (tgt := 47) dX11_given_36 (by decide) (fun c7 => ?_) (fun c7 => ?_)
      · replace h := hF h c7
        refine AW.iload_n 2 dX11_given_47 rfl ?_
        refine AW.iconst dX11_given_48 ?_
        refine AW.icmp_ne (tgt := 60) dX11_given_49 (by decide) (fun c8 => ?_) (fun c8 => ?_)
        · replace h := hF h c8
          refine AW.iload_n 2 dX11_given_60 rfl ?_
          refine AW.bipush dX11_given_61 (by decide) (by decide) ?_
          refine AW.icmp_lt (tgt := 80) dX11_given_63 (by decide) (fun c9 => ?_) (fun c9 => ?_)
          · replace h := hT h c9
            refine AW.iconst dX11_given_80 ?_
            exact AW.iret1 rfl dX11_given_81 h rfl
          · replace h := hF h c9
            refine AW.iload_n 2 dX11_given_66 rfl ?_
            refine AW.bipush dX11_given_67 (by decide) (by decide) ?_
            refine AW.isub dX11_given_69 ?_
            refine AW.aloadr_n 0 dX11_given_70 rfl ?_
            refine AW.getR af_X11_72_0 sr_0_8 dX11_given_71 ?_
            refine AW.getI af_X11_283_9 sr_9_4 dX11_given_74 ?_
            refine AW.icmp_lt (tgt := 82) dX11_given_77 (by decide) (fun c10 => ?_) (fun c10 => ?_)
            · replace h := hT h c10
              refine AW.aloadr_n 0 dX11_given_82 rfl ?_
              refine AW.getR af_X11_72_0 sr_0_8 dX11_given_83 ?_
              refine AW.getR af_X11_284_9 sr_9_14 dX11_given_86 ?_
              refine AW.iload_n 2 dX11_given_89 rfl ?_
              refine AW.bipush dX11_given_90 (by decide) (by decide) ?_
              refine AW.isub dX11_given_92 ?_
              obtain ⟨k11, h⟩ := hK h
              refine AW.iald kc_96 sk_96 k11 dX11_given_93 ?_
              exact AW.iret1 rfl dX11_given_94 h rfl
            · replace h := hF h c10
              refine AW.iconst dX11_given_80 ?_
              exact AW.iret1 rfl dX11_given_81 h rfl
        · replace h := hT h c8
          refine AW.aloadr_n 0 dX11_given_52 rfl ?_
          refine AW.getR af_X11_72_0 sr_0_8 dX11_given_53 ?_
          refine AW.getI af_X11_280_9 sr_9_16 dX11_given_56 ?_
          exact AW.iret1 rfl dX11_given_59 h rfl
      · replace h := hT h c7
        refine AW.aloadr_n 0 dX11_given_39 rfl ?_
        refine AW.getR af_X11_72_0 sr_0_8 dX11_given_40 ?_
        refine AW.getI af_X11_277_9 sr_9_15 dX11_given_43 ?_
        exact AW.iret1 rfl dX11_given_46 h rfl
    · replace h := hF h c2
      refine AW.iconst dX11_given_20 ?_
      exact AW.iret1 rfl dX11_given_21 h rfl
theorem X_more_ok {z : AZ} {x1 : Int} {x2 : Int} {x3 : Int} {g : AG} {r : Int × AG} (h : X_more x1 x2 x3 g = some r) : AMf z yX11_more cX11_more 5 (some .int) 14 [rv z 0, iv x1, iv x2, iv x3] g r := by
  intro d hdd
  refine AM.of (by decide +kernel) (Nat.le_of_ble_eq_true rfl) ?_
  show AW z (RX11, cX11_more, 5, (some .int)) d (QD (some .int) r) 0 [(0, rv z 0), (1, iv x1), (2, iv x2), (3, iv x3)] [] g
  unfold X_more at h
  refine AW.iload_n 1 dX11_more_0 rfl ?_
  refine AW.iconst dX11_more_1 ?_
  refine AW.iconst dX11_more_2 ?_
  refine AW.callSi (As := [iv x1, iv 1, iv 3]) (st := []) X_within_ok cq_X11_99 st_X11_within (Nat.le_trans (by decide) hdd) rfl dX11_more_3 rfl (Nat.le_of_ble_eq_true rfl) ?_
  refine AW.if_eq (tgt := 20) dX11_more_6 (by decide) (fun c1 => ?_) (fun c1 => ?_)
  · replace h := hT h c1
    refine AW.iconst dX11_more_20 ?_
    exact AW.iret1 rfl dX11_more_21 h rfl
  · replace h := hF h c1
    refine AW.iload_n 1 dX11_more_9 rfl ?_
    refine AW.aloadr_n 0 dX11_more_10 rfl ?_
    refine AW.getR af_X11_49_0 sr_0_5 dX11_more_11 ?_
    refine AW.getI af_X11_103_6 sr_6_7 dX11_more_14 ?_
    refine AW.icmp_le (tgt := 22) dX11_more_17 (by decide) (fun c2 => ?_) (fun c2 => ?_)
    · replace h := hT h c2
      refine AW.iload_n 2 dX11_more_22 rfl ?_
      refine AW.callSi (As := [iv x2]) (st := []) X_isBerths_ok cq_X11_143 st_X11_isBerths (Nat.le_trans (by decide) hdd) rfl dX11_more_23 rfl (Nat.le_of_ble_eq_true rfl) ?_
      refine AW.if_eq (tgt := 36) dX11_more_26 (by decide) (fun c3 => ?_) (fun c3 => ?_)
      · replace h := hT h c3
        refine AW.iconst dX11_more_36 ?_
        exact AW.iret1 rfl dX11_more_37 h rfl
      · replace h := hF h c3
        refine AW.iload_n 3 dX11_more_29 rfl ?_
        refine AW.callSi (As := [iv x3]) (st := []) X_isPoint_ok cq_X11_111 st_X11_isPoint (Nat.le_trans (by decide) hdd) rfl dX11_more_30 rfl (Nat.le_of_ble_eq_true rfl) ?_
        refine AW.if_ne (tgt := 38) dX11_more_33 (by decide) (fun c4 => ?_) (fun c4 => ?_)
        · replace h := hF h c4
          refine AW.aloadr_n 0 dX11_more_38 rfl ?_
          refine AW.iload_n 1 dX11_more_39 rfl ?_
          obtain ⟨r5, e6, h⟩ := hC h
          refine AW.callVv (As := [iv x1]) (st := []) (X_hireFirst_ok e6) cq_X11_271 cr_0_X11_hireFirst (Nat.le_trans (by decide) hdd) rfl dX11_more_40 rfl (Nat.le_of_ble_eq_true rfl) ?_
          refine AW.aloadr_n 0 dX11_more_43 rfl ?_
          refine AW.getR af_X11_72_0 sr_0_8 dX11_more_44 ?_
          refine AW.iload_n 1 dX11_more_47 rfl ?_
          refine AW.iload_n 2 dX11_more_48 rfl ?_
          refine AW.iload_n 3 dX11_more_49 rfl ?_
          obtain ⟨r7, e8, h⟩ := hC h
          refine AW.callVv (As := [iv x1, iv x2, iv x3]) (st := []) (Bookings_hire_ok e8) cq_X11_293 cr_9_X1_hire (Nat.le_trans (by decide) hdd) rfl dX11_more_50 rfl (Nat.le_of_ble_eq_true rfl) ?_
          refine AW.aloadr_n 0 dX11_more_53 rfl ?_
          refine AW.getR af_X11_72_0 sr_0_8 dX11_more_54 ?_
          refine AW.iload_n 1 dX11_more_57 rfl ?_
          obtain ⟨r9, e10, h⟩ := hC h
          refine AW.callVv (As := [iv x1]) (st := []) (Bookings_giveBest_ok e10) cq_X11_274 cr_9_X1_giveBest (Nat.le_trans (by decide) hdd) rfl dX11_more_58 rfl (Nat.le_of_ble_eq_true rfl) ?_
          refine AW.aloadr_n 0 dX11_more_61 rfl ?_
          refine AW.getR af_X11_72_0 sr_0_8 dX11_more_62 ?_
          refine AW.getI af_X11_277_9 sr_9_15 dX11_more_65 ?_
          refine AW.istore (lv1 := [(4, iv (r9.2 9 15)), (0, rv z 0), (1, iv x1), (2, iv x2), (3, iv x3)]) dX11_more_68 (by decide) rfl ?_
          refine AW.aloadr_n 1 dX11_more_70 rfl ?_
          refine AW.getR af_X11_72_0 sr_0_8 dX11_more_71 ?_
          refine AW.iload_n 2 dX11_more_74 rfl ?_
          refine AW.iconst dX11_more_75 ?_
          refine AW.iadd dX11_more_76 ?_
          obtain ⟨r11, e12, h⟩ := hC h
          refine AW.callVv (As := [iv (x1 + 1)]) (st := []) (Bookings_giveBest_ok e12) cq_X11_274 cr_9_X1_giveBest (Nat.le_trans (by decide) hdd) rfl dX11_more_77 rfl (Nat.le_of_ble_eq_true rfl) ?_
          refine AW.aloadr_n 1 dX11_more_80 rfl ?_
          refine AW.getR af_X11_72_0 sr_0_8 dX11_more_81 ?_
          refine AW.getI af_X11_277_9 sr_9_15 dX11_more_84 ?_
          refine AW.iload 0 dX11_more_87 rfl ?_
          refine AW.isub dX11_more_89 ?_
          exact AW.iret1 rfl dX11_more_90 h rfl
        · replace h := hT h c4
          refine AW.iconst dX11_more_36 ?_
          exact AW.iret1 rfl dX11_more_37 h rfl
    · replace h := hF h c2
      refine AW.iconst dX11_more_20 ?_
      exact AW.iret1 rfl dX11_more_21 h rfl
set_option synthInstance.maxHeartbeats 2000000 in
theorem Yard_othersInDock_b_ok {z : AZ} {d : Nat} (hdd : 0 ≤ d) {x1 : Int} : ∀ (x2 : Int) (x3 : Int) (g : AG) (r : Int × AG), Yard_othersInDock_b x1 x2 x3 g = some r → AW z (RX10, cX10_othersInDock, 4, (some .int)) d (QD (some .int) r) 4 [(0, rv z 10), (1, iv x1), (2, iv x2), (3, iv x3)] [] g := by
  refine Yard_othersInDock_b.partial_correctness x1 (fun x2 x3 g r => AW z (RX10, cX10_othersInDock, 4, (some .int)) d (QD (some .int) r) 4 [(0, rv z 10), (1, iv x1), (2, iv x2), (3, iv x3)] [] g) ?_
  intro fb9 ih x2 x3 g r h
  refine AW.iload_n 3 dX10_othersInDock_4 rfl ?_
  refine AW.bipush dX10_othersInDock_5 (by decide) (by decide) ?_
  refine AW.icmp_ge (tgt := 38) dX10_othersInDock_7 (by decide) (fun c1 => ?_) (fun c1 => ?_)
  · replace h := hT h c1
    refine AW.iload_n 2 dX10_othersInDock_38 rfl ?_
    exact AW.iret1 rfl dX10_othersInDock_39 h rfl
  · replace h := hF h c1
    refine AW.iload_n 2 dX10_othersInDock_10 rfl ?_
    refine AW.iload_n 3 dX10_othersInDock_11 rfl ?_
    refine AW.iload_n 1 dX10_othersInDock_12 rfl ?_
    obtain ⟨r7, e8, h⟩ := hC h
    refine AW.join (tgt := 30) (lv1 := [(0, rv z 10), (1, iv x1), (3, iv x3)]) (st1 := [iv r7.1, iv x2]) (g1 := r7.2) ?_ (fun J13 => ?_)
    · refine AW.iadd dX10_othersInDock_30 ?_
      refine AW.istore_n (lv1 := [(2, iv (x2 + r7.1)), (0, rv z 10), (1, iv x1), (3, iv x3)]) dX10_othersInDock_31 (by decide) rfl ?_
      refine AW.iinc (lv1 := [(3, iv (x3 + 1)), (2, iv (x2 + r7.1)), (0, rv z 10), (1, iv x1)]) 3 dX10_othersInDock_32 rfl (by decide) rfl ?_
      refine AW.goto (tgt := 4) dX10_othersInDock_35 (by decide) ?_
      refine AW.sub (lv1 := [(0, rv z 10), (1, iv x1), (2, iv (x2 + r7.1)), (3, iv (x3 + 1))]) [2, 3, 1, 0] rfl ?_
      exact ih _ _ _ _ h
    replace h := e8
    refine AW.icmp_eq (tgt := 29) dX10_othersInDock_13 (by decide) (fun c2 => ?_) (fun c2 => ?_)
    · replace h := hT h c2
      refine AW.iconst dX10_othersInDock_29 ?_
      refine AW.sub (lv1 := [(0, rv z 10), (1, iv x1), (3, iv x3)]) [0, 1, 3] rfl ?_
      cases h
      exact J13
    · replace h := hF h c2
      refine AW.aloadr_n 0 dX10_othersInDock_16 rfl ?_
      refine AW.getR af_X10_15_10 sr_10_1 dX10_othersInDock_17 ?_
      refine AW.iload_n 3 dX10_othersInDock_20 rfl ?_
      obtain ⟨k3, h⟩ := hK h
      refine AW.iald kc_98 sk_98 k3 dX10_othersInDock_21 ?_
      obtain ⟨t4, e5, h⟩ := hBe h
      refine AW.join (tgt := 30) (lv1 := [(0, rv z 10), (1, iv x1), (2, iv x2), (3, iv x3)]) (st1 := [iv t4, iv x2]) (g1 := g) ?_ (fun J22 => ?_)
      · refine AW.sub (lv1 := [(0, rv z 10), (1, iv x1), (3, iv x3)]) [0, 1, 3] rfl ?_
        cases h
        exact J13
      refine AW.if_le (tgt := 29) dX10_othersInDock_22 (by decide) (fun c6 => ?_) (fun c6 => ?_)
      · refine AW.iconst dX10_othersInDock_29 ?_
        exact AW.val (e5.trans (if_pos c6)) J22
      · refine AW.iconst dX10_othersInDock_25 ?_
        refine AW.goto (tgt := 30) dX10_othersInDock_26 (by decide) ?_
        exact AW.val (e5.trans (if_neg c6)) J22
theorem Yard_othersInDock_ok {z : AZ} {x1 : Int} {g : AG} {r : Int × AG} (h : Yard_othersInDock x1 g = some r) : AMf z yX10_othersInDock cX10_othersInDock 4 (some .int) 0 [rv z 10, iv x1] g r := by
  intro d hdd
  refine AM.of (by decide +kernel) (Nat.le_of_ble_eq_true rfl) ?_
  show AW z (RX10, cX10_othersInDock, 4, (some .int)) d (QD (some .int) r) 0 [(0, rv z 10), (1, iv x1)] [] g
  unfold Yard_othersInDock at h
  refine AW.iconst dX10_othersInDock_0 ?_
  refine AW.istore_n (lv1 := [(2, iv 0), (0, rv z 10), (1, iv x1)]) dX10_othersInDock_1 (by decide) rfl ?_
  refine AW.iconst dX10_othersInDock_2 ?_
  refine AW.istore_n (lv1 := [(3, iv 0), (2, iv 0), (0, rv z 10), (1, iv x1)]) dX10_othersInDock_3 (by decide) rfl ?_
  refine AW.sub (lv1 := [(0, rv z 10), (1, iv x1), (2, iv 0), (3, iv 0)]) [2, 3, 1, 0] rfl ?_
  exact Yard_othersInDock_b_ok hdd _ _ _ _ h
set_option synthInstance.maxHeartbeats 2000000 in
theorem Yard_tellDock_b_ok {z : AZ} {d : Nat} (hdd : 1 ≤ d) {x1 : Int} {x2 : Int} {x3 : Int} {g : AG} : ∀ (r : Int × AG), Yard_tellDock_b x1 x2 x3 g = some r → AW z (RX10, cX10_tellDock, 4, (some .boolean)) d (QD (some .boolean) r) 16 [(0, rv z 10), (1, iv x1), (2, iv x2), (3, iv x3)] [] g := by
  refine Yard_tellDock_b.partial_correctness x1 x2 x3 g (fun r => AW z (RX10, cX10_tellDock, 4, (some .boolean)) d (QD (some .boolean) r) 16 [(0, rv z 10), (1, iv x1), (2, iv x2), (3, iv x3)] [] g) ?_
  intro fb9 ih r h
  refine AW.aloadr_n 0 dX10_tellDock_16 rfl ?_
  refine AW.getR af_X10_9_10 sr_10_0 dX10_tellDock_17 ?_
  refine AW.iload_n 1 dX10_tellDock_20 rfl ?_
  refine AW.iload_n 2 dX10_tellDock_21 rfl ?_
  obtain ⟨k1, h⟩ := hK h
  obtain ⟨g2, e3, h⟩ := hBe h
  refine AW.iast kc_97 sk_97 k1 dX10_tellDock_22 e3 ?_
  refine AW.aloadr_n 0 dX10_tellDock_23 rfl ?_
  refine AW.getR af_X10_15_10 sr_10_1 dX10_tellDock_24 ?_
  refine AW.iload_n 1 dX10_tellDock_27 rfl ?_
  refine AW.iload_n 3 dX10_tellDock_28 rfl ?_
  obtain ⟨g4, e5, h⟩ := hBe h
  refine AW.iast kc_98 sk_98 k1 dX10_tellDock_29 e5 ?_
  refine AW.iconst dX10_tellDock_30 ?_
  exact AW.zret1 rfl (Or.inr rfl) dX10_tellDock_31 h rfl
theorem Yard_tellDock_ok {z : AZ} {x1 : Int} {x2 : Int} {x3 : Int} {g : AG} {r : Int × AG} (h : Yard_tellDock x1 x2 x3 g = some r) : AMf z yX10_tellDock cX10_tellDock 4 (some .boolean) 1 [rv z 10, iv x1, iv x2, iv x3] g r := by
  intro d hdd
  refine AM.of (by decide +kernel) (Nat.le_of_ble_eq_true rfl) ?_
  show AW z (RX10, cX10_tellDock, 4, (some .boolean)) d (QD (some .boolean) r) 0 [(0, rv z 10), (1, iv x1), (2, iv x2), (3, iv x3)] [] g
  unfold Yard_tellDock at h
  refine AW.iload_n 3 dX10_tellDock_0 rfl ?_
  refine AW.if_le (tgt := 16) dX10_tellDock_1 (by decide) (fun c1 => ?_) (fun c1 => ?_)
  · replace h := hT h c1
    exact Yard_tellDock_b_ok hdd _ h
  · replace h := hF h c1
    refine AW.aloadr_n 0 dX10_tellDock_4 rfl ?_
    refine AW.iload_n 1 dX10_tellDock_5 rfl ?_
    obtain ⟨r2, e3, h⟩ := hC h
    refine AW.callVi (As := [iv x1]) (st := []) (Yard_othersInDock_ok e3) cq_X10_42 cr_10_X10_othersInDock (Nat.le_trans (by decide) hdd) rfl dX10_tellDock_6 rfl (Nat.le_of_ble_eq_true rfl) ?_
    refine AW.bipush dX10_tellDock_9 (by decide) (by decide) ?_
    refine AW.icmp_lt (tgt := 16) dX10_tellDock_11 (by decide) (fun c4 => ?_) (fun c4 => ?_)
    · replace h := hT h c4
      exact Yard_tellDock_b_ok hdd _ h
    · replace h := hF h c4
      refine AW.iconst dX10_tellDock_14 ?_
      exact AW.zret1 rfl (Or.inl rfl) dX10_tellDock_15 h rfl
theorem X_gas_ok {z : AZ} {x1 : Int} {x2 : Int} {x3 : Int} {g : AG} {r : Int × AG} (h : X_gas x1 x2 x3 g = some r) : AMf z yX11_gas cX11_gas 4 (some .boolean) 2 [rv z 0, iv x1, iv x2, iv x3] g r := by
  intro d hdd
  refine AM.of (by decide +kernel) (Nat.le_of_ble_eq_true rfl) ?_
  show AW z (RX11, cX11_gas, 4, (some .boolean)) d (QD (some .boolean) r) 0 [(0, rv z 0), (1, iv x1), (2, iv x2), (3, iv x3)] [] g
  unfold X_gas at h
  refine AW.aloadr_n 0 dX11_gas_0 rfl ?_
  refine AW.iload_n 1 dX11_gas_1 rfl ?_
  refine AW.callVi (As := [iv x1]) (st := []) X_isBoat_ok cq_X11_107 cr_0_X11_isBoat (Nat.le_trans (by decide) hdd) rfl dX11_gas_2 rfl (Nat.le_of_ble_eq_true rfl) ?_
  refine AW.if_eq (tgt := 29) dX11_gas_5 (by decide) (fun c1 => ?_) (fun c1 => ?_)
  · replace h := hT h c1
    refine AW.iconst dX11_gas_29 ?_
    exact AW.zret1 rfl (Or.inl rfl) dX11_gas_30 h rfl
  · replace h := hF h c1
    refine AW.iload_n 2 dX11_gas_8 rfl ?_
    refine AW.iconst dX11_gas_9 ?_
    refine AW.sipush dX11_gas_10 (by decide) (by decide) ?_
    refine AW.callSi (As := [iv x2, iv 0, iv 999]) (st := []) X_within_ok cq_X11_99 st_X11_within (Nat.le_trans (by decide) hdd) rfl dX11_gas_13 rfl (Nat.le_of_ble_eq_true rfl) ?_
    refine AW.if_eq (tgt := 29) dX11_gas_16 (by decide) (fun c2 => ?_) (fun c2 => ?_)
    · replace h := hT h c2
      refine AW.iconst dX11_gas_29 ?_
      exact AW.zret1 rfl (Or.inl rfl) dX11_gas_30 h rfl
    · replace h := hF h c2
      refine AW.iload_n 3 dX11_gas_19 rfl ?_
      refine AW.iconst dX11_gas_20 ?_
      refine AW.bipush dX11_gas_21 (by decide) (by decide) ?_
      refine AW.callSi (As := [iv x3, iv 0, iv 60]) (st := []) X_within_ok cq_X11_99 st_X11_within (Nat.le_trans (by decide) hdd) rfl dX11_gas_23 rfl (Nat.le_of_ble_eq_true rfl) ?_
      refine AW.if_ne (tgt := 31) dX11_gas_26 (by decide) (fun c3 => ?_) (fun c3 => ?_)
      · replace h := hF h c3
        refine AW.aloadr_n 0 dX11_gas_31 rfl ?_
        refine AW.getR af_X11_79_0 sr_0_9 dX11_gas_32 ?_
        refine AW.iload_n 1 dX11_gas_35 rfl ?_
        refine AW.iload_n 2 dX11_gas_36 rfl ?_
        refine AW.iload_n 3 dX11_gas_37 rfl ?_
        obtain ⟨r4, e5, h⟩ := hC h
        refine AW.callVi (As := [iv x1, iv x2, iv x3]) (st := []) (Yard_tellDock_ok e5) cq_X11_296 cr_10_X10_tellDock (Nat.le_trans (by decide) hdd) rfl dX11_gas_38 rfl (Nat.le_of_ble_eq_true rfl) ?_
        obtain ⟨k6, h⟩ := hK h
        exact AW.zret1 rfl k6 dX11_gas_41 h rfl
      · replace h := hT h c3
        refine AW.iconst dX11_gas_29 ?_
        exact AW.zret1 rfl (Or.inl rfl) dX11_gas_30 h rfl
theorem Yard_isBetter_ok {z : AZ} {x1 : Int} {x2 : Int} {x3 : Int} {g : AG} {r : Int × AG} (h : Yard_isBetter x1 x2 x3 g = some r) : AMf z yX10_isBetter cX10_isBetter 4 (some .boolean) 0 [rv z 10, iv x1, iv x2, iv x3] g r := by
  intro d hdd
  refine AM.of (by decide +kernel) (Nat.le_of_ble_eq_true rfl) ?_
  show AW z (RX10, cX10_isBetter, 4, (some .boolean)) d (QD (some .boolean) r) 0 [(0, rv z 10), (1, iv x1), (2, iv x2), (3, iv x3)] [] g
  unfold Yard_isBetter at h
  refine AW.aloadr_n 0 dX10_isBetter_0 rfl ?_
  refine AW.getR af_X10_27_10 sr_10_6 dX10_isBetter_1 ?_
  refine AW.iload_n 1 dX10_isBetter_4 rfl ?_
  obtain ⟨k1, h⟩ := hK h
  refine AW.iald kc_102 sk_102 k1 dX10_isBetter_5 ?_
  refine AW.iconst dX10_isBetter_6 ?_
  obtain ⟨r8, e9, h⟩ := hC h
  refine AW.join (tgt := 45) (lv1 := []) (st1 := [iv r8.1]) (g1 := r8.2) ?_ (fun J7 => ?_)
  · obtain ⟨k10, h⟩ := hK h
    exact AW.zret1 rfl k10 dX10_isBetter_45 h rfl
  replace h := e9
  refine AW.icmp_eq (tgt := 40) dX10_isBetter_7 (by decide) (fun c2 => ?_) (fun c2 => ?_)
  · replace h := hT h c2
    refine AW.iconst dX10_isBetter_40 ?_
    refine AW.goto (tgt := 45) dX10_isBetter_41 (by decide) ?_
    refine AW.sub (lv1 := []) [] rfl ?_
    cases h
    exact J7
  · replace h := hF h c2
    refine AW.iload_n 2 dX10_isBetter_10 rfl ?_
    refine AW.aloadr_n 0 dX10_isBetter_11 rfl ?_
    refine AW.getR af_X10_21_10 sr_10_4 dX10_isBetter_12 ?_
    refine AW.iload_n 1 dX10_isBetter_15 rfl ?_
    refine AW.iald kc_100 sk_100 k1 dX10_isBetter_16 ?_
    refine AW.icmp_lt (tgt := 40) dX10_isBetter_17 (by decide) (fun c3 => ?_) (fun c3 => ?_)
    · replace h := hT h c3
      refine AW.iconst dX10_isBetter_40 ?_
      refine AW.goto (tgt := 45) dX10_isBetter_41 (by decide) ?_
      refine AW.sub (lv1 := []) [] rfl ?_
      cases h
      exact J7
    · replace h := hF h c3
      refine AW.iload_n 2 dX10_isBetter_20 rfl ?_
      refine AW.aloadr_n 0 dX10_isBetter_21 rfl ?_
      refine AW.getR af_X10_21_10 sr_10_4 dX10_isBetter_22 ?_
      refine AW.iload_n 1 dX10_isBetter_25 rfl ?_
      refine AW.iald kc_100 sk_100 k1 dX10_isBetter_26 ?_
      refine AW.icmp_ne (tgt := 44) dX10_isBetter_27 (by decide) (fun c4 => ?_) (fun c4 => ?_)
      · replace h := hF h c4
        refine AW.iconst dX10_isBetter_44 ?_
        refine AW.sub (lv1 := []) [] rfl ?_
        cases h
        exact J7
      · replace h := hT h c4
        refine AW.iload_n 3 dX10_isBetter_30 rfl ?_
        refine AW.aloadr_n 0 dX10_isBetter_31 rfl ?_
        refine AW.getR af_X10_24_10 sr_10_5 dX10_isBetter_32 ?_
        refine AW.iload_n 1 dX10_isBetter_35 rfl ?_
        refine AW.iald kc_101 sk_101 k1 dX10_isBetter_36 ?_
        obtain ⟨t5, e6, h⟩ := hBe h
        refine AW.join (tgt := 45) (lv1 := [(0, rv z 10), (1, iv x1), (2, iv x2), (3, iv x3)]) (st1 := [iv t5]) (g1 := g) ?_ (fun J37 => ?_)
        · refine AW.sub (lv1 := []) [] rfl ?_
          cases h
          exact J7
        refine AW.icmp_ge (tgt := 44) dX10_isBetter_37 (by decide) (fun c7 => ?_) (fun c7 => ?_)
        · refine AW.iconst dX10_isBetter_44 ?_
          exact AW.val (e6.trans (if_pos c7)) J37
        · refine AW.iconst dX10_isBetter_40 ?_
          refine AW.goto (tgt := 45) dX10_isBetter_41 (by decide) ?_
          exact AW.val (e6.trans (if_neg c7)) J37
set_option synthInstance.maxHeartbeats 2000000 in
theorem Yard_chooseNext_b_ok {z : AZ} {d : Nat} (hdd : 1 ≤ d) {x1 : Int} : ∀ (tag : Nat) (x2 : Int) (x3 : Int) (g : AG) (r : Int × AG), Yard_chooseNext_b x1 tag x2 x3 g = some r → (tag = 1 → AW z (RX10, cX10_chooseNext, 7, none) d (QD none r) 4 [(0, rv z 10), (1, iv x1), (2, iv x2), (3, iv x3)] [] g) ∧ (tag = 2 → AW z (RX10, cX10_chooseNext, 7, none) d (QD none r) 53 [(0, rv z 10), (1, iv x1), (2, iv x2), (3, iv x3)] [] g) := by
  refine Yard_chooseNext_b.partial_correctness x1 (fun tag x2 x3 g r => (tag = 1 → AW z (RX10, cX10_chooseNext, 7, none) d (QD none r) 4 [(0, rv z 10), (1, iv x1), (2, iv x2), (3, iv x3)] [] g) ∧ (tag = 2 → AW z (RX10, cX10_chooseNext, 7, none) d (QD none r) 53 [(0, rv z 10), (1, iv x1), (2, iv x2), (3, iv x3)] [] g)) ?_
  intro fb9 ih tag x2 x3 g r h
  refine ⟨fun h9 => ?_, fun h9 => ?_⟩
  · subst h9
    replace h := hT h rfl
    refine AW.iload_n 3 dX10_chooseNext_4 rfl ?_
    refine AW.aloadr_n 0 dX10_chooseNext_5 rfl ?_
    refine AW.getI af_X10_46_10 sr_10_2 dX10_chooseNext_6 ?_
    refine AW.icmp_ge (tgt := 44) dX10_chooseNext_9 (by decide) (fun c1 => ?_) (fun c1 => ?_)
    · replace h := hT h c1
      refine AW.aloadr_n 0 dX10_chooseNext_44 rfl ?_
      refine AW.getR af_X10_27_10 sr_10_6 dX10_chooseNext_45 ?_
      refine AW.iload_n 1 dX10_chooseNext_48 rfl ?_
      refine AW.iconst dX10_chooseNext_49 ?_
      obtain ⟨k2, h⟩ := hK h
      obtain ⟨g3, e4, h⟩ := hBe h
      refine AW.iast kc_102 sk_102 k2 dX10_chooseNext_50 e4 ?_
      refine AW.iconst dX10_chooseNext_51 ?_
      refine AW.istore_n (lv1 := [(3, iv 0), (0, rv z 10), (1, iv x1), (2, iv x2)]) dX10_chooseNext_52 (by decide) rfl ?_
      refine AW.sub (lv1 := [(0, rv z 10), (1, iv x1), (2, iv x2), (3, iv 0)]) [1, 2, 3, 0] rfl ?_
      exact (ih _ _ _ _ _ h).2 rfl
    · replace h := hF h c1
      refine AW.iload_n 2 dX10_chooseNext_12 rfl ?_
      refine AW.iload_n 1 dX10_chooseNext_13 rfl ?_
      refine AW.iload_n 3 dX10_chooseNext_14 rfl ?_
      refine AW.ishr dX10_chooseNext_15 ?_
      refine AW.iconst dX10_chooseNext_16 ?_
      refine AW.iand dX10_chooseNext_17 ?_
      obtain ⟨r8, e9, h⟩ := hC h
      refine AW.join (tgt := 36) (lv1 := [(0, rv z 10), (1, iv x1), (3, iv x3)]) (st1 := [iv r8.1, iv x2]) (g1 := r8.2) ?_ (fun J18 => ?_)
      · refine AW.iadd dX10_chooseNext_36 ?_
        refine AW.istore_n (lv1 := [(2, iv (x2 + r8.1)), (0, rv z 10), (1, iv x1), (3, iv x3)]) dX10_chooseNext_37 (by decide) rfl ?_
        refine AW.iinc (lv1 := [(3, iv (x3 + 1)), (2, iv (x2 + r8.1)), (0, rv z 10), (1, iv x1)]) 3 dX10_chooseNext_38 rfl (by decide) rfl ?_
        refine AW.goto (tgt := 4) dX10_chooseNext_41 (by decide) ?_
        refine AW.sub (lv1 := [(0, rv z 10), (1, iv x1), (2, iv (x2 + r8.1)), (3, iv (x3 + 1))]) [2, 3, 1, 0] rfl ?_
        exact (ih _ _ _ _ _ h).1 rfl
      replace h := e9
      refine AW.if_eq (tgt := 35) dX10_chooseNext_18 (by decide) (fun c5 => ?_) (fun c5 => ?_)
      · replace h := hT h c5
        refine AW.iconst dX10_chooseNext_35 ?_
        refine AW.sub (lv1 := [(0, rv z 10), (1, iv x1), (3, iv x3)]) [0, 1, 3] rfl ?_
        cases h
        exact J18
      · replace h := hF h c5
        refine AW.aloadr_n 0 dX10_chooseNext_21 rfl ?_
        refine AW.getR af_X10_15_10 sr_10_1 dX10_chooseNext_22 ?_
        refine AW.aloadr_n 0 dX10_chooseNext_25 rfl ?_
        refine AW.getR af_X10_18_10 sr_10_3 dX10_chooseNext_26 ?_
        refine AW.iload_n 3 dX10_chooseNext_29 rfl ?_
        obtain ⟨k6, h⟩ := hK h
        refine AW.iald kc_99 sk_99 k6 dX10_chooseNext_30 ?_
        obtain ⟨k7, h⟩ := hK h
        refine AW.iald kc_98 sk_98 k7 dX10_chooseNext_31 ?_
        refine AW.goto (tgt := 36) dX10_chooseNext_32 (by decide) ?_
        refine AW.sub (lv1 := [(0, rv z 10), (1, iv x1), (3, iv x3)]) [0, 1, 3] rfl ?_
        cases h
        exact J18
  · subst h9
    replace h := hF h (by decide)
    replace h := hT h rfl
    refine AW.iload_n 3 dX10_chooseNext_53 rfl ?_
    refine AW.aloadr_n 0 dX10_chooseNext_54 rfl ?_
    refine AW.getI af_X10_46_10 sr_10_2 dX10_chooseNext_55 ?_
    refine AW.icmp_ge (tgt := 174) dX10_chooseNext_58 (by decide) (fun c1 => ?_) (fun c1 => ?_)
    · replace h := hT h c1
      exact AW.vret1 rfl dX10_chooseNext_174 h rfl
    · replace h := hF h c1
      refine AW.iload_n 1 dX10_chooseNext_61 rfl ?_
      refine AW.iload_n 3 dX10_chooseNext_62 rfl ?_
      refine AW.ishr dX10_chooseNext_63 ?_
      refine AW.iconst dX10_chooseNext_64 ?_
      refine AW.iand dX10_chooseNext_65 ?_
      obtain ⟨r19, e20, h⟩ := hC h
      refine AW.join (tgt := 168) (lv1 := [(0, rv z 10), (1, iv x1), (2, iv x2), (3, iv x3)]) (st1 := []) (g1 := r19) ?_ (fun J66 => ?_)
      · refine AW.iinc (lv1 := [(3, iv (x3 + 1)), (0, rv z 10), (1, iv x1), (2, iv x2)]) 3 dX10_chooseNext_168 rfl (by decide) rfl ?_
        refine AW.goto (tgt := 53) dX10_chooseNext_171 (by decide) ?_
        refine AW.sub (lv1 := [(0, rv z 10), (1, iv x1), (2, iv x2), (3, iv (x3 + 1))]) [1, 2, 3, 0] rfl ?_
        exact (ih _ _ _ _ _ h).2 rfl
      replace h := e20
      refine AW.if_ne (tgt := 168) dX10_chooseNext_66 (by decide) (fun c2 => ?_) (fun c2 => ?_)
      · replace h := hF h c2
        cases h
        exact J66
      · replace h := hT h c2
        refine AW.iload_n 2 dX10_chooseNext_69 rfl ?_
        refine AW.aloadr_n 0 dX10_chooseNext_70 rfl ?_
        refine AW.getR af_X10_15_10 sr_10_1 dX10_chooseNext_71 ?_
        refine AW.aloadr_n 0 dX10_chooseNext_74 rfl ?_
        refine AW.getR af_X10_18_10 sr_10_3 dX10_chooseNext_75 ?_
        refine AW.iload_n 3 dX10_chooseNext_78 rfl ?_
        obtain ⟨k3, h⟩ := hK h
        refine AW.iald kc_99 sk_99 k3 dX10_chooseNext_79 ?_
        obtain ⟨k4, h⟩ := hK h
        refine AW.iald kc_98 sk_98 k4 dX10_chooseNext_80 ?_
        refine AW.iadd dX10_chooseNext_81 ?_
        refine AW.istore (lv1 := [(4, iv (x2 + (g 98 (ix (g 99 (ix x3)))))), (0, rv z 10), (1, iv x1), (2, iv x2), (3, iv x3)]) dX10_chooseNext_82 (by decide) rfl ?_
        refine AW.aloadr_n 1 dX10_chooseNext_84 rfl ?_
        refine AW.getR af_X10_21_10 sr_10_4 dX10_chooseNext_85 ?_
        refine AW.iload_n 2 dX10_chooseNext_88 rfl ?_
        refine AW.iconst dX10_chooseNext_89 ?_
        refine AW.iload_n 4 dX10_chooseNext_90 rfl ?_
        refine AW.ishl dX10_chooseNext_91 ?_
        refine AW.ior dX10_chooseNext_92 ?_
        obtain ⟨k5, h⟩ := hK h
        refine AW.iald kc_100 sk_100 k5 dX10_chooseNext_93 ?_
        refine AW.iload 0 dX10_chooseNext_94 rfl ?_
        refine AW.aloadr_n 1 dX10_chooseNext_96 rfl ?_
        refine AW.getR af_X10_9_10 sr_10_0 dX10_chooseNext_97 ?_
        refine AW.aloadr_n 1 dX10_chooseNext_100 rfl ?_
        refine AW.getR af_X10_18_10 sr_10_3 dX10_chooseNext_101 ?_
        refine AW.iload_n 4 dX10_chooseNext_104 rfl ?_
        refine AW.iald kc_99 sk_99 k3 dX10_chooseNext_105 ?_
        refine AW.iald kc_97 sk_97 k4 dX10_chooseNext_106 ?_
        obtain ⟨t6, e7, h⟩ := hBe h
        refine AW.join (tgt := 115) (lv1 := [(4, iv (x2 + (g 98 (ix (g 99 (ix x3)))))), (0, rv z 10), (1, iv x1), (2, iv x2), (3, iv x3)]) (st1 := [iv t6, iv (g 100 (ix (orI x1 (shlI 1 x3))))]) (g1 := g) ?_ (fun J107 => ?_)
        · refine AW.iadd dX10_chooseNext_115 ?_
          refine AW.istore (lv1 := [(5, iv ((g 100 (ix (orI x1 (shlI 1 x3)))) + t6)), (4, iv (x2 + (g 98 (ix (g 99 (ix x3)))))), (0, rv z 10), (1, iv x1), (2, iv x2), (3, iv x3)]) dX10_chooseNext_116 (by decide) rfl ?_
          refine AW.aloadr_n 2 dX10_chooseNext_118 rfl ?_
          refine AW.getR af_X10_24_10 sr_10_5 dX10_chooseNext_119 ?_
          refine AW.iload_n 3 dX10_chooseNext_122 rfl ?_
          refine AW.iconst dX10_chooseNext_123 ?_
          refine AW.iload_n 5 dX10_chooseNext_124 rfl ?_
          refine AW.ishl dX10_chooseNext_125 ?_
          refine AW.ior dX10_chooseNext_126 ?_
          refine AW.iald kc_101 sk_101 k5 dX10_chooseNext_127 ?_
          refine AW.iload 1 dX10_chooseNext_128 rfl ?_
          refine AW.iadd dX10_chooseNext_130 ?_
          refine AW.istore (lv1 := [(6, iv ((g 101 (ix (orI x1 (shlI 1 x3)))) + (x2 + (g 98 (ix (g 99 (ix x3))))))), (5, iv ((g 100 (ix (orI x1 (shlI 1 x3)))) + t6)), (4, iv (x2 + (g 98 (ix (g 99 (ix x3)))))), (0, rv z 10), (1, iv x1), (2, iv x2), (3, iv x3)]) dX10_chooseNext_131 (by decide) rfl ?_
          refine AW.aloadr_n 3 dX10_chooseNext_133 rfl ?_
          refine AW.iload_n 4 dX10_chooseNext_134 rfl ?_
          refine AW.iload 1 dX10_chooseNext_135 rfl ?_
          refine AW.iload 0 dX10_chooseNext_137 rfl ?_
          obtain ⟨r8, e9, h⟩ := hC h
          refine AW.callVi (As := [iv x1, iv ((g 100 (ix (orI x1 (shlI 1 x3)))) + t6), iv ((g 101 (ix (orI x1 (shlI 1 x3)))) + (x2 + (g 98 (ix (g 99 (ix x3))))))]) (st := []) (Yard_isBetter_ok e9) cq_X10_54 cr_10_X10_isBetter (Nat.le_trans (by decide) hdd) rfl dX10_chooseNext_139 rfl (Nat.le_of_ble_eq_true rfl) ?_
          refine AW.if_eq (tgt := 168) dX10_chooseNext_142 (by decide) (fun c10 => ?_) (fun c10 => ?_)
          · replace h := hT h c10
            refine AW.sub (lv1 := [(0, rv z 10), (1, iv x1), (2, iv x2), (3, iv x3)]) [3, 4, 5, 6] rfl ?_
            cases h
            exact J66
          · replace h := hF h c10
            refine AW.aloadr_n 3 dX10_chooseNext_145 rfl ?_
            refine AW.getR af_X10_21_10 sr_10_4 dX10_chooseNext_146 ?_
            refine AW.iload_n 4 dX10_chooseNext_149 rfl ?_
            refine AW.iload 1 dX10_chooseNext_150 rfl ?_
            obtain ⟨k11, h⟩ := hK h
            obtain ⟨g12, e13, h⟩ := hBe h
            refine AW.iast kc_100 sk_100 k11 dX10_chooseNext_152 e13 ?_
            refine AW.aloadr_n 3 dX10_chooseNext_153 rfl ?_
            refine AW.getR af_X10_24_10 sr_10_5 dX10_chooseNext_154 ?_
            refine AW.iload_n 4 dX10_chooseNext_157 rfl ?_
            refine AW.iload 0 dX10_chooseNext_158 rfl ?_
            obtain ⟨g14, e15, h⟩ := hBe h
            refine AW.iast kc_101 sk_101 k11 dX10_chooseNext_160 e15 ?_
            refine AW.aloadr_n 3 dX10_chooseNext_161 rfl ?_
            refine AW.getR af_X10_27_10 sr_10_6 dX10_chooseNext_162 ?_
            refine AW.iload_n 4 dX10_chooseNext_165 rfl ?_
            refine AW.iload_n 6 dX10_chooseNext_166 rfl ?_
            obtain ⟨g16, e17, h⟩ := hBe h
            refine AW.iast kc_102 sk_102 k11 dX10_chooseNext_167 e17 ?_
            refine AW.sub (lv1 := [(0, rv z 10), (1, iv x1), (2, iv x2), (3, iv x3)]) [3, 4, 5, 6] rfl ?_
            cases h
            exact J66
        refine AW.icmp_le (tgt := 114) dX10_chooseNext_107 (by decide) (fun c18 => ?_) (fun c18 => ?_)
        · refine AW.iconst dX10_chooseNext_114 ?_
          exact AW.val (e7.trans (if_pos c18)) J107
        · refine AW.iconst dX10_chooseNext_110 ?_
          refine AW.goto (tgt := 115) dX10_chooseNext_111 (by decide) ?_
          exact AW.val (e7.trans (if_neg c18)) J107
theorem Yard_chooseNext_ok {z : AZ} {x1 : Int} {g : AG} {r : Int × AG} (h : Yard_chooseNext x1 g = some r) : AMf z yX10_chooseNext cX10_chooseNext 7 none 1 [rv z 10, iv x1] g r := by
  intro d hdd
  refine AM.of (by decide +kernel) (Nat.le_of_ble_eq_true rfl) ?_
  show AW z (RX10, cX10_chooseNext, 7, none) d (QD none r) 0 [(0, rv z 10), (1, iv x1)] [] g
  unfold Yard_chooseNext at h
  refine AW.iconst dX10_chooseNext_0 ?_
  refine AW.istore_n (lv1 := [(2, iv 0), (0, rv z 10), (1, iv x1)]) dX10_chooseNext_1 (by decide) rfl ?_
  refine AW.iconst dX10_chooseNext_2 ?_
  refine AW.istore_n (lv1 := [(3, iv 0), (2, iv 0), (0, rv z 10), (1, iv x1)]) dX10_chooseNext_3 (by decide) rfl ?_
  refine AW.sub (lv1 := [(0, rv z 10), (1, iv x1), (2, iv 0), (3, iv 0)]) [2, 3, 1, 0] rfl ?_
  exact (Yard_chooseNext_b_ok hdd _ _ _ _ _ h).1 rfl
set_option synthInstance.maxHeartbeats 2000000 in
theorem Yard_orderDock_b_ok {z : AZ} {d : Nat} (hdd : 2 ≤ d) : ∀ (tag : Nat) (x1 : Int) (x2 : Int) (g : AG) (r : Int × AG), Yard_orderDock_b tag x1 x2 g = some r → (tag = 1 → AW z (RX10, cX10_orderDock, 3, none) d (QD none r) 7 [(0, rv z 10), (1, iv x1)] [] g) ∧ (tag = 2 → AW z (RX10, cX10_orderDock, 3, none) d (QD none r) 84 [(0, rv z 10), (2, iv x2)] [] g) := by
  refine Yard_orderDock_b.partial_correctness (fun tag x1 x2 g r => (tag = 1 → AW z (RX10, cX10_orderDock, 3, none) d (QD none r) 7 [(0, rv z 10), (1, iv x1)] [] g) ∧ (tag = 2 → AW z (RX10, cX10_orderDock, 3, none) d (QD none r) 84 [(0, rv z 10), (2, iv x2)] [] g)) ?_
  intro fb9 ih tag x1 x2 g r h
  refine ⟨fun h9 => ?_, fun h9 => ?_⟩
  · subst h9
    replace h := hT h rfl
    refine AW.iload_n 1 dX10_orderDock_7 rfl ?_
    refine AW.bipush dX10_orderDock_8 (by decide) (by decide) ?_
    refine AW.icmp_ge (tgt := 57) dX10_orderDock_10 (by decide) (fun c1 => ?_) (fun c1 => ?_)
    · replace h := hT h c1
      refine AW.iconst dX10_orderDock_57 ?_
      refine AW.aloadr_n 0 dX10_orderDock_58 rfl ?_
      refine AW.getI af_X10_46_10 sr_10_2 dX10_orderDock_59 ?_
      refine AW.ishl dX10_orderDock_62 ?_
      refine AW.iconst dX10_orderDock_63 ?_
      refine AW.isub dX10_orderDock_64 ?_
      refine AW.istore_n (lv1 := [(1, iv ((shlI 1 (g 10 2)) - 1)), (0, rv z 10)]) dX10_orderDock_65 (by decide) rfl ?_
      refine AW.aloadr_n 1 dX10_orderDock_66 rfl ?_
      refine AW.getR af_X10_21_10 sr_10_4 dX10_orderDock_67 ?_
      refine AW.iload_n 0 dX10_orderDock_70 rfl ?_
      refine AW.iconst dX10_orderDock_71 ?_
      obtain ⟨k2, h⟩ := hK h
      obtain ⟨g3, e4, h⟩ := hBe h
      refine AW.iast kc_100 sk_100 k2 dX10_orderDock_72 e4 ?_
      refine AW.aloadr_n 1 dX10_orderDock_73 rfl ?_
      refine AW.getR af_X10_24_10 sr_10_5 dX10_orderDock_74 ?_
      refine AW.iload_n 0 dX10_orderDock_77 rfl ?_
      refine AW.iconst dX10_orderDock_78 ?_
      obtain ⟨g5, e6, h⟩ := hBe h
      refine AW.iast kc_101 sk_101 k2 dX10_orderDock_79 e6 ?_
      refine AW.iload_n 0 dX10_orderDock_80 rfl ?_
      refine AW.iconst dX10_orderDock_81 ?_
      refine AW.isub dX10_orderDock_82 ?_
      refine AW.istore_n (lv1 := [(2, iv (((shlI 1 (g 10 2)) - 1) - 1)), (1, iv ((shlI 1 (g 10 2)) - 1)), (0, rv z 10)]) dX10_orderDock_83 (by decide) rfl ?_
      refine AW.sub (lv1 := [(0, rv z 10), (2, iv (((shlI 1 (g 10 2)) - 1) - 1))]) [2, 0] rfl ?_
      exact (ih _ _ _ _ _ h).2 rfl
    · replace h := hF h c1
      refine AW.aloadr_n 0 dX10_orderDock_13 rfl ?_
      refine AW.getR af_X10_15_10 sr_10_1 dX10_orderDock_14 ?_
      refine AW.iload_n 1 dX10_orderDock_17 rfl ?_
      obtain ⟨k7, h⟩ := hK h
      refine AW.iald kc_98 sk_98 k7 dX10_orderDock_18 ?_
      obtain ⟨r15, e16, h⟩ := hC h
      refine AW.join (tgt := 51) (lv1 := [(0, rv z 10), (1, iv x1)]) (st1 := []) (g1 := r15) ?_ (fun J19 => ?_)
      · refine AW.iinc (lv1 := [(1, iv (x1 + 1)), (0, rv z 10)]) 1 dX10_orderDock_51 rfl (by decide) rfl ?_
        refine AW.goto (tgt := 7) dX10_orderDock_54 (by decide) ?_
        refine AW.sub (lv1 := [(0, rv z 10), (1, iv (x1 + 1))]) [1, 0] rfl ?_
        exact (ih _ _ _ _ _ h).1 rfl
      replace h := e16
      refine AW.if_le (tgt := 51) dX10_orderDock_19 (by decide) (fun c8 => ?_) (fun c8 => ?_)
      · replace h := hT h c8
        cases h
        exact J19
      · replace h := hF h c8
        refine AW.aloadr_n 0 dX10_orderDock_22 rfl ?_
        refine AW.getI af_X10_46_10 sr_10_2 dX10_orderDock_23 ?_
        refine AW.bipush dX10_orderDock_26 (by decide) (by decide) ?_
        refine AW.icmp_ge (tgt := 51) dX10_orderDock_28 (by decide) (fun c9 => ?_) (fun c9 => ?_)
        · replace h := hT h c9
          cases h
          exact J19
        · replace h := hF h c9
          refine AW.aloadr_n 0 dX10_orderDock_31 rfl ?_
          refine AW.getR af_X10_18_10 sr_10_3 dX10_orderDock_32 ?_
          refine AW.aloadr_n 0 dX10_orderDock_35 rfl ?_
          refine AW.getI af_X10_46_10 sr_10_2 dX10_orderDock_36 ?_
          refine AW.iload_n 1 dX10_orderDock_39 rfl ?_
          obtain ⟨k10, h⟩ := hK h
          obtain ⟨g11, e12, h⟩ := hBe h
          refine AW.iast kc_99 sk_99 k10 dX10_orderDock_40 e12 ?_
          refine AW.aloadr_n 0 dX10_orderDock_41 rfl ?_
          refine AW.duprr dX10_orderDock_42 ?_
          refine AW.getI af_X10_46_10 sr_10_2 dX10_orderDock_43 ?_
          refine AW.iconst dX10_orderDock_46 ?_
          refine AW.iadd dX10_orderDock_47 ?_
          obtain ⟨g13, e14, h⟩ := hBe h
          refine AW.putI ap_X10_46_10 sr_10_2 dX10_orderDock_48 e14 ?_
          cases h
          exact J19
  · subst h9
    replace h := hF h (by decide)
    replace h := hT h rfl
    refine AW.iload_n 1 dX10_orderDock_84 rfl ?_
    refine AW.if_lt (tgt := 99) dX10_orderDock_85 (by decide) (fun c1 => ?_) (fun c1 => ?_)
    · replace h := hT h c1
      exact AW.vret1 rfl dX10_orderDock_99 h rfl
    · replace h := hF h c1
      refine AW.aloadr_n 0 dX10_orderDock_88 rfl ?_
      refine AW.iload_n 1 dX10_orderDock_89 rfl ?_
      obtain ⟨r2, e3, h⟩ := hC h
      refine AW.callVv (As := [iv x2]) (st := []) (Yard_chooseNext_ok e3) cq_X10_50 cr_10_X10_chooseNext (Nat.le_trans (by decide) hdd) rfl dX10_orderDock_90 rfl (Nat.le_of_ble_eq_true rfl) ?_
      refine AW.iinc (lv1 := [(2, iv (x2 + (-1))), (0, rv z 10)]) 1 dX10_orderDock_93 rfl (by decide) rfl ?_
      refine AW.goto (tgt := 84) dX10_orderDock_96 (by decide) ?_
      refine AW.sub (lv1 := [(0, rv z 10), (2, iv (x2 + (-1)))]) [1, 0] rfl ?_
      exact (ih _ _ _ _ _ h).2 rfl
theorem Yard_orderDock_ok {z : AZ} {g : AG} {r : Int × AG} (h : Yard_orderDock g = some r) : AMf z yX10_orderDock cX10_orderDock 3 none 2 [rv z 10] g r := by
  intro d hdd
  refine AM.of (by decide +kernel) (Nat.le_of_ble_eq_true rfl) ?_
  show AW z (RX10, cX10_orderDock, 3, none) d (QD none r) 0 [(0, rv z 10)] [] g
  unfold Yard_orderDock at h
  refine AW.aloadr_n 0 dX10_orderDock_0 rfl ?_
  refine AW.iconst dX10_orderDock_1 ?_
  obtain ⟨g1, e2, h⟩ := hBe h
  refine AW.putI ap_X10_46_10 sr_10_2 dX10_orderDock_2 e2 ?_
  refine AW.iconst dX10_orderDock_5 ?_
  refine AW.istore_n (lv1 := [(1, iv 0), (0, rv z 10)]) dX10_orderDock_6 (by decide) rfl ?_
  refine AW.sub (lv1 := [(0, rv z 10), (1, iv 0)]) [1, 0] rfl ?_
  exact (Yard_orderDock_b_ok hdd _ _ _ _ _ h).1 rfl
set_option synthInstance.maxHeartbeats 2000000 in
theorem Yard_dockedAt_b_ok {z : AZ} {d : Nat} (hdd : 1 ≤ d) {x1 : Int} {g : AG} : ∀ (x2 : Int) (x3 : Int) (r : Int × AG), Yard_dockedAt_b x1 g x2 x3 = some r → AW z (RX10, cX10_dockedAt, 4, (some .int)) d (QD (some .int) r) 23 [(0, rv z 10), (1, iv x1), (2, iv x2), (3, iv x3)] [] g := by
  refine Yard_dockedAt_b.partial_correctness x1 g (fun x2 x3 r => AW z (RX10, cX10_dockedAt, 4, (some .int)) d (QD (some .int) r) 23 [(0, rv z 10), (1, iv x1), (2, iv x2), (3, iv x3)] [] g) ?_
  intro fb9 ih x2 x3 r h
  refine AW.iload_n 3 dX10_dockedAt_23 rfl ?_
  refine AW.iload_n 1 dX10_dockedAt_24 rfl ?_
  refine AW.bipush dX10_dockedAt_25 (by decide) (by decide) ?_
  refine AW.isub dX10_dockedAt_27 ?_
  refine AW.icmp_ge (tgt := 48) dX10_dockedAt_28 (by decide) (fun c1 => ?_) (fun c1 => ?_)
  · replace h := hT h c1
    refine AW.aloadr_n 0 dX10_dockedAt_48 rfl ?_
    refine AW.getR af_X10_18_10 sr_10_3 dX10_dockedAt_49 ?_
    refine AW.aloadr_n 0 dX10_dockedAt_52 rfl ?_
    refine AW.getR af_X10_27_10 sr_10_6 dX10_dockedAt_53 ?_
    refine AW.iload_n 2 dX10_dockedAt_56 rfl ?_
    obtain ⟨k2, h⟩ := hK h
    refine AW.iald kc_102 sk_102 k2 dX10_dockedAt_57 ?_
    obtain ⟨k3, h⟩ := hK h
    refine AW.iald kc_99 sk_99 k3 dX10_dockedAt_58 ?_
    exact AW.iret1 rfl dX10_dockedAt_59 h rfl
  · replace h := hF h c1
    refine AW.iload_n 2 dX10_dockedAt_31 rfl ?_
    refine AW.iconst dX10_dockedAt_32 ?_
    refine AW.aloadr_n 0 dX10_dockedAt_33 rfl ?_
    refine AW.getR af_X10_27_10 sr_10_6 dX10_dockedAt_34 ?_
    refine AW.iload_n 2 dX10_dockedAt_37 rfl ?_
    obtain ⟨k4, h⟩ := hK h
    refine AW.iald kc_102 sk_102 k4 dX10_dockedAt_38 ?_
    refine AW.ishl dX10_dockedAt_39 ?_
    refine AW.ior dX10_dockedAt_40 ?_
    refine AW.istore_n (lv1 := [(2, iv (orI x2 (shlI 1 (g 102 (ix x2))))), (0, rv z 10), (1, iv x1), (3, iv x3)]) dX10_dockedAt_41 (by decide) rfl ?_
    refine AW.iinc (lv1 := [(3, iv (x3 + 1)), (2, iv (orI x2 (shlI 1 (g 102 (ix x2))))), (0, rv z 10), (1, iv x1)]) 3 dX10_dockedAt_42 rfl (by decide) rfl ?_
    refine AW.goto (tgt := 23) dX10_dockedAt_45 (by decide) ?_
    refine AW.sub (lv1 := [(0, rv z 10), (1, iv x1), (2, iv (orI x2 (shlI 1 (g 102 (ix x2))))), (3, iv (x3 + 1))]) [2, 3, 1, 0] rfl ?_
    exact ih _ _ _ h
theorem Yard_dockedAt_ok {z : AZ} {x1 : Int} {g : AG} {r : Int × AG} (h : Yard_dockedAt x1 g = some r) : AMf z yX10_dockedAt cX10_dockedAt 4 (some .int) 1 [rv z 10, iv x1] g r := by
  intro d hdd
  refine AM.of (by decide +kernel) (Nat.le_of_ble_eq_true rfl) ?_
  show AW z (RX10, cX10_dockedAt, 4, (some .int)) d (QD (some .int) r) 0 [(0, rv z 10), (1, iv x1)] [] g
  unfold Yard_dockedAt at h
  refine AW.iload_n 1 dX10_dockedAt_0 rfl ?_
  refine AW.bipush dX10_dockedAt_1 (by decide) (by decide) ?_
  refine AW.isub dX10_dockedAt_3 ?_
  refine AW.iconst dX10_dockedAt_4 ?_
  refine AW.aloadr_n 0 dX10_dockedAt_5 rfl ?_
  refine AW.getI af_X10_46_10 sr_10_2 dX10_dockedAt_6 ?_
  refine AW.iconst dX10_dockedAt_9 ?_
  refine AW.isub dX10_dockedAt_10 ?_
  refine AW.callN0 (As := [iv (x1 - 10), iv 0, iv ((g 10 2) - 1)]) (st := []) X_within_ok ns_X10_58 in_X11 cd_X11_within st_X11_within (by decide) (Nat.le_trans (by decide) hdd) rfl (Nat.le_of_ble_eq_true rfl) dX10_dockedAt_11 rfl ?_
  refine AW.if_ne (tgt := 19) dX10_dockedAt_14 (by decide) (fun c1 => ?_) (fun c1 => ?_)
  · replace h := hF h c1
    refine AW.iconst dX10_dockedAt_19 ?_
    refine AW.istore_n (lv1 := [(2, iv 0), (0, rv z 10), (1, iv x1)]) dX10_dockedAt_20 (by decide) rfl ?_
    refine AW.iconst dX10_dockedAt_21 ?_
    refine AW.istore_n (lv1 := [(3, iv 0), (2, iv 0), (0, rv z 10), (1, iv x1)]) dX10_dockedAt_22 (by decide) rfl ?_
    refine AW.sub (lv1 := [(0, rv z 10), (1, iv x1), (2, iv 0), (3, iv 0)]) [2, 3, 1, 0] rfl ?_
    exact Yard_dockedAt_b_ok hdd _ _ _ h
  · replace h := hT h c1
    refine AW.iconst dX10_dockedAt_17 ?_
    exact AW.iret1 rfl dX10_dockedAt_18 h rfl
theorem X_dock_ok {z : AZ} {x1 : Int} {g : AG} {r : Int × AG} (h : X_dock x1 g = some r) : AMf z yX11_dock cX11_dock 2 (some .int) 3 [rv z 0, iv x1] g r := by
  intro d hdd
  refine AM.of (by decide +kernel) (Nat.le_of_ble_eq_true rfl) ?_
  show AW z (RX11, cX11_dock, 2, (some .int)) d (QD (some .int) r) 0 [(0, rv z 0), (1, iv x1)] [] g
  unfold X_dock at h
  refine AW.aloadr_n 0 dX11_dock_0 rfl ?_
  refine AW.getR af_X11_79_0 sr_0_9 dX11_dock_1 ?_
  obtain ⟨r1, e2, h⟩ := hC h
  refine AW.callVv (As := []) (st := []) (Yard_orderDock_ok e2) cq_X11_299 cr_10_X10_orderDock (Nat.le_trans (by decide) hdd) rfl dX11_dock_4 rfl (Nat.le_of_ble_eq_true rfl) ?_
  refine AW.iload_n 1 dX11_dock_7 rfl ?_
  by_cases c3 : nw x1 = 0
  · replace h := hT h c3
    refine AW.tsIn (tgt := 36) 0 dX11_dock_8 c3 (by decide) (by decide) (by rfl) (by decide) ?_
    refine AW.aloadr_n 0 dX11_dock_36 rfl ?_
    refine AW.getR af_X11_79_0 sr_0_9 dX11_dock_37 ?_
    refine AW.getR af_X11_302_10 sr_10_4 dX11_dock_40 ?_
    refine AW.iconst dX11_dock_43 ?_
    refine AW.iald kc_100 sk_100 (by decide) dX11_dock_44 ?_
    exact AW.iret1 rfl dX11_dock_45 h rfl
  · replace h := hF h c3
    by_cases c4 : nw x1 = 1
    · replace h := hT h c4
      refine AW.tsIn (tgt := 46) 1 dX11_dock_8 c4 (by decide) (by decide) (by rfl) (by decide) ?_
      refine AW.aloadr_n 0 dX11_dock_46 rfl ?_
      refine AW.getR af_X11_79_0 sr_0_9 dX11_dock_47 ?_
      refine AW.getR af_X11_305_10 sr_10_5 dX11_dock_50 ?_
      refine AW.iconst dX11_dock_53 ?_
      refine AW.iald kc_101 sk_101 (by decide) dX11_dock_54 ?_
      exact AW.iret1 rfl dX11_dock_55 h rfl
    · replace h := hF h c4
      by_cases c5 : nw x1 = 2
      · replace h := hT h c5
        refine AW.tsIn (tgt := 56) 2 dX11_dock_8 c5 (by decide) (by decide) (by rfl) (by decide) ?_
        refine AW.aloadr_n 0 dX11_dock_56 rfl ?_
        refine AW.getR af_X11_79_0 sr_0_9 dX11_dock_57 ?_
        refine AW.getI af_X11_308_10 sr_10_2 dX11_dock_60 ?_
        exact AW.iret1 rfl dX11_dock_63 h rfl
      · replace h := hF h c5
        refine AW.tsOut (tgt := 64) dX11_dock_8 (by omega) (by decide) ?_
        refine AW.aloadr_n 0 dX11_dock_64 rfl ?_
        refine AW.getR af_X11_79_0 sr_0_9 dX11_dock_65 ?_
        refine AW.iload_n 1 dX11_dock_68 rfl ?_
        obtain ⟨r6, e7, h⟩ := hC h
        refine AW.callVi (As := [iv x1]) (st := []) (Yard_dockedAt_ok e7) cq_X11_311 cr_10_X10_dockedAt (Nat.le_trans (by decide) hdd) rfl dX11_dock_69 rfl (Nat.le_of_ble_eq_true rfl) ?_
        exact AW.iret1 rfl dX11_dock_72 h rfl
theorem Yard_addJob_ok {z : AZ} {x1 : Int} {g : AG} {r : Int × AG} (h : Yard_addJob x1 g = some r) : AMf z yX10_addJob cX10_addJob 2 (some .int) 0 [rv z 10, iv x1] g r := by
  intro d hdd
  refine AM.of (by decide +kernel) (Nat.le_of_ble_eq_true rfl) ?_
  show AW z (RX10, cX10_addJob, 2, (some .int)) d (QD (some .int) r) 0 [(0, rv z 10), (1, iv x1)] [] g
  unfold Yard_addJob at h
  refine AW.aloadr_n 0 dX10_addJob_0 rfl ?_
  refine AW.getI af_X10_61_10 sr_10_7 dX10_addJob_1 ?_
  refine AW.bipush dX10_addJob_4 (by decide) (by decide) ?_
  refine AW.icmp_lt (tgt := 11) dX10_addJob_6 (by decide) (fun c1 => ?_) (fun c1 => ?_)
  · replace h := hT h c1
    refine AW.aloadr_n 0 dX10_addJob_11 rfl ?_
    refine AW.getR af_X10_30_10 sr_10_8 dX10_addJob_12 ?_
    refine AW.aloadr_n 0 dX10_addJob_15 rfl ?_
    refine AW.getI af_X10_61_10 sr_10_7 dX10_addJob_16 ?_
    refine AW.iload_n 1 dX10_addJob_19 rfl ?_
    obtain ⟨k2, h⟩ := hK h
    obtain ⟨g3, e4, h⟩ := hBe h
    refine AW.iast kc_103 sk_103 k2 dX10_addJob_20 e4 ?_
    refine AW.aloadr_n 0 dX10_addJob_21 rfl ?_
    refine AW.duprr dX10_addJob_22 ?_
    refine AW.getI af_X10_61_10 sr_10_7 dX10_addJob_23 ?_
    refine AW.iconst dX10_addJob_26 ?_
    refine AW.iadd dX10_addJob_27 ?_
    obtain ⟨g5, e6, h⟩ := hBe h
    refine AW.putI ap_X10_61_10 sr_10_7 dX10_addJob_28 e6 ?_
    refine AW.aloadr_n 0 dX10_addJob_31 rfl ?_
    refine AW.getI af_X10_61_10 sr_10_7 dX10_addJob_32 ?_
    exact AW.iret1 rfl dX10_addJob_35 h rfl
  · replace h := hF h c1
    refine AW.iconst dX10_addJob_9 ?_
    exact AW.iret1 rfl dX10_addJob_10 h rfl
theorem X_job_ok {z : AZ} {x1 : Int} {g : AG} {r : Int × AG} (h : X_job x1 g = some r) : AMf z yX11_job cX11_job 2 (some .int) 1 [rv z 0, iv x1] g r := by
  intro d hdd
  refine AM.of (by decide +kernel) (Nat.le_of_ble_eq_true rfl) ?_
  show AW z (RX11, cX11_job, 2, (some .int)) d (QD (some .int) r) 0 [(0, rv z 0), (1, iv x1)] [] g
  unfold X_job at h
  refine AW.iload_n 1 dX11_job_0 rfl ?_
  refine AW.if_ne (tgt := 14) dX11_job_1 (by decide) (fun c1 => ?_) (fun c1 => ?_)
  · replace h := hF h c1
    refine AW.iload_n 1 dX11_job_14 rfl ?_
    refine AW.iconst dX11_job_15 ?_
    refine AW.sipush dX11_job_16 (by decide) (by decide) ?_
    refine AW.callSi (As := [iv x1, iv 1, iv 300]) (st := []) X_within_ok cq_X11_99 st_X11_within (Nat.le_trans (by decide) hdd) rfl dX11_job_19 rfl (Nat.le_of_ble_eq_true rfl) ?_
    refine AW.if_ne (tgt := 27) dX11_job_22 (by decide) (fun c2 => ?_) (fun c2 => ?_)
    · replace h := hF h c2
      refine AW.aloadr_n 0 dX11_job_27 rfl ?_
      refine AW.getR af_X11_79_0 sr_0_9 dX11_job_28 ?_
      refine AW.iload_n 1 dX11_job_31 rfl ?_
      obtain ⟨r3, e4, h⟩ := hC h
      refine AW.callVi (As := [iv x1]) (st := []) (Yard_addJob_ok e4) cq_X11_317 cr_10_X10_addJob (Nat.le_trans (by decide) hdd) rfl dX11_job_32 rfl (Nat.le_of_ble_eq_true rfl) ?_
      exact AW.iret1 rfl dX11_job_35 h rfl
    · replace h := hT h c2
      refine AW.iconst dX11_job_25 ?_
      exact AW.iret1 rfl dX11_job_26 h rfl
  · replace h := hT h c1
    refine AW.aloadr_n 0 dX11_job_4 rfl ?_
    refine AW.getR af_X11_79_0 sr_0_9 dX11_job_5 ?_
    refine AW.iconst dX11_job_8 ?_
    obtain ⟨g5, e6, h⟩ := hBe h
    refine AW.putI ap_X11_314_10 sr_10_7 dX11_job_9 e6 ?_
    refine AW.iconst dX11_job_12 ?_
    exact AW.iret1 rfl dX11_job_13 h rfl
set_option synthInstance.maxHeartbeats 2000000 in
theorem Yard_workInOrder_b_ok {z : AZ} {d : Nat} (hdd : 1 ≤ d) {x1 : Int} : ∀ (tag : Nat) (x2 : Int) (x3 : Int) (x4 : Int) (g : AG) (r : Int × AG), Yard_workInOrder_b x1 tag x2 x3 x4 g = some r → (tag = 1 → AW z (RX10, cX10_workInOrder, 5, none) d (QD none r) 24 [(0, rv z 10), (1, iv x1), (2, iv x2)] [] g) ∧ (tag = 2 → AW z (RX10, cX10_workInOrder, 5, none) d (QD none r) 37 [(0, rv z 10), (1, iv x1), (2, iv x2), (3, iv x3), (4, iv x4)] [] g) := by
  refine Yard_workInOrder_b.partial_correctness x1 (fun tag x2 x3 x4 g r => (tag = 1 → AW z (RX10, cX10_workInOrder, 5, none) d (QD none r) 24 [(0, rv z 10), (1, iv x1), (2, iv x2)] [] g) ∧ (tag = 2 → AW z (RX10, cX10_workInOrder, 5, none) d (QD none r) 37 [(0, rv z 10), (1, iv x1), (2, iv x2), (3, iv x3), (4, iv x4)] [] g)) ?_
  intro fb9 ih tag x2 x3 x4 g r h
  refine ⟨fun h9 => ?_, fun h9 => ?_⟩
  · subst h9
    replace h := hT h rfl
    refine AW.iload_n 2 dX10_workInOrder_24 rfl ?_
    refine AW.aloadr_n 0 dX10_workInOrder_25 rfl ?_
    refine AW.getI af_X10_61_10 sr_10_7 dX10_workInOrder_26 ?_
    refine AW.icmp_ge (tgt := 136) dX10_workInOrder_29 (by decide) (fun c1 => ?_) (fun c1 => ?_)
    · replace h := hT h c1
      exact AW.vret1 rfl dX10_workInOrder_136 h rfl
    · replace h := hF h c1
      refine AW.iconst dX10_workInOrder_32 ?_
      refine AW.istore_n (lv1 := [(3, iv 0), (0, rv z 10), (1, iv x1), (2, iv x2)]) dX10_workInOrder_33 (by decide) rfl ?_
      refine AW.iconst dX10_workInOrder_34 ?_
      refine AW.istore (lv1 := [(4, iv 1), (3, iv 0), (0, rv z 10), (1, iv x1), (2, iv x2)]) dX10_workInOrder_35 (by decide) rfl ?_
      refine AW.sub (lv1 := [(0, rv z 10), (1, iv x1), (2, iv x2), (3, iv 0), (4, iv 1)]) [2, 3, 4, 1, 0] rfl ?_
      exact (ih _ _ _ _ _ _ h).2 rfl
  · subst h9
    replace h := hF h (by decide)
    replace h := hT h rfl
    refine AW.iload 4 dX10_workInOrder_37 rfl ?_
    refine AW.iload_n 1 dX10_workInOrder_39 rfl ?_
    refine AW.icmp_ge (tgt := 72) dX10_workInOrder_40 (by decide) (fun c1 => ?_) (fun c1 => ?_)
    · replace h := hT h c1
      refine AW.aloadr_n 0 dX10_workInOrder_72 rfl ?_
      refine AW.getR af_X10_33_10 sr_10_9 dX10_workInOrder_73 ?_
      refine AW.iload_n 3 dX10_workInOrder_76 rfl ?_
      refine AW.dup2r dX10_workInOrder_77 ?_
      obtain ⟨k2, h⟩ := hK h
      refine AW.iald kc_104 sk_104 k2 dX10_workInOrder_78 ?_
      refine AW.aloadr_n 0 dX10_workInOrder_79 rfl ?_
      refine AW.getR af_X10_30_10 sr_10_8 dX10_workInOrder_80 ?_
      refine AW.iload_n 2 dX10_workInOrder_83 rfl ?_
      obtain ⟨k3, h⟩ := hK h
      refine AW.iald kc_103 sk_103 k3 dX10_workInOrder_84 ?_
      refine AW.iadd dX10_workInOrder_85 ?_
      obtain ⟨g4, e5, h⟩ := hBe h
      refine AW.iast kc_104 sk_104 k2 dX10_workInOrder_86 e5 ?_
      refine AW.aloadr_n 0 dX10_workInOrder_87 rfl ?_
      refine AW.aloadr_n 0 dX10_workInOrder_88 rfl ?_
      refine AW.getI af_X10_70_10 sr_10_13 dX10_workInOrder_89 ?_
      refine AW.aloadr_n 0 dX10_workInOrder_92 rfl ?_
      refine AW.getR af_X10_33_10 sr_10_9 dX10_workInOrder_93 ?_
      refine AW.iload_n 3 dX10_workInOrder_96 rfl ?_
      refine AW.iald kc_104 sk_104 k2 dX10_workInOrder_97 ?_
      refine AW.mmax (st := [rv z 10]) cm_X10_76 mst_max mini mcd_max (Nat.le_trans (by decide) hdd) (Nat.le_of_ble_eq_true rfl) dX10_workInOrder_98 ?_
      obtain ⟨g6, e7, h⟩ := hBe h
      refine AW.putI ap_X10_70_10 sr_10_13 dX10_workInOrder_101 e7 ?_
      refine AW.aloadr_n 0 dX10_workInOrder_104 rfl ?_
      refine AW.duprr dX10_workInOrder_105 ?_
      refine AW.getI af_X10_73_10 sr_10_14 dX10_workInOrder_106 ?_
      refine AW.aloadr_n 0 dX10_workInOrder_109 rfl ?_
      refine AW.getR af_X10_33_10 sr_10_9 dX10_workInOrder_110 ?_
      refine AW.iload_n 3 dX10_workInOrder_113 rfl ?_
      refine AW.iald kc_104 sk_104 k2 dX10_workInOrder_114 ?_
      refine AW.sipush dX10_workInOrder_115 (by decide) (by decide) ?_
      obtain ⟨t8, e9, h⟩ := hBe h
      refine AW.join (tgt := 126) (lv1 := [(0, rv z 10), (1, iv x1), (2, iv x2), (3, iv x3), (4, iv x4)]) (st1 := [iv t8, iv (g6 10 14), rv z 10]) (g1 := g6) ?_ (fun J118 => ?_)
      · refine AW.iadd dX10_workInOrder_126 ?_
        obtain ⟨g10, e11, h⟩ := hBe h
        refine AW.putI ap_X10_73_10 sr_10_14 dX10_workInOrder_127 e11 ?_
        refine AW.iinc (lv1 := [(2, iv (x2 + 1)), (0, rv z 10), (1, iv x1), (3, iv x3), (4, iv x4)]) 2 dX10_workInOrder_130 rfl (by decide) rfl ?_
        refine AW.goto (tgt := 24) dX10_workInOrder_133 (by decide) ?_
        refine AW.sub (lv1 := [(0, rv z 10), (1, iv x1), (2, iv (x2 + 1))]) [1, 2, 0] rfl ?_
        exact (ih _ _ _ _ _ _ h).1 rfl
      refine AW.icmp_le (tgt := 125) dX10_workInOrder_118 (by decide) (fun c12 => ?_) (fun c12 => ?_)
      · refine AW.iconst dX10_workInOrder_125 ?_
        exact AW.val (e9.trans (if_pos c12)) J118
      · refine AW.iconst dX10_workInOrder_121 ?_
        refine AW.goto (tgt := 126) dX10_workInOrder_122 (by decide) ?_
        exact AW.val (e9.trans (if_neg c12)) J118
    · replace h := hF h c1
      refine AW.aloadr_n 0 dX10_workInOrder_43 rfl ?_
      refine AW.getR af_X10_33_10 sr_10_9 dX10_workInOrder_44 ?_
      refine AW.iload 4 dX10_workInOrder_47 rfl ?_
      obtain ⟨k13, h⟩ := hK h
      refine AW.iald kc_104 sk_104 k13 dX10_workInOrder_49 ?_
      refine AW.aloadr_n 0 dX10_workInOrder_50 rfl ?_
      refine AW.getR af_X10_33_10 sr_10_9 dX10_workInOrder_51 ?_
      refine AW.iload_n 3 dX10_workInOrder_54 rfl ?_
      obtain ⟨k14, h⟩ := hK h
      refine AW.iald kc_104 sk_104 k14 dX10_workInOrder_55 ?_
      obtain ⟨t15, e16, h⟩ := hBe h
      refine AW.join (tgt := 65) (lv1 := [(0, rv z 10), (1, iv x1), (2, iv x2), (3, iv x3), (4, iv x4)]) (st1 := [iv t15]) (g1 := g) ?_ (fun J56 => ?_)
      · refine AW.istore_n (lv1 := [(3, iv t15), (0, rv z 10), (1, iv x1), (2, iv x2), (4, iv x4)]) dX10_workInOrder_65 (by decide) rfl ?_
        refine AW.iinc (lv1 := [(4, iv (x4 + 1)), (3, iv t15), (0, rv z 10), (1, iv x1), (2, iv x2)]) 4 dX10_workInOrder_66 rfl (by decide) rfl ?_
        refine AW.goto (tgt := 37) dX10_workInOrder_69 (by decide) ?_
        refine AW.sub (lv1 := [(0, rv z 10), (1, iv x1), (2, iv x2), (3, iv t15), (4, iv (x4 + 1))]) [2, 3, 4, 1, 0] rfl ?_
        exact (ih _ _ _ _ _ _ h).2 rfl
      refine AW.icmp_ge (tgt := 64) dX10_workInOrder_56 (by decide) (fun c17 => ?_) (fun c17 => ?_)
      · refine AW.iload_n 3 dX10_workInOrder_64 rfl ?_
        exact AW.val (e16.trans (if_pos c17)) J56
      · refine AW.iload 4 dX10_workInOrder_59 rfl ?_
        refine AW.goto (tgt := 65) dX10_workInOrder_61 (by decide) ?_
        exact AW.val (e16.trans (if_neg c17)) J56
theorem Yard_workInOrder_ok {z : AZ} {x1 : Int} {g : AG} {r : Int × AG} (h : Yard_workInOrder x1 g = some r) : AMf z yX10_workInOrder cX10_workInOrder 5 none 1 [rv z 10, iv x1] g r := by
  intro d hdd
  refine AM.of (by decide +kernel) (Nat.le_of_ble_eq_true rfl) ?_
  show AW z (RX10, cX10_workInOrder, 5, none) d (QD none r) 0 [(0, rv z 10), (1, iv x1)] [] g
  unfold Yard_workInOrder at h
  refine AW.aloadr_n 0 dX10_workInOrder_0 rfl ?_
  refine AW.getR af_X10_33_10 sr_10_9 dX10_workInOrder_1 ?_
  refine AW.sipush dX10_workInOrder_4 (by decide) (by decide) ?_
  obtain ⟨g1, e2, h⟩ := hBe h
  refine AW.callSv (st := []) (fill_ok kc_104 sk_104 (by decide)) cf_X10_64 st_fill (Nat.le_trans (by decide) hdd) rfl dX10_workInOrder_7 rfl (Nat.le_of_ble_eq_true rfl) ?_
  rw [← e2]
  refine AW.aloadr_n 0 dX10_workInOrder_10 rfl ?_
  refine AW.sipush dX10_workInOrder_11 (by decide) (by decide) ?_
  obtain ⟨g3, e4, h⟩ := hBe h
  refine AW.putI ap_X10_70_10 sr_10_13 dX10_workInOrder_14 e4 ?_
  refine AW.aloadr_n 0 dX10_workInOrder_17 rfl ?_
  refine AW.iconst dX10_workInOrder_18 ?_
  obtain ⟨g5, e6, h⟩ := hBe h
  refine AW.putI ap_X10_73_10 sr_10_14 dX10_workInOrder_19 e6 ?_
  refine AW.iconst dX10_workInOrder_22 ?_
  refine AW.istore_n (lv1 := [(2, iv 0), (0, rv z 10), (1, iv x1)]) dX10_workInOrder_23 (by decide) rfl ?_
  refine AW.sub (lv1 := [(0, rv z 10), (1, iv x1), (2, iv 0)]) [1, 2, 0] rfl ?_
  exact (Yard_workInOrder_b_ok hdd _ _ _ _ _ _ h).1 rfl
set_option synthInstance.maxHeartbeats 2000000 in
theorem Yard_shareNext_b_ok {z : AZ} {rec : Int → Int → Int → AG → Option (Int × AG)} {Dr : Nat} (hC9 : 1 ≤ Dr) (hrec : ∀ (x1 : Int) (x2 : Int) (x3 : Int) (g : AG) (r : Int × AG), rec x1 x2 x3 g = some r → AMf z yX10_shareNext cX10_shareNext 5 none Dr [rv z 10, iv x1, iv x2, iv x3] g r) {d : Nat} (hdd : Dr + 1 ≤ d) {x1 : Int} {x2 : Int} {x3 : Int} : ∀ (x4 : Int) (g : AG) (r : Int × AG), Yard_shareNext_b rec x1 x2 x3 x4 g = some r → AW z (RX10, cX10_shareNext, 5, none) d (QD none r) 43 [(0, rv z 10), (1, iv x1), (2, iv x2), (3, iv x3), (4, iv x4)] [] g := by
  refine Yard_shareNext_b.partial_correctness rec x1 x2 x3 (fun x4 g r => AW z (RX10, cX10_shareNext, 5, none) d (QD none r) 43 [(0, rv z 10), (1, iv x1), (2, iv x2), (3, iv x3), (4, iv x4)] [] g) ?_
  intro fb9 ih x4 g r h
  refine AW.iload 4 dX10_shareNext_43 rfl ?_
  refine AW.iload_n 2 dX10_shareNext_45 rfl ?_
  refine AW.icmp_ge (tgt := 114) dX10_shareNext_46 (by decide) (fun c1 => ?_) (fun c1 => ?_)
  · replace h := hT h c1
    exact AW.vret1 rfl dX10_shareNext_114 h rfl
  · replace h := hF h c1
    refine AW.aloadr_n 0 dX10_shareNext_49 rfl ?_
    refine AW.getR af_X10_36_10 sr_10_10 dX10_shareNext_50 ?_
    refine AW.iload_n 1 dX10_shareNext_53 rfl ?_
    refine AW.iload 4 dX10_shareNext_54 rfl ?_
    obtain ⟨k2, h⟩ := hK h
    obtain ⟨g3, e4, h⟩ := hBe h
    refine AW.iast kc_105 sk_105 k2 dX10_shareNext_56 e4 ?_
    refine AW.aloadr_n 0 dX10_shareNext_57 rfl ?_
    refine AW.getR af_X10_33_10 sr_10_9 dX10_shareNext_58 ?_
    refine AW.iload 4 dX10_shareNext_61 rfl ?_
    refine AW.dup2r dX10_shareNext_63 ?_
    obtain ⟨k5, h⟩ := hK h
    refine AW.iald kc_104 sk_104 k5 dX10_shareNext_64 ?_
    refine AW.aloadr_n 0 dX10_shareNext_65 rfl ?_
    refine AW.getR af_X10_30_10 sr_10_8 dX10_shareNext_66 ?_
    refine AW.iload_n 1 dX10_shareNext_69 rfl ?_
    refine AW.iald kc_103 sk_103 k2 dX10_shareNext_70 ?_
    refine AW.iadd dX10_shareNext_71 ?_
    obtain ⟨g6, e7, h⟩ := hBe h
    refine AW.iast kc_104 sk_104 k5 dX10_shareNext_72 e7 ?_
    refine AW.aloadr_n 0 dX10_shareNext_73 rfl ?_
    refine AW.iload_n 1 dX10_shareNext_74 rfl ?_
    refine AW.iconst dX10_shareNext_75 ?_
    refine AW.iadd dX10_shareNext_76 ?_
    refine AW.iload_n 2 dX10_shareNext_77 rfl ?_
    refine AW.iload_n 3 dX10_shareNext_78 rfl ?_
    refine AW.aloadr_n 0 dX10_shareNext_79 rfl ?_
    refine AW.getR af_X10_33_10 sr_10_9 dX10_shareNext_80 ?_
    refine AW.iload 4 dX10_shareNext_83 rfl ?_
    refine AW.iald kc_104 sk_104 k5 dX10_shareNext_85 ?_
    refine AW.mmax (st := [iv x2, iv (x1 + 1), rv z 10]) cm_X10_76 mst_max mini mcd_max (by omega) (Nat.le_of_ble_eq_true rfl) dX10_shareNext_86 ?_
    obtain ⟨r8, e9, h⟩ := hC h
    refine AW.callSv (As := [rv z 10, iv (x1 + 1), iv x2, iv (mxI x3 (g6 104 (ix x4)))]) (st := []) (hrec _ _ _ _ _ e9) cq_X10_88 st_X10_shareNext (by omega) rfl dX10_shareNext_89 rfl (Nat.le_of_ble_eq_true rfl) ?_
    refine AW.aloadr_n 0 dX10_shareNext_92 rfl ?_
    refine AW.getR af_X10_33_10 sr_10_9 dX10_shareNext_93 ?_
    refine AW.iload 4 dX10_shareNext_96 rfl ?_
    refine AW.dup2r dX10_shareNext_98 ?_
    refine AW.iald kc_104 sk_104 k5 dX10_shareNext_99 ?_
    refine AW.aloadr_n 0 dX10_shareNext_100 rfl ?_
    refine AW.getR af_X10_30_10 sr_10_8 dX10_shareNext_101 ?_
    refine AW.iload_n 1 dX10_shareNext_104 rfl ?_
    refine AW.iald kc_103 sk_103 k2 dX10_shareNext_105 ?_
    refine AW.isub dX10_shareNext_106 ?_
    obtain ⟨g10, e11, h⟩ := hBe h
    refine AW.iast kc_104 sk_104 k5 dX10_shareNext_107 e11 ?_
    refine AW.iinc (lv1 := [(4, iv (x4 + 1)), (0, rv z 10), (1, iv x1), (2, iv x2), (3, iv x3)]) 4 dX10_shareNext_108 rfl (by decide) rfl ?_
    refine AW.goto (tgt := 43) dX10_shareNext_111 (by decide) ?_
    refine AW.sub (lv1 := [(0, rv z 10), (1, iv x1), (2, iv x2), (3, iv x3), (4, iv (x4 + 1))]) [1, 2, 3, 4, 0] rfl ?_
    exact ih _ _ _ h
theorem Yard_shareNext_s_ok {z : AZ} {rec : Int → Int → Int → AG → Option (Int × AG)} {Dr : Nat} (hC9 : 1 ≤ Dr) (hrec : ∀ (x1 : Int) (x2 : Int) (x3 : Int) (g : AG) (r : Int × AG), rec x1 x2 x3 g = some r → AMf z yX10_shareNext cX10_shareNext 5 none Dr [rv z 10, iv x1, iv x2, iv x3] g r) {x1 : Int} {x2 : Int} {x3 : Int} {g : AG} {r : Int × AG} (h : Yard_shareNext_s rec x1 x2 x3 g = some r) : AMf z yX10_shareNext cX10_shareNext 5 none (Dr + 1) [rv z 10, iv x1, iv x2, iv x3] g r := by
  intro d hdd
  refine AM.of (by decide +kernel) (Nat.le_of_ble_eq_true rfl) ?_
  show AW z (RX10, cX10_shareNext, 5, none) d (QD none r) 0 [(0, rv z 10), (1, iv x1), (2, iv x2), (3, iv x3)] [] g
  unfold Yard_shareNext_s at h
  refine AW.iload_n 3 dX10_shareNext_0 rfl ?_
  refine AW.aloadr_n 0 dX10_shareNext_1 rfl ?_
  refine AW.getI af_X10_85_10 sr_10_12 dX10_shareNext_2 ?_
  refine AW.icmp_lt (tgt := 9) dX10_shareNext_5 (by decide) (fun c1 => ?_) (fun c1 => ?_)
  · replace h := hT h c1
    refine AW.iload_n 1 dX10_shareNext_9 rfl ?_
    refine AW.aloadr_n 0 dX10_shareNext_10 rfl ?_
    refine AW.getI af_X10_61_10 sr_10_7 dX10_shareNext_11 ?_
    refine AW.icmp_lt (tgt := 40) dX10_shareNext_14 (by decide) (fun c2 => ?_) (fun c2 => ?_)
    · replace h := hT h c2
      refine AW.iconst dX10_shareNext_40 ?_
      refine AW.istore (lv1 := [(4, iv 0), (0, rv z 10), (1, iv x1), (2, iv x2), (3, iv x3)]) dX10_shareNext_41 (by decide) rfl ?_
      refine AW.sub (lv1 := [(0, rv z 10), (1, iv x1), (2, iv x2), (3, iv x3), (4, iv 0)]) [1, 2, 3, 4, 0] rfl ?_
      exact Yard_shareNext_b_ok hC9 hrec hdd _ _ _ h
    · replace h := hF h c2
      refine AW.aloadr_n 0 dX10_shareNext_17 rfl ?_
      refine AW.iload_n 3 dX10_shareNext_18 rfl ?_
      obtain ⟨g3, e4, h⟩ := hBe h
      refine AW.putI ap_X10_85_10 sr_10_12 dX10_shareNext_19 e4 ?_
      refine AW.aloadr_n 0 dX10_shareNext_22 rfl ?_
      refine AW.getR af_X10_36_10 sr_10_10 dX10_shareNext_23 ?_
      refine AW.iconst dX10_shareNext_26 ?_
      refine AW.aloadr_n 0 dX10_shareNext_27 rfl ?_
      refine AW.getR af_X10_39_10 sr_10_11 dX10_shareNext_28 ?_
      refine AW.iconst dX10_shareNext_31 ?_
      refine AW.aloadr_n 0 dX10_shareNext_32 rfl ?_
      refine AW.getI af_X10_61_10 sr_10_7 dX10_shareNext_33 ?_
      obtain ⟨k5, h⟩ := hK h
      obtain ⟨g6, e7, h⟩ := hBe h
      refine AW.copyi cc_X10_92 ac_n ac_s ac_i kc_105 sk_105 kc_106 sk_106 k5 (Nat.le_of_ble_eq_true rfl) (by omega) dX10_shareNext_36 e7 ?_
      exact AW.vret1 rfl dX10_shareNext_39 h rfl
  · replace h := hF h c1
    exact AW.vret1 rfl dX10_shareNext_8 h rfl
theorem Yard_shareNext_ok {z : AZ} {n : Nat} {x1 : Int} {x2 : Int} {x3 : Int} {g : AG} {r : Int × AG} (h : Yard_shareNext n x1 x2 x3 g = some r) : AMf z yX10_shareNext cX10_shareNext 5 none (1 + n * 1) [rv z 10, iv x1, iv x2, iv x3] g r := by
  induction n generalizing x1 x2 x3 g r with
  | zero => cases h
  | succ n ih =>
    have q := Yard_shareNext_s_ok (z := z) (Dr := 1 + n * 1) (Nat.le_add_right _ _) (fun x1 x2 x3 g r h9 => ih h9) h
    rw [show 1 + (n + 1) * 1 = 1 + n * 1 + 1 by rw [Nat.add_mul]; omega]
    exact q
theorem Yard_shareBest_ok {z : AZ} {x1 : Int} {g : AG} {r : Int × AG} (h : Yard_shareBest x1 g = some r) : AMf z yX10_shareBest cX10_shareBest 2 none 12 [rv z 10, iv x1] g r := by
  intro d hdd
  refine AM.of (by decide +kernel) (Nat.le_of_ble_eq_true rfl) ?_
  show AW z (RX10, cX10_shareBest, 2, none) d (QD none r) 0 [(0, rv z 10), (1, iv x1)] [] g
  unfold Yard_shareBest at h
  refine AW.aloadr_n 0 dX10_shareBest_0 rfl ?_
  refine AW.getR af_X10_33_10 sr_10_9 dX10_shareBest_1 ?_
  refine AW.sipush dX10_shareBest_4 (by decide) (by decide) ?_
  obtain ⟨g1, e2, h⟩ := hBe h
  refine AW.callSv (st := []) (fill_ok kc_104 sk_104 (by decide)) cf_X10_64 st_fill (Nat.le_trans (by decide) hdd) rfl dX10_shareBest_7 rfl (Nat.le_of_ble_eq_true rfl) ?_
  rw [← e2]
  refine AW.aloadr_n 0 dX10_shareBest_10 rfl ?_
  refine AW.ldc dX10_shareBest_11 cw_X10_84 ?_
  obtain ⟨g3, e4, h⟩ := hBe h
  refine AW.putI ap_X10_85_10 sr_10_12 dX10_shareBest_13 e4 ?_
  refine AW.aloadr_n 0 dX10_shareBest_16 rfl ?_
  refine AW.iconst dX10_shareBest_17 ?_
  refine AW.iload_n 1 dX10_shareBest_18 rfl ?_
  refine AW.sipush dX10_shareBest_19 (by decide) (by decide) ?_
  obtain ⟨r5, e6, h⟩ := hC h
  refine AW.callSv (As := [rv z 10, iv 0, iv x1, iv 600]) (st := []) ((Yard_shareNext_ok (n := 10)) e6) cq_X10_88 st_X10_shareNext (Nat.le_trans (by decide) hdd) rfl dX10_shareBest_22 rfl (Nat.le_of_ble_eq_true rfl) ?_
  exact AW.vret1 rfl dX10_shareBest_25 h rfl
set_option synthInstance.maxHeartbeats 2000000 in
theorem X_turned_b_ok {z : AZ} {d : Nat} (hdd : 13 ≤ d) {tag : Nat} {x1 : Int} {x2 : Int} {g : AG} : ∀ (r : Int × AG), X_turned_b tag x1 x2 g = some r → (tag = 1 → AW z (RX11, cX11_turned, 3, (some .int)) d (QD (some .int) r) 20 [(0, rv z 0), (1, iv x1), (2, iv x2)] [] g) ∧ (tag = 2 → AW z (RX11, cX11_turned, 3, (some .int)) d (QD (some .int) r) 77 [(0, rv z 0), (1, iv x1), (2, iv x2)] [] g) := by
  refine X_turned_b.partial_correctness tag x1 x2 g (fun r => (tag = 1 → AW z (RX11, cX11_turned, 3, (some .int)) d (QD (some .int) r) 20 [(0, rv z 0), (1, iv x1), (2, iv x2)] [] g) ∧ (tag = 2 → AW z (RX11, cX11_turned, 3, (some .int)) d (QD (some .int) r) 77 [(0, rv z 0), (1, iv x1), (2, iv x2)] [] g)) ?_
  intro fb9 ih r h
  refine ⟨fun h9 => ?_, fun h9 => ?_⟩
  · subst h9
    replace h := hT h rfl
    refine AW.aloadr_n 0 dX11_turned_20 rfl ?_
    refine AW.getR af_X11_79_0 sr_0_9 dX11_turned_21 ?_
    refine AW.iload_n 1 dX11_turned_24 rfl ?_
    obtain ⟨r1, e2, h⟩ := hC h
    refine AW.callVv (As := [iv x1]) (st := []) (Yard_workInOrder_ok e2) cq_X11_320 cr_10_X10_workInOrder (Nat.le_trans (by decide) hdd) rfl dX11_turned_25 rfl (Nat.le_of_ble_eq_true rfl) ?_
    refine AW.iload_n 2 dX11_turned_28 rfl ?_
    obtain ⟨t3, e4, h⟩ := hBe h
    refine AW.join (tgt := 49) (lv1 := [(0, rv z 0), (1, iv x1), (2, iv x2)]) (st1 := [iv t3]) (g1 := r1.2) ?_ (fun J29 => ?_)
    · exact AW.iret1 rfl dX11_turned_49 h rfl
    refine AW.if_ne (tgt := 42) dX11_turned_29 (by decide) (fun c5 => ?_) (fun c5 => ?_)
    · refine AW.aloadr_n 0 dX11_turned_42 rfl ?_
      refine AW.getR af_X11_79_0 sr_0_9 dX11_turned_43 ?_
      refine AW.getI af_X11_326_10 sr_10_14 dX11_turned_46 ?_
      exact AW.val (e4.trans (if_neg c5)) J29
    · refine AW.aloadr_n 0 dX11_turned_32 rfl ?_
      refine AW.getR af_X11_79_0 sr_0_9 dX11_turned_33 ?_
      refine AW.getI af_X11_323_10 sr_10_13 dX11_turned_36 ?_
      refine AW.goto (tgt := 49) dX11_turned_39 (by decide) ?_
      exact AW.val (e4.trans (if_pos c5)) J29
  · subst h9
    replace h := hF h (by decide)
    replace h := hT h rfl
    refine AW.aloadr_n 0 dX11_turned_77 rfl ?_
    refine AW.getR af_X11_79_0 sr_0_9 dX11_turned_78 ?_
    refine AW.iload_n 1 dX11_turned_81 rfl ?_
    obtain ⟨r1, e2, h⟩ := hC h
    refine AW.callVv (As := [iv x1]) (st := []) (Yard_shareBest_ok e2) cq_X11_329 cr_10_X10_shareBest (Nat.le_trans (by decide) hdd) rfl dX11_turned_82 rfl (Nat.le_of_ble_eq_true rfl) ?_
    refine AW.iload_n 2 dX11_turned_85 rfl ?_
    refine AW.iconst dX11_turned_86 ?_
    obtain ⟨r5, e6, h⟩ := hC h
    refine AW.join (tgt := 112) (lv1 := []) (st1 := [iv r5.1]) (g1 := r5.2) ?_ (fun J87 => ?_)
    · exact AW.iret1 rfl dX11_turned_112 h rfl
    replace h := e6
    refine AW.icmp_ne (tgt := 100) dX11_turned_87 (by decide) (fun c3 => ?_) (fun c3 => ?_)
    · replace h := hF h c3
      refine AW.aloadr_n 0 dX11_turned_100 rfl ?_
      refine AW.getR af_X11_79_0 sr_0_9 dX11_turned_101 ?_
      refine AW.getR af_X11_335_10 sr_10_11 dX11_turned_104 ?_
      refine AW.iload_n 2 dX11_turned_107 rfl ?_
      refine AW.bipush dX11_turned_108 (by decide) (by decide) ?_
      refine AW.isub dX11_turned_110 ?_
      obtain ⟨k4, h⟩ := hK h
      refine AW.iald kc_106 sk_106 k4 dX11_turned_111 ?_
      refine AW.sub (lv1 := []) [] rfl ?_
      cases h
      exact J87
    · replace h := hT h c3
      refine AW.aloadr_n 0 dX11_turned_90 rfl ?_
      refine AW.getR af_X11_79_0 sr_0_9 dX11_turned_91 ?_
      refine AW.getI af_X11_332_10 sr_10_12 dX11_turned_94 ?_
      refine AW.goto (tgt := 112) dX11_turned_97 (by decide) ?_
      refine AW.sub (lv1 := []) [] rfl ?_
      cases h
      exact J87
theorem X_turned_ok {z : AZ} {x1 : Int} {x2 : Int} {g : AG} {r : Int × AG} (h : X_turned x1 x2 g = some r) : AMf z yX11_turned cX11_turned 3 (some .int) 13 [rv z 0, iv x1, iv x2] g r := by
  intro d hdd
  refine AM.of (by decide +kernel) (Nat.le_of_ble_eq_true rfl) ?_
  show AW z (RX11, cX11_turned, 3, (some .int)) d (QD (some .int) r) 0 [(0, rv z 0), (1, iv x1), (2, iv x2)] [] g
  unfold X_turned at h
  refine AW.iload_n 1 dX11_turned_0 rfl ?_
  refine AW.iconst dX11_turned_1 ?_
  refine AW.iconst dX11_turned_2 ?_
  refine AW.callSi (As := [iv x1, iv 1, iv 3]) (st := []) X_within_ok cq_X11_99 st_X11_within (Nat.le_trans (by decide) hdd) rfl dX11_turned_3 rfl (Nat.le_of_ble_eq_true rfl) ?_
  refine AW.if_ne (tgt := 11) dX11_turned_6 (by decide) (fun c1 => ?_) (fun c1 => ?_)
  · replace h := hF h c1
    refine AW.iload_n 2 dX11_turned_11 rfl ?_
    refine AW.if_eq (tgt := 20) dX11_turned_12 (by decide) (fun c2 => ?_) (fun c2 => ?_)
    · replace h := hT h c2
      exact (X_turned_b_ok hdd _ h).1 rfl
    · replace h := hF h c2
      refine AW.iload_n 2 dX11_turned_15 rfl ?_
      refine AW.iconst dX11_turned_16 ?_
      refine AW.icmp_ne (tgt := 50) dX11_turned_17 (by decide) (fun c3 => ?_) (fun c3 => ?_)
      · replace h := hF h c3
        refine AW.iload_n 2 dX11_turned_50 rfl ?_
        refine AW.iconst dX11_turned_51 ?_
        refine AW.icmp_eq (tgt := 77) dX11_turned_52 (by decide) (fun c4 => ?_) (fun c4 => ?_)
        · replace h := hT h c4
          exact (X_turned_b_ok hdd _ h).2 rfl
        · replace h := hF h c4
          refine AW.iload_n 2 dX11_turned_55 rfl ?_
          refine AW.bipush dX11_turned_56 (by decide) (by decide) ?_
          refine AW.icmp_lt (tgt := 75) dX11_turned_58 (by decide) (fun c5 => ?_) (fun c5 => ?_)
          · replace h := hT h c5
            refine AW.iconst dX11_turned_75 ?_
            exact AW.iret1 rfl dX11_turned_76 h rfl
          · replace h := hF h c5
            refine AW.iload_n 2 dX11_turned_61 rfl ?_
            refine AW.bipush dX11_turned_62 (by decide) (by decide) ?_
            refine AW.isub dX11_turned_64 ?_
            refine AW.aloadr_n 0 dX11_turned_65 rfl ?_
            refine AW.getR af_X11_79_0 sr_0_9 dX11_turned_66 ?_
            refine AW.getI af_X11_314_10 sr_10_7 dX11_turned_69 ?_
            refine AW.icmp_lt (tgt := 77) dX11_turned_72 (by decide) (fun c6 => ?_) (fun c6 => ?_)
            · replace h := hT h c6
              exact (X_turned_b_ok hdd _ h).2 rfl
            · replace h := hF h c6
              refine AW.iconst dX11_turned_75 ?_
              exact AW.iret1 rfl dX11_turned_76 h rfl
      · replace h := hT h c3
        exact (X_turned_b_ok hdd _ h).1 rfl
  · replace h := hT h c1
    refine AW.iconst dX11_turned_9 ?_
    exact AW.iret1 rfl dX11_turned_10 h rfl
theorem X_weight_ok {z : AZ} {x1 : Int} {x2 : Int} {g : AG} {r : Int × AG} (h : X_weight x1 x2 g = some r) : AMf z yX11_weight cX11_weight 3 (some .boolean) 2 [rv z 0, iv x1, iv x2] g r := by
  intro d hdd
  refine AM.of (by decide +kernel) (Nat.le_of_ble_eq_true rfl) ?_
  show AW z (RX11, cX11_weight, 3, (some .boolean)) d (QD (some .boolean) r) 0 [(0, rv z 0), (1, iv x1), (2, iv x2)] [] g
  unfold X_weight at h
  refine AW.iload_n 1 dX11_weight_0 rfl ?_
  refine AW.callSi (As := [iv x1]) (st := []) X_isPoint_ok cq_X11_111 st_X11_isPoint (Nat.le_trans (by decide) hdd) rfl dX11_weight_1 rfl (Nat.le_of_ble_eq_true rfl) ?_
  refine AW.if_eq (tgt := 17) dX11_weight_4 (by decide) (fun c1 => ?_) (fun c1 => ?_)
  · replace h := hT h c1
    refine AW.iconst dX11_weight_17 ?_
    exact AW.zret1 rfl (Or.inl rfl) dX11_weight_18 h rfl
  · replace h := hF h c1
    refine AW.iload_n 2 dX11_weight_7 rfl ?_
    refine AW.iconst dX11_weight_8 ?_
    refine AW.bipush dX11_weight_9 (by decide) (by decide) ?_
    refine AW.callSi (As := [iv x2, iv 0, iv 99]) (st := []) X_within_ok cq_X11_99 st_X11_within (Nat.le_trans (by decide) hdd) rfl dX11_weight_11 rfl (Nat.le_of_ble_eq_true rfl) ?_
    refine AW.if_ne (tgt := 19) dX11_weight_14 (by decide) (fun c2 => ?_) (fun c2 => ?_)
    · replace h := hF h c2
      refine AW.aloadr_n 0 dX11_weight_19 rfl ?_
      refine AW.getR af_X11_88_0 sr_0_10 dX11_weight_20 ?_
      refine AW.getR af_X11_338_11 sr_11_1 dX11_weight_23 ?_
      refine AW.iload_n 1 dX11_weight_26 rfl ?_
      refine AW.iload_n 2 dX11_weight_27 rfl ?_
      obtain ⟨k3, h⟩ := hK h
      obtain ⟨g4, e5, h⟩ := hBe h
      refine AW.iast kc_107 sk_107 k3 dX11_weight_28 e5 ?_
      refine AW.iconst dX11_weight_29 ?_
      exact AW.zret1 rfl (Or.inr rfl) dX11_weight_30 h rfl
    · replace h := hT h c2
      refine AW.iconst dX11_weight_17 ?_
      exact AW.zret1 rfl (Or.inl rfl) dX11_weight_18 h rfl
set_option synthInstance.maxHeartbeats 2000000 in
theorem Vans_measure_b_ok {z : AZ} {d : Nat} (hdd : 0 ≤ d) : ∀ (x1 : Int) (g : AG) (r : Int × AG), Vans_measure_b x1 g = some r → AW z (RX8, cX8_measure, 2, none) d (QD none r) 2 [(0, rv z 11), (1, iv x1)] [] g := by
  refine Vans_measure_b.partial_correctness (fun x1 g r => AW z (RX8, cX8_measure, 2, none) d (QD none r) 2 [(0, rv z 11), (1, iv x1)] [] g) ?_
  intro fb9 ih x1 g r h
  refine AW.iload_n 1 dX8_measure_2 rfl ?_
  refine AW.bipush dX8_measure_3 (by decide) (by decide) ?_
  refine AW.icmp_ge (tgt := 38) dX8_measure_5 (by decide) (fun c1 => ?_) (fun c1 => ?_)
  · replace h := hT h c1
    exact AW.vret1 rfl dX8_measure_38 h rfl
  · replace h := hF h c1
    refine AW.aloadr_n 0 dX8_measure_8 rfl ?_
    refine AW.getR af_X8_15_11 sr_11_2 dX8_measure_9 ?_
    refine AW.iload_n 1 dX8_measure_12 rfl ?_
    refine AW.iconst dX8_measure_13 ?_
    refine AW.iadd dX8_measure_14 ?_
    refine AW.aloadr_n 0 dX8_measure_15 rfl ?_
    refine AW.getR af_X8_15_11 sr_11_2 dX8_measure_16 ?_
    refine AW.iload_n 1 dX8_measure_19 rfl ?_
    obtain ⟨k2, h⟩ := hK h
    refine AW.iald kc_108 sk_108 k2 dX8_measure_20 ?_
    refine AW.aloadr_n 0 dX8_measure_21 rfl ?_
    refine AW.getR af_X8_36_11 sr_11_0 dX8_measure_22 ?_
    refine AW.getR af_X8_40_1 sr_1_2 dX8_measure_25 ?_
    refine AW.iload_n 1 dX8_measure_28 rfl ?_
    obtain ⟨k3, h⟩ := hK h
    refine AW.iald kc_15 sk_15 k3 dX8_measure_29 ?_
    refine AW.iadd dX8_measure_30 ?_
    obtain ⟨k4, h⟩ := hK h
    obtain ⟨g5, e6, h⟩ := hBe h
    refine AW.iast kc_108 sk_108 k4 dX8_measure_31 e6 ?_
    refine AW.iinc (lv1 := [(1, iv (x1 + 1)), (0, rv z 11)]) 1 dX8_measure_32 rfl (by decide) rfl ?_
    refine AW.goto (tgt := 2) dX8_measure_35 (by decide) ?_
    refine AW.sub (lv1 := [(0, rv z 11), (1, iv (x1 + 1))]) [1, 0] rfl ?_
    exact ih _ _ _ h
theorem Vans_measure_ok {z : AZ} {g : AG} {r : Int × AG} (h : Vans_measure g = some r) : AMf z yX8_measure cX8_measure 2 none 0 [rv z 11] g r := by
  intro d hdd
  refine AM.of (by decide +kernel) (Nat.le_of_ble_eq_true rfl) ?_
  show AW z (RX8, cX8_measure, 2, none) d (QD none r) 0 [(0, rv z 11)] [] g
  unfold Vans_measure at h
  refine AW.iconst dX8_measure_0 ?_
  refine AW.istore_n (lv1 := [(1, iv 0), (0, rv z 11)]) dX8_measure_1 (by decide) rfl ?_
  refine AW.sub (lv1 := [(0, rv z 11), (1, iv 0)]) [1, 0] rfl ?_
  exact Vans_measure_b_ok hdd _ _ _ h
theorem Vans_minutes_ok {z : AZ} {x1 : Int} {x2 : Int} {g : AG} {r : Int × AG} (h : Vans_minutes x1 x2 g = some r) : AMf z yX8_minutes cX8_minutes 3 (some .int) 1 [rv z 11, iv x1, iv x2] g r := by
  intro d hdd
  refine AM.of (by decide +kernel) (Nat.le_of_ble_eq_true rfl) ?_
  show AW z (RX8, cX8_minutes, 3, (some .int)) d (QD (some .int) r) 0 [(0, rv z 11), (1, iv x1), (2, iv x2)] [] g
  unfold Vans_minutes at h
  refine AW.aloadr_n 0 dX8_minutes_0 rfl ?_
  refine AW.getR af_X8_15_11 sr_11_2 dX8_minutes_1 ?_
  refine AW.iload_n 1 dX8_minutes_4 rfl ?_
  obtain ⟨k1, h⟩ := hK h
  refine AW.iald kc_108 sk_108 k1 dX8_minutes_5 ?_
  refine AW.aloadr_n 0 dX8_minutes_6 rfl ?_
  refine AW.getR af_X8_15_11 sr_11_2 dX8_minutes_7 ?_
  refine AW.iload_n 2 dX8_minutes_10 rfl ?_
  obtain ⟨k2, h⟩ := hK h
  refine AW.iald kc_108 sk_108 k2 dX8_minutes_11 ?_
  refine AW.isub dX8_minutes_12 ?_
  refine AW.mabs (st := []) cm_X8_45 mst_abs mini mcd_abs (Nat.le_trans (by decide) hdd) (Nat.le_of_ble_eq_true rfl) dX8_minutes_13 ?_
  exact AW.iret1 rfl dX8_minutes_16 h rfl
set_option synthInstance.maxHeartbeats 2000000 in
theorem Vans_worstFrom_b_ok {z : AZ} {d : Nat} (hdd : 2 ≤ d) {x1 : Int} : ∀ (x2 : Int) (x3 : Int) (g : AG) (r : Int × AG), Vans_worstFrom_b x1 x2 x3 g = some r → AW z (RX8, cX8_worstFrom, 4, (some .int)) d (QD (some .int) r) 4 [(0, rv z 11), (1, iv x1), (2, iv x2), (3, iv x3)] [] g := by
  refine Vans_worstFrom_b.partial_correctness x1 (fun x2 x3 g r => AW z (RX8, cX8_worstFrom, 4, (some .int)) d (QD (some .int) r) 4 [(0, rv z 11), (1, iv x1), (2, iv x2), (3, iv x3)] [] g) ?_
  intro fb9 ih x2 x3 g r h
  refine AW.iload_n 3 dX8_worstFrom_4 rfl ?_
  refine AW.bipush dX8_worstFrom_5 (by decide) (by decide) ?_
  refine AW.icmp_ge (tgt := 40) dX8_worstFrom_7 (by decide) (fun c1 => ?_) (fun c1 => ?_)
  · replace h := hT h c1
    refine AW.iload_n 2 dX8_worstFrom_40 rfl ?_
    exact AW.iret1 rfl dX8_worstFrom_41 h rfl
  · replace h := hF h c1
    refine AW.aloadr_n 0 dX8_worstFrom_10 rfl ?_
    refine AW.getR af_X8_9_11 sr_11_1 dX8_worstFrom_11 ?_
    refine AW.iload_n 3 dX8_worstFrom_14 rfl ?_
    obtain ⟨k2, h⟩ := hK h
    refine AW.iald kc_107 sk_107 k2 dX8_worstFrom_15 ?_
    obtain ⟨r6, e7, h⟩ := hC h
    refine AW.join (tgt := 33) (lv1 := [(0, rv z 11), (1, iv x1), (3, iv x3)]) (st1 := [iv r6.1]) (g1 := r6.2) ?_ (fun J16 => ?_)
    · refine AW.istore_n (lv1 := [(2, iv r6.1), (0, rv z 11), (1, iv x1), (3, iv x3)]) dX8_worstFrom_33 (by decide) rfl ?_
      refine AW.iinc (lv1 := [(3, iv (x3 + 1)), (2, iv r6.1), (0, rv z 11), (1, iv x1)]) 3 dX8_worstFrom_34 rfl (by decide) rfl ?_
      refine AW.goto (tgt := 4) dX8_worstFrom_37 (by decide) ?_
      refine AW.sub (lv1 := [(0, rv z 11), (1, iv x1), (2, iv r6.1), (3, iv (x3 + 1))]) [2, 3, 1, 0] rfl ?_
      exact ih _ _ _ _ h
    replace h := e7
    refine AW.if_le (tgt := 32) dX8_worstFrom_16 (by decide) (fun c3 => ?_) (fun c3 => ?_)
    · replace h := hT h c3
      refine AW.iload_n 2 dX8_worstFrom_32 rfl ?_
      refine AW.sub (lv1 := [(0, rv z 11), (1, iv x1), (3, iv x3)]) [0, 1, 3] rfl ?_
      cases h
      exact J16
    · replace h := hF h c3
      refine AW.iload_n 2 dX8_worstFrom_19 rfl ?_
      refine AW.aloadr_n 0 dX8_worstFrom_20 rfl ?_
      refine AW.iload_n 1 dX8_worstFrom_21 rfl ?_
      refine AW.iload_n 3 dX8_worstFrom_22 rfl ?_
      obtain ⟨r4, e5, h⟩ := hC h
      refine AW.callVi (As := [iv x1, iv x3]) (st := [iv x2]) (Vans_minutes_ok e5) cq_X8_51 cr_11_X8_minutes (Nat.le_trans (by decide) hdd) rfl dX8_worstFrom_23 rfl (Nat.le_of_ble_eq_true rfl) ?_
      refine AW.mmax (st := []) cm_X8_61 mst_max mini mcd_max (Nat.le_trans (by decide) hdd) (Nat.le_of_ble_eq_true rfl) dX8_worstFrom_26 ?_
      refine AW.goto (tgt := 33) dX8_worstFrom_29 (by decide) ?_
      refine AW.sub (lv1 := [(0, rv z 11), (1, iv x1), (3, iv x3)]) [0, 1, 3] rfl ?_
      cases h
      exact J16
theorem Vans_worstFrom_ok {z : AZ} {x1 : Int} {g : AG} {r : Int × AG} (h : Vans_worstFrom x1 g = some r) : AMf z yX8_worstFrom cX8_worstFrom 4 (some .int) 2 [rv z 11, iv x1] g r := by
  intro d hdd
  refine AM.of (by decide +kernel) (Nat.le_of_ble_eq_true rfl) ?_
  show AW z (RX8, cX8_worstFrom, 4, (some .int)) d (QD (some .int) r) 0 [(0, rv z 11), (1, iv x1)] [] g
  unfold Vans_worstFrom at h
  refine AW.iconst dX8_worstFrom_0 ?_
  refine AW.istore_n (lv1 := [(2, iv 0), (0, rv z 11), (1, iv x1)]) dX8_worstFrom_1 (by decide) rfl ?_
  refine AW.iconst dX8_worstFrom_2 ?_
  refine AW.istore_n (lv1 := [(3, iv 0), (2, iv 0), (0, rv z 11), (1, iv x1)]) dX8_worstFrom_3 (by decide) rfl ?_
  refine AW.sub (lv1 := [(0, rv z 11), (1, iv x1), (2, iv 0), (3, iv 0)]) [2, 3, 1, 0] rfl ?_
  exact Vans_worstFrom_b_ok hdd _ _ _ _ h
set_option synthInstance.maxHeartbeats 2000000 in
theorem Vans_sumFrom_b_ok {z : AZ} {d : Nat} (hdd : 2 ≤ d) {x1 : Int} {x2 : Int} : ∀ (x3 : Int) (x4 : Int) (g : AG) (r : Int × AG), Vans_sumFrom_b x1 x2 x3 x4 g = some r → AW z (RX8, cX8_sumFrom, 5, (some .int)) d (QD (some .int) r) 5 [(0, rv z 11), (1, iv x1), (2, iv x2), (3, iv x3), (4, iv x4)] [] g := by
  refine Vans_sumFrom_b.partial_correctness x1 x2 (fun x3 x4 g r => AW z (RX8, cX8_sumFrom, 5, (some .int)) d (QD (some .int) r) 5 [(0, rv z 11), (1, iv x1), (2, iv x2), (3, iv x3), (4, iv x4)] [] g) ?_
  intro fb9 ih x3 x4 g r h
  refine AW.iload 4 dX8_sumFrom_5 rfl ?_
  refine AW.bipush dX8_sumFrom_7 (by decide) (by decide) ?_
  refine AW.icmp_ge (tgt := 46) dX8_sumFrom_9 (by decide) (fun c1 => ?_) (fun c1 => ?_)
  · replace h := hT h c1
    refine AW.iload_n 3 dX8_sumFrom_46 rfl ?_
    exact AW.iret1 rfl dX8_sumFrom_47 h rfl
  · replace h := hF h c1
    refine AW.iload_n 3 dX8_sumFrom_12 rfl ?_
    refine AW.aloadr_n 0 dX8_sumFrom_13 rfl ?_
    refine AW.getR af_X8_9_11 sr_11_1 dX8_sumFrom_14 ?_
    refine AW.iload 4 dX8_sumFrom_17 rfl ?_
    obtain ⟨k2, h⟩ := hK h
    refine AW.iald kc_107 sk_107 k2 dX8_sumFrom_19 ?_
    refine AW.aloadr_n 0 dX8_sumFrom_20 rfl ?_
    refine AW.iload_n 1 dX8_sumFrom_21 rfl ?_
    refine AW.iload 4 dX8_sumFrom_22 rfl ?_
    obtain ⟨r3, e4, h⟩ := hC h
    refine AW.callVi (As := [iv x1, iv x4]) (st := [iv (g 107 (ix x4)), iv x3]) (Vans_minutes_ok e4) cq_X8_51 cr_11_X8_minutes (Nat.le_trans (by decide) hdd) rfl dX8_sumFrom_24 rfl (Nat.le_of_ble_eq_true rfl) ?_
    refine AW.aloadr_n 0 dX8_sumFrom_27 rfl ?_
    refine AW.iload_n 2 dX8_sumFrom_28 rfl ?_
    refine AW.iload 4 dX8_sumFrom_29 rfl ?_
    obtain ⟨r5, e6, h⟩ := hC h
    refine AW.callVi (As := [iv x2, iv x4]) (st := [iv r3.1, iv (g 107 (ix x4)), iv x3]) (Vans_minutes_ok e6) cq_X8_51 cr_11_X8_minutes (Nat.le_trans (by decide) hdd) rfl dX8_sumFrom_31 rfl (Nat.le_of_ble_eq_true rfl) ?_
    refine AW.mmin (st := [iv (g 107 (ix x4)), iv x3]) cm_X8_55 mst_min mini mcd_min (Nat.le_trans (by decide) hdd) (Nat.le_of_ble_eq_true rfl) dX8_sumFrom_34 ?_
    refine AW.imul dX8_sumFrom_37 ?_
    refine AW.iadd dX8_sumFrom_38 ?_
    refine AW.istore_n (lv1 := [(3, iv (x3 + ((g 107 (ix x4)) * (mnI r3.1 r5.1)))), (0, rv z 11), (1, iv x1), (2, iv x2), (4, iv x4)]) dX8_sumFrom_39 (by decide) rfl ?_
    refine AW.iinc (lv1 := [(4, iv (x4 + 1)), (3, iv (x3 + ((g 107 (ix x4)) * (mnI r3.1 r5.1)))), (0, rv z 11), (1, iv x1), (2, iv x2)]) 4 dX8_sumFrom_40 rfl (by decide) rfl ?_
    refine AW.goto (tgt := 5) dX8_sumFrom_43 (by decide) ?_
    refine AW.sub (lv1 := [(0, rv z 11), (1, iv x1), (2, iv x2), (3, iv (x3 + ((g 107 (ix x4)) * (mnI r3.1 r5.1)))), (4, iv (x4 + 1))]) [2, 3, 4, 1, 0] rfl ?_
    exact ih _ _ _ _ h
theorem Vans_sumFrom_ok {z : AZ} {x1 : Int} {x2 : Int} {g : AG} {r : Int × AG} (h : Vans_sumFrom x1 x2 g = some r) : AMf z yX8_sumFrom cX8_sumFrom 5 (some .int) 2 [rv z 11, iv x1, iv x2] g r := by
  intro d hdd
  refine AM.of (by decide +kernel) (Nat.le_of_ble_eq_true rfl) ?_
  show AW z (RX8, cX8_sumFrom, 5, (some .int)) d (QD (some .int) r) 0 [(0, rv z 11), (1, iv x1), (2, iv x2)] [] g
  unfold Vans_sumFrom at h
  refine AW.iconst dX8_sumFrom_0 ?_
  refine AW.istore_n (lv1 := [(3, iv 0), (0, rv z 11), (1, iv x1), (2, iv x2)]) dX8_sumFrom_1 (by decide) rfl ?_
  refine AW.iconst dX8_sumFrom_2 ?_
  refine AW.istore (lv1 := [(4, iv 0), (3, iv 0), (0, rv z 11), (1, iv x1), (2, iv x2)]) dX8_sumFrom_3 (by decide) rfl ?_
  refine AW.sub (lv1 := [(0, rv z 11), (1, iv x1), (2, iv x2), (3, iv 0), (4, iv 0)]) [2, 3, 4, 1, 0] rfl ?_
  exact Vans_sumFrom_b_ok hdd _ _ _ _ h
set_option synthInstance.maxHeartbeats 2000000 in
theorem Vans_bestPoint_b_ok {z : AZ} {d : Nat} (hdd : 3 ≤ d) : ∀ (x1 : Int) (x2 : Int) (g : AG) (r : Int × AG), Vans_bestPoint_b x1 x2 g = some r → AW z (RX8, cX8_bestPoint, 3, (some .int)) d (QD (some .int) r) 4 [(0, rv z 11), (1, iv x1), (2, iv x2)] [] g := by
  refine Vans_bestPoint_b.partial_correctness (fun x1 x2 g r => AW z (RX8, cX8_bestPoint, 3, (some .int)) d (QD (some .int) r) 4 [(0, rv z 11), (1, iv x1), (2, iv x2)] [] g) ?_
  intro fb9 ih x1 x2 g r h
  refine AW.iload_n 2 dX8_bestPoint_4 rfl ?_
  refine AW.bipush dX8_bestPoint_5 (by decide) (by decide) ?_
  refine AW.icmp_ge (tgt := 37) dX8_bestPoint_7 (by decide) (fun c1 => ?_) (fun c1 => ?_)
  · replace h := hT h c1
    refine AW.iload_n 1 dX8_bestPoint_37 rfl ?_
    exact AW.iret1 rfl dX8_bestPoint_38 h rfl
  · replace h := hF h c1
    refine AW.aloadr_n 0 dX8_bestPoint_10 rfl ?_
    refine AW.iload_n 2 dX8_bestPoint_11 rfl ?_
    refine AW.iload_n 2 dX8_bestPoint_12 rfl ?_
    obtain ⟨r2, e3, h⟩ := hC h
    refine AW.callVi (As := [iv x2, iv x2]) (st := []) (Vans_sumFrom_ok e3) cq_X8_58 cr_11_X8_sumFrom (Nat.le_trans (by decide) hdd) rfl dX8_bestPoint_13 rfl (Nat.le_of_ble_eq_true rfl) ?_
    refine AW.aloadr_n 0 dX8_bestPoint_16 rfl ?_
    refine AW.iload_n 1 dX8_bestPoint_17 rfl ?_
    refine AW.iload_n 1 dX8_bestPoint_18 rfl ?_
    obtain ⟨r4, e5, h⟩ := hC h
    refine AW.callVi (As := [iv x1, iv x1]) (st := [iv r2.1]) (Vans_sumFrom_ok e5) cq_X8_58 cr_11_X8_sumFrom (Nat.le_trans (by decide) hdd) rfl dX8_bestPoint_19 rfl (Nat.le_of_ble_eq_true rfl) ?_
    obtain ⟨t6, e7, h⟩ := hBe h
    refine AW.join (tgt := 30) (lv1 := [(0, rv z 11), (1, iv x1), (2, iv x2)]) (st1 := [iv t6]) (g1 := r4.2) ?_ (fun J22 => ?_)
    · refine AW.istore_n (lv1 := [(1, iv t6), (0, rv z 11), (2, iv x2)]) dX8_bestPoint_30 (by decide) rfl ?_
      refine AW.iinc (lv1 := [(2, iv (x2 + 1)), (1, iv t6), (0, rv z 11)]) 2 dX8_bestPoint_31 rfl (by decide) rfl ?_
      refine AW.goto (tgt := 4) dX8_bestPoint_34 (by decide) ?_
      refine AW.sub (lv1 := [(0, rv z 11), (1, iv t6), (2, iv (x2 + 1))]) [2, 1, 0] rfl ?_
      exact ih _ _ _ _ h
    refine AW.icmp_ge (tgt := 29) dX8_bestPoint_22 (by decide) (fun c8 => ?_) (fun c8 => ?_)
    · refine AW.iload_n 1 dX8_bestPoint_29 rfl ?_
      exact AW.val (e7.trans (if_pos c8)) J22
    · refine AW.iload_n 2 dX8_bestPoint_25 rfl ?_
      refine AW.goto (tgt := 30) dX8_bestPoint_26 (by decide) ?_
      exact AW.val (e7.trans (if_neg c8)) J22
theorem Vans_bestPoint_ok {z : AZ} {g : AG} {r : Int × AG} (h : Vans_bestPoint g = some r) : AMf z yX8_bestPoint cX8_bestPoint 3 (some .int) 3 [rv z 11] g r := by
  intro d hdd
  refine AM.of (by decide +kernel) (Nat.le_of_ble_eq_true rfl) ?_
  show AW z (RX8, cX8_bestPoint, 3, (some .int)) d (QD (some .int) r) 0 [(0, rv z 11)] [] g
  unfold Vans_bestPoint at h
  refine AW.iconst dX8_bestPoint_0 ?_
  refine AW.istore_n (lv1 := [(1, iv 0), (0, rv z 11)]) dX8_bestPoint_1 (by decide) rfl ?_
  refine AW.iconst dX8_bestPoint_2 ?_
  refine AW.istore_n (lv1 := [(2, iv 1), (1, iv 0), (0, rv z 11)]) dX8_bestPoint_3 (by decide) rfl ?_
  refine AW.sub (lv1 := [(0, rv z 11), (1, iv 0), (2, iv 1)]) [2, 1, 0] rfl ?_
  exact Vans_bestPoint_b_ok hdd _ _ _ _ h
theorem X_van_ok {z : AZ} {x1 : Int} {g : AG} {r : Int × AG} (h : X_van x1 g = some r) : AMf z yX11_van cX11_van 3 (some .int) 4 [rv z 0, iv x1] g r := by
  intro d hdd
  refine AM.of (by decide +kernel) (Nat.le_of_ble_eq_true rfl) ?_
  show AW z (RX11, cX11_van, 3, (some .int)) d (QD (some .int) r) 0 [(0, rv z 0), (1, iv x1)] [] g
  unfold X_van at h
  refine AW.aloadr_n 0 dX11_van_0 rfl ?_
  refine AW.getR af_X11_88_0 sr_0_10 dX11_van_1 ?_
  obtain ⟨r1, e2, h⟩ := hC h
  refine AW.callVv (As := []) (st := []) (Vans_measure_ok e2) cq_X11_341 cr_11_X8_measure (Nat.le_trans (by decide) hdd) rfl dX11_van_4 rfl (Nat.le_of_ble_eq_true rfl) ?_
  refine AW.iload_n 1 dX11_van_7 rfl ?_
  refine AW.iconst dX11_van_8 ?_
  refine AW.iconst dX11_van_9 ?_
  refine AW.callSi (As := [iv x1, iv 0, iv 2]) (st := []) X_within_ok cq_X11_99 st_X11_within (Nat.le_trans (by decide) hdd) rfl dX11_van_10 rfl (Nat.le_of_ble_eq_true rfl) ?_
  refine AW.if_eq (tgt := 56) dX11_van_13 (by decide) (fun c3 => ?_) (fun c3 => ?_)
  · replace h := hT h c3
    refine AW.iload_n 1 dX11_van_56 rfl ?_
    refine AW.bipush dX11_van_57 (by decide) (by decide) ?_
    refine AW.isub dX11_van_59 ?_
    refine AW.callSi (As := [iv (x1 - 100)]) (st := []) X_isPoint_ok cq_X11_111 st_X11_isPoint (Nat.le_trans (by decide) hdd) rfl dX11_van_60 rfl (Nat.le_of_ble_eq_true rfl) ?_
    refine AW.if_eq (tgt := 82) dX11_van_63 (by decide) (fun c4 => ?_) (fun c4 => ?_)
    · replace h := hT h c4
      refine AW.iload_n 1 dX11_van_82 rfl ?_
      refine AW.sipush dX11_van_83 (by decide) (by decide) ?_
      refine AW.isub dX11_van_86 ?_
      refine AW.callSi (As := [iv (x1 - 200)]) (st := []) X_isPoint_ok cq_X11_111 st_X11_isPoint (Nat.le_trans (by decide) hdd) rfl dX11_van_87 rfl (Nat.le_of_ble_eq_true rfl) ?_
      obtain ⟨r8, e9, h⟩ := hC h
      refine AW.join (tgt := 109) (lv1 := []) (st1 := [iv r8.1]) (g1 := r8.2) ?_ (fun J90 => ?_)
      · exact AW.iret1 rfl dX11_van_109 h rfl
      replace h := e9
      refine AW.if_eq (tgt := 108) dX11_van_90 (by decide) (fun c5 => ?_) (fun c5 => ?_)
      · replace h := hT h c5
        refine AW.iconst dX11_van_108 ?_
        refine AW.sub (lv1 := []) [] rfl ?_
        cases h
        exact J90
      · replace h := hF h c5
        refine AW.aloadr_n 0 dX11_van_93 rfl ?_
        refine AW.getR af_X11_88_0 sr_0_10 dX11_van_94 ?_
        refine AW.iload_n 1 dX11_van_97 rfl ?_
        refine AW.sipush dX11_van_98 (by decide) (by decide) ?_
        refine AW.isub dX11_van_101 ?_
        obtain ⟨r6, e7, h⟩ := hC h
        refine AW.callVi (As := [iv (x1 - 200)]) (st := []) (Vans_worstFrom_ok e7) cq_X11_350 cr_11_X8_worstFrom (Nat.le_trans (by decide) hdd) rfl dX11_van_102 rfl (Nat.le_of_ble_eq_true rfl) ?_
        refine AW.goto (tgt := 109) dX11_van_105 (by decide) ?_
        refine AW.sub (lv1 := []) [] rfl ?_
        cases h
        exact J90
    · replace h := hF h c4
      refine AW.aloadr_n 0 dX11_van_66 rfl ?_
      refine AW.getR af_X11_88_0 sr_0_10 dX11_van_67 ?_
      refine AW.iload_n 1 dX11_van_70 rfl ?_
      refine AW.bipush dX11_van_71 (by decide) (by decide) ?_
      refine AW.isub dX11_van_73 ?_
      refine AW.iload_n 1 dX11_van_74 rfl ?_
      refine AW.bipush dX11_van_75 (by decide) (by decide) ?_
      refine AW.isub dX11_van_77 ?_
      obtain ⟨r10, e11, h⟩ := hC h
      refine AW.callVi (As := [iv (x1 - 100), iv (x1 - 100)]) (st := []) (Vans_sumFrom_ok e11) cq_X11_347 cr_11_X8_sumFrom (Nat.le_trans (by decide) hdd) rfl dX11_van_78 rfl (Nat.le_of_ble_eq_true rfl) ?_
      exact AW.iret1 rfl dX11_van_81 h rfl
  · replace h := hF h c3
    refine AW.aloadr_n 0 dX11_van_16 rfl ?_
    refine AW.getR af_X11_88_0 sr_0_10 dX11_van_17 ?_
    obtain ⟨r12, e13, h⟩ := hC h
    refine AW.callVi (As := []) (st := []) (Vans_bestPoint_ok e13) cq_X11_344 cr_11_X8_bestPoint (Nat.le_trans (by decide) hdd) rfl dX11_van_20 rfl (Nat.le_of_ble_eq_true rfl) ?_
    refine AW.istore_n (lv1 := [(2, iv r12.1), (0, rv z 0), (1, iv x1)]) dX11_van_23 (by decide) rfl ?_
    refine AW.iload_n 2 dX11_van_24 rfl ?_
    refine AW.if_ne (tgt := 30) dX11_van_25 (by decide) (fun c14 => ?_) (fun c14 => ?_)
    · replace h := hF h c14
      refine AW.iload_n 2 dX11_van_30 rfl ?_
      refine AW.iconst dX11_van_31 ?_
      obtain ⟨r20, e21, h⟩ := hC h
      refine AW.join (tgt := 55) (lv1 := []) (st1 := [iv r20.1]) (g1 := r20.2) ?_ (fun J32 => ?_)
      · exact AW.iret1 rfl dX11_van_55 h rfl
      replace h := e21
      refine AW.icmp_ne (tgt := 47) dX11_van_32 (by decide) (fun c15 => ?_) (fun c15 => ?_)
      · replace h := hF h c15
        refine AW.aloadr_n 1 dX11_van_47 rfl ?_
        refine AW.getR af_X11_88_0 sr_0_10 dX11_van_48 ?_
        refine AW.iload_n 0 dX11_van_51 rfl ?_
        obtain ⟨r16, e17, h⟩ := hC h
        refine AW.callVi (As := [iv r12.1]) (st := []) (Vans_worstFrom_ok e17) cq_X11_350 cr_11_X8_worstFrom (Nat.le_trans (by decide) hdd) rfl dX11_van_52 rfl (Nat.le_of_ble_eq_true rfl) ?_
        refine AW.sub (lv1 := []) [] rfl ?_
        cases h
        exact J32
      · replace h := hT h c15
        refine AW.aloadr_n 1 dX11_van_35 rfl ?_
        refine AW.getR af_X11_88_0 sr_0_10 dX11_van_36 ?_
        refine AW.iload_n 0 dX11_van_39 rfl ?_
        refine AW.iload_n 0 dX11_van_40 rfl ?_
        obtain ⟨r18, e19, h⟩ := hC h
        refine AW.callVi (As := [iv r12.1, iv r12.1]) (st := []) (Vans_sumFrom_ok e19) cq_X11_347 cr_11_X8_sumFrom (Nat.le_trans (by decide) hdd) rfl dX11_van_41 rfl (Nat.le_of_ble_eq_true rfl) ?_
        refine AW.goto (tgt := 55) dX11_van_44 (by decide) ?_
        refine AW.sub (lv1 := []) [] rfl ?_
        cases h
        exact J32
    · replace h := hT h c14
      refine AW.iload_n 0 dX11_van_28 rfl ?_
      exact AW.iret1 rfl dX11_van_29 h rfl
set_option synthInstance.maxHeartbeats 2000000 in
theorem Vans_findCouple_b_ok {z : AZ} {d : Nat} (hdd : 3 ≤ d) : ∀ (tag : Nat) (x1 : Int) (x2 : Int) (g : AG) (r : Int × AG), Vans_findCouple_b tag x1 x2 g = some r → (tag = 1 → AW z (RX8, cX8_findCouple, 4, none) d (QD none r) 17 [(0, rv z 11), (1, iv x1)] [] g) ∧ (tag = 2 → AW z (RX8, cX8_findCouple, 4, none) d (QD none r) 25 [(0, rv z 11), (1, iv x1), (2, iv x2)] [] g) := by
  refine Vans_findCouple_b.partial_correctness (fun tag x1 x2 g r => (tag = 1 → AW z (RX8, cX8_findCouple, 4, none) d (QD none r) 17 [(0, rv z 11), (1, iv x1)] [] g) ∧ (tag = 2 → AW z (RX8, cX8_findCouple, 4, none) d (QD none r) 25 [(0, rv z 11), (1, iv x1), (2, iv x2)] [] g)) ?_
  intro fb9 ih tag x1 x2 g r h
  refine ⟨fun h9 => ?_, fun h9 => ?_⟩
  · subst h9
    replace h := hT h rfl
    refine AW.iload_n 1 dX8_findCouple_17 rfl ?_
    refine AW.bipush dX8_findCouple_18 (by decide) (by decide) ?_
    refine AW.icmp_ge (tgt := 73) dX8_findCouple_20 (by decide) (fun c1 => ?_) (fun c1 => ?_)
    · replace h := hT h c1
      exact AW.vret1 rfl dX8_findCouple_73 h rfl
    · replace h := hF h c1
      refine AW.iload_n 1 dX8_findCouple_23 rfl ?_
      refine AW.istore_n (lv1 := [(2, iv x1), (0, rv z 11), (1, iv x1)]) dX8_findCouple_24 (by decide) rfl ?_
      refine AW.sub (lv1 := [(0, rv z 11), (1, iv x1), (2, iv x1)]) [1, 2, 0] rfl ?_
      exact (ih _ _ _ _ _ h).2 rfl
  · subst h9
    replace h := hF h (by decide)
    replace h := hT h rfl
    refine AW.iload_n 2 dX8_findCouple_25 rfl ?_
    refine AW.bipush dX8_findCouple_26 (by decide) (by decide) ?_
    refine AW.icmp_ge (tgt := 67) dX8_findCouple_28 (by decide) (fun c1 => ?_) (fun c1 => ?_)
    · replace h := hT h c1
      refine AW.iinc (lv1 := [(1, iv (x1 + 1)), (0, rv z 11), (2, iv x2)]) 1 dX8_findCouple_67 rfl (by decide) rfl ?_
      refine AW.goto (tgt := 17) dX8_findCouple_70 (by decide) ?_
      refine AW.sub (lv1 := [(0, rv z 11), (1, iv (x1 + 1))]) [1, 0] rfl ?_
      exact (ih _ _ _ _ _ h).1 rfl
    · replace h := hF h c1
      refine AW.aloadr_n 0 dX8_findCouple_31 rfl ?_
      refine AW.iload_n 1 dX8_findCouple_32 rfl ?_
      refine AW.iload_n 2 dX8_findCouple_33 rfl ?_
      obtain ⟨r2, e3, h⟩ := hC h
      refine AW.callVi (As := [iv x1, iv x2]) (st := []) (Vans_sumFrom_ok e3) cq_X8_58 cr_11_X8_sumFrom (Nat.le_trans (by decide) hdd) rfl dX8_findCouple_34 rfl (Nat.le_of_ble_eq_true rfl) ?_
      refine AW.istore_n (lv1 := [(3, iv r2.1), (0, rv z 11), (1, iv x1), (2, iv x2)]) dX8_findCouple_37 (by decide) rfl ?_
      refine AW.iload_n 0 dX8_findCouple_38 rfl ?_
      refine AW.aloadr_n 1 dX8_findCouple_39 rfl ?_
      refine AW.getI af_X8_68_11 sr_11_4 dX8_findCouple_40 ?_
      obtain ⟨r9, e10, h⟩ := hC h
      refine AW.join (tgt := 61) (lv1 := [(0, rv z 11), (1, iv x1), (2, iv x2)]) (st1 := []) (g1 := r9) ?_ (fun J43 => ?_)
      · refine AW.iinc (lv1 := [(2, iv (x2 + 1)), (0, rv z 11), (1, iv x1)]) 2 dX8_findCouple_61 rfl (by decide) rfl ?_
        refine AW.goto (tgt := 25) dX8_findCouple_64 (by decide) ?_
        refine AW.sub (lv1 := [(0, rv z 11), (1, iv x1), (2, iv (x2 + 1))]) [1, 2, 0] rfl ?_
        exact (ih _ _ _ _ _ h).2 rfl
      replace h := e10
      refine AW.icmp_ge (tgt := 61) dX8_findCouple_43 (by decide) (fun c4 => ?_) (fun c4 => ?_)
      · replace h := hT h c4
        refine AW.sub (lv1 := [(0, rv z 11), (1, iv x1), (2, iv x2)]) [1, 2, 3] rfl ?_
        cases h
        exact J43
      · replace h := hF h c4
        refine AW.aloadr_n 1 dX8_findCouple_46 rfl ?_
        refine AW.bipush dX8_findCouple_47 (by decide) (by decide) ?_
        refine AW.iload_n 2 dX8_findCouple_49 rfl ?_
        refine AW.imul dX8_findCouple_50 ?_
        refine AW.iload_n 3 dX8_findCouple_51 rfl ?_
        refine AW.iadd dX8_findCouple_52 ?_
        obtain ⟨g5, e6, h⟩ := hBe h
        refine AW.putI ap_X8_64_11 sr_11_3 dX8_findCouple_53 e6 ?_
        refine AW.aloadr_n 1 dX8_findCouple_56 rfl ?_
        refine AW.iload_n 0 dX8_findCouple_57 rfl ?_
        obtain ⟨g7, e8, h⟩ := hBe h
        refine AW.putI ap_X8_68_11 sr_11_4 dX8_findCouple_58 e8 ?_
        refine AW.sub (lv1 := [(0, rv z 11), (1, iv x1), (2, iv x2)]) [1, 2, 3] rfl ?_
        cases h
        exact J43
theorem Vans_findCouple_ok {z : AZ} {g : AG} {r : Int × AG} (h : Vans_findCouple g = some r) : AMf z yX8_findCouple cX8_findCouple 4 none 3 [rv z 11] g r := by
  intro d hdd
  refine AM.of (by decide +kernel) (Nat.le_of_ble_eq_true rfl) ?_
  show AW z (RX8, cX8_findCouple, 4, none) d (QD none r) 0 [(0, rv z 11)] [] g
  unfold Vans_findCouple at h
  refine AW.aloadr_n 0 dX8_findCouple_0 rfl ?_
  refine AW.iconst dX8_findCouple_1 ?_
  obtain ⟨g1, e2, h⟩ := hBe h
  refine AW.putI ap_X8_64_11 sr_11_3 dX8_findCouple_2 e2 ?_
  refine AW.aloadr_n 0 dX8_findCouple_5 rfl ?_
  refine AW.aloadr_n 0 dX8_findCouple_6 rfl ?_
  refine AW.iconst dX8_findCouple_7 ?_
  refine AW.iconst dX8_findCouple_8 ?_
  obtain ⟨r3, e4, h⟩ := hC h
  refine AW.callVi (As := [iv 0, iv 0]) (st := [rv z 11]) (Vans_sumFrom_ok e4) cq_X8_58 cr_11_X8_sumFrom (Nat.le_trans (by decide) hdd) rfl dX8_findCouple_9 rfl (Nat.le_of_ble_eq_true rfl) ?_
  obtain ⟨g5, e6, h⟩ := hBe h
  refine AW.putI ap_X8_68_11 sr_11_4 dX8_findCouple_12 e6 ?_
  refine AW.iconst dX8_findCouple_15 ?_
  refine AW.istore_n (lv1 := [(1, iv 0), (0, rv z 11)]) dX8_findCouple_16 (by decide) rfl ?_
  refine AW.sub (lv1 := [(0, rv z 11), (1, iv 0)]) [1, 0] rfl ?_
  exact (Vans_findCouple_b_ok hdd _ _ _ _ _ h).1 rfl
theorem X_vans_ok {z : AZ} {x1 : Int} {g : AG} {r : Int × AG} (h : X_vans x1 g = some r) : AMf z yX11_vans cX11_vans 2 (some .int) 4 [rv z 0, iv x1] g r := by
  intro d hdd
  refine AM.of (by decide +kernel) (Nat.le_of_ble_eq_true rfl) ?_
  show AW z (RX11, cX11_vans, 2, (some .int)) d (QD (some .int) r) 0 [(0, rv z 0), (1, iv x1)] [] g
  unfold X_vans at h
  refine AW.iload_n 1 dX11_vans_0 rfl ?_
  refine AW.iconst dX11_vans_1 ?_
  refine AW.iconst dX11_vans_2 ?_
  refine AW.callSi (As := [iv x1, iv 0, iv 1]) (st := []) X_within_ok cq_X11_99 st_X11_within (Nat.le_trans (by decide) hdd) rfl dX11_vans_3 rfl (Nat.le_of_ble_eq_true rfl) ?_
  refine AW.if_ne (tgt := 11) dX11_vans_6 (by decide) (fun c1 => ?_) (fun c1 => ?_)
  · replace h := hF h c1
    refine AW.aloadr_n 0 dX11_vans_11 rfl ?_
    refine AW.getR af_X11_88_0 sr_0_10 dX11_vans_12 ?_
    obtain ⟨r2, e3, h⟩ := hC h
    refine AW.callVv (As := []) (st := []) (Vans_measure_ok e3) cq_X11_341 cr_11_X8_measure (Nat.le_trans (by decide) hdd) rfl dX11_vans_15 rfl (Nat.le_of_ble_eq_true rfl) ?_
    refine AW.aloadr_n 0 dX11_vans_18 rfl ?_
    refine AW.getR af_X11_88_0 sr_0_10 dX11_vans_19 ?_
    obtain ⟨r4, e5, h⟩ := hC h
    refine AW.callVv (As := []) (st := []) (Vans_findCouple_ok e5) cq_X11_353 cr_11_X8_findCouple (Nat.le_trans (by decide) hdd) rfl dX11_vans_22 rfl (Nat.le_of_ble_eq_true rfl) ?_
    refine AW.iload_n 1 dX11_vans_25 rfl ?_
    obtain ⟨t6, e7, h⟩ := hBe h
    refine AW.join (tgt := 46) (lv1 := [(0, rv z 0), (1, iv x1)]) (st1 := [iv t6]) (g1 := r4.2) ?_ (fun J26 => ?_)
    · exact AW.iret1 rfl dX11_vans_46 h rfl
    refine AW.if_ne (tgt := 39) dX11_vans_26 (by decide) (fun c8 => ?_) (fun c8 => ?_)
    · refine AW.aloadr_n 0 dX11_vans_39 rfl ?_
      refine AW.getR af_X11_88_0 sr_0_10 dX11_vans_40 ?_
      refine AW.getI af_X11_359_11 sr_11_4 dX11_vans_43 ?_
      exact AW.val (e7.trans (if_neg c8)) J26
    · refine AW.aloadr_n 0 dX11_vans_29 rfl ?_
      refine AW.getR af_X11_88_0 sr_0_10 dX11_vans_30 ?_
      refine AW.getI af_X11_356_11 sr_11_3 dX11_vans_33 ?_
      refine AW.goto (tgt := 46) dX11_vans_36 (by decide) ?_
      exact AW.val (e7.trans (if_pos c8)) J26
  · replace h := hT h c1
    refine AW.iconst dX11_vans_9 ?_
    exact AW.iret1 rfl dX11_vans_10 h rfl
set_option synthInstance.maxHeartbeats 2000000 in
theorem Vans_addCall_b_ok {z : AZ} {d : Nat} (hdd : 0 ≤ d) {x1 : Int} {x2 : Int} {x3 : Int} {g : AG} : ∀ (r : Int × AG), Vans_addCall_b x1 x2 x3 g = some r → AW z (RX8, cX8_addCall, 4, (some .int)) d (QD (some .int) r) 33 [(0, rv z 11), (1, iv x1), (2, iv x2), (3, iv x3)] [] g := by
  refine Vans_addCall_b.partial_correctness x1 x2 x3 g (fun r => AW z (RX8, cX8_addCall, 4, (some .int)) d (QD (some .int) r) 33 [(0, rv z 11), (1, iv x1), (2, iv x2), (3, iv x3)] [] g) ?_
  intro fb9 ih r h
  refine AW.aloadr_n 0 dX8_addCall_33 rfl ?_
  refine AW.getR af_X8_18_11 sr_11_6 dX8_addCall_34 ?_
  refine AW.aloadr_n 0 dX8_addCall_37 rfl ?_
  refine AW.getI af_X8_71_11 sr_11_5 dX8_addCall_38 ?_
  refine AW.iload_n 1 dX8_addCall_41 rfl ?_
  obtain ⟨k1, h⟩ := hK h
  obtain ⟨g2, e3, h⟩ := hBe h
  refine AW.iast kc_109 sk_109 k1 dX8_addCall_42 e3 ?_
  refine AW.aloadr_n 0 dX8_addCall_43 rfl ?_
  refine AW.getR af_X8_21_11 sr_11_7 dX8_addCall_44 ?_
  refine AW.aloadr_n 0 dX8_addCall_47 rfl ?_
  refine AW.getI af_X8_71_11 sr_11_5 dX8_addCall_48 ?_
  refine AW.iload_n 2 dX8_addCall_51 rfl ?_
  obtain ⟨k4, h⟩ := hK h
  obtain ⟨g5, e6, h⟩ := hBe h
  refine AW.iast kc_110 sk_110 k4 dX8_addCall_52 e6 ?_
  refine AW.aloadr_n 0 dX8_addCall_53 rfl ?_
  refine AW.getR af_X8_24_11 sr_11_8 dX8_addCall_54 ?_
  refine AW.aloadr_n 0 dX8_addCall_57 rfl ?_
  refine AW.getI af_X8_71_11 sr_11_5 dX8_addCall_58 ?_
  refine AW.iload_n 3 dX8_addCall_61 rfl ?_
  obtain ⟨k7, h⟩ := hK h
  obtain ⟨g8, e9, h⟩ := hBe h
  refine AW.iast kc_111 sk_111 k7 dX8_addCall_62 e9 ?_
  refine AW.aloadr_n 0 dX8_addCall_63 rfl ?_
  refine AW.duprr dX8_addCall_64 ?_
  refine AW.getI af_X8_71_11 sr_11_5 dX8_addCall_65 ?_
  refine AW.iconst dX8_addCall_68 ?_
  refine AW.iadd dX8_addCall_69 ?_
  obtain ⟨g10, e11, h⟩ := hBe h
  refine AW.putI ap_X8_71_11 sr_11_5 dX8_addCall_70 e11 ?_
  refine AW.aloadr_n 0 dX8_addCall_73 rfl ?_
  refine AW.getI af_X8_71_11 sr_11_5 dX8_addCall_74 ?_
  exact AW.iret1 rfl dX8_addCall_77 h rfl
theorem Vans_addCall_ok {z : AZ} {x1 : Int} {x2 : Int} {x3 : Int} {g : AG} {r : Int × AG} (h : Vans_addCall x1 x2 x3 g = some r) : AMf z yX8_addCall cX8_addCall 4 (some .int) 0 [rv z 11, iv x1, iv x2, iv x3] g r := by
  intro d hdd
  refine AM.of (by decide +kernel) (Nat.le_of_ble_eq_true rfl) ?_
  show AW z (RX8, cX8_addCall, 4, (some .int)) d (QD (some .int) r) 0 [(0, rv z 11), (1, iv x1), (2, iv x2), (3, iv x3)] [] g
  unfold Vans_addCall at h
  refine AW.aloadr_n 0 dX8_addCall_0 rfl ?_
  refine AW.getI af_X8_71_11 sr_11_5 dX8_addCall_1 ?_
  refine AW.bipush dX8_addCall_4 (by decide) (by decide) ?_
  refine AW.icmp_ge (tgt := 31) dX8_addCall_6 (by decide) (fun c1 => ?_) (fun c1 => ?_)
  · replace h := hT h c1
    refine AW.iconst dX8_addCall_31 ?_
    exact AW.iret1 rfl dX8_addCall_32 h rfl
  · replace h := hF h c1
    refine AW.aloadr_n 0 dX8_addCall_9 rfl ?_
    refine AW.getI af_X8_71_11 sr_11_5 dX8_addCall_10 ?_
    refine AW.if_le (tgt := 33) dX8_addCall_13 (by decide) (fun c2 => ?_) (fun c2 => ?_)
    · replace h := hT h c2
      exact Vans_addCall_b_ok hdd _ h
    · replace h := hF h c2
      refine AW.iload_n 1 dX8_addCall_16 rfl ?_
      refine AW.aloadr_n 0 dX8_addCall_17 rfl ?_
      refine AW.getR af_X8_18_11 sr_11_6 dX8_addCall_18 ?_
      refine AW.aloadr_n 0 dX8_addCall_21 rfl ?_
      refine AW.getI af_X8_71_11 sr_11_5 dX8_addCall_22 ?_
      refine AW.iconst dX8_addCall_25 ?_
      refine AW.isub dX8_addCall_26 ?_
      obtain ⟨k3, h⟩ := hK h
      refine AW.iald kc_109 sk_109 k3 dX8_addCall_27 ?_
      refine AW.icmp_ge (tgt := 33) dX8_addCall_28 (by decide) (fun c4 => ?_) (fun c4 => ?_)
      · replace h := hT h c4
        exact Vans_addCall_b_ok hdd _ h
      · replace h := hF h c4
        refine AW.iconst dX8_addCall_31 ?_
        exact AW.iret1 rfl dX8_addCall_32 h rfl
theorem X_call_ok {z : AZ} {x1 : Int} {x2 : Int} {x3 : Int} {g : AG} {r : Int × AG} (h : X_call x1 x2 x3 g = some r) : AMf z yX11_call cX11_call 4 (some .int) 2 [rv z 0, iv x1, iv x2, iv x3] g r := by
  intro d hdd
  refine AM.of (by decide +kernel) (Nat.le_of_ble_eq_true rfl) ?_
  show AW z (RX11, cX11_call, 4, (some .int)) d (QD (some .int) r) 0 [(0, rv z 0), (1, iv x1), (2, iv x2), (3, iv x3)] [] g
  unfold X_call at h
  refine AW.iload_n 3 dX11_call_0 rfl ?_
  refine AW.if_ne (tgt := 14) dX11_call_1 (by decide) (fun c1 => ?_) (fun c1 => ?_)
  · replace h := hF h c1
    refine AW.iload_n 1 dX11_call_14 rfl ?_
    refine AW.iconst dX11_call_15 ?_
    refine AW.sipush dX11_call_16 (by decide) (by decide) ?_
    refine AW.callSi (As := [iv x1, iv 0, iv 9999]) (st := []) X_within_ok cq_X11_99 st_X11_within (Nat.le_trans (by decide) hdd) rfl dX11_call_19 rfl (Nat.le_of_ble_eq_true rfl) ?_
    refine AW.if_eq (tgt := 43) dX11_call_22 (by decide) (fun c2 => ?_) (fun c2 => ?_)
    · replace h := hT h c2
      refine AW.iconst dX11_call_43 ?_
      exact AW.iret1 rfl dX11_call_44 h rfl
    · replace h := hF h c2
      refine AW.iload_n 2 dX11_call_25 rfl ?_
      refine AW.callSi (As := [iv x2]) (st := []) X_isPoint_ok cq_X11_111 st_X11_isPoint (Nat.le_trans (by decide) hdd) rfl dX11_call_26 rfl (Nat.le_of_ble_eq_true rfl) ?_
      refine AW.if_eq (tgt := 43) dX11_call_29 (by decide) (fun c3 => ?_) (fun c3 => ?_)
      · replace h := hT h c3
        refine AW.iconst dX11_call_43 ?_
        exact AW.iret1 rfl dX11_call_44 h rfl
      · replace h := hF h c3
        refine AW.iload_n 3 dX11_call_32 rfl ?_
        refine AW.iconst dX11_call_33 ?_
        refine AW.sipush dX11_call_34 (by decide) (by decide) ?_
        refine AW.callSi (As := [iv x3, iv 1, iv 300]) (st := []) X_within_ok cq_X11_99 st_X11_within (Nat.le_trans (by decide) hdd) rfl dX11_call_37 rfl (Nat.le_of_ble_eq_true rfl) ?_
        refine AW.if_ne (tgt := 45) dX11_call_40 (by decide) (fun c4 => ?_) (fun c4 => ?_)
        · replace h := hF h c4
          refine AW.aloadr_n 0 dX11_call_45 rfl ?_
          refine AW.getR af_X11_88_0 sr_0_10 dX11_call_46 ?_
          refine AW.iload_n 1 dX11_call_49 rfl ?_
          refine AW.iload_n 2 dX11_call_50 rfl ?_
          refine AW.iload_n 3 dX11_call_51 rfl ?_
          obtain ⟨r5, e6, h⟩ := hC h
          refine AW.callVi (As := [iv x1, iv x2, iv x3]) (st := []) (Vans_addCall_ok e6) cq_X11_365 cr_11_X8_addCall (Nat.le_trans (by decide) hdd) rfl dX11_call_52 rfl (Nat.le_of_ble_eq_true rfl) ?_
          exact AW.iret1 rfl dX11_call_55 h rfl
        · replace h := hT h c4
          refine AW.iconst dX11_call_43 ?_
          exact AW.iret1 rfl dX11_call_44 h rfl
  · replace h := hT h c1
    refine AW.aloadr_n 0 dX11_call_4 rfl ?_
    refine AW.getR af_X11_88_0 sr_0_10 dX11_call_5 ?_
    refine AW.iconst dX11_call_8 ?_
    obtain ⟨g7, e8, h⟩ := hBe h
    refine AW.putI ap_X11_362_11 sr_11_5 dX11_call_9 e8 ?_
    refine AW.iconst dX11_call_12 ?_
    exact AW.iret1 rfl dX11_call_13 h rfl
theorem Vans_comesAt_ok {z : AZ} {x1 : Int} {x2 : Int} {g : AG} {r : Int × AG} (h : Vans_comesAt x1 x2 g = some r) : AMf z yX8_comesAt cX8_comesAt 3 (some .int) 2 [rv z 11, iv x1, iv x2] g r := by
  intro d hdd
  refine AM.of (by decide +kernel) (Nat.le_of_ble_eq_true rfl) ?_
  show AW z (RX8, cX8_comesAt, 3, (some .int)) d (QD (some .int) r) 0 [(0, rv z 11), (1, iv x1), (2, iv x2)] [] g
  unfold Vans_comesAt at h
  refine AW.aloadr_n 0 dX8_comesAt_0 rfl ?_
  refine AW.getR af_X8_18_11 sr_11_6 dX8_comesAt_1 ?_
  refine AW.iload_n 2 dX8_comesAt_4 rfl ?_
  obtain ⟨k1, h⟩ := hK h
  refine AW.iald kc_109 sk_109 k1 dX8_comesAt_5 ?_
  refine AW.aloadr_n 0 dX8_comesAt_6 rfl ?_
  refine AW.getR af_X8_33_11 sr_11_11 dX8_comesAt_7 ?_
  refine AW.iload_n 1 dX8_comesAt_10 rfl ?_
  obtain ⟨k2, h⟩ := hK h
  refine AW.iald kc_114 sk_114 k2 dX8_comesAt_11 ?_
  refine AW.mmax (st := []) cm_X8_61 mst_max mini mcd_max (Nat.le_trans (by decide) hdd) (Nat.le_of_ble_eq_true rfl) dX8_comesAt_12 ?_
  refine AW.aloadr_n 0 dX8_comesAt_15 rfl ?_
  refine AW.aloadr_n 0 dX8_comesAt_16 rfl ?_
  refine AW.getR af_X8_30_11 sr_11_10 dX8_comesAt_17 ?_
  refine AW.iload_n 1 dX8_comesAt_20 rfl ?_
  refine AW.iald kc_113 sk_113 k2 dX8_comesAt_21 ?_
  refine AW.aloadr_n 0 dX8_comesAt_22 rfl ?_
  refine AW.getR af_X8_21_11 sr_11_7 dX8_comesAt_23 ?_
  refine AW.iload_n 2 dX8_comesAt_26 rfl ?_
  refine AW.iald kc_110 sk_110 k1 dX8_comesAt_27 ?_
  obtain ⟨r3, e4, h⟩ := hC h
  refine AW.callVi (As := [iv (g 113 (ix x1)), iv (g 110 (ix x2))]) (st := [iv (mxI (g 109 (ix x2)) (g 114 (ix x1)))]) (Vans_minutes_ok e4) cq_X8_51 cr_11_X8_minutes (Nat.le_trans (by decide) hdd) rfl dX8_comesAt_28 rfl (Nat.le_of_ble_eq_true rfl) ?_
  refine AW.iadd dX8_comesAt_31 ?_
  exact AW.iret1 rfl dX8_comesAt_32 h rfl
set_option synthInstance.maxHeartbeats 2000000 in
theorem Vans_takeCalls_b_ok {z : AZ} {d : Nat} (hdd : 3 ≤ d) : ∀ (x3 : Int) (g : AG) (r : Int × AG), Vans_takeCalls_b x3 g = some r → AW z (RX8, cX8_takeCalls, 6, none) d (QD none r) 39 [(0, rv z 11), (3, iv x3)] [] g := by
  refine Vans_takeCalls_b.partial_correctness (fun x3 g r => AW z (RX8, cX8_takeCalls, 6, none) d (QD none r) 39 [(0, rv z 11), (3, iv x3)] [] g) ?_
  intro fb9 ih x3 g r h
  refine AW.iload_n 1 dX8_takeCalls_39 rfl ?_
  refine AW.aloadr_n 0 dX8_takeCalls_40 rfl ?_
  refine AW.getI af_X8_71_11 sr_11_5 dX8_takeCalls_41 ?_
  refine AW.icmp_ge (tgt := 177) dX8_takeCalls_44 (by decide) (fun c1 => ?_) (fun c1 => ?_)
  · replace h := hT h c1
    exact AW.vret1 rfl dX8_takeCalls_177 h rfl
  · replace h := hF h c1
    refine AW.aloadr_n 0 dX8_takeCalls_47 rfl ?_
    refine AW.iconst dX8_takeCalls_48 ?_
    refine AW.iload_n 1 dX8_takeCalls_49 rfl ?_
    obtain ⟨r2, e3, h⟩ := hC h
    refine AW.callVi (As := [iv 1, iv x3]) (st := []) (Vans_comesAt_ok e3) cq_X8_89 cr_11_X8_comesAt (Nat.le_trans (by decide) hdd) rfl dX8_takeCalls_50 rfl (Nat.le_of_ble_eq_true rfl) ?_
    refine AW.aloadr_n 0 dX8_takeCalls_53 rfl ?_
    refine AW.iconst dX8_takeCalls_54 ?_
    refine AW.iload_n 1 dX8_takeCalls_55 rfl ?_
    obtain ⟨r4, e5, h⟩ := hC h
    refine AW.callVi (As := [iv 0, iv x3]) (st := [iv r2.1]) (Vans_comesAt_ok e5) cq_X8_89 cr_11_X8_comesAt (Nat.le_trans (by decide) hdd) rfl dX8_takeCalls_56 rfl (Nat.le_of_ble_eq_true rfl) ?_
    obtain ⟨t6, e7, h⟩ := hBe h
    refine AW.join (tgt := 67) (lv1 := [(0, rv z 11), (3, iv x3)]) (st1 := [iv t6]) (g1 := r4.2) ?_ (fun J59 => ?_)
    · refine AW.istore (lv1 := [(4, iv t6), (0, rv z 11), (3, iv x3)]) dX8_takeCalls_67 (by decide) rfl ?_
      refine AW.aloadr_n 1 dX8_takeCalls_69 rfl ?_
      refine AW.iload 0 dX8_takeCalls_70 rfl ?_
      refine AW.iload_n 2 dX8_takeCalls_72 rfl ?_
      obtain ⟨r8, e9, h⟩ := hC h
      refine AW.callVi (As := [iv t6, iv x3]) (st := []) (Vans_comesAt_ok e9) cq_X8_89 cr_11_X8_comesAt (Nat.le_trans (by decide) hdd) rfl dX8_takeCalls_73 rfl (Nat.le_of_ble_eq_true rfl) ?_
      refine AW.istore (lv1 := [(5, iv r8.1), (4, iv t6), (0, rv z 11), (3, iv x3)]) dX8_takeCalls_76 (by decide) rfl ?_
      refine AW.aloadr_n 2 dX8_takeCalls_78 rfl ?_
      refine AW.getR af_X8_27_11 sr_11_9 dX8_takeCalls_79 ?_
      refine AW.iload_n 3 dX8_takeCalls_82 rfl ?_
      refine AW.iload 1 dX8_takeCalls_83 rfl ?_
      obtain ⟨k10, h⟩ := hK h
      obtain ⟨g11, e12, h⟩ := hBe h
      refine AW.iast kc_112 sk_112 k10 dX8_takeCalls_85 e12 ?_
      refine AW.aloadr_n 2 dX8_takeCalls_86 rfl ?_
      refine AW.getR af_X8_30_11 sr_11_10 dX8_takeCalls_87 ?_
      refine AW.iload 1 dX8_takeCalls_90 rfl ?_
      refine AW.aloadr_n 2 dX8_takeCalls_92 rfl ?_
      refine AW.getR af_X8_21_11 sr_11_7 dX8_takeCalls_93 ?_
      refine AW.iload_n 3 dX8_takeCalls_96 rfl ?_
      refine AW.iald kc_110 sk_110 k10 dX8_takeCalls_97 ?_
      obtain ⟨k13, h⟩ := hK h
      obtain ⟨g14, e15, h⟩ := hBe h
      refine AW.iast kc_113 sk_113 k13 dX8_takeCalls_98 e15 ?_
      refine AW.aloadr_n 2 dX8_takeCalls_99 rfl ?_
      refine AW.getR af_X8_33_11 sr_11_11 dX8_takeCalls_100 ?_
      refine AW.iload 1 dX8_takeCalls_103 rfl ?_
      refine AW.iload 0 dX8_takeCalls_105 rfl ?_
      refine AW.aloadr_n 2 dX8_takeCalls_107 rfl ?_
      refine AW.getR af_X8_24_11 sr_11_8 dX8_takeCalls_108 ?_
      refine AW.iload_n 3 dX8_takeCalls_111 rfl ?_
      refine AW.iald kc_111 sk_111 k10 dX8_takeCalls_112 ?_
      refine AW.iadd dX8_takeCalls_113 ?_
      obtain ⟨g16, e17, h⟩ := hBe h
      refine AW.iast kc_114 sk_114 k13 dX8_takeCalls_114 e17 ?_
      refine AW.aloadr_n 2 dX8_takeCalls_115 rfl ?_
      refine AW.duprr dX8_takeCalls_116 ?_
      refine AW.getI af_X8_80_11 sr_11_12 dX8_takeCalls_117 ?_
      refine AW.iload 0 dX8_takeCalls_120 rfl ?_
      refine AW.aloadr_n 2 dX8_takeCalls_122 rfl ?_
      refine AW.getR af_X8_18_11 sr_11_6 dX8_takeCalls_123 ?_
      refine AW.iload_n 3 dX8_takeCalls_126 rfl ?_
      refine AW.iald kc_109 sk_109 k10 dX8_takeCalls_127 ?_
      refine AW.isub dX8_takeCalls_128 ?_
      refine AW.iadd dX8_takeCalls_129 ?_
      obtain ⟨g18, e19, h⟩ := hBe h
      refine AW.putI ap_X8_80_11 sr_11_12 dX8_takeCalls_130 e19 ?_
      refine AW.aloadr_n 2 dX8_takeCalls_133 rfl ?_
      refine AW.aloadr_n 2 dX8_takeCalls_134 rfl ?_
      refine AW.getI af_X8_83_11 sr_11_13 dX8_takeCalls_135 ?_
      refine AW.iload 0 dX8_takeCalls_138 rfl ?_
      refine AW.aloadr_n 2 dX8_takeCalls_140 rfl ?_
      refine AW.getR af_X8_18_11 sr_11_6 dX8_takeCalls_141 ?_
      refine AW.iload_n 3 dX8_takeCalls_144 rfl ?_
      refine AW.iald kc_109 sk_109 k10 dX8_takeCalls_145 ?_
      refine AW.isub dX8_takeCalls_146 ?_
      refine AW.mmax (st := [rv z 11]) cm_X8_61 mst_max mini mcd_max (Nat.le_trans (by decide) hdd) (Nat.le_of_ble_eq_true rfl) dX8_takeCalls_147 ?_
      obtain ⟨g20, e21, h⟩ := hBe h
      refine AW.putI ap_X8_83_11 sr_11_13 dX8_takeCalls_150 e21 ?_
      refine AW.aloadr_n 2 dX8_takeCalls_153 rfl ?_
      refine AW.aloadr_n 2 dX8_takeCalls_154 rfl ?_
      refine AW.getI af_X8_86_11 sr_11_14 dX8_takeCalls_155 ?_
      refine AW.aloadr_n 2 dX8_takeCalls_158 rfl ?_
      refine AW.getR af_X8_33_11 sr_11_11 dX8_takeCalls_159 ?_
      refine AW.iload 1 dX8_takeCalls_162 rfl ?_
      refine AW.iald kc_114 sk_114 k13 dX8_takeCalls_164 ?_
      refine AW.mmax (st := [rv z 11]) cm_X8_61 mst_max mini mcd_max (Nat.le_trans (by decide) hdd) (Nat.le_of_ble_eq_true rfl) dX8_takeCalls_165 ?_
      obtain ⟨g22, e23, h⟩ := hBe h
      refine AW.putI ap_X8_86_11 sr_11_14 dX8_takeCalls_168 e23 ?_
      refine AW.iinc (lv1 := [(3, iv (x3 + 1)), (5, iv r8.1), (4, iv t6), (0, rv z 11)]) 3 dX8_takeCalls_171 rfl (by decide) rfl ?_
      refine AW.goto (tgt := 39) dX8_takeCalls_174 (by decide) ?_
      refine AW.sub (lv1 := [(0, rv z 11), (3, iv (x3 + 1))]) [3, 0] rfl ?_
      exact ih _ _ _ h
    refine AW.icmp_ge (tgt := 66) dX8_takeCalls_59 (by decide) (fun c24 => ?_) (fun c24 => ?_)
    · refine AW.iconst dX8_takeCalls_66 ?_
      exact AW.val (e7.trans (if_pos c24)) J59
    · refine AW.iconst dX8_takeCalls_62 ?_
      refine AW.goto (tgt := 67) dX8_takeCalls_63 (by decide) ?_
      exact AW.val (e7.trans (if_neg c24)) J59
theorem Vans_takeCalls_ok {z : AZ} {x1 : Int} {x2 : Int} {g : AG} {r : Int × AG} (h : Vans_takeCalls x1 x2 g = some r) : AMf z yX8_takeCalls cX8_takeCalls 6 none 3 [rv z 11, iv x1, iv x2] g r := by
  intro d hdd
  refine AM.of (by decide +kernel) (Nat.le_of_ble_eq_true rfl) ?_
  show AW z (RX8, cX8_takeCalls, 6, none) d (QD none r) 0 [(0, rv z 11), (1, iv x1), (2, iv x2)] [] g
  unfold Vans_takeCalls at h
  refine AW.aloadr_n 0 dX8_takeCalls_0 rfl ?_
  refine AW.getR af_X8_30_11 sr_11_10 dX8_takeCalls_1 ?_
  refine AW.iconst dX8_takeCalls_4 ?_
  refine AW.iload_n 1 dX8_takeCalls_5 rfl ?_
  obtain ⟨g1, e2, h⟩ := hBe h
  refine AW.iast kc_113 sk_113 (by decide) dX8_takeCalls_6 e2 ?_
  refine AW.aloadr_n 0 dX8_takeCalls_7 rfl ?_
  refine AW.getR af_X8_30_11 sr_11_10 dX8_takeCalls_8 ?_
  refine AW.iconst dX8_takeCalls_11 ?_
  refine AW.iload_n 2 dX8_takeCalls_12 rfl ?_
  obtain ⟨g3, e4, h⟩ := hBe h
  refine AW.iast kc_113 sk_113 (by decide) dX8_takeCalls_13 e4 ?_
  refine AW.aloadr_n 0 dX8_takeCalls_14 rfl ?_
  refine AW.getR af_X8_33_11 sr_11_11 dX8_takeCalls_15 ?_
  refine AW.iconst dX8_takeCalls_18 ?_
  obtain ⟨g5, e6, h⟩ := hBe h
  refine AW.callSv (st := []) (fill_ok kc_114 sk_114 (by decide)) cf_X8_74 st_fill (Nat.le_trans (by decide) hdd) rfl dX8_takeCalls_19 rfl (Nat.le_of_ble_eq_true rfl) ?_
  rw [← e6]
  refine AW.aloadr_n 0 dX8_takeCalls_22 rfl ?_
  refine AW.iconst dX8_takeCalls_23 ?_
  obtain ⟨g7, e8, h⟩ := hBe h
  refine AW.putI ap_X8_80_11 sr_11_12 dX8_takeCalls_24 e8 ?_
  refine AW.aloadr_n 0 dX8_takeCalls_27 rfl ?_
  refine AW.iconst dX8_takeCalls_28 ?_
  obtain ⟨g9, e10, h⟩ := hBe h
  refine AW.putI ap_X8_83_11 sr_11_13 dX8_takeCalls_29 e10 ?_
  refine AW.aloadr_n 0 dX8_takeCalls_32 rfl ?_
  refine AW.iconst dX8_takeCalls_33 ?_
  obtain ⟨g11, e12, h⟩ := hBe h
  refine AW.putI ap_X8_86_11 sr_11_14 dX8_takeCalls_34 e12 ?_
  refine AW.iconst dX8_takeCalls_37 ?_
  refine AW.istore_n (lv1 := [(3, iv 0), (0, rv z 11), (1, iv x1), (2, iv x2)]) dX8_takeCalls_38 (by decide) rfl ?_
  refine AW.sub (lv1 := [(0, rv z 11), (3, iv 0)]) [1, 0] rfl ?_
  exact Vans_takeCalls_b_ok hdd _ _ _ h
theorem Vans_takerOf_ok {z : AZ} {x1 : Int} {g : AG} {r : Int × AG} (h : Vans_takerOf x1 g = some r) : AMf z yX8_takerOf cX8_takerOf 2 (some .int) 1 [rv z 11, iv x1] g r := by
  intro d hdd
  refine AM.of (by decide +kernel) (Nat.le_of_ble_eq_true rfl) ?_
  show AW z (RX8, cX8_takerOf, 2, (some .int)) d (QD (some .int) r) 0 [(0, rv z 11), (1, iv x1)] [] g
  unfold Vans_takerOf at h
  refine AW.iload_n 1 dX8_takerOf_0 rfl ?_
  refine AW.bipush dX8_takerOf_1 (by decide) (by decide) ?_
  refine AW.isub dX8_takerOf_3 ?_
  refine AW.iconst dX8_takerOf_4 ?_
  refine AW.aloadr_n 0 dX8_takerOf_5 rfl ?_
  refine AW.getI af_X8_71_11 sr_11_5 dX8_takerOf_6 ?_
  refine AW.iconst dX8_takerOf_9 ?_
  refine AW.isub dX8_takerOf_10 ?_
  refine AW.callN0 (As := [iv (x1 - 10), iv 0, iv ((g 11 5) - 1)]) (st := []) X_within_ok ns_X8_92 in_X11 cd_X11_within st_X11_within (by decide) (Nat.le_trans (by decide) hdd) rfl (Nat.le_of_ble_eq_true rfl) dX8_takerOf_11 rfl ?_
  obtain ⟨r3, e4, h⟩ := hC h
  refine AW.join (tgt := 30) (lv1 := []) (st1 := [iv r3.1]) (g1 := r3.2) ?_ (fun J14 => ?_)
  · exact AW.iret1 rfl dX8_takerOf_30 h rfl
  replace h := e4
  refine AW.if_eq (tgt := 29) dX8_takerOf_14 (by decide) (fun c1 => ?_) (fun c1 => ?_)
  · replace h := hT h c1
    refine AW.iconst dX8_takerOf_29 ?_
    refine AW.sub (lv1 := []) [] rfl ?_
    cases h
    exact J14
  · replace h := hF h c1
    refine AW.aloadr_n 0 dX8_takerOf_17 rfl ?_
    refine AW.getR af_X8_27_11 sr_11_9 dX8_takerOf_18 ?_
    refine AW.iload_n 1 dX8_takerOf_21 rfl ?_
    refine AW.bipush dX8_takerOf_22 (by decide) (by decide) ?_
    refine AW.isub dX8_takerOf_24 ?_
    obtain ⟨k2, h⟩ := hK h
    refine AW.iald kc_112 sk_112 k2 dX8_takerOf_25 ?_
    refine AW.goto (tgt := 30) dX8_takerOf_26 (by decide) ?_
    refine AW.sub (lv1 := []) [] rfl ?_
    cases h
    exact J14
theorem X_taken_ok {z : AZ} {x1 : Int} {x2 : Int} {x3 : Int} {g : AG} {r : Int × AG} (h : X_taken x1 x2 x3 g = some r) : AMf z yX11_taken cX11_taken 4 (some .int) 4 [rv z 0, iv x1, iv x2, iv x3] g r := by
  intro d hdd
  refine AM.of (by decide +kernel) (Nat.le_of_ble_eq_true rfl) ?_
  show AW z (RX11, cX11_taken, 4, (some .int)) d (QD (some .int) r) 0 [(0, rv z 0), (1, iv x1), (2, iv x2), (3, iv x3)] [] g
  unfold X_taken at h
  refine AW.iload_n 1 dX11_taken_0 rfl ?_
  refine AW.callSi (As := [iv x1]) (st := []) X_isPoint_ok cq_X11_111 st_X11_isPoint (Nat.le_trans (by decide) hdd) rfl dX11_taken_1 rfl (Nat.le_of_ble_eq_true rfl) ?_
  refine AW.if_eq (tgt := 14) dX11_taken_4 (by decide) (fun c1 => ?_) (fun c1 => ?_)
  · replace h := hT h c1
    refine AW.iconst dX11_taken_14 ?_
    exact AW.iret1 rfl dX11_taken_15 h rfl
  · replace h := hF h c1
    refine AW.iload_n 2 dX11_taken_7 rfl ?_
    refine AW.callSi (As := [iv x2]) (st := []) X_isPoint_ok cq_X11_111 st_X11_isPoint (Nat.le_trans (by decide) hdd) rfl dX11_taken_8 rfl (Nat.le_of_ble_eq_true rfl) ?_
    refine AW.if_ne (tgt := 16) dX11_taken_11 (by decide) (fun c2 => ?_) (fun c2 => ?_)
    · replace h := hF h c2
      refine AW.aloadr_n 0 dX11_taken_16 rfl ?_
      refine AW.getR af_X11_88_0 sr_0_10 dX11_taken_17 ?_
      obtain ⟨r3, e4, h⟩ := hC h
      refine AW.callVv (As := []) (st := []) (Vans_measure_ok e4) cq_X11_341 cr_11_X8_measure (Nat.le_trans (by decide) hdd) rfl dX11_taken_20 rfl (Nat.le_of_ble_eq_true rfl) ?_
      refine AW.aloadr_n 0 dX11_taken_23 rfl ?_
      refine AW.getR af_X11_88_0 sr_0_10 dX11_taken_24 ?_
      refine AW.iload_n 1 dX11_taken_27 rfl ?_
      refine AW.iload_n 2 dX11_taken_28 rfl ?_
      obtain ⟨r5, e6, h⟩ := hC h
      refine AW.callVv (As := [iv x1, iv x2]) (st := []) (Vans_takeCalls_ok e6) cq_X11_368 cr_11_X8_takeCalls (Nat.le_trans (by decide) hdd) rfl dX11_taken_29 rfl (Nat.le_of_ble_eq_true rfl) ?_
      refine AW.iload_n 3 dX11_taken_32 rfl ?_
      by_cases c7 : nw x3 = 0
      · replace h := hT h c7
        refine AW.tsIn (tgt := 60) 0 dX11_taken_33 c7 (by decide) (by decide) (by rfl) (by decide) ?_
        refine AW.aloadr_n 0 dX11_taken_60 rfl ?_
        refine AW.getR af_X11_88_0 sr_0_10 dX11_taken_61 ?_
        refine AW.getI af_X11_372_11 sr_11_12 dX11_taken_64 ?_
        exact AW.iret1 rfl dX11_taken_67 h rfl
      · replace h := hF h c7
        by_cases c8 : nw x3 = 1
        · replace h := hT h c8
          refine AW.tsIn (tgt := 68) 1 dX11_taken_33 c8 (by decide) (by decide) (by rfl) (by decide) ?_
          refine AW.aloadr_n 0 dX11_taken_68 rfl ?_
          refine AW.getR af_X11_88_0 sr_0_10 dX11_taken_69 ?_
          refine AW.getI af_X11_375_11 sr_11_13 dX11_taken_72 ?_
          exact AW.iret1 rfl dX11_taken_75 h rfl
        · replace h := hF h c8
          by_cases c9 : nw x3 = 2
          · replace h := hT h c9
            refine AW.tsIn (tgt := 76) 2 dX11_taken_33 c9 (by decide) (by decide) (by rfl) (by decide) ?_
            refine AW.aloadr_n 0 dX11_taken_76 rfl ?_
            refine AW.getR af_X11_88_0 sr_0_10 dX11_taken_77 ?_
            refine AW.getI af_X11_378_11 sr_11_14 dX11_taken_80 ?_
            exact AW.iret1 rfl dX11_taken_83 h rfl
          · replace h := hF h c9
            refine AW.tsOut (tgt := 84) dX11_taken_33 (by omega) (by decide) ?_
            refine AW.aloadr_n 0 dX11_taken_84 rfl ?_
            refine AW.getR af_X11_88_0 sr_0_10 dX11_taken_85 ?_
            refine AW.iload_n 3 dX11_taken_88 rfl ?_
            obtain ⟨r10, e11, h⟩ := hC h
            refine AW.callVi (As := [iv x3]) (st := []) (Vans_takerOf_ok e11) cq_X11_381 cr_11_X8_takerOf (Nat.le_trans (by decide) hdd) rfl dX11_taken_89 rfl (Nat.le_of_ble_eq_true rfl) ?_
            exact AW.iret1 rfl dX11_taken_92 h rfl
    · replace h := hT h c2
      refine AW.iconst dX11_taken_14 ?_
      exact AW.iret1 rfl dX11_taken_15 h rfl
theorem X_isWeather_ok {z : AZ} {x0 : Int} {x1 : Int} {x2 : Int} {x3 : Int} {g : AG} : AMf z yX11_isWeather cX11_isWeather 4 (some .boolean) 1 [iv x0, iv x1, iv x2, iv x3] g ((X_isWeather x0 x1 x2 x3), g) := by
  intro d hdd
  refine AM.of (by decide +kernel) (Nat.le_of_ble_eq_true rfl) ?_
  show AW z (RX11, cX11_isWeather, 4, (some .boolean)) d (QD (some .boolean) ((X_isWeather x0 x1 x2 x3), g)) 0 [(0, iv x0), (1, iv x1), (2, iv x2), (3, iv x3)] [] g
  refine AW.iload_n 0 dX11_isWeather_0 rfl ?_
  refine AW.iconst dX11_isWeather_1 ?_
  refine AW.bipush dX11_isWeather_2 (by decide) (by decide) ?_
  refine AW.callSi (As := [iv x0, iv 0, iv 99]) (st := []) X_within_ok cq_X11_99 st_X11_within (Nat.le_trans (by decide) hdd) rfl dX11_isWeather_4 rfl (Nat.le_of_ble_eq_true rfl) ?_
  refine AW.join (tgt := 46) (lv1 := [(0, iv x0), (1, iv x1), (2, iv x2), (3, iv x3)]) (st1 := [iv (if nw (X_within x0 0 99) = 0 then 0 else (if nw (X_within x1 0 100) = 0 then 0 else (if nw (X_within x2 0 99) = 0 then 0 else (if nw (X_within x3 0 999) = 0 then 0 else 1))))]) (g1 := g) ?_ (fun J7 => ?_)
  · exact AW.zret rfl (by (repeat' split) <;> first | exact Or.inl rfl | exact Or.inr rfl) dX11_isWeather_46 ⟨congrArg (fun v => some (iv v)) (show X_isWeather x0 x1 x2 x3  = (if nw (X_within x0 0 99) = 0 then 0 else (if nw (X_within x1 0 100) = 0 then 0 else (if nw (X_within x2 0 99) = 0 then 0 else (if nw (X_within x3 0 999) = 0 then 0 else 1)))) from rfl).symm, rfl⟩
  refine AW.if_eq (tgt := 45) dX11_isWeather_7 (by decide) (fun c1 => ?_) (fun c1 => ?_)
  · refine AW.iconst dX11_isWeather_45 ?_
    exact AW.val (if_pos c1) J7
  · refine AW.iload_n 1 dX11_isWeather_10 rfl ?_
    refine AW.iconst dX11_isWeather_11 ?_
    refine AW.bipush dX11_isWeather_12 (by decide) (by decide) ?_
    refine AW.callSi (As := [iv x1, iv 0, iv 100]) (st := []) X_within_ok cq_X11_99 st_X11_within (Nat.le_trans (by decide) hdd) rfl dX11_isWeather_14 rfl (Nat.le_of_ble_eq_true rfl) ?_
    refine AW.if_eq (tgt := 45) dX11_isWeather_17 (by decide) (fun c2 => ?_) (fun c2 => ?_)
    · refine AW.iconst dX11_isWeather_45 ?_
      exact AW.val ((if_neg c1).trans (if_pos c2)) J7
    · refine AW.iload_n 2 dX11_isWeather_20 rfl ?_
      refine AW.iconst dX11_isWeather_21 ?_
      refine AW.bipush dX11_isWeather_22 (by decide) (by decide) ?_
      refine AW.callSi (As := [iv x2, iv 0, iv 99]) (st := []) X_within_ok cq_X11_99 st_X11_within (Nat.le_trans (by decide) hdd) rfl dX11_isWeather_24 rfl (Nat.le_of_ble_eq_true rfl) ?_
      refine AW.if_eq (tgt := 45) dX11_isWeather_27 (by decide) (fun c3 => ?_) (fun c3 => ?_)
      · refine AW.iconst dX11_isWeather_45 ?_
        exact AW.val ((if_neg c1).trans ((if_neg c2).trans (if_pos c3))) J7
      · refine AW.iload_n 3 dX11_isWeather_30 rfl ?_
        refine AW.iconst dX11_isWeather_31 ?_
        refine AW.sipush dX11_isWeather_32 (by decide) (by decide) ?_
        refine AW.callSi (As := [iv x3, iv 0, iv 999]) (st := []) X_within_ok cq_X11_99 st_X11_within (Nat.le_trans (by decide) hdd) rfl dX11_isWeather_35 rfl (Nat.le_of_ble_eq_true rfl) ?_
        refine AW.if_eq (tgt := 45) dX11_isWeather_38 (by decide) (fun c4 => ?_) (fun c4 => ?_)
        · refine AW.iconst dX11_isWeather_45 ?_
          exact AW.val ((if_neg c1).trans ((if_neg c2).trans ((if_neg c3).trans (if_pos c4)))) J7
        · refine AW.iconst dX11_isWeather_41 ?_
          refine AW.goto (tgt := 46) dX11_isWeather_42 (by decide) ?_
          exact AW.val ((if_neg c1).trans ((if_neg c2).trans ((if_neg c3).trans (if_neg c4)))) J7
theorem Rain_start_ok {z : AZ} {x1 : Int} {x2 : Int} {g : AG} {r : Int × AG} (h : Rain_start x1 x2 g = some r) : AMf z yX5_start cX5_start 3 none 1 [rv z 12, iv x1, iv x2] g r := by
  intro d hdd
  refine AM.of (by decide +kernel) (Nat.le_of_ble_eq_true rfl) ?_
  show AW z (RX5, cX5_start, 3, none) d (QD none r) 0 [(0, rv z 12), (1, iv x1), (2, iv x2)] [] g
  unfold Rain_start at h
  refine AW.aloadr_n 0 dX5_start_0 rfl ?_
  obtain ⟨k1, h⟩ := hK h
  refine AW.getM af_X5_9_12 sr_12_0 dX5_start_1 rfl ?_
  refine AW.iconst dX5_start_4 ?_
  obtain ⟨g2, e3, h⟩ := hBe h
  refine AW.callSv (st := []) (fill_ok (sk_mut k1).1 (sk_mut k1).2 (by decide)) cf_X5_18 st_fill (Nat.le_trans (by decide) hdd) rfl dX5_start_5 rfl (Nat.le_of_ble_eq_true rfl) ?_
  rw [← e3]
  refine AW.aloadr_n 0 dX5_start_8 rfl ?_
  refine AW.iload_n 1 dX5_start_9 rfl ?_
  refine AW.iload_n 2 dX5_start_10 rfl ?_
  obtain ⟨t4, e5, h⟩ := hBe h
  refine AW.join (tgt := 20) (lv1 := [(0, rv z 12), (1, iv x1), (2, iv x2)]) (st1 := [iv t4, rv z 12]) (g1 := g2) ?_ (fun J11 => ?_)
  · obtain ⟨g6, e7, h⟩ := hBe h
    refine AW.putI ap_X5_25_12 sr_12_2 dX5_start_20 e7 ?_
    refine AW.aloadr_n 0 dX5_start_23 rfl ?_
    obtain ⟨k8, h⟩ := hK h
    refine AW.getM af_X5_9_12 sr_12_0 dX5_start_24 rfl ?_
    refine AW.iload_n 1 dX5_start_27 rfl ?_
    refine AW.aloadr_n 0 dX5_start_28 rfl ?_
    refine AW.getI af_X5_25_12 sr_12_2 dX5_start_29 ?_
    obtain ⟨k9, h⟩ := hK h
    obtain ⟨g10, e11, h⟩ := hBe h
    refine AW.iast (sk_mut k8).1 (sk_mut k8).2 k9 dX5_start_32 e11 ?_
    exact AW.vret1 rfl dX5_start_33 h rfl
  refine AW.icmp_ge (tgt := 18) dX5_start_11 (by decide) (fun c12 => ?_) (fun c12 => ?_)
  · refine AW.ldc dX5_start_18 cw_X5_24 ?_
    exact AW.val (e5.trans (if_pos c12)) J11
  · refine AW.iconst dX5_start_14 ?_
    refine AW.goto (tgt := 20) dX5_start_15 (by decide) ?_
    exact AW.val (e5.trans (if_neg c12)) J11
set_option synthInstance.maxHeartbeats 2000000 in
theorem Rain_passDay_b_ok {z : AZ} {d : Nat} (hdd : 1 ≤ d) {x1 : Int} {x2 : Int} {x3 : Int} {x4 : Int} : ∀ (tag : Nat) (x5 : Int) (g : AG) (r : Int × AG), Rain_passDay_b x1 x2 x3 x4 tag x5 g = some r → (tag = 1 → AW z (RX5, cX5_passDay, 8, none) d (QD none r) 11 [(0, rv z 12), (1, iv x1), (2, iv x2), (3, iv x3), (4, iv x4), (5, iv x5)] [] g) ∧ (tag = 2 → AW z (RX5, cX5_passDay, 8, none) d (QD none r) 107 [(0, rv z 12), (4, iv x4), (5, iv x5)] [] g) := by
  refine Rain_passDay_b.partial_correctness x1 x2 x3 x4 (fun tag x5 g r => (tag = 1 → AW z (RX5, cX5_passDay, 8, none) d (QD none r) 11 [(0, rv z 12), (1, iv x1), (2, iv x2), (3, iv x3), (4, iv x4), (5, iv x5)] [] g) ∧ (tag = 2 → AW z (RX5, cX5_passDay, 8, none) d (QD none r) 107 [(0, rv z 12), (4, iv x4), (5, iv x5)] [] g)) ?_
  intro fb9 ih tag x5 g r h
  refine ⟨fun h9 => ?_, fun h9 => ?_⟩
  · subst h9
    replace h := hT h rfl
    refine AW.iload 5 dX5_passDay_11 rfl ?_
    refine AW.sipush dX5_passDay_13 (by decide) (by decide) ?_
    refine AW.icmp_ge (tgt := 99) dX5_passDay_16 (by decide) (fun c1 => ?_) (fun c1 => ?_)
    · replace h := hT h c1
      refine AW.aloadr_n 0 dX5_passDay_99 rfl ?_
      refine AW.iconst dX5_passDay_100 ?_
      obtain ⟨g2, e3, h⟩ := hBe h
      refine AW.putI ap_X5_25_12 sr_12_2 dX5_passDay_101 e3 ?_
      refine AW.iconst dX5_passDay_104 ?_
      refine AW.istore (lv1 := [(5, iv 0), (0, rv z 12), (1, iv x1), (2, iv x2), (3, iv x3), (4, iv x4)]) dX5_passDay_105 (by decide) rfl ?_
      refine AW.sub (lv1 := [(0, rv z 12), (4, iv x4), (5, iv 0)]) [1, 5, 0] rfl ?_
      exact (ih _ _ _ _ h).2 rfl
    · replace h := hF h c1
      refine AW.aloadr_n 0 dX5_passDay_19 rfl ?_
      obtain ⟨k4, h⟩ := hK h
      refine AW.getM af_X5_9_12 sr_12_0 dX5_passDay_20 rfl ?_
      refine AW.iload 5 dX5_passDay_23 rfl ?_
      obtain ⟨k5, h⟩ := hK h
      refine AW.iald (sk_mut k4).1 (sk_mut k4).2 k5 dX5_passDay_25 ?_
      obtain ⟨r17, e18, h⟩ := hC h
      refine AW.join (tgt := 93) (lv1 := [(0, rv z 12), (1, iv x1), (2, iv x2), (3, iv x3), (4, iv x4), (5, iv x5)]) (st1 := []) (g1 := r17) ?_ (fun J26 => ?_)
      · refine AW.iinc (lv1 := [(5, iv (x5 + 1)), (0, rv z 12), (1, iv x1), (2, iv x2), (3, iv x3), (4, iv x4)]) 5 dX5_passDay_93 rfl (by decide) rfl ?_
        refine AW.goto (tgt := 11) dX5_passDay_96 (by decide) ?_
        refine AW.sub (lv1 := [(0, rv z 12), (1, iv x1), (2, iv x2), (3, iv x3), (4, iv x4), (5, iv (x5 + 1))]) [1, 2, 3, 4, 5, 0] rfl ?_
        exact (ih _ _ _ _ h).1 rfl
      replace h := e18
      refine AW.if_le (tgt := 93) dX5_passDay_26 (by decide) (fun c6 => ?_) (fun c6 => ?_)
      · replace h := hT h c6
        cases h
        exact J26
      · replace h := hF h c6
        refine AW.aloadr_n 0 dX5_passDay_29 rfl ?_
        obtain ⟨k7, h⟩ := hK h
        refine AW.getM af_X5_9_12 sr_12_0 dX5_passDay_30 rfl ?_
        refine AW.iload 5 dX5_passDay_33 rfl ?_
        refine AW.iald (sk_mut k7).1 (sk_mut k7).2 k5 dX5_passDay_35 ?_
        refine AW.iload_n 2 dX5_passDay_36 rfl ?_
        refine AW.imul dX5_passDay_37 ?_
        refine AW.bipush dX5_passDay_38 (by decide) (by decide) ?_
        refine AW.idiv dX5_passDay_40 (by decide) ?_
        refine AW.istore (lv1 := [(6, iv ((nw ((g (g 12 0).toNat (ix x5)) * x2)).tdiv 100)), (0, rv z 12), (1, iv x1), (2, iv x2), (3, iv x3), (4, iv x4), (5, iv x5)]) dX5_passDay_41 (by decide) rfl ?_
        refine AW.iconst dX5_passDay_43 ?_
        refine AW.iload 6 dX5_passDay_44 rfl ?_
        refine AW.iload_n 2 dX5_passDay_46 rfl ?_
        refine AW.isub dX5_passDay_47 ?_
        refine AW.mmax (st := []) cm_X5_29 mst_max mini mcd_max (Nat.le_trans (by decide) hdd) (Nat.le_of_ble_eq_true rfl) dX5_passDay_48 ?_
        refine AW.istore (lv1 := [(7, iv (mxI 0 (x5 - x1))), (6, iv ((nw ((g (g 12 0).toNat (ix x5)) * x2)).tdiv 100)), (0, rv z 12), (1, iv x1), (2, iv x2), (3, iv x3), (4, iv x4), (5, iv x5)]) dX5_passDay_51 (by decide) rfl ?_
        refine AW.aloadr_n 2 dX5_passDay_53 rfl ?_
        obtain ⟨k8, h⟩ := hK h
        refine AW.getM af_X5_15_12 sr_12_1 dX5_passDay_54 rfl ?_
        refine AW.sipush dX5_passDay_57 (by decide) (by decide) ?_
        refine AW.iload 0 dX5_passDay_60 rfl ?_
        refine AW.iload_n 5 dX5_passDay_62 rfl ?_
        refine AW.iadd dX5_passDay_63 ?_
        refine AW.mmin (st := [rv z (g 12 1).toNat]) cm_X5_35 mst_min mini mcd_min (Nat.le_trans (by decide) hdd) (Nat.le_of_ble_eq_true rfl) dX5_passDay_64 ?_
        refine AW.dup2r dX5_passDay_67 ?_
        obtain ⟨k9, h⟩ := hK h
        refine AW.iald (sk_mut k8).1 (sk_mut k8).2 k9 dX5_passDay_68 ?_
        refine AW.iload 1 dX5_passDay_69 rfl ?_
        refine AW.iadd dX5_passDay_71 ?_
        obtain ⟨g10, e11, h⟩ := hBe h
        refine AW.iast (sk_mut k8).1 (sk_mut k8).2 k9 dX5_passDay_72 e11 ?_
        refine AW.aloadr_n 2 dX5_passDay_73 rfl ?_
        obtain ⟨k12, h⟩ := hK h
        refine AW.getM af_X5_15_12 sr_12_1 dX5_passDay_74 rfl ?_
        refine AW.iload 0 dX5_passDay_77 rfl ?_
        refine AW.dup2r dX5_passDay_79 ?_
        obtain ⟨k13, h⟩ := hK h
        refine AW.iald (sk_mut k12).1 (sk_mut k12).2 k13 dX5_passDay_80 ?_
        refine AW.aloadr_n 2 dX5_passDay_81 rfl ?_
        obtain ⟨k14, h⟩ := hK h
        refine AW.getM af_X5_9_12 sr_12_0 dX5_passDay_82 rfl ?_
        refine AW.iload 7 dX5_passDay_85 rfl ?_
        refine AW.iald (sk_mut k14).1 (sk_mut k14).2 k5 dX5_passDay_87 ?_
        refine AW.iload 1 dX5_passDay_88 rfl ?_
        refine AW.isub dX5_passDay_90 ?_
        refine AW.iadd dX5_passDay_91 ?_
        obtain ⟨g15, e16, h⟩ := hBe h
        refine AW.iast (sk_mut k12).1 (sk_mut k12).2 k13 dX5_passDay_92 e16 ?_
        refine AW.sub (lv1 := [(0, rv z 12), (1, iv x1), (2, iv x2), (3, iv x3), (4, iv x4), (5, iv x5)]) [2, 3, 4, 5, 6, 7] rfl ?_
        cases h
        exact J26
  · subst h9
    replace h := hF h (by decide)
    replace h := hT h rfl
    refine AW.iload 2 dX5_passDay_107 rfl ?_
    refine AW.sipush dX5_passDay_109 (by decide) (by decide) ?_
    refine AW.icmp_ge (tgt := 162) dX5_passDay_112 (by decide) (fun c1 => ?_) (fun c1 => ?_)
    · replace h := hT h c1
      refine AW.aloadr_n 0 dX5_passDay_162 rfl ?_
      obtain ⟨k2, h⟩ := hK h
      refine AW.getM af_X5_9_12 sr_12_0 dX5_passDay_163 rfl ?_
      refine AW.astorer (lv1 := [(5, rv z (g 12 0).toNat), (0, rv z 12), (4, iv x4)]) dX5_passDay_166 (by decide) rfl ?_
      refine AW.aloadr_n 1 dX5_passDay_168 rfl ?_
      refine AW.aloadr_n 1 dX5_passDay_169 rfl ?_
      obtain ⟨k3, h⟩ := hK h
      refine AW.getM af_X5_15_12 sr_12_1 dX5_passDay_170 rfl ?_
      obtain ⟨g4, e5, h⟩ := hBe h
      refine AW.putM ap_X5_9_12 sr_12_0 rfl dX5_passDay_173 e5 ?_
      refine AW.aloadr_n 1 dX5_passDay_176 rfl ?_
      refine AW.aloadr 0 dX5_passDay_177 rfl ?_
      obtain ⟨g6, e7, h⟩ := hBe h
      refine AW.putM ap_X5_15_12 sr_12_1 rfl dX5_passDay_179 e7 ?_
      exact AW.vret1 rfl dX5_passDay_182 h rfl
    · replace h := hF h c1
      refine AW.aloadr_n 0 dX5_passDay_115 rfl ?_
      obtain ⟨k8, h⟩ := hK h
      refine AW.getM af_X5_15_12 sr_12_1 dX5_passDay_116 rfl ?_
      refine AW.iload 2 dX5_passDay_119 rfl ?_
      refine AW.iload 2 dX5_passDay_121 rfl ?_
      refine AW.iload 1 dX5_passDay_123 rfl ?_
      obtain ⟨r12, e13, h⟩ := hC h
      refine AW.join (tgt := 139) (lv1 := [(0, rv z 12), (4, iv x4), (5, iv x5)]) (st1 := [iv r12.1, iv x5, rv z (g 12 1).toNat]) (g1 := r12.2) ?_ (fun J125 => ?_)
      · obtain ⟨k14, h⟩ := hK h
        obtain ⟨g15, e16, h⟩ := hBe h
        refine AW.iast (sk_mut k8).1 (sk_mut k8).2 k14 dX5_passDay_139 e16 ?_
        refine AW.aloadr_n 0 dX5_passDay_140 rfl ?_
        refine AW.duprr dX5_passDay_141 ?_
        refine AW.getI af_X5_25_12 sr_12_2 dX5_passDay_142 ?_
        refine AW.aloadr_n 0 dX5_passDay_145 rfl ?_
        obtain ⟨k17, h⟩ := hK h
        refine AW.getM af_X5_15_12 sr_12_1 dX5_passDay_146 rfl ?_
        refine AW.iload 2 dX5_passDay_149 rfl ?_
        refine AW.iald (sk_mut k17).1 (sk_mut k17).2 k14 dX5_passDay_151 ?_
        refine AW.iadd dX5_passDay_152 ?_
        obtain ⟨g18, e19, h⟩ := hBe h
        refine AW.putI ap_X5_25_12 sr_12_2 dX5_passDay_153 e19 ?_
        refine AW.iinc (lv1 := [(5, iv (x5 + 1)), (0, rv z 12), (4, iv x4)]) 2 dX5_passDay_156 rfl (by decide) rfl ?_
        refine AW.goto (tgt := 107) dX5_passDay_159 (by decide) ?_
        refine AW.sub (lv1 := [(0, rv z 12), (4, iv x4), (5, iv (x5 + 1))]) [1, 2, 0] rfl ?_
        exact (ih _ _ _ _ h).2 rfl
      replace h := e13
      refine AW.icmp_ge (tgt := 132) dX5_passDay_125 (by decide) (fun c9 => ?_) (fun c9 => ?_)
      · replace h := hT h c9
        refine AW.aloadr_n 0 dX5_passDay_132 rfl ?_
        obtain ⟨k10, h⟩ := hK h
        refine AW.getM af_X5_15_12 sr_12_1 dX5_passDay_133 rfl ?_
        refine AW.iload 2 dX5_passDay_136 rfl ?_
        obtain ⟨k11, h⟩ := hK h
        refine AW.iald (sk_mut k10).1 (sk_mut k10).2 k11 dX5_passDay_138 ?_
        cases h
        exact J125
      · replace h := hF h c9
        refine AW.iconst dX5_passDay_128 ?_
        refine AW.goto (tgt := 139) dX5_passDay_129 (by decide) ?_
        cases h
        exact J125
theorem Rain_passDay_ok {z : AZ} {x1 : Int} {x2 : Int} {x3 : Int} {x4 : Int} {g : AG} {r : Int × AG} (h : Rain_passDay x1 x2 x3 x4 g = some r) : AMf z yX5_passDay cX5_passDay 8 none 1 [rv z 12, iv x1, iv x2, iv x3, iv x4] g r := by
  intro d hdd
  refine AM.of (by decide +kernel) (Nat.le_of_ble_eq_true rfl) ?_
  show AW z (RX5, cX5_passDay, 8, none) d (QD none r) 0 [(0, rv z 12), (1, iv x1), (2, iv x2), (3, iv x3), (4, iv x4)] [] g
  unfold Rain_passDay at h
  refine AW.aloadr_n 0 dX5_passDay_0 rfl ?_
  obtain ⟨k1, h⟩ := hK h
  refine AW.getM af_X5_15_12 sr_12_1 dX5_passDay_1 rfl ?_
  refine AW.iconst dX5_passDay_4 ?_
  obtain ⟨g2, e3, h⟩ := hBe h
  refine AW.callSv (st := []) (fill_ok (sk_mut k1).1 (sk_mut k1).2 (by decide)) cf_X5_18 st_fill (Nat.le_trans (by decide) hdd) rfl dX5_passDay_5 rfl (Nat.le_of_ble_eq_true rfl) ?_
  rw [← e3]
  refine AW.iconst dX5_passDay_8 ?_
  refine AW.istore (lv1 := [(5, iv 0), (0, rv z 12), (1, iv x1), (2, iv x2), (3, iv x3), (4, iv x4)]) dX5_passDay_9 (by decide) rfl ?_
  refine AW.sub (lv1 := [(0, rv z 12), (1, iv x1), (2, iv x2), (3, iv x3), (4, iv x4), (5, iv 0)]) [1, 2, 3, 4, 5, 0] rfl ?_
  exact (Rain_passDay_b_ok hdd _ _ _ _ h).1 rfl
set_option synthInstance.maxHeartbeats 2000000 in
theorem X_left_b_ok {z : AZ} {d : Nat} (hdd : 2 ≤ d) {x1 : Int} {x2 : Int} {x3 : Int} {x4 : Int} {x5 : Int} : ∀ (x6 : Int) (g : AG) (r : Int × AG), X_left_b x1 x2 x3 x4 x5 x6 g = some r → AW z (RX11, cX11_left, 7, (some .int)) d (QD (some .int) r) 43 [(0, rv z 0), (1, iv x1), (2, iv x2), (3, iv x3), (4, iv x4), (5, iv x5), (6, iv x6)] [] g := by
  refine X_left_b.partial_correctness x1 x2 x3 x4 x5 (fun x6 g r => AW z (RX11, cX11_left, 7, (some .int)) d (QD (some .int) r) 43 [(0, rv z 0), (1, iv x1), (2, iv x2), (3, iv x3), (4, iv x4), (5, iv x5), (6, iv x6)] [] g) ?_
  intro fb9 ih x6 g r h
  refine AW.iload 6 dX11_left_43 rfl ?_
  refine AW.iload 5 dX11_left_45 rfl ?_
  refine AW.icmp_ge (tgt := 68) dX11_left_47 (by decide) (fun c1 => ?_) (fun c1 => ?_)
  · replace h := hT h c1
    refine AW.aloadr_n 0 dX11_left_68 rfl ?_
    refine AW.getR af_X11_95_0 sr_0_11 dX11_left_69 ?_
    refine AW.getI af_X11_394_12 sr_12_2 dX11_left_72 ?_
    exact AW.iret1 rfl dX11_left_75 h rfl
  · replace h := hF h c1
    refine AW.aloadr_n 0 dX11_left_50 rfl ?_
    refine AW.getR af_X11_95_0 sr_0_11 dX11_left_51 ?_
    refine AW.iload_n 1 dX11_left_54 rfl ?_
    refine AW.iload_n 2 dX11_left_55 rfl ?_
    refine AW.iload_n 3 dX11_left_56 rfl ?_
    refine AW.iload 4 dX11_left_57 rfl ?_
    obtain ⟨r2, e3, h⟩ := hC h
    refine AW.callVv (As := [iv x1, iv x2, iv x3, iv x4]) (st := []) (Rain_passDay_ok e3) cq_X11_390 cr_12_X5_passDay (Nat.le_trans (by decide) hdd) rfl dX11_left_59 rfl (Nat.le_of_ble_eq_true rfl) ?_
    refine AW.iinc (lv1 := [(6, iv (x6 + 1)), (0, rv z 0), (1, iv x1), (2, iv x2), (3, iv x3), (4, iv x4), (5, iv x5)]) 6 dX11_left_62 rfl (by decide) rfl ?_
    refine AW.goto (tgt := 43) dX11_left_65 (by decide) ?_
    refine AW.sub (lv1 := [(0, rv z 0), (1, iv x1), (2, iv x2), (3, iv x3), (4, iv x4), (5, iv x5), (6, iv (x6 + 1))]) [1, 2, 3, 4, 5, 6, 0] rfl ?_
    exact ih _ _ _ h
theorem X_left_ok {z : AZ} {x1 : Int} {x2 : Int} {x3 : Int} {x4 : Int} {x5 : Int} {g : AG} {r : Int × AG} (h : X_left x1 x2 x3 x4 x5 g = some r) : AMf z yX11_left cX11_left 7 (some .int) 2 [rv z 0, iv x1, iv x2, iv x3, iv x4, iv x5] g r := by
  intro d hdd
  refine AM.of (by decide +kernel) (Nat.le_of_ble_eq_true rfl) ?_
  show AW z (RX11, cX11_left, 7, (some .int)) d (QD (some .int) r) 0 [(0, rv z 0), (1, iv x1), (2, iv x2), (3, iv x3), (4, iv x4), (5, iv x5)] [] g
  unfold X_left at h
  refine AW.iload_n 1 dX11_left_0 rfl ?_
  refine AW.iload_n 2 dX11_left_1 rfl ?_
  refine AW.iload_n 3 dX11_left_2 rfl ?_
  refine AW.iload 4 dX11_left_3 rfl ?_
  refine AW.callSi (As := [iv x1, iv x2, iv x3, iv x4]) (st := []) X_isWeather_ok cq_X11_384 st_X11_isWeather (Nat.le_trans (by decide) hdd) rfl dX11_left_5 rfl (Nat.le_of_ble_eq_true rfl) ?_
  refine AW.if_eq (tgt := 22) dX11_left_8 (by decide) (fun c1 => ?_) (fun c1 => ?_)
  · replace h := hT h c1
    refine AW.iconst dX11_left_22 ?_
    exact AW.iret1 rfl dX11_left_23 h rfl
  · replace h := hF h c1
    refine AW.iload 5 dX11_left_11 rfl ?_
    refine AW.iconst dX11_left_13 ?_
    refine AW.bipush dX11_left_14 (by decide) (by decide) ?_
    refine AW.callSi (As := [iv x5, iv 0, iv 60]) (st := []) X_within_ok cq_X11_99 st_X11_within (Nat.le_trans (by decide) hdd) rfl dX11_left_16 rfl (Nat.le_of_ble_eq_true rfl) ?_
    refine AW.if_ne (tgt := 24) dX11_left_19 (by decide) (fun c2 => ?_) (fun c2 => ?_)
    · replace h := hF h c2
      refine AW.aloadr_n 0 dX11_left_24 rfl ?_
      refine AW.getR af_X11_95_0 sr_0_11 dX11_left_25 ?_
      refine AW.aloadr_n 0 dX11_left_28 rfl ?_
      refine AW.getR af_X11_12_0 sr_0_0 dX11_left_29 ?_
      refine AW.getI af_X11_127_1 sr_1_5 dX11_left_32 ?_
      refine AW.iload 4 dX11_left_35 rfl ?_
      obtain ⟨r3, e4, h⟩ := hC h
      refine AW.callVv (As := [iv (g 1 5), iv x4]) (st := []) (Rain_start_ok e4) cq_X11_387 cr_12_X5_start (Nat.le_trans (by decide) hdd) rfl dX11_left_37 rfl (Nat.le_of_ble_eq_true rfl) ?_
      refine AW.iconst dX11_left_40 ?_
      refine AW.istore (lv1 := [(6, iv 0), (0, rv z 0), (1, iv x1), (2, iv x2), (3, iv x3), (4, iv x4), (5, iv x5)]) dX11_left_41 (by decide) rfl ?_
      refine AW.sub (lv1 := [(0, rv z 0), (1, iv x1), (2, iv x2), (3, iv x3), (4, iv x4), (5, iv x5), (6, iv 0)]) [1, 2, 3, 4, 5, 6, 0] rfl ?_
      exact X_left_b_ok hdd _ _ _ h
    · replace h := hT h c2
      refine AW.iconst dX11_left_22 ?_
      exact AW.iret1 rfl dX11_left_23 h rfl
set_option synthInstance.maxHeartbeats 2000000 in
theorem X_shuts_b_ok {z : AZ} {d : Nat} (hdd : 2 ≤ d) {x1 : Int} {x2 : Int} {x3 : Int} {x4 : Int} : ∀ (x5 : Int) (g : AG) (r : Int × AG), X_shuts_b x1 x2 x3 x4 x5 g = some r → AW z (RX11, cX11_shuts, 6, (some .int)) d (QD (some .int) r) 32 [(0, rv z 0), (1, iv x1), (2, iv x2), (3, iv x3), (4, iv x4), (5, iv x5)] [] g := by
  refine X_shuts_b.partial_correctness x1 x2 x3 x4 (fun x5 g r => AW z (RX11, cX11_shuts, 6, (some .int)) d (QD (some .int) r) 32 [(0, rv z 0), (1, iv x1), (2, iv x2), (3, iv x3), (4, iv x4), (5, iv x5)] [] g) ?_
  intro fb9 ih x5 g r h
  refine AW.iload 5 dX11_shuts_32 rfl ?_
  refine AW.bipush dX11_shuts_34 (by decide) (by decide) ?_
  refine AW.icmp_gt (tgt := 73) dX11_shuts_36 (by decide) (fun c1 => ?_) (fun c1 => ?_)
  · replace h := hT h c1
    refine AW.iconst dX11_shuts_73 ?_
    exact AW.iret1 rfl dX11_shuts_74 h rfl
  · replace h := hF h c1
    refine AW.aloadr_n 0 dX11_shuts_39 rfl ?_
    refine AW.getR af_X11_95_0 sr_0_11 dX11_shuts_40 ?_
    refine AW.getI af_X11_394_12 sr_12_2 dX11_shuts_43 ?_
    refine AW.ldcw dX11_shuts_46 cw_X11_397 ?_
    refine AW.icmp_ge (tgt := 55) dX11_shuts_49 (by decide) (fun c2 => ?_) (fun c2 => ?_)
    · replace h := hT h c2
      refine AW.aloadr_n 0 dX11_shuts_55 rfl ?_
      refine AW.getR af_X11_95_0 sr_0_11 dX11_shuts_56 ?_
      refine AW.iload_n 1 dX11_shuts_59 rfl ?_
      refine AW.iload_n 2 dX11_shuts_60 rfl ?_
      refine AW.iload_n 3 dX11_shuts_61 rfl ?_
      refine AW.iload 4 dX11_shuts_62 rfl ?_
      obtain ⟨r3, e4, h⟩ := hC h
      refine AW.callVv (As := [iv x1, iv x2, iv x3, iv x4]) (st := []) (Rain_passDay_ok e4) cq_X11_390 cr_12_X5_passDay (Nat.le_trans (by decide) hdd) rfl dX11_shuts_64 rfl (Nat.le_of_ble_eq_true rfl) ?_
      refine AW.iinc (lv1 := [(5, iv (x5 + 1)), (0, rv z 0), (1, iv x1), (2, iv x2), (3, iv x3), (4, iv x4)]) 5 dX11_shuts_67 rfl (by decide) rfl ?_
      refine AW.goto (tgt := 32) dX11_shuts_70 (by decide) ?_
      refine AW.sub (lv1 := [(0, rv z 0), (1, iv x1), (2, iv x2), (3, iv x3), (4, iv x4), (5, iv (x5 + 1))]) [1, 2, 3, 4, 5, 0] rfl ?_
      exact ih _ _ _ h
    · replace h := hF h c2
      refine AW.iload 5 dX11_shuts_52 rfl ?_
      exact AW.iret1 rfl dX11_shuts_54 h rfl
theorem X_shuts_ok {z : AZ} {x1 : Int} {x2 : Int} {x3 : Int} {x4 : Int} {g : AG} {r : Int × AG} (h : X_shuts x1 x2 x3 x4 g = some r) : AMf z yX11_shuts cX11_shuts 6 (some .int) 2 [rv z 0, iv x1, iv x2, iv x3, iv x4] g r := by
  intro d hdd
  refine AM.of (by decide +kernel) (Nat.le_of_ble_eq_true rfl) ?_
  show AW z (RX11, cX11_shuts, 6, (some .int)) d (QD (some .int) r) 0 [(0, rv z 0), (1, iv x1), (2, iv x2), (3, iv x3), (4, iv x4)] [] g
  unfold X_shuts at h
  refine AW.iload_n 1 dX11_shuts_0 rfl ?_
  refine AW.iload_n 2 dX11_shuts_1 rfl ?_
  refine AW.iload_n 3 dX11_shuts_2 rfl ?_
  refine AW.iload 4 dX11_shuts_3 rfl ?_
  refine AW.callSi (As := [iv x1, iv x2, iv x3, iv x4]) (st := []) X_isWeather_ok cq_X11_384 st_X11_isWeather (Nat.le_trans (by decide) hdd) rfl dX11_shuts_5 rfl (Nat.le_of_ble_eq_true rfl) ?_
  refine AW.if_ne (tgt := 13) dX11_shuts_8 (by decide) (fun c1 => ?_) (fun c1 => ?_)
  · replace h := hF h c1
    refine AW.aloadr_n 0 dX11_shuts_13 rfl ?_
    refine AW.getR af_X11_95_0 sr_0_11 dX11_shuts_14 ?_
    refine AW.aloadr_n 0 dX11_shuts_17 rfl ?_
    refine AW.getR af_X11_12_0 sr_0_0 dX11_shuts_18 ?_
    refine AW.getI af_X11_127_1 sr_1_5 dX11_shuts_21 ?_
    refine AW.iload 4 dX11_shuts_24 rfl ?_
    obtain ⟨r2, e3, h⟩ := hC h
    refine AW.callVv (As := [iv (g 1 5), iv x4]) (st := []) (Rain_start_ok e3) cq_X11_387 cr_12_X5_start (Nat.le_trans (by decide) hdd) rfl dX11_shuts_26 rfl (Nat.le_of_ble_eq_true rfl) ?_
    refine AW.iconst dX11_shuts_29 ?_
    refine AW.istore (lv1 := [(5, iv 0), (0, rv z 0), (1, iv x1), (2, iv x2), (3, iv x3), (4, iv x4)]) dX11_shuts_30 (by decide) rfl ?_
    refine AW.sub (lv1 := [(0, rv z 0), (1, iv x1), (2, iv x2), (3, iv x3), (4, iv x4), (5, iv 0)]) [1, 2, 3, 4, 5, 0] rfl ?_
    exact X_shuts_b_ok hdd _ _ _ h
  · replace h := hT h c1
    refine AW.iconst dX11_shuts_11 ?_
    exact AW.iret1 rfl dX11_shuts_12 h rfl
theorem X_price_ok {z : AZ} {x1 : Int} {x2 : Int} {x3 : Int} {g : AG} {r : Int × AG} (h : X_price x1 x2 x3 g = some r) : AMf z yX11_price cX11_price 5 (some .int) 5 [rv z 0, iv x1, iv x2, iv x3] g r := by
  intro d hdd
  refine AM.of (by decide +kernel) (Nat.le_of_ble_eq_true rfl) ?_
  show AW z (RX11, cX11_price, 5, (some .int)) d (QD (some .int) r) 0 [(0, rv z 0), (1, iv x1), (2, iv x2), (3, iv x3)] [] g
  unfold X_price at h
  refine AW.aloadr_n 0 dX11_price_0 rfl ?_
  refine AW.iload_n 1 dX11_price_1 rfl ?_
  refine AW.callVi (As := [iv x1]) (st := []) X_isBoat_ok cq_X11_107 cr_0_X11_isBoat (Nat.le_trans (by decide) hdd) rfl dX11_price_2 rfl (Nat.le_of_ble_eq_true rfl) ?_
  refine AW.if_eq (tgt := 15) dX11_price_5 (by decide) (fun c1 => ?_) (fun c1 => ?_)
  · replace h := hT h c1
    refine AW.ldc dX11_price_15 cw_X11_198 ?_
    exact AW.iret1 rfl dX11_price_17 h rfl
  · replace h := hF h c1
    refine AW.iload_n 2 dX11_price_8 rfl ?_
    refine AW.callSi (As := [iv x2]) (st := []) X_isWeek_ok cq_X11_267 st_X11_isWeek (Nat.le_trans (by decide) hdd) rfl dX11_price_9 rfl (Nat.le_of_ble_eq_true rfl) ?_
    refine AW.if_ne (tgt := 18) dX11_price_12 (by decide) (fun c2 => ?_) (fun c2 => ?_)
    · replace h := hF h c2
      refine AW.aloadr_n 0 dX11_price_18 rfl ?_
      refine AW.getR af_X11_49_0 sr_0_5 dX11_price_19 ?_
      refine AW.iload_n 1 dX11_price_22 rfl ?_
      refine AW.iload_n 2 dX11_price_23 rfl ?_
      refine AW.iload_n 3 dX11_price_24 rfl ?_
      obtain ⟨r3, e4, h⟩ := hC h
      refine AW.callVi (As := [iv x1, iv x2, iv x3]) (st := []) (Boats_priceLine_ok e4) cq_X11_398 cr_6_X0_priceLine (Nat.le_trans (by decide) hdd) rfl dX11_price_25 rfl (Nat.le_of_ble_eq_true rfl) ?_
      refine AW.istore (lv1 := [(4, iv r3.1), (0, rv z 0), (1, iv x1), (2, iv x2), (3, iv x3)]) dX11_price_28 (by decide) rfl ?_
      refine AW.iload 0 dX11_price_30 rfl ?_
      refine AW.iconst dX11_price_32 ?_
      obtain ⟨r8, e9, h⟩ := hC h
      refine AW.join (tgt := 50) (lv1 := []) (st1 := [iv r8.1]) (g1 := r8.2) ?_ (fun J33 => ?_)
      · exact AW.iret1 rfl dX11_price_50 h rfl
      replace h := e9
      refine AW.icmp_ne (tgt := 41) dX11_price_33 (by decide) (fun c5 => ?_) (fun c5 => ?_)
      · replace h := hF h c5
        refine AW.aloadr_n 1 dX11_price_41 rfl ?_
        refine AW.getR af_X11_19_0 sr_0_1 dX11_price_42 ?_
        refine AW.iload 0 dX11_price_45 rfl ?_
        obtain ⟨r6, e7, h⟩ := hC h
        refine AW.callVi (As := [iv r3.1]) (st := []) (Rules_valueOf_ok e7) cq_X11_402 cr_2_X6_valueOf (Nat.le_trans (by decide) hdd) rfl dX11_price_47 rfl (Nat.le_of_ble_eq_true rfl) ?_
        refine AW.sub (lv1 := []) [] rfl ?_
        cases h
        exact J33
      · replace h := hT h c5
        refine AW.ldc dX11_price_36 cw_X11_198 ?_
        refine AW.goto (tgt := 50) dX11_price_38 (by decide) ?_
        refine AW.sub (lv1 := []) [] rfl ?_
        cases h
        exact J33
    · replace h := hT h c2
      refine AW.ldc dX11_price_15 cw_X11_198 ?_
      exact AW.iret1 rfl dX11_price_17 h rfl
theorem Boats_holdLine_ok {z : AZ} {x1 : Int} {x2 : Int} {x3 : Int} {x4 : Int} {g : AG} {r : Int × AG} (h : Boats_holdLine x1 x2 x3 x4 g = some r) : AMf z yX0_holdLine cX0_holdLine 5 (some .int) 4 [rv z 6, iv x1, iv x2, iv x3, iv x4] g r := by
  intro d hdd
  refine AM.of (by decide +kernel) (Nat.le_of_ble_eq_true rfl) ?_
  show AW z (RX0, cX0_holdLine, 5, (some .int)) d (QD (some .int) r) 0 [(0, rv z 6), (1, iv x1), (2, iv x2), (3, iv x3), (4, iv x4)] [] g
  unfold Boats_holdLine at h
  refine AW.aloadr_n 0 dX0_holdLine_0 rfl ?_
  refine AW.getR af_X0_42_6 sr_6_1 dX0_holdLine_1 ?_
  refine AW.iload 4 dX0_holdLine_4 rfl ?_
  obtain ⟨r1, e2, h⟩ := hC h
  refine AW.callVv (As := [iv x4]) (st := []) (Rules_askWeek_ok e2) cq_X0_127 cr_2_X6_askWeek (Nat.le_trans (by decide) hdd) rfl dX0_holdLine_6 rfl (Nat.le_of_ble_eq_true rfl) ?_
  refine AW.aloadr_n 0 dX0_holdLine_9 rfl ?_
  refine AW.getR af_X0_42_6 sr_6_1 dX0_holdLine_10 ?_
  refine AW.getR af_X0_115_2 sr_2_13 dX0_holdLine_13 ?_
  refine AW.bipush dX0_holdLine_16 (by decide) (by decide) ?_
  refine AW.iload_n 2 dX0_holdLine_18 rfl ?_
  obtain ⟨g3, e4, h⟩ := hBe h
  refine AW.iast kc_27 sk_27 (by decide) dX0_holdLine_19 e4 ?_
  refine AW.aloadr_n 0 dX0_holdLine_20 rfl ?_
  refine AW.getR af_X0_42_6 sr_6_1 dX0_holdLine_21 ?_
  refine AW.getR af_X0_115_2 sr_2_13 dX0_holdLine_24 ?_
  refine AW.bipush dX0_holdLine_27 (by decide) (by decide) ?_
  refine AW.iload_n 3 dX0_holdLine_29 rfl ?_
  obtain ⟨g5, e6, h⟩ := hBe h
  refine AW.iast kc_27 sk_27 (by decide) dX0_holdLine_30 e6 ?_
  refine AW.aloadr_n 0 dX0_holdLine_31 rfl ?_
  refine AW.getR af_X0_42_6 sr_6_1 dX0_holdLine_32 ?_
  refine AW.getR af_X0_115_2 sr_2_13 dX0_holdLine_35 ?_
  refine AW.iconst dX0_holdLine_38 ?_
  refine AW.aloadr_n 0 dX0_holdLine_39 rfl ?_
  refine AW.getR af_X0_15_6 sr_6_4 dX0_holdLine_40 ?_
  refine AW.iload_n 1 dX0_holdLine_43 rfl ?_
  obtain ⟨k7, h⟩ := hK h
  refine AW.iald kc_49 sk_49 k7 dX0_holdLine_44 ?_
  obtain ⟨g8, e9, h⟩ := hBe h
  refine AW.iast kc_27 sk_27 (by decide) dX0_holdLine_45 e9 ?_
  refine AW.aloadr_n 0 dX0_holdLine_46 rfl ?_
  refine AW.getR af_X0_42_6 sr_6_1 dX0_holdLine_47 ?_
  refine AW.bipush dX0_holdLine_50 (by decide) (by decide) ?_
  obtain ⟨r10, e11, h⟩ := hC h
  refine AW.callVi (As := [iv 103]) (st := []) (Rules_serving_ok e11) cq_X0_118 cr_2_X6_serving (Nat.le_trans (by decide) hdd) rfl dX0_holdLine_52 rfl (Nat.le_of_ble_eq_true rfl) ?_
  exact AW.iret1 rfl dX0_holdLine_55 h rfl
theorem X_held_ok {z : AZ} {x1 : Int} {x2 : Int} {x3 : Int} {x4 : Int} {g : AG} {r : Int × AG} (h : X_held x1 x2 x3 x4 g = some r) : AMf z yX11_held cX11_held 6 (some .int) 5 [rv z 0, iv x1, iv x2, iv x3, iv x4] g r := by
  intro d hdd
  refine AM.of (by decide +kernel) (Nat.le_of_ble_eq_true rfl) ?_
  show AW z (RX11, cX11_held, 6, (some .int)) d (QD (some .int) r) 0 [(0, rv z 0), (1, iv x1), (2, iv x2), (3, iv x3), (4, iv x4)] [] g
  unfold X_held at h
  refine AW.aloadr_n 0 dX11_held_0 rfl ?_
  refine AW.iload_n 1 dX11_held_1 rfl ?_
  refine AW.callVi (As := [iv x1]) (st := []) X_isBoat_ok cq_X11_107 cr_0_X11_isBoat (Nat.le_trans (by decide) hdd) rfl dX11_held_2 rfl (Nat.le_of_ble_eq_true rfl) ?_
  refine AW.if_eq (tgt := 16) dX11_held_5 (by decide) (fun c1 => ?_) (fun c1 => ?_)
  · replace h := hT h c1
    refine AW.ldc dX11_held_16 cw_X11_198 ?_
    exact AW.iret1 rfl dX11_held_18 h rfl
  · replace h := hF h c1
    refine AW.iload 4 dX11_held_8 rfl ?_
    refine AW.callSi (As := [iv x4]) (st := []) X_isWeek_ok cq_X11_267 st_X11_isWeek (Nat.le_trans (by decide) hdd) rfl dX11_held_10 rfl (Nat.le_of_ble_eq_true rfl) ?_
    refine AW.if_ne (tgt := 19) dX11_held_13 (by decide) (fun c2 => ?_) (fun c2 => ?_)
    · replace h := hF h c2
      refine AW.iload_n 2 dX11_held_19 rfl ?_
      refine AW.iconst dX11_held_20 ?_
      refine AW.bipush dX11_held_21 (by decide) (by decide) ?_
      refine AW.callSi (As := [iv x2, iv 0, iv 99]) (st := []) X_within_ok cq_X11_99 st_X11_within (Nat.le_trans (by decide) hdd) rfl dX11_held_23 rfl (Nat.le_of_ble_eq_true rfl) ?_
      refine AW.if_eq (tgt := 39) dX11_held_26 (by decide) (fun c3 => ?_) (fun c3 => ?_)
      · replace h := hT h c3
        refine AW.ldc dX11_held_39 cw_X11_198 ?_
        exact AW.iret1 rfl dX11_held_41 h rfl
      · replace h := hF h c3
        refine AW.iload_n 3 dX11_held_29 rfl ?_
        refine AW.iconst dX11_held_30 ?_
        refine AW.bipush dX11_held_31 (by decide) (by decide) ?_
        refine AW.callSi (As := [iv x3, iv 0, iv 9]) (st := []) X_within_ok cq_X11_99 st_X11_within (Nat.le_trans (by decide) hdd) rfl dX11_held_33 rfl (Nat.le_of_ble_eq_true rfl) ?_
        refine AW.if_ne (tgt := 42) dX11_held_36 (by decide) (fun c4 => ?_) (fun c4 => ?_)
        · replace h := hF h c4
          refine AW.aloadr_n 0 dX11_held_42 rfl ?_
          refine AW.getR af_X11_49_0 sr_0_5 dX11_held_43 ?_
          refine AW.iload_n 1 dX11_held_46 rfl ?_
          refine AW.iload_n 2 dX11_held_47 rfl ?_
          refine AW.iload_n 3 dX11_held_48 rfl ?_
          refine AW.iload 4 dX11_held_49 rfl ?_
          obtain ⟨r5, e6, h⟩ := hC h
          refine AW.callVi (As := [iv x1, iv x2, iv x3, iv x4]) (st := []) (Boats_holdLine_ok e6) cq_X11_405 cr_6_X0_holdLine (Nat.le_trans (by decide) hdd) rfl dX11_held_51 rfl (Nat.le_of_ble_eq_true rfl) ?_
          refine AW.istore (lv1 := [(5, iv r5.1), (0, rv z 0), (1, iv x1), (2, iv x2), (3, iv x3), (4, iv x4)]) dX11_held_54 (by decide) rfl ?_
          refine AW.iload 0 dX11_held_56 rfl ?_
          refine AW.iconst dX11_held_58 ?_
          obtain ⟨r10, e11, h⟩ := hC h
          refine AW.join (tgt := 75) (lv1 := []) (st1 := [iv r10.1]) (g1 := r10.2) ?_ (fun J59 => ?_)
          · exact AW.iret1 rfl dX11_held_75 h rfl
          replace h := e11
          refine AW.icmp_ne (tgt := 66) dX11_held_59 (by decide) (fun c7 => ?_) (fun c7 => ?_)
          · replace h := hF h c7
            refine AW.aloadr_n 1 dX11_held_66 rfl ?_
            refine AW.getR af_X11_19_0 sr_0_1 dX11_held_67 ?_
            refine AW.iload 0 dX11_held_70 rfl ?_
            obtain ⟨r8, e9, h⟩ := hC h
            refine AW.callVi (As := [iv r5.1]) (st := []) (Rules_valueOf_ok e9) cq_X11_402 cr_2_X6_valueOf (Nat.le_trans (by decide) hdd) rfl dX11_held_72 rfl (Nat.le_of_ble_eq_true rfl) ?_
            refine AW.sub (lv1 := []) [] rfl ?_
            cases h
            exact J59
          · replace h := hT h c7
            refine AW.iconst dX11_held_62 ?_
            refine AW.goto (tgt := 75) dX11_held_63 (by decide) ?_
            refine AW.sub (lv1 := []) [] rfl ?_
            cases h
            exact J59
        · replace h := hT h c4
          refine AW.ldc dX11_held_39 cw_X11_198 ?_
          exact AW.iret1 rfl dX11_held_41 h rfl
    · replace h := hT h c2
      refine AW.ldc dX11_held_16 cw_X11_198 ?_
      exact AW.iret1 rfl dX11_held_18 h rfl
theorem X_look_ok {z : AZ} {x1 : Int} {g : AG} : AMf z yX11_look cX11_look 2 (some .int) 0 [rv z 0, iv x1] g ((X_look x1 g), g) := by
  intro d hdd
  refine AM.of (by decide +kernel) (Nat.le_of_ble_eq_true rfl) ?_
  show AW z (RX11, cX11_look, 2, (some .int)) d (QD (some .int) ((X_look x1 g), g)) 0 [(0, rv z 0), (1, iv x1)] [] g
  refine AW.iload_n 1 dX11_look_0 rfl ?_
  by_cases c1 : nw x1 = 0
  · refine AW.tsIn (tgt := 48) 0 dX11_look_1 c1 (by decide) (by decide) (by rfl) (by decide) ?_
    refine AW.aloadr_n 0 dX11_look_48 rfl ?_
    refine AW.getR af_X11_49_0 sr_0_5 dX11_look_49 ?_
    refine AW.getI af_X11_103_6 sr_6_7 dX11_look_52 ?_
    exact AW.iret rfl dX11_look_55 ⟨congrArg (fun v => some (iv v)) (show X_look x1 g = (g 6 7) from ((if_pos c1))).symm, rfl⟩
  · by_cases c2 : nw x1 = 1
    · refine AW.tsIn (tgt := 56) 1 dX11_look_1 c2 (by decide) (by decide) (by rfl) (by decide) ?_
      refine AW.aloadr_n 0 dX11_look_56 rfl ?_
      refine AW.getR af_X11_58_0 sr_0_6 dX11_look_57 ?_
      refine AW.getI af_X11_197_7 sr_7_8 dX11_look_60 ?_
      exact AW.iret rfl dX11_look_63 ⟨congrArg (fun v => some (iv v)) (show X_look x1 g = (g 7 8) from (((if_neg c1).trans (if_pos c2)))).symm, rfl⟩
    · by_cases c3 : nw x1 = 2
      · refine AW.tsIn (tgt := 64) 2 dX11_look_1 c3 (by decide) (by decide) (by rfl) (by decide) ?_
        refine AW.aloadr_n 0 dX11_look_64 rfl ?_
        refine AW.getR af_X11_72_0 sr_0_8 dX11_look_65 ?_
        refine AW.getI af_X11_283_9 sr_9_4 dX11_look_68 ?_
        exact AW.iret rfl dX11_look_71 ⟨congrArg (fun v => some (iv v)) (show X_look x1 g = (g 9 4) from (((if_neg c1).trans ((if_neg c2).trans (if_pos c3))))).symm, rfl⟩
      · by_cases c4 : nw x1 = 3
        · refine AW.tsIn (tgt := 72) 3 dX11_look_1 c4 (by decide) (by decide) (by rfl) (by decide) ?_
          refine AW.aloadr_n 0 dX11_look_72 rfl ?_
          refine AW.getR af_X11_79_0 sr_0_9 dX11_look_73 ?_
          refine AW.getI af_X11_314_10 sr_10_7 dX11_look_76 ?_
          exact AW.iret rfl dX11_look_79 ⟨congrArg (fun v => some (iv v)) (show X_look x1 g = (g 10 7) from (((if_neg c1).trans ((if_neg c2).trans ((if_neg c3).trans (if_pos c4)))))).symm, rfl⟩
        · by_cases c5 : nw x1 = 4
          · refine AW.tsIn (tgt := 80) 4 dX11_look_1 c5 (by decide) (by decide) (by rfl) (by decide) ?_
            refine AW.aloadr_n 0 dX11_look_80 rfl ?_
            refine AW.getR af_X11_65_0 sr_0_7 dX11_look_81 ?_
            refine AW.getI af_X11_408_8 sr_8_2 dX11_look_84 ?_
            exact AW.iret rfl dX11_look_87 ⟨congrArg (fun v => some (iv v)) (show X_look x1 g = (g 8 2) from (((if_neg c1).trans ((if_neg c2).trans ((if_neg c3).trans ((if_neg c4).trans (if_pos c5))))))).symm, rfl⟩
          · by_cases c6 : nw x1 = 5
            · refine AW.tsIn (tgt := 88) 5 dX11_look_1 c6 (by decide) (by decide) (by rfl) (by decide) ?_
              refine AW.aloadr_n 0 dX11_look_88 rfl ?_
              refine AW.getR af_X11_12_0 sr_0_0 dX11_look_89 ?_
              refine AW.getI af_X11_136_1 sr_1_4 dX11_look_92 ?_
              exact AW.iret rfl dX11_look_95 ⟨congrArg (fun v => some (iv v)) (show X_look x1 g = (g 1 4) from (((if_neg c1).trans ((if_neg c2).trans ((if_neg c3).trans ((if_neg c4).trans ((if_neg c5).trans (if_pos c6)))))))).symm, rfl⟩
            · by_cases c7 : nw x1 = 6
              · refine AW.tsIn (tgt := 96) 6 dX11_look_1 c7 (by decide) (by decide) (by rfl) (by decide) ?_
                refine AW.aloadr_n 0 dX11_look_96 rfl ?_
                refine AW.getR af_X11_12_0 sr_0_0 dX11_look_97 ?_
                refine AW.getI af_X11_127_1 sr_1_5 dX11_look_100 ?_
                exact AW.iret rfl dX11_look_103 ⟨congrArg (fun v => some (iv v)) (show X_look x1 g = (g 1 5) from (((if_neg c1).trans ((if_neg c2).trans ((if_neg c3).trans ((if_neg c4).trans ((if_neg c5).trans ((if_neg c6).trans (if_pos c7))))))))).symm, rfl⟩
              · by_cases c8 : nw x1 = 7
                · refine AW.tsIn (tgt := 104) 7 dX11_look_1 c8 (by decide) (by decide) (by rfl) (by decide) ?_
                  refine AW.aloadr_n 0 dX11_look_104 rfl ?_
                  refine AW.getR af_X11_88_0 sr_0_10 dX11_look_105 ?_
                  refine AW.getI af_X11_362_11 sr_11_5 dX11_look_108 ?_
                  exact AW.iret rfl dX11_look_111 ⟨congrArg (fun v => some (iv v)) (show X_look x1 g = (g 11 5) from (((if_neg c1).trans ((if_neg c2).trans ((if_neg c3).trans ((if_neg c4).trans ((if_neg c5).trans ((if_neg c6).trans ((if_neg c7).trans (if_pos c8)))))))))).symm, rfl⟩
                · refine AW.tsOut (tgt := 112) dX11_look_1 (by omega) (by decide) ?_
                  refine AW.iconst dX11_look_112 ?_
                  exact AW.iret rfl dX11_look_113 ⟨congrArg (fun v => some (iv v)) (show X_look x1 g = (-1) from (((if_neg c1).trans ((if_neg c2).trans ((if_neg c3).trans ((if_neg c4).trans ((if_neg c5).trans ((if_neg c6).trans ((if_neg c7).trans (if_neg c8)))))))))).symm, rfl⟩
