theorem X_within_ok {z : AZ} {x0 : Int} {x1 : Int} {x2 : Int} {g : AG} : AMf z yX11_within cX11_within 3 (some .boolean) 0 [iv x0, iv x1, iv x2] g ((X_within x0 x1 x2), g) := by
  intro d hdd
  refine AM.of (by decide +kernel) (Nat.le_of_ble_eq_true rfl) ?_
  show AW z (RX11, cX11_within, 3, (some .boolean)) d (QD (some .boolean) ((X_within x0 x1 x2), g)) 0 [(0, iv x0), (1, iv x1), (2, iv x2)] [] g
  refine AW.iload_n 0 dX11_within_0 rfl ?_
  refine AW.iload_n 1 dX11_within_1 rfl ?_
  refine AW.join (tgt := 15) (lv1 := [(0, iv x0), (1, iv x1), (2, iv x2)]) (st1 := [iv (if nw x0 < nw x1 then 0 else (if nw x2 < nw x0 then 0 else 1))]) (g1 := g) ?_ (fun J2 => ?_)
  · exact AW.zret rfl (by (repeat' split) <;> first | exact Or.inl rfl | exact Or.inr rfl) dX11_within_15 ⟨congrArg (fun v => some (iv v)) (show X_within x0 x1 x2  = (if nw x0 < nw x1 then 0 else (if nw x2 < nw x0 then 0 else 1)) from rfl).symm, rfl⟩
  refine AW.icmp_lt (tgt := 14) dX11_within_2 (by decide) (fun c1 => ?_) (fun c1 => ?_)
  · refine AW.iconst dX11_within_14 ?_
    exact AW.val (if_pos c1) J2
  · refine AW.iload_n 0 dX11_within_5 rfl ?_
    refine AW.iload_n 2 dX11_within_6 rfl ?_
    refine AW.icmp_gt (tgt := 14) dX11_within_7 (by decide) (fun c2 => ?_) (fun c2 => ?_)
    · refine AW.iconst dX11_within_14 ?_
      exact AW.val ((if_neg c1).trans (if_pos c2)) J2
    · refine AW.iconst dX11_within_10 ?_
      refine AW.goto (tgt := 15) dX11_within_11 (by decide) ?_
      exact AW.val ((if_neg c1).trans (if_neg c2)) J2
theorem X_stretch_ok {z : AZ} {x1 : Int} {x2 : Int} {x3 : Int} {x4 : Int} {g : AG} {r : Int × AG} (h : X_stretch x1 x2 x3 x4 g = some r) : AMf z yX11_stretch cX11_stretch 5 (some .boolean) 1 [rv z 0, iv x1, iv x2, iv x3, iv x4] g r := by
  intro d hdd
  refine AM.of (by decide +kernel) (Nat.le_of_ble_eq_true rfl) ?_
  show AW z (RX11, cX11_stretch, 5, (some .boolean)) d (QD (some .boolean) r) 0 [(0, rv z 0), (1, iv x1), (2, iv x2), (3, iv x3), (4, iv x4)] [] g
  unfold X_stretch at h
  refine AW.iload_n 1 dX11_stretch_0 rfl ?_
  refine AW.iconst dX11_stretch_1 ?_
  refine AW.bipush dX11_stretch_2 (by decide) (by decide) ?_
  refine AW.callSi (As := [iv x1, iv 0, iv 14]) (st := []) X_within_ok cq_X11_99 st_X11_within (Nat.le_trans (by decide) hdd) rfl dX11_stretch_4 rfl (Nat.le_of_ble_eq_true rfl) ?_
  refine AW.if_eq (tgt := 21) dX11_stretch_7 (by decide) (fun c1 => ?_) (fun c1 => ?_)
  · replace h := hT h c1
    refine AW.iconst dX11_stretch_21 ?_
    exact AW.zret1 rfl (Or.inl rfl) dX11_stretch_22 h rfl
  · replace h := hF h c1
    refine AW.iload 4 dX11_stretch_10 rfl ?_
    refine AW.iconst dX11_stretch_12 ?_
    refine AW.bipush dX11_stretch_13 (by decide) (by decide) ?_
    refine AW.callSi (As := [iv x4, iv 1, iv 99]) (st := []) X_within_ok cq_X11_99 st_X11_within (Nat.le_trans (by decide) hdd) rfl dX11_stretch_15 rfl (Nat.le_of_ble_eq_true rfl) ?_
    refine AW.if_ne (tgt := 23) dX11_stretch_18 (by decide) (fun c2 => ?_) (fun c2 => ?_)
    · replace h := hF h c2
      refine AW.iload_n 2 dX11_stretch_23 rfl ?_
      refine AW.iconst dX11_stretch_24 ?_
      refine AW.bipush dX11_stretch_25 (by decide) (by decide) ?_
      refine AW.callSi (As := [iv x2, iv 0, iv 9]) (st := []) X_within_ok cq_X11_99 st_X11_within (Nat.le_trans (by decide) hdd) rfl dX11_stretch_27 rfl (Nat.le_of_ble_eq_true rfl) ?_
      refine AW.if_eq (tgt := 43) dX11_stretch_30 (by decide) (fun c3 => ?_) (fun c3 => ?_)
      · replace h := hT h c3
        refine AW.iconst dX11_stretch_43 ?_
        exact AW.zret1 rfl (Or.inl rfl) dX11_stretch_44 h rfl
      · replace h := hF h c3
        refine AW.iload_n 3 dX11_stretch_33 rfl ?_
        refine AW.iconst dX11_stretch_34 ?_
        refine AW.bipush dX11_stretch_35 (by decide) (by decide) ?_
        refine AW.callSi (As := [iv x3, iv 0, iv 9]) (st := []) X_within_ok cq_X11_99 st_X11_within (Nat.le_trans (by decide) hdd) rfl dX11_stretch_37 rfl (Nat.le_of_ble_eq_true rfl) ?_
        refine AW.if_ne (tgt := 45) dX11_stretch_40 (by decide) (fun c4 => ?_) (fun c4 => ?_)
        · replace h := hF h c4
          refine AW.aloadr_n 0 dX11_stretch_45 rfl ?_
          refine AW.getR af_X11_12_0 sr_0_0 dX11_stretch_46 ?_
          refine AW.getR af_X11_117_1 sr_1_0 dX11_stretch_49 ?_
          refine AW.iload_n 1 dX11_stretch_52 rfl ?_
          refine AW.iload_n 2 dX11_stretch_53 rfl ?_
          obtain ⟨k5, h⟩ := hK h
          obtain ⟨g6, e7, h⟩ := hBe h
          refine AW.iast kc_13 sk_13 k5 dX11_stretch_54 e7 ?_
          refine AW.aloadr_n 0 dX11_stretch_55 rfl ?_
          refine AW.getR af_X11_12_0 sr_0_0 dX11_stretch_56 ?_
          refine AW.getR af_X11_121_1 sr_1_1 dX11_stretch_59 ?_
          refine AW.iload_n 1 dX11_stretch_62 rfl ?_
          refine AW.iload_n 3 dX11_stretch_63 rfl ?_
          obtain ⟨g8, e9, h⟩ := hBe h
          refine AW.iast kc_14 sk_14 k5 dX11_stretch_64 e9 ?_
          refine AW.aloadr_n 0 dX11_stretch_65 rfl ?_
          refine AW.getR af_X11_12_0 sr_0_0 dX11_stretch_66 ?_
          refine AW.getR af_X11_124_1 sr_1_2 dX11_stretch_69 ?_
          refine AW.iload_n 1 dX11_stretch_72 rfl ?_
          refine AW.iload 4 dX11_stretch_73 rfl ?_
          obtain ⟨g10, e11, h⟩ := hBe h
          refine AW.iast kc_15 sk_15 k5 dX11_stretch_75 e11 ?_
          refine AW.iconst dX11_stretch_76 ?_
          exact AW.zret1 rfl (Or.inr rfl) dX11_stretch_77 h rfl
        · replace h := hT h c4
          refine AW.iconst dX11_stretch_43 ?_
          exact AW.zret1 rfl (Or.inl rfl) dX11_stretch_44 h rfl
    · replace h := hT h c2
      refine AW.iconst dX11_stretch_21 ?_
      exact AW.zret1 rfl (Or.inl rfl) dX11_stretch_22 h rfl
theorem Rules_askDay_ok {z : AZ} {x1 : Int} {x2 : Int} {g : AG} {r : Int × AG} (h : Rules_askDay x1 x2 g = some r) : AMf z yX6_askDay cX6_askDay 3 none 1 [rv z 2, iv x1, iv x2] g r := by
  intro d hdd
  refine AM.of (by decide +kernel) (Nat.le_of_ble_eq_true rfl) ?_
  show AW z (RX6, cX6_askDay, 3, none) d (QD none r) 0 [(0, rv z 2), (1, iv x1), (2, iv x2)] [] g
  unfold Rules_askDay at h
  refine AW.aloadr_n 0 dX6_askDay_0 rfl ?_
  refine AW.getR af_X6_42_2 sr_2_13 dX6_askDay_1 ?_
  refine AW.iconst dX6_askDay_4 ?_
  obtain ⟨g1, e2, h⟩ := hBe h
  refine AW.callSv (st := []) (fill_ok kc_27 sk_27 (by decide)) cf_X6_58 st_fill (Nat.le_trans (by decide) hdd) rfl dX6_askDay_5 rfl (Nat.le_of_ble_eq_true rfl) ?_
  rw [← e2]
  refine AW.aloadr_n 0 dX6_askDay_8 rfl ?_
  refine AW.getR af_X6_42_2 sr_2_13 dX6_askDay_9 ?_
  refine AW.iconst dX6_askDay_12 ?_
  refine AW.iload_n 1 dX6_askDay_13 rfl ?_
  refine AW.bipush dX6_askDay_14 (by decide) (by decide) ?_
  refine AW.irem dX6_askDay_16 (by decide) ?_
  obtain ⟨g3, e4, h⟩ := hBe h
  refine AW.iast kc_27 sk_27 (by decide) dX6_askDay_17 e4 ?_
  refine AW.aloadr_n 0 dX6_askDay_18 rfl ?_
  refine AW.getR af_X6_42_2 sr_2_13 dX6_askDay_19 ?_
  refine AW.iconst dX6_askDay_22 ?_
  refine AW.iload_n 1 dX6_askDay_23 rfl ?_
  refine AW.bipush dX6_askDay_24 (by decide) (by decide) ?_
  refine AW.idiv dX6_askDay_26 (by decide) ?_
  obtain ⟨g5, e6, h⟩ := hBe h
  refine AW.iast kc_27 sk_27 (by decide) dX6_askDay_27 e6 ?_
  refine AW.aloadr_n 0 dX6_askDay_28 rfl ?_
  refine AW.getR af_X6_42_2 sr_2_13 dX6_askDay_29 ?_
  refine AW.iconst dX6_askDay_32 ?_
  refine AW.iload_n 2 dX6_askDay_33 rfl ?_
  obtain ⟨g7, e8, h⟩ := hBe h
  refine AW.iast kc_27 sk_27 (by decide) dX6_askDay_34 e8 ?_
  exact AW.vret1 rfl dX6_askDay_35 h rfl
theorem Rules_both_ok {z : AZ} {x0 : Int} {x1 : Int} {x2 : Int} {g : AG} : AMf z yX6_both cX6_both 3 (some .int) 0 [iv x0, iv x1, iv x2] g ((Rules_both x0 x1 x2), g) := by
  intro d hdd
  refine AM.of (by decide +kernel) (Nat.le_of_ble_eq_true rfl) ?_
  show AW z (RX6, cX6_both, 3, (some .int)) d (QD (some .int) ((Rules_both x0 x1 x2), g)) 0 [(0, iv x0), (1, iv x1), (2, iv x2)] [] g
  refine AW.iload_n 0 dX6_both_0 rfl ?_
  by_cases c1 : nw x0 = 42
  · refine AW.lsw (tgt := 76) dX6_both_1 (by decide) c1 (by rfl) (by decide) ?_
    refine AW.iload_n 1 dX6_both_76 rfl ?_
    refine AW.iload_n 2 dX6_both_77 rfl ?_
    refine AW.imul dX6_both_78 ?_
    exact AW.iret rfl dX6_both_79 ⟨congrArg (fun v => some (iv v)) (show Rules_both x0 x1 x2  = (x1 * x2) from ((if_pos c1))).symm, rfl⟩
  · by_cases c2 : nw x0 = 43
    · refine AW.lsw (tgt := 68) dX6_both_1 (by decide) c2 (by rfl) (by decide) ?_
      refine AW.iload_n 1 dX6_both_68 rfl ?_
      refine AW.iload_n 2 dX6_both_69 rfl ?_
      refine AW.iadd dX6_both_70 ?_
      exact AW.iret rfl dX6_both_71 ⟨congrArg (fun v => some (iv v)) (show Rules_both x0 x1 x2  = (x1 + x2) from (((if_neg c1).trans (if_pos c2)))).symm, rfl⟩
    · by_cases c3 : nw x0 = 45
      · refine AW.lsw (tgt := 72) dX6_both_1 (by decide) c3 (by rfl) (by decide) ?_
        refine AW.iload_n 1 dX6_both_72 rfl ?_
        refine AW.iload_n 2 dX6_both_73 rfl ?_
        refine AW.isub dX6_both_74 ?_
        exact AW.iret rfl dX6_both_75 ⟨congrArg (fun v => some (iv v)) (show Rules_both x0 x1 x2  = (x1 - x2) from (((if_neg c1).trans ((if_neg c2).trans (if_pos c3))))).symm, rfl⟩
      · by_cases c4 : nw x0 = 60
        · refine AW.lsw (tgt := 80) dX6_both_1 (by decide) c4 (by rfl) (by decide) ?_
          refine AW.iload_n 1 dX6_both_80 rfl ?_
          refine AW.iload_n 2 dX6_both_81 rfl ?_
          refine AW.join (tgt := 90) (lv1 := [(0, iv x0), (1, iv x1), (2, iv x2)]) (st1 := [iv (if nw x2 ≤ nw x1 then 0 else 1)]) (g1 := g) ?_ (fun J82 => ?_)
          · exact AW.iret rfl dX6_both_90 ⟨congrArg (fun v => some (iv v)) (show Rules_both x0 x1 x2  = (if nw x2 ≤ nw x1 then 0 else 1) from (((if_neg c1).trans ((if_neg c2).trans ((if_neg c3).trans (if_pos c4)))))).symm, rfl⟩
          refine AW.icmp_ge (tgt := 89) dX6_both_82 (by decide) (fun c5 => ?_) (fun c5 => ?_)
          · refine AW.iconst dX6_both_89 ?_
            exact AW.val (if_pos c5) J82
          · refine AW.iconst dX6_both_85 ?_
            refine AW.goto (tgt := 90) dX6_both_86 (by decide) ?_
            exact AW.val (if_neg c5) J82
        · by_cases c6 : nw x0 = 61
          · refine AW.lsw (tgt := 91) dX6_both_1 (by decide) c6 (by rfl) (by decide) ?_
            refine AW.iload_n 1 dX6_both_91 rfl ?_
            refine AW.iload_n 2 dX6_both_92 rfl ?_
            refine AW.join (tgt := 101) (lv1 := [(0, iv x0), (1, iv x1), (2, iv x2)]) (st1 := [iv (if nw x1 = nw x2 then 1 else 0)]) (g1 := g) ?_ (fun J93 => ?_)
            · exact AW.iret rfl dX6_both_101 ⟨congrArg (fun v => some (iv v)) (show Rules_both x0 x1 x2  = (if nw x1 = nw x2 then 1 else 0) from (((if_neg c1).trans ((if_neg c2).trans ((if_neg c3).trans ((if_neg c4).trans (if_pos c6))))))).symm, rfl⟩
            refine AW.icmp_ne (tgt := 100) dX6_both_93 (by decide) (fun c7 => ?_) (fun c7 => ?_)
            · refine AW.iconst dX6_both_100 ?_
              exact AW.val (if_neg c7) J93
            · refine AW.iconst dX6_both_96 ?_
              refine AW.goto (tgt := 101) dX6_both_97 (by decide) ?_
              exact AW.val (if_pos c7) J93
          · by_cases c8 : nw x0 = 62
            · refine AW.lsw (tgt := 102) dX6_both_1 (by decide) c8 (by rfl) (by decide) ?_
              refine AW.iload_n 1 dX6_both_102 rfl ?_
              refine AW.iload_n 2 dX6_both_103 rfl ?_
              refine AW.join (tgt := 112) (lv1 := [(0, iv x0), (1, iv x1), (2, iv x2)]) (st1 := [iv (if nw x1 ≤ nw x2 then 0 else 1)]) (g1 := g) ?_ (fun J104 => ?_)
              · exact AW.iret rfl dX6_both_112 ⟨congrArg (fun v => some (iv v)) (show Rules_both x0 x1 x2  = (if nw x1 ≤ nw x2 then 0 else 1) from (((if_neg c1).trans ((if_neg c2).trans ((if_neg c3).trans ((if_neg c4).trans ((if_neg c6).trans (if_pos c8)))))))).symm, rfl⟩
              refine AW.icmp_le (tgt := 111) dX6_both_104 (by decide) (fun c9 => ?_) (fun c9 => ?_)
              · refine AW.iconst dX6_both_111 ?_
                exact AW.val (if_pos c9) J104
              · refine AW.iconst dX6_both_107 ?_
                refine AW.goto (tgt := 112) dX6_both_108 (by decide) ?_
                exact AW.val (if_neg c9) J104
            · by_cases c10 : nw x0 = 109
              · refine AW.lsw (tgt := 113) dX6_both_1 (by decide) c10 (by rfl) (by decide) ?_
                refine AW.iload_n 1 dX6_both_113 rfl ?_
                refine AW.iload_n 2 dX6_both_114 rfl ?_
                refine AW.iand dX6_both_115 ?_
                exact AW.iret rfl dX6_both_116 ⟨congrArg (fun v => some (iv v)) (show Rules_both x0 x1 x2  = (andI x1 x2) from (((if_neg c1).trans ((if_neg c2).trans ((if_neg c3).trans ((if_neg c4).trans ((if_neg c6).trans ((if_neg c8).trans (if_pos c10))))))))).symm, rfl⟩
              · refine AW.lsw (tgt := 117) (off := 116) dX6_both_1 (by decide) rfl ((if_neg (fun q => c1 q.symm)).trans ((if_neg (fun q => c2 q.symm)).trans ((if_neg (fun q => c3 q.symm)).trans ((if_neg (fun q => c4 q.symm)).trans ((if_neg (fun q => c6 q.symm)).trans ((if_neg (fun q => c8 q.symm)).trans ((if_neg (fun q => c10 q.symm)).trans rfl))))))) (by decide) ?_
                refine AW.iload_n 1 dX6_both_117 rfl ?_
                refine AW.iload_n 2 dX6_both_118 rfl ?_
                refine AW.ior dX6_both_119 ?_
                exact AW.iret rfl dX6_both_120 ⟨congrArg (fun v => some (iv v)) (show Rules_both x0 x1 x2  = (orI x1 x2) from (((if_neg c1).trans ((if_neg c2).trans ((if_neg c3).trans ((if_neg c4).trans ((if_neg c6).trans ((if_neg c8).trans (if_neg c10))))))))).symm, rfl⟩
theorem Rules_askedOf_ok {z : AZ} {x1 : Int} {g : AG} {r : Int} (h : Rules_askedOf x1 g = some r) : AMf z yX6_askedOf cX6_askedOf 2 (some .int) 1 [rv z 2, iv x1] g (r, g) := by
  intro d hdd
  refine AM.of (by decide +kernel) (Nat.le_of_ble_eq_true rfl) ?_
  show AW z (RX6, cX6_askedOf, 2, (some .int)) d (QD (some .int) (r, g)) 0 [(0, rv z 2), (1, iv x1)] [] g
  unfold Rules_askedOf at h
  refine AW.iload_n 1 dX6_askedOf_0 rfl ?_
  refine AW.iconst dX6_askedOf_1 ?_
  refine AW.bipush dX6_askedOf_2 (by decide) (by decide) ?_
  refine AW.callN0 (As := [iv x1, iv 0, iv 8]) (st := []) X_within_ok ns_X6_78 in_X11 cd_X11_within st_X11_within (by decide) (Nat.le_trans (by decide) hdd) rfl (Nat.le_of_ble_eq_true rfl) dX6_askedOf_4 rfl ?_
  obtain ⟨r3, e4, h⟩ := hC h
  refine AW.join (tgt := 20) (lv1 := []) (st1 := [iv r3]) (g1 := g) ?_ (fun J7 => ?_)
  · exact AW.iret2 rfl dX6_askedOf_20 h rfl
  replace h := e4
  refine AW.if_eq (tgt := 19) dX6_askedOf_7 (by decide) (fun c1 => ?_) (fun c1 => ?_)
  · replace h := hT h c1
    refine AW.iconst dX6_askedOf_19 ?_
    refine AW.sub (lv1 := []) [] rfl ?_
    cases h
    exact J7
  · replace h := hF h c1
    refine AW.aloadr_n 0 dX6_askedOf_10 rfl ?_
    refine AW.getR af_X6_42_2 sr_2_13 dX6_askedOf_11 ?_
    refine AW.iload_n 1 dX6_askedOf_14 rfl ?_
    obtain ⟨k2, h⟩ := hK h
    refine AW.iald kc_27 sk_27 k2 dX6_askedOf_15 ?_
    refine AW.goto (tgt := 20) dX6_askedOf_16 (by decide) ?_
    refine AW.sub (lv1 := []) [] rfl ?_
    cases h
    exact J7
theorem Rules_alone_ok {z : AZ} {x0 : Int} {x1 : Int} {x2 : Int} {g : AG} {r : Int} (h : Rules_alone x0 x1 x2 g = some r) : AMf z yX6_alone cX6_alone 3 (some .int) 0 [iv x0, iv x1, iv x2] g (r, g) := by
  intro d hdd
  refine AM.of (by decide +kernel) (Nat.le_of_ble_eq_true rfl) ?_
  show AW z (RX6, cX6_alone, 3, (some .int)) d (QD (some .int) (r, g)) 0 [(0, iv x0), (1, iv x1), (2, iv x2)] [] g
  unfold Rules_alone at h
  refine AW.iload_n 0 dX6_alone_0 rfl ?_
  refine AW.bipush dX6_alone_1 (by decide) (by decide) ?_
  refine AW.icmp_ne (tgt := 10) dX6_alone_3 (by decide) (fun c1 => ?_) (fun c1 => ?_)
  · replace h := hF h c1
    refine AW.iload_n 2 dX6_alone_10 rfl ?_
    obtain ⟨r4, e5, h⟩ := hC h
    refine AW.join (tgt := 21) (lv1 := []) (st1 := [iv r4]) (g1 := g) ?_ (fun J11 => ?_)
    · exact AW.iret2 rfl dX6_alone_21 h rfl
    replace h := e5
    refine AW.if_ne (tgt := 18) dX6_alone_11 (by decide) (fun c2 => ?_) (fun c2 => ?_)
    · replace h := hF h c2
      refine AW.iload_n 1 dX6_alone_18 rfl ?_
      refine AW.iload_n 2 dX6_alone_19 rfl ?_
      obtain ⟨k3, h⟩ := hK h
      refine AW.idiv dX6_alone_20 k3 ?_
      refine AW.sub (lv1 := []) [] rfl ?_
      cases h
      exact J11
    · replace h := hT h c2
      refine AW.iconst dX6_alone_14 ?_
      refine AW.goto (tgt := 21) dX6_alone_15 (by decide) ?_
      refine AW.sub (lv1 := []) [] rfl ?_
      cases h
      exact J11
  · replace h := hT h c1
    refine AW.iconst dX6_alone_6 ?_
    refine AW.iload_n 1 dX6_alone_7 rfl ?_
    refine AW.isub dX6_alone_8 ?_
    exact AW.iret2 rfl dX6_alone_9 h rfl
set_option synthInstance.maxHeartbeats 2000000 in
theorem Rules_run_b_ok {z : AZ} {d : Nat} (hdd : 2 ≤ d) {x2 : Int} : ∀ (tag : Nat) (x3 : Int) (x4 : Int) (x5 : Int) (g : AG) (r : Int × AG), Rules_run_b x2 tag x3 x4 x5 g = some r → (tag = 1 → AW z (RX6, cX6_run, 6, (some .int)) d (QD (some .int) r) 5 [(0, rv z 2), (2, iv x2), (3, iv x3), (4, iv x4)] [] g) ∧ (tag = 2 → AW z (RX6, cX6_run, 6, (some .int)) d (QD (some .int) r) 32 [(0, rv z 2), (2, iv x2), (3, iv x3), (4, iv x4), (5, iv x5)] [] g) ∧ (tag = 3 → AW z (RX6, cX6_run, 6, (some .int)) d (QD (some .int) r) 96 [(0, rv z 2), (2, iv x2), (3, iv x3), (4, iv x4), (5, iv x5)] [] g) ∧ (tag = 4 → AW z (RX6, cX6_run, 6, (some .int)) d (QD (some .int) r) 171 [(0, rv z 2), (2, iv x2), (3, iv x3), (4, iv x4)] [] g) := by
  refine Rules_run_b.partial_correctness x2 (fun tag x3 x4 x5 g r => (tag = 1 → AW z (RX6, cX6_run, 6, (some .int)) d (QD (some .int) r) 5 [(0, rv z 2), (2, iv x2), (3, iv x3), (4, iv x4)] [] g) ∧ (tag = 2 → AW z (RX6, cX6_run, 6, (some .int)) d (QD (some .int) r) 32 [(0, rv z 2), (2, iv x2), (3, iv x3), (4, iv x4), (5, iv x5)] [] g) ∧ (tag = 3 → AW z (RX6, cX6_run, 6, (some .int)) d (QD (some .int) r) 96 [(0, rv z 2), (2, iv x2), (3, iv x3), (4, iv x4), (5, iv x5)] [] g) ∧ (tag = 4 → AW z (RX6, cX6_run, 6, (some .int)) d (QD (some .int) r) 171 [(0, rv z 2), (2, iv x2), (3, iv x3), (4, iv x4)] [] g)) ?_
  intro fb9 ih tag x3 x4 x5 g r h
  refine ⟨fun h9 => ?_, fun h9 => ?_, fun h9 => ?_, fun h9 => ?_⟩
  · subst h9
    replace h := hT h rfl
    refine AW.iload 3 dX6_run_5 rfl ?_
    refine AW.iload_n 1 dX6_run_7 rfl ?_
    refine AW.icmp_ge (tgt := 177) dX6_run_8 (by decide) (fun c1 => ?_) (fun c1 => ?_)
    · replace h := hT h c1
      refine AW.iload_n 2 dX6_run_177 rfl ?_
      obtain ⟨r4, e5, h⟩ := hC h
      refine AW.join (tgt := 193) (lv1 := []) (st1 := [iv r4.1]) (g1 := r4.2) ?_ (fun J178 => ?_)
      · exact AW.iret1 rfl dX6_run_193 h rfl
      replace h := e5
      refine AW.if_le (tgt := 192) dX6_run_178 (by decide) (fun c2 => ?_) (fun c2 => ?_)
      · replace h := hT h c2
        refine AW.iconst dX6_run_192 ?_
        refine AW.sub (lv1 := []) [] rfl ?_
        cases h
        exact J178
      · replace h := hF h c2
        refine AW.aloadr_n 0 dX6_run_181 rfl ?_
        refine AW.getR af_X6_45_2 sr_2_14 dX6_run_182 ?_
        refine AW.iload_n 2 dX6_run_185 rfl ?_
        refine AW.iconst dX6_run_186 ?_
        refine AW.isub dX6_run_187 ?_
        obtain ⟨k3, h⟩ := hK h
        refine AW.iald kc_28 sk_28 k3 dX6_run_188 ?_
        refine AW.goto (tgt := 193) dX6_run_189 (by decide) ?_
        refine AW.sub (lv1 := []) [] rfl ?_
        cases h
        exact J178
    · replace h := hF h c1
      refine AW.aloadr_n 0 dX6_run_11 rfl ?_
      refine AW.getR af_X6_9_2 sr_2_0 dX6_run_12 ?_
      refine AW.iload 3 dX6_run_15 rfl ?_
      obtain ⟨k6, h⟩ := hK h
      refine AW.iald kc_17 sk_17 k6 dX6_run_17 ?_
      refine AW.istore (lv1 := [(5, iv (g 17 (ix x4))), (0, rv z 2), (2, iv x2), (3, iv x3), (4, iv x4)]) dX6_run_18 (by decide) rfl ?_
      refine AW.iload 0 dX6_run_20 rfl ?_
      refine AW.iconst dX6_run_22 ?_
      refine AW.icmp_eq (tgt := 32) dX6_run_23 (by decide) (fun c7 => ?_) (fun c7 => ?_)
      · replace h := hT h c7
        refine AW.sub (lv1 := [(0, rv z 2), (2, iv x2), (3, iv x3), (4, iv x4), (5, iv (g 17 (ix x4)))]) [1, 2, 3, 4, 0] rfl ?_
        exact (ih _ _ _ _ _ _ h).2.1 rfl
      · replace h := hF h c7
        refine AW.iload 0 dX6_run_26 rfl ?_
        refine AW.iconst dX6_run_28 ?_
        refine AW.icmp_ne (tgt := 82) dX6_run_29 (by decide) (fun c8 => ?_) (fun c8 => ?_)
        · replace h := hF h c8
          refine AW.iload 0 dX6_run_82 rfl ?_
          refine AW.bipush dX6_run_84 (by decide) (by decide) ?_
          refine AW.icmp_eq (tgt := 96) dX6_run_86 (by decide) (fun c9 => ?_) (fun c9 => ?_)
          · replace h := hT h c9
            refine AW.sub (lv1 := [(0, rv z 2), (2, iv x2), (3, iv x3), (4, iv x4), (5, iv (g 17 (ix x4)))]) [1, 2, 3, 4, 0] rfl ?_
            exact (ih _ _ _ _ _ _ h).2.2.1 rfl
          · replace h := hF h c9
            refine AW.iload 0 dX6_run_89 rfl ?_
            refine AW.bipush dX6_run_91 (by decide) (by decide) ?_
            refine AW.icmp_ne (tgt := 134) dX6_run_93 (by decide) (fun c10 => ?_) (fun c10 => ?_)
            · replace h := hF h c10
              refine AW.iload_n 3 dX6_run_134 rfl ?_
              refine AW.iconst dX6_run_135 ?_
              refine AW.icmp_ge (tgt := 141) dX6_run_136 (by decide) (fun c11 => ?_) (fun c11 => ?_)
              · replace h := hT h c11
                refine AW.iinc (lv1 := [(3, iv (x3 + (-1))), (5, iv (g 17 (ix x4))), (0, rv z 2), (2, iv x2), (4, iv x4)]) 3 dX6_run_141 rfl (by decide) rfl ?_
                refine AW.aloadr_n 2 dX6_run_144 rfl ?_
                refine AW.getR af_X6_45_2 sr_2_14 dX6_run_145 ?_
                refine AW.iload_n 0 dX6_run_148 rfl ?_
                refine AW.iconst dX6_run_149 ?_
                refine AW.isub dX6_run_150 ?_
                refine AW.iload 1 dX6_run_151 rfl ?_
                refine AW.aloadr_n 2 dX6_run_153 rfl ?_
                refine AW.getR af_X6_45_2 sr_2_14 dX6_run_154 ?_
                refine AW.iload_n 0 dX6_run_157 rfl ?_
                refine AW.iconst dX6_run_158 ?_
                refine AW.isub dX6_run_159 ?_
                obtain ⟨k12, h⟩ := hK h
                refine AW.iald kc_28 sk_28 k12 dX6_run_160 ?_
                refine AW.aloadr_n 2 dX6_run_161 rfl ?_
                refine AW.getR af_X6_45_2 sr_2_14 dX6_run_162 ?_
                refine AW.iload_n 0 dX6_run_165 rfl ?_
                obtain ⟨k13, h⟩ := hK h
                refine AW.iald kc_28 sk_28 k13 dX6_run_166 ?_
                refine AW.callSi (As := [iv (g 17 (ix x4)), iv (g 28 (ix ((x3 + (-1)) - 1))), iv (g 28 (ix (x3 + (-1))))]) (st := [iv ((x3 + (-1)) - 1), rv z 28]) Rules_both_ok cq_X6_90 st_X6_both (Nat.le_trans (by decide) hdd) rfl dX6_run_167 rfl (Nat.le_of_ble_eq_true rfl) ?_
                obtain ⟨g14, e15, h⟩ := hBe h
                refine AW.iast kc_28 sk_28 k12 dX6_run_170 e15 ?_
                refine AW.sub (lv1 := [(0, rv z 2), (2, iv x2), (3, iv (x3 + (-1))), (4, iv x4)]) [2, 3, 0, 4] rfl ?_
                exact (ih _ _ _ _ _ _ h).2.2.2 rfl
              · replace h := hF h c11
                refine AW.iconst dX6_run_139 ?_
                exact AW.iret1 rfl dX6_run_140 h rfl
            · replace h := hT h c10
              refine AW.sub (lv1 := [(0, rv z 2), (2, iv x2), (3, iv x3), (4, iv x4), (5, iv (g 17 (ix x4)))]) [1, 2, 3, 4, 0] rfl ?_
              exact (ih _ _ _ _ _ _ h).2.2.1 rfl
        · replace h := hT h c8
          refine AW.sub (lv1 := [(0, rv z 2), (2, iv x2), (3, iv x3), (4, iv x4), (5, iv (g 17 (ix x4)))]) [1, 2, 3, 4, 0] rfl ?_
          exact (ih _ _ _ _ _ _ h).2.1 rfl
  · subst h9
    replace h := hF h (by decide)
    replace h := hT h rfl
    refine AW.iload_n 2 dX6_run_32 rfl ?_
    refine AW.aloadr_n 0 dX6_run_33 rfl ?_
    refine AW.getR af_X6_45_2 sr_2_14 dX6_run_34 ?_
    refine AW.alen kc_28 sk_28 dX6_run_37 ?_
    refine AW.icmp_lt (tgt := 43) dX6_run_38 (by decide) (fun c1 => ?_) (fun c1 => ?_)
    · replace h := hT h c1
      refine AW.aloadr_n 0 dX6_run_43 rfl ?_
      refine AW.getR af_X6_45_2 sr_2_14 dX6_run_44 ?_
      refine AW.iload_n 2 dX6_run_47 rfl ?_
      refine AW.iload 4 dX6_run_48 rfl ?_
      refine AW.iconst dX6_run_50 ?_
      obtain ⟨r7, e8, h⟩ := hC h
      refine AW.join (tgt := 75) (lv1 := [(0, rv z 2), (2, iv x2), (3, iv x3), (4, iv x4)]) (st1 := [iv r7.1, iv x3, rv z 28]) (g1 := r7.2) ?_ (fun J51 => ?_)
      · obtain ⟨k9, h⟩ := hK h
        obtain ⟨g10, e11, h⟩ := hBe h
        refine AW.iast kc_28 sk_28 k9 dX6_run_75 e11 ?_
        refine AW.iinc (lv1 := [(3, iv (x3 + 1)), (0, rv z 2), (2, iv x2), (4, iv x4)]) 2 dX6_run_76 rfl (by decide) rfl ?_
        refine AW.goto (tgt := 171) dX6_run_79 (by decide) ?_
        refine AW.sub (lv1 := [(0, rv z 2), (2, iv x2), (3, iv (x3 + 1)), (4, iv x4)]) [1, 2, 0, 3] rfl ?_
        exact (ih _ _ _ _ _ _ h).2.2.2 rfl
      replace h := e8
      refine AW.icmp_ne (tgt := 64) dX6_run_51 (by decide) (fun c2 => ?_) (fun c2 => ?_)
      · replace h := hF h c2
        refine AW.aloadr_n 0 dX6_run_64 rfl ?_
        refine AW.aloadr_n 0 dX6_run_65 rfl ?_
        refine AW.getR af_X6_15_2 sr_2_1 dX6_run_66 ?_
        refine AW.iload 3 dX6_run_69 rfl ?_
        obtain ⟨k3, h⟩ := hK h
        refine AW.iald kc_18 sk_18 k3 dX6_run_71 ?_
        obtain ⟨r4, e5, h⟩ := hC h
        refine AW.callVi (As := [iv (g 18 (ix x4))]) (st := [iv x3, rv z 28]) (Rules_askedOf_ok e5) cq_X6_82 cr_2_X6_askedOf (Nat.le_trans (by decide) hdd) rfl dX6_run_72 rfl (Nat.le_of_ble_eq_true rfl) ?_
        refine AW.sub (lv1 := [(0, rv z 2), (2, iv x2), (3, iv x3), (4, iv x4)]) [0, 1, 2, 3] rfl ?_
        cases h
        exact J51
      · replace h := hT h c2
        refine AW.aloadr_n 0 dX6_run_54 rfl ?_
        refine AW.getR af_X6_15_2 sr_2_1 dX6_run_55 ?_
        refine AW.iload 3 dX6_run_58 rfl ?_
        obtain ⟨k6, h⟩ := hK h
        refine AW.iald kc_18 sk_18 k6 dX6_run_60 ?_
        refine AW.goto (tgt := 75) dX6_run_61 (by decide) ?_
        refine AW.sub (lv1 := [(0, rv z 2), (2, iv x2), (3, iv x3), (4, iv x4)]) [0, 1, 2, 3] rfl ?_
        cases h
        exact J51
    · replace h := hF h c1
      refine AW.iconst dX6_run_41 ?_
      exact AW.iret1 rfl dX6_run_42 h rfl
  · subst h9
    replace h := hF h (by decide)
    replace h := hF h (by decide)
    replace h := hT h rfl
    refine AW.iload_n 2 dX6_run_96 rfl ?_
    refine AW.iconst dX6_run_97 ?_
    refine AW.icmp_ge (tgt := 103) dX6_run_98 (by decide) (fun c1 => ?_) (fun c1 => ?_)
    · replace h := hT h c1
      refine AW.aloadr_n 0 dX6_run_103 rfl ?_
      refine AW.getR af_X6_45_2 sr_2_14 dX6_run_104 ?_
      refine AW.iload_n 2 dX6_run_107 rfl ?_
      refine AW.iconst dX6_run_108 ?_
      refine AW.isub dX6_run_109 ?_
      refine AW.iload 4 dX6_run_110 rfl ?_
      refine AW.aloadr_n 0 dX6_run_112 rfl ?_
      refine AW.getR af_X6_45_2 sr_2_14 dX6_run_113 ?_
      refine AW.iload_n 2 dX6_run_116 rfl ?_
      refine AW.iconst dX6_run_117 ?_
      refine AW.isub dX6_run_118 ?_
      obtain ⟨k2, h⟩ := hK h
      refine AW.iald kc_28 sk_28 k2 dX6_run_119 ?_
      refine AW.aloadr_n 0 dX6_run_120 rfl ?_
      refine AW.getR af_X6_15_2 sr_2_1 dX6_run_121 ?_
      refine AW.iload 3 dX6_run_124 rfl ?_
      obtain ⟨k3, h⟩ := hK h
      refine AW.iald kc_18 sk_18 k3 dX6_run_126 ?_
      obtain ⟨r4, e5, h⟩ := hC h
      refine AW.callSi (As := [iv x5, iv (g 28 (ix (x3 - 1))), iv (g 18 (ix x4))]) (st := [iv (x3 - 1), rv z 28]) (Rules_alone_ok e5) cq_X6_86 st_X6_alone (Nat.le_trans (by decide) hdd) rfl dX6_run_127 rfl (Nat.le_of_ble_eq_true rfl) ?_
      obtain ⟨g6, e7, h⟩ := hBe h
      refine AW.iast kc_28 sk_28 k2 dX6_run_130 e7 ?_
      refine AW.goto (tgt := 171) dX6_run_131 (by decide) ?_
      refine AW.sub (lv1 := [(0, rv z 2), (2, iv x2), (3, iv x3), (4, iv x4)]) [0, 1, 2, 3] rfl ?_
      exact (ih _ _ _ _ _ _ h).2.2.2 rfl
    · replace h := hF h c1
      refine AW.iconst dX6_run_101 ?_
      exact AW.iret1 rfl dX6_run_102 h rfl
  · subst h9
    replace h := hF h (by decide)
    replace h := hF h (by decide)
    replace h := hF h (by decide)
    replace h := hT h rfl
    refine AW.iinc (lv1 := [(4, iv (x4 + 1)), (0, rv z 2), (2, iv x2), (3, iv x3)]) 3 dX6_run_171 rfl (by decide) rfl ?_
    refine AW.goto (tgt := 5) dX6_run_174 (by decide) ?_
    refine AW.sub (lv1 := [(0, rv z 2), (2, iv x2), (3, iv x3), (4, iv (x4 + 1))]) [1, 2, 3, 0] rfl ?_
    exact (ih _ _ _ _ _ _ h).1 rfl
theorem Rules_run_ok {z : AZ} {x1 : Int} {x2 : Int} {g : AG} {r : Int × AG} (h : Rules_run x1 x2 g = some r) : AMf z yX6_run cX6_run 6 (some .int) 2 [rv z 2, iv x1, iv x2] g r := by
  intro d hdd
  refine AM.of (by decide +kernel) (Nat.le_of_ble_eq_true rfl) ?_
  show AW z (RX6, cX6_run, 6, (some .int)) d (QD (some .int) r) 0 [(0, rv z 2), (1, iv x1), (2, iv x2)] [] g
  unfold Rules_run at h
  refine AW.iconst dX6_run_0 ?_
  refine AW.istore_n (lv1 := [(3, iv 0), (0, rv z 2), (1, iv x1), (2, iv x2)]) dX6_run_1 (by decide) rfl ?_
  refine AW.iload_n 2 dX6_run_2 rfl ?_
  refine AW.istore (lv1 := [(4, iv x1), (3, iv 0), (0, rv z 2), (1, iv x1), (2, iv x2)]) dX6_run_3 (by decide) rfl ?_
  refine AW.sub (lv1 := [(0, rv z 2), (2, iv x2), (3, iv 0), (4, iv x1)]) [2, 4, 1, 0] rfl ?_
  exact (Rules_run_b_ok hdd _ _ _ _ _ _ h).1 rfl
set_option synthInstance.maxHeartbeats 2000000 in
theorem Rules_serving_b_ok {z : AZ} {d : Nat} (hdd : 3 ≤ d) {x1 : Int} : ∀ (tag : Nat) (x2 : Int) (g : AG) (r : Int × AG), Rules_serving_b x1 tag x2 g = some r → (tag = 1 → AW z (RX6, cX6_serving, 3, (some .int)) d (QD (some .int) r) 2 [(0, rv z 2), (1, iv x1), (2, iv x2)] [] g) ∧ (tag = 2 → AW z (RX6, cX6_serving, 3, (some .int)) d (QD (some .int) r) 56 [(0, rv z 2), (1, iv x1), (2, iv x2)] [] g) := by
  refine Rules_serving_b.partial_correctness x1 (fun tag x2 g r => (tag = 1 → AW z (RX6, cX6_serving, 3, (some .int)) d (QD (some .int) r) 2 [(0, rv z 2), (1, iv x1), (2, iv x2)] [] g) ∧ (tag = 2 → AW z (RX6, cX6_serving, 3, (some .int)) d (QD (some .int) r) 56 [(0, rv z 2), (1, iv x1), (2, iv x2)] [] g)) ?_
  intro fb9 ih tag x2 g r h
  refine ⟨fun h9 => ?_, fun h9 => ?_⟩
  · subst h9
    replace h := hT h rfl
    refine AW.iload_n 2 dX6_serving_2 rfl ?_
    refine AW.aloadr_n 0 dX6_serving_3 rfl ?_
    refine AW.getI af_X6_52_2 sr_2_3 dX6_serving_4 ?_
    refine AW.icmp_ge (tgt := 62) dX6_serving_7 (by decide) (fun c1 => ?_) (fun c1 => ?_)
    · replace h := hT h c1
      refine AW.iconst dX6_serving_62 ?_
      exact AW.iret1 rfl dX6_serving_63 h rfl
    · replace h := hF h c1
      refine AW.aloadr_n 0 dX6_serving_10 rfl ?_
      refine AW.getR af_X6_18_2 sr_2_4 dX6_serving_11 ?_
      refine AW.iload_n 2 dX6_serving_14 rfl ?_
      obtain ⟨k2, h⟩ := hK h
      refine AW.iald kc_19 sk_19 k2 dX6_serving_15 ?_
      refine AW.iload_n 1 dX6_serving_16 rfl ?_
      refine AW.icmp_ne (tgt := 56) dX6_serving_17 (by decide) (fun c3 => ?_) (fun c3 => ?_)
      · replace h := hF h c3
        exact (ih _ _ _ _ h).2 rfl
      · replace h := hT h c3
        refine AW.aloadr_n 0 dX6_serving_20 rfl ?_
        refine AW.getR af_X6_24_2 sr_2_6 dX6_serving_21 ?_
        refine AW.iload_n 2 dX6_serving_24 rfl ?_
        refine AW.iald kc_21 sk_21 k2 dX6_serving_25 ?_
        refine AW.aloadr_n 0 dX6_serving_26 rfl ?_
        refine AW.getR af_X6_27_2 sr_2_7 dX6_serving_27 ?_
        refine AW.iload_n 2 dX6_serving_30 rfl ?_
        refine AW.iald kc_22 sk_22 k2 dX6_serving_31 ?_
        refine AW.icmp_eq (tgt := 54) dX6_serving_32 (by decide) (fun c4 => ?_) (fun c4 => ?_)
        · replace h := hT h c4
          refine AW.iload_n 2 dX6_serving_54 rfl ?_
          exact AW.iret1 rfl dX6_serving_55 h rfl
        · replace h := hF h c4
          refine AW.aloadr_n 0 dX6_serving_35 rfl ?_
          refine AW.aloadr_n 0 dX6_serving_36 rfl ?_
          refine AW.getR af_X6_24_2 sr_2_6 dX6_serving_37 ?_
          refine AW.iload_n 2 dX6_serving_40 rfl ?_
          refine AW.iald kc_21 sk_21 k2 dX6_serving_41 ?_
          refine AW.aloadr_n 0 dX6_serving_42 rfl ?_
          refine AW.getR af_X6_27_2 sr_2_7 dX6_serving_43 ?_
          refine AW.iload_n 2 dX6_serving_46 rfl ?_
          refine AW.iald kc_22 sk_22 k2 dX6_serving_47 ?_
          obtain ⟨r5, e6, h⟩ := hC h
          refine AW.callVi (As := [iv (g 21 (ix x2)), iv (g 22 (ix x2))]) (st := []) (Rules_run_ok e6) cq_X6_74 cr_2_X6_run (Nat.le_trans (by decide) hdd) rfl dX6_serving_48 rfl (Nat.le_of_ble_eq_true rfl) ?_
          refine AW.if_eq (tgt := 56) dX6_serving_51 (by decide) (fun c7 => ?_) (fun c7 => ?_)
          · replace h := hT h c7
            exact (ih _ _ _ _ h).2 rfl
          · replace h := hF h c7
            refine AW.iload_n 2 dX6_serving_54 rfl ?_
            exact AW.iret1 rfl dX6_serving_55 h rfl
  · subst h9
    replace h := hF h (by decide)
    replace h := hT h rfl
    refine AW.iinc (lv1 := [(2, iv (x2 + 1)), (0, rv z 2), (1, iv x1)]) 2 dX6_serving_56 rfl (by decide) rfl ?_
    refine AW.goto (tgt := 2) dX6_serving_59 (by decide) ?_
    refine AW.sub (lv1 := [(0, rv z 2), (1, iv x1), (2, iv (x2 + 1))]) [1, 2, 0] rfl ?_
    exact (ih _ _ _ _ h).1 rfl
theorem Rules_serving_ok {z : AZ} {x1 : Int} {g : AG} {r : Int × AG} (h : Rules_serving x1 g = some r) : AMf z yX6_serving cX6_serving 3 (some .int) 3 [rv z 2, iv x1] g r := by
  intro d hdd
  refine AM.of (by decide +kernel) (Nat.le_of_ble_eq_true rfl) ?_
  show AW z (RX6, cX6_serving, 3, (some .int)) d (QD (some .int) r) 0 [(0, rv z 2), (1, iv x1)] [] g
  unfold Rules_serving at h
  refine AW.iconst dX6_serving_0 ?_
  refine AW.istore_n (lv1 := [(2, iv 0), (0, rv z 2), (1, iv x1)]) dX6_serving_1 (by decide) rfl ?_
  refine AW.sub (lv1 := [(0, rv z 2), (1, iv x1), (2, iv 0)]) [1, 2, 0] rfl ?_
  exact (Rules_serving_b_ok hdd _ _ _ _ h).1 rfl
set_option synthInstance.maxHeartbeats 2000000 in
theorem Voyage_learnHours_b_ok {z : AZ} {d : Nat} (hdd : 4 ≤ d) : ∀ (x1 : Int) (g : AG) (r : Int × AG), Voyage_learnHours_b x1 g = some r → AW z (RX9, cX9_learnHours, 3, none) d (QD none r) 2 [(0, rv z 5), (1, iv x1)] [] g := by
  refine Voyage_learnHours_b.partial_correctness (fun x1 g r => AW z (RX9, cX9_learnHours, 3, none) d (QD none r) 2 [(0, rv z 5), (1, iv x1)] [] g) ?_
  intro fb9 ih x1 g r h
  refine AW.iload_n 1 dX9_learnHours_2 rfl ?_
  refine AW.bipush dX9_learnHours_3 (by decide) (by decide) ?_
  refine AW.icmp_ge (tgt := 88) dX9_learnHours_5 (by decide) (fun c1 => ?_) (fun c1 => ?_)
  · replace h := hT h c1
    exact AW.vret1 rfl dX9_learnHours_88 h rfl
  · replace h := hF h c1
    refine AW.aloadr_n 0 dX9_learnHours_8 rfl ?_
    refine AW.getR af_X9_28_5 sr_5_1 dX9_learnHours_9 ?_
    refine AW.iload_n 1 dX9_learnHours_12 rfl ?_
    refine AW.aloadr_n 0 dX9_learnHours_13 rfl ?_
    refine AW.getR af_X9_24_5 sr_5_0 dX9_learnHours_14 ?_
    refine AW.getI af_X9_38_1 sr_1_5 dX9_learnHours_17 ?_
    obtain ⟨r2, e3, h⟩ := hC h
    refine AW.callVv (As := [iv x1, iv (g 1 5)]) (st := []) (Rules_askDay_ok e3) cq_X9_44 cr_2_X6_askDay (Nat.le_trans (by decide) hdd) rfl dX9_learnHours_20 rfl (Nat.le_of_ble_eq_true rfl) ?_
    refine AW.aloadr_n 0 dX9_learnHours_23 rfl ?_
    refine AW.getR af_X9_28_5 sr_5_1 dX9_learnHours_24 ?_
    refine AW.bipush dX9_learnHours_27 (by decide) (by decide) ?_
    obtain ⟨r4, e5, h⟩ := hC h
    refine AW.callVi (As := [iv 100]) (st := []) (Rules_serving_ok e5) cq_X9_50 cr_2_X6_serving (Nat.le_trans (by decide) hdd) rfl dX9_learnHours_29 rfl (Nat.le_of_ble_eq_true rfl) ?_
    refine AW.istore_n (lv1 := [(2, iv r4.1), (0, rv z 5), (1, iv x1)]) dX9_learnHours_32 (by decide) rfl ?_
    refine AW.aloadr_n 1 dX9_learnHours_33 rfl ?_
    refine AW.getR af_X9_9_5 sr_5_2 dX9_learnHours_34 ?_
    refine AW.iload_n 2 dX9_learnHours_37 rfl ?_
    refine AW.iload_n 0 dX9_learnHours_38 rfl ?_
    refine AW.iconst dX9_learnHours_39 ?_
    obtain ⟨r8, e9, h⟩ := hC h
    refine AW.join (tgt := 56) (lv1 := [(0, rv z 5), (1, iv x1), (2, iv r4.1)]) (st1 := [iv r8.1, iv x1, rv z 44]) (g1 := r8.2) ?_ (fun J40 => ?_)
    · obtain ⟨k10, h⟩ := hK h
      obtain ⟨g11, e12, h⟩ := hBe h
      refine AW.iast kc_44 sk_44 k10 dX9_learnHours_56 e12 ?_
      refine AW.aloadr_n 0 dX9_learnHours_57 rfl ?_
      refine AW.getR af_X9_15_5 sr_5_3 dX9_learnHours_58 ?_
      refine AW.iload_n 1 dX9_learnHours_61 rfl ?_
      refine AW.iload_n 2 dX9_learnHours_62 rfl ?_
      refine AW.iconst dX9_learnHours_63 ?_
      obtain ⟨r15, e16, h⟩ := hC h
      refine AW.join (tgt := 81) (lv1 := [(0, rv z 5), (1, iv x1)]) (st1 := [iv r15.1, iv x1, rv z 45]) (g1 := r15.2) ?_ (fun J64 => ?_)
      · obtain ⟨g17, e18, h⟩ := hBe h
        refine AW.iast kc_45 sk_45 k10 dX9_learnHours_81 e18 ?_
        refine AW.iinc (lv1 := [(1, iv (x1 + 1)), (0, rv z 5)]) 1 dX9_learnHours_82 rfl (by decide) rfl ?_
        refine AW.goto (tgt := 2) dX9_learnHours_85 (by decide) ?_
        refine AW.sub (lv1 := [(0, rv z 5), (1, iv (x1 + 1))]) [1, 0] rfl ?_
        exact ih _ _ _ h
      replace h := e16
      refine AW.icmp_ne (tgt := 72) dX9_learnHours_64 (by decide) (fun c13 => ?_) (fun c13 => ?_)
      · replace h := hF h c13
        refine AW.aloadr_n 0 dX9_learnHours_72 rfl ?_
        refine AW.getR af_X9_28_5 sr_5_1 dX9_learnHours_73 ?_
        refine AW.getR af_X9_57_2 sr_2_9 dX9_learnHours_76 ?_
        refine AW.iload_n 2 dX9_learnHours_79 rfl ?_
        obtain ⟨k14, h⟩ := hK h
        refine AW.iald kc_24 sk_24 k14 dX9_learnHours_80 ?_
        refine AW.sub (lv1 := [(0, rv z 5), (1, iv x1)]) [0, 1] rfl ?_
        cases h
        exact J64
      · replace h := hT h c13
        refine AW.bipush dX9_learnHours_67 (by decide) (by decide) ?_
        refine AW.goto (tgt := 81) dX9_learnHours_69 (by decide) ?_
        refine AW.sub (lv1 := [(0, rv z 5), (1, iv x1)]) [0, 1] rfl ?_
        cases h
        exact J64
    replace h := e9
    refine AW.icmp_ne (tgt := 47) dX9_learnHours_40 (by decide) (fun c6 => ?_) (fun c6 => ?_)
    · replace h := hF h c6
      refine AW.aloadr_n 1 dX9_learnHours_47 rfl ?_
      refine AW.getR af_X9_28_5 sr_5_1 dX9_learnHours_48 ?_
      refine AW.getR af_X9_54_2 sr_2_8 dX9_learnHours_51 ?_
      refine AW.iload_n 0 dX9_learnHours_54 rfl ?_
      obtain ⟨k7, h⟩ := hK h
      refine AW.iald kc_23 sk_23 k7 dX9_learnHours_55 ?_
      refine AW.sub (lv1 := [(0, rv z 5), (1, iv x1), (2, iv r4.1)]) [1, 2, 0] rfl ?_
      cases h
      exact J40
    · replace h := hT h c6
      refine AW.iconst dX9_learnHours_43 ?_
      refine AW.goto (tgt := 56) dX9_learnHours_44 (by decide) ?_
      refine AW.sub (lv1 := [(0, rv z 5), (1, iv x1), (2, iv r4.1)]) [1, 2, 0] rfl ?_
      cases h
      exact J40
theorem Voyage_learnHours_ok {z : AZ} {g : AG} {r : Int × AG} (h : Voyage_learnHours g = some r) : AMf z yX9_learnHours cX9_learnHours 3 none 4 [rv z 5] g r := by
  intro d hdd
  refine AM.of (by decide +kernel) (Nat.le_of_ble_eq_true rfl) ?_
  show AW z (RX9, cX9_learnHours, 3, none) d (QD none r) 0 [(0, rv z 5)] [] g
  unfold Voyage_learnHours at h
  refine AW.iconst dX9_learnHours_0 ?_
  refine AW.istore_n (lv1 := [(1, iv 0), (0, rv z 5)]) dX9_learnHours_1 (by decide) rfl ?_
  refine AW.sub (lv1 := [(0, rv z 5), (1, iv 0)]) [1, 0] rfl ?_
  exact Voyage_learnHours_b_ok hdd _ _ _ h
theorem X_water_ok {z : AZ} {x1 : Int} {g : AG} {r : Int × AG} (h : X_water x1 g = some r) : AMf z yX11_water cX11_water 2 (some .boolean) 5 [rv z 0, iv x1] g r := by
  intro d hdd
  refine AM.of (by decide +kernel) (Nat.le_of_ble_eq_true rfl) ?_
  show AW z (RX11, cX11_water, 2, (some .boolean)) d (QD (some .boolean) r) 0 [(0, rv z 0), (1, iv x1)] [] g
  unfold X_water at h
  refine AW.iload_n 1 dX11_water_0 rfl ?_
  refine AW.iconst dX11_water_1 ?_
  refine AW.sipush dX11_water_2 (by decide) (by decide) ?_
  refine AW.callSi (As := [iv x1, iv 0, iv 999]) (st := []) X_within_ok cq_X11_99 st_X11_within (Nat.le_trans (by decide) hdd) rfl dX11_water_5 rfl (Nat.le_of_ble_eq_true rfl) ?_
  refine AW.if_ne (tgt := 13) dX11_water_8 (by decide) (fun c1 => ?_) (fun c1 => ?_)
  · replace h := hF h c1
    refine AW.aloadr_n 0 dX11_water_13 rfl ?_
    refine AW.getR af_X11_12_0 sr_0_0 dX11_water_14 ?_
    refine AW.iload_n 1 dX11_water_17 rfl ?_
    obtain ⟨g2, e3, h⟩ := hBe h
    refine AW.putI ap_X11_127_1 sr_1_5 dX11_water_18 e3 ?_
    refine AW.aloadr_n 0 dX11_water_21 rfl ?_
    refine AW.getR af_X11_40_0 sr_0_4 dX11_water_22 ?_
    obtain ⟨r4, e5, h⟩ := hC h
    refine AW.callVv (As := []) (st := []) (Voyage_learnHours_ok e5) cq_X11_130 cr_5_X9_learnHours (Nat.le_trans (by decide) hdd) rfl dX11_water_25 rfl (Nat.le_of_ble_eq_true rfl) ?_
    refine AW.iconst dX11_water_28 ?_
    exact AW.zret1 rfl (Or.inr rfl) dX11_water_29 h rfl
  · replace h := hT h c1
    refine AW.iconst dX11_water_11 ?_
    exact AW.zret1 rfl (Or.inl rfl) dX11_water_12 h rfl
set_option synthInstance.maxHeartbeats 2000000 in
theorem Canal_stop_b_ok {z : AZ} {d : Nat} (hdd : 0 ≤ d) {x1 : Int} {x3 : Int} : ∀ (x4 : Int) (g : AG) (r : Int × AG), Canal_stop_b x1 x3 x4 g = some r → AW z (RX2, cX2_stop, 5, none) d (QD none r) 3 [(0, rv z 1), (1, iv x1), (3, iv x3), (4, iv x4)] [] g := by
  refine Canal_stop_b.partial_correctness x1 x3 (fun x4 g r => AW z (RX2, cX2_stop, 5, none) d (QD none r) 3 [(0, rv z 1), (1, iv x1), (3, iv x3), (4, iv x4)] [] g) ?_
  intro fb9 ih x4 g r h
  refine AW.iload 3 dX2_stop_3 rfl ?_
  refine AW.iload_n 2 dX2_stop_5 rfl ?_
  refine AW.icmp_gt (tgt := 28) dX2_stop_6 (by decide) (fun c1 => ?_) (fun c1 => ?_)
  · replace h := hT h c1
    refine AW.aloadr_n 0 dX2_stop_28 rfl ?_
    refine AW.duprr dX2_stop_29 ?_
    refine AW.getI af_X2_34_1 sr_1_4 dX2_stop_30 ?_
    refine AW.iconst dX2_stop_33 ?_
    refine AW.iadd dX2_stop_34 ?_
    obtain ⟨g2, e3, h⟩ := hBe h
    refine AW.putI ap_X2_34_1 sr_1_4 dX2_stop_35 e3 ?_
    exact AW.vret1 rfl dX2_stop_38 h rfl
  · replace h := hF h c1
    refine AW.aloadr_n 0 dX2_stop_9 rfl ?_
    refine AW.getR af_X2_21_1 sr_1_3 dX2_stop_10 ?_
    refine AW.iload_n 1 dX2_stop_13 rfl ?_
    refine AW.dup2r dX2_stop_14 ?_
    obtain ⟨k4, h⟩ := hK h
    refine AW.iald kc_16 sk_16 k4 dX2_stop_15 ?_
    refine AW.iconst dX2_stop_16 ?_
    refine AW.iload 3 dX2_stop_17 rfl ?_
    refine AW.ishl dX2_stop_19 ?_
    refine AW.ior dX2_stop_20 ?_
    obtain ⟨g5, e6, h⟩ := hBe h
    refine AW.iast kc_16 sk_16 k4 dX2_stop_21 e6 ?_
    refine AW.iinc (lv1 := [(4, iv (x4 + 1)), (0, rv z 1), (1, iv x1), (3, iv x3)]) 3 dX2_stop_22 rfl (by decide) rfl ?_
    refine AW.goto (tgt := 3) dX2_stop_25 (by decide) ?_
    refine AW.sub (lv1 := [(0, rv z 1), (1, iv x1), (3, iv x3), (4, iv (x4 + 1))]) [1, 2, 3, 0] rfl ?_
    exact ih _ _ _ h
theorem Canal_stop_ok {z : AZ} {x1 : Int} {x2 : Int} {x3 : Int} {g : AG} {r : Int × AG} (h : Canal_stop x1 x2 x3 g = some r) : AMf z yX2_stop cX2_stop 5 none 0 [rv z 1, iv x1, iv x2, iv x3] g r := by
  intro d hdd
  refine AM.of (by decide +kernel) (Nat.le_of_ble_eq_true rfl) ?_
  show AW z (RX2, cX2_stop, 5, none) d (QD none r) 0 [(0, rv z 1), (1, iv x1), (2, iv x2), (3, iv x3)] [] g
  unfold Canal_stop at h
  refine AW.iload_n 2 dX2_stop_0 rfl ?_
  refine AW.istore (lv1 := [(4, iv x2), (0, rv z 1), (1, iv x1), (2, iv x2), (3, iv x3)]) dX2_stop_1 (by decide) rfl ?_
  refine AW.sub (lv1 := [(0, rv z 1), (1, iv x1), (3, iv x3), (4, iv x2)]) [1, 2, 4, 0] rfl ?_
  exact Canal_stop_b_ok hdd _ _ _ h
theorem Canal_reopen_ok {z : AZ} {g : AG} {r : Int × AG} (h : Canal_reopen g = some r) : AMf z yX2_reopen cX2_reopen 1 none 1 [rv z 1] g r := by
  intro d hdd
  refine AM.of (by decide +kernel) (Nat.le_of_ble_eq_true rfl) ?_
  show AW z (RX2, cX2_reopen, 1, none) d (QD none r) 0 [(0, rv z 1)] [] g
  unfold Canal_reopen at h
  refine AW.aloadr_n 0 dX2_reopen_0 rfl ?_
  refine AW.getR af_X2_21_1 sr_1_3 dX2_reopen_1 ?_
  refine AW.iconst dX2_reopen_4 ?_
  obtain ⟨g1, e2, h⟩ := hBe h
  refine AW.callSv (st := []) (fill_ok kc_16 sk_16 (by decide)) cf_X2_28 st_fill (Nat.le_trans (by decide) hdd) rfl dX2_reopen_5 rfl (Nat.le_of_ble_eq_true rfl) ?_
  rw [← e2]
  refine AW.aloadr_n 0 dX2_reopen_8 rfl ?_
  refine AW.iconst dX2_reopen_9 ?_
  obtain ⟨g3, e4, h⟩ := hBe h
  refine AW.putI ap_X2_34_1 sr_1_4 dX2_reopen_10 e4 ?_
  exact AW.vret1 rfl dX2_reopen_13 h rfl
theorem X_stoppage_ok {z : AZ} {x1 : Int} {x2 : Int} {x3 : Int} {g : AG} {r : Int × AG} (h : X_stoppage x1 x2 x3 g = some r) : AMf z yX11_stoppage cX11_stoppage 4 (some .int) 2 [rv z 0, iv x1, iv x2, iv x3] g r := by
  intro d hdd
  refine AM.of (by decide +kernel) (Nat.le_of_ble_eq_true rfl) ?_
  show AW z (RX11, cX11_stoppage, 4, (some .int)) d (QD (some .int) r) 0 [(0, rv z 0), (1, iv x1), (2, iv x2), (3, iv x3)] [] g
  unfold X_stoppage at h
  refine AW.iload_n 1 dX11_stoppage_0 rfl ?_
  refine AW.iconst dX11_stoppage_1 ?_
  refine AW.icmp_ne (tgt := 14) dX11_stoppage_2 (by decide) (fun c1 => ?_) (fun c1 => ?_)
  · replace h := hF h c1
    refine AW.iload_n 1 dX11_stoppage_14 rfl ?_
    refine AW.iconst dX11_stoppage_15 ?_
    refine AW.bipush dX11_stoppage_16 (by decide) (by decide) ?_
    refine AW.callSi (As := [iv x1, iv 0, iv 14]) (st := []) X_within_ok cq_X11_99 st_X11_within (Nat.le_trans (by decide) hdd) rfl dX11_stoppage_18 rfl (Nat.le_of_ble_eq_true rfl) ?_
    refine AW.if_eq (tgt := 39) dX11_stoppage_21 (by decide) (fun c2 => ?_) (fun c2 => ?_)
    · replace h := hT h c2
      refine AW.iconst dX11_stoppage_39 ?_
      exact AW.iret1 rfl dX11_stoppage_40 h rfl
    · replace h := hF h c2
      refine AW.iload_n 2 dX11_stoppage_24 rfl ?_
      refine AW.if_lt (tgt := 39) dX11_stoppage_25 (by decide) (fun c3 => ?_) (fun c3 => ?_)
      · replace h := hT h c3
        refine AW.iconst dX11_stoppage_39 ?_
        exact AW.iret1 rfl dX11_stoppage_40 h rfl
      · replace h := hF h c3
        refine AW.iload_n 2 dX11_stoppage_28 rfl ?_
        refine AW.iload_n 3 dX11_stoppage_29 rfl ?_
        refine AW.icmp_gt (tgt := 39) dX11_stoppage_30 (by decide) (fun c4 => ?_) (fun c4 => ?_)
        · replace h := hT h c4
          refine AW.iconst dX11_stoppage_39 ?_
          exact AW.iret1 rfl dX11_stoppage_40 h rfl
        · replace h := hF h c4
          refine AW.iload_n 3 dX11_stoppage_33 rfl ?_
          refine AW.bipush dX11_stoppage_34 (by decide) (by decide) ?_
          refine AW.icmp_lt (tgt := 41) dX11_stoppage_36 (by decide) (fun c5 => ?_) (fun c5 => ?_)
          · replace h := hT h c5
            refine AW.aloadr_n 0 dX11_stoppage_41 rfl ?_
            refine AW.getR af_X11_12_0 sr_0_0 dX11_stoppage_42 ?_
            refine AW.getI af_X11_136_1 sr_1_4 dX11_stoppage_45 ?_
            refine AW.bipush dX11_stoppage_48 (by decide) (by decide) ?_
            refine AW.icmp_lt (tgt := 55) dX11_stoppage_50 (by decide) (fun c6 => ?_) (fun c6 => ?_)
            · replace h := hT h c6
              refine AW.aloadr_n 0 dX11_stoppage_55 rfl ?_
              refine AW.getR af_X11_12_0 sr_0_0 dX11_stoppage_56 ?_
              refine AW.iload_n 1 dX11_stoppage_59 rfl ?_
              refine AW.iload_n 2 dX11_stoppage_60 rfl ?_
              refine AW.iload_n 3 dX11_stoppage_61 rfl ?_
              obtain ⟨r7, e8, h⟩ := hC h
              refine AW.callVv (As := [iv x1, iv x2, iv x3]) (st := []) (Canal_stop_ok e8) cq_X11_139 cr_1_X2_stop (Nat.le_trans (by decide) hdd) rfl dX11_stoppage_62 rfl (Nat.le_of_ble_eq_true rfl) ?_
              refine AW.aloadr_n 0 dX11_stoppage_65 rfl ?_
              refine AW.getR af_X11_12_0 sr_0_0 dX11_stoppage_66 ?_
              refine AW.getI af_X11_136_1 sr_1_4 dX11_stoppage_69 ?_
              exact AW.iret1 rfl dX11_stoppage_72 h rfl
            · replace h := hF h c6
              refine AW.iconst dX11_stoppage_53 ?_
              exact AW.iret1 rfl dX11_stoppage_54 h rfl
          · replace h := hF h c5
            refine AW.iconst dX11_stoppage_39 ?_
            exact AW.iret1 rfl dX11_stoppage_40 h rfl
  · replace h := hT h c1
    refine AW.aloadr_n 0 dX11_stoppage_5 rfl ?_
    refine AW.getR af_X11_12_0 sr_0_0 dX11_stoppage_6 ?_
    obtain ⟨r9, e10, h⟩ := hC h
    refine AW.callVv (As := []) (st := []) (Canal_reopen_ok e10) cq_X11_133 cr_1_X2_reopen (Nat.le_trans (by decide) hdd) rfl dX11_stoppage_9 rfl (Nat.le_of_ble_eq_true rfl) ?_
    refine AW.iconst dX11_stoppage_12 ?_
    exact AW.iret1 rfl dX11_stoppage_13 h rfl
theorem X_isBerths_ok {z : AZ} {x0 : Int} {g : AG} : AMf z yX11_isBerths cX11_isBerths 1 (some .boolean) 1 [iv x0] g ((X_isBerths x0), g) := by
  intro d hdd
  refine AM.of (by decide +kernel) (Nat.le_of_ble_eq_true rfl) ?_
  show AW z (RX11, cX11_isBerths, 1, (some .boolean)) d (QD (some .boolean) ((X_isBerths x0), g)) 0 [(0, iv x0)] [] g
  refine AW.iload_n 0 dX11_isBerths_0 rfl ?_
  refine AW.iconst dX11_isBerths_1 ?_
  refine AW.bipush dX11_isBerths_2 (by decide) (by decide) ?_
  refine AW.callSi (As := [iv x0, iv 2, iv 12]) (st := []) X_within_ok cq_X11_99 st_X11_within (Nat.le_trans (by decide) hdd) rfl dX11_isBerths_4 rfl (Nat.le_of_ble_eq_true rfl) ?_
  exact AW.zret rfl X_within_01 dX11_isBerths_7 ⟨congrArg (fun v => some (iv v)) (show X_isBerths x0  = (X_within x0 2 12) from rfl).symm, rfl⟩
theorem X_isPoint_ok {z : AZ} {x0 : Int} {g : AG} : AMf z yX11_isPoint cX11_isPoint 1 (some .boolean) 1 [iv x0] g ((X_isPoint x0), g) := by
  intro d hdd
  refine AM.of (by decide +kernel) (Nat.le_of_ble_eq_true rfl) ?_
  show AW z (RX11, cX11_isPoint, 1, (some .boolean)) d (QD (some .boolean) ((X_isPoint x0), g)) 0 [(0, iv x0)] [] g
  refine AW.iload_n 0 dX11_isPoint_0 rfl ?_
  refine AW.iconst dX11_isPoint_1 ?_
  refine AW.bipush dX11_isPoint_2 (by decide) (by decide) ?_
  refine AW.callSi (As := [iv x0, iv 0, iv 15]) (st := []) X_within_ok cq_X11_99 st_X11_within (Nat.le_trans (by decide) hdd) rfl dX11_isPoint_4 rfl (Nat.le_of_ble_eq_true rfl) ?_
  exact AW.zret rfl X_within_01 dX11_isPoint_7 ⟨congrArg (fun v => some (iv v)) (show X_isPoint x0  = (X_within x0 0 15) from rfl).symm, rfl⟩
theorem Boats_add_ok {z : AZ} {x1 : Int} {x2 : Int} {x3 : Int} {x4 : Int} {g : AG} {r : Int × AG} (h : Boats_add x1 x2 x3 x4 g = some r) : AMf z yX0_add cX0_add 5 (some .int) 0 [rv z 6, iv x1, iv x2, iv x3, iv x4] g r := by
  intro d hdd
  refine AM.of (by decide +kernel) (Nat.le_of_ble_eq_true rfl) ?_
  show AW z (RX0, cX0_add, 5, (some .int)) d (QD (some .int) r) 0 [(0, rv z 6), (1, iv x1), (2, iv x2), (3, iv x3), (4, iv x4)] [] g
  unfold Boats_add at h
  refine AW.aloadr_n 0 dX0_add_0 rfl ?_
  refine AW.getI af_X0_50_6 sr_6_7 dX0_add_1 ?_
  refine AW.bipush dX0_add_4 (by decide) (by decide) ?_
  refine AW.icmp_lt (tgt := 11) dX0_add_6 (by decide) (fun c1 => ?_) (fun c1 => ?_)
  · replace h := hT h c1
    refine AW.aloadr_n 0 dX0_add_11 rfl ?_
    refine AW.getR af_X0_9_6 sr_6_3 dX0_add_12 ?_
    refine AW.aloadr_n 0 dX0_add_15 rfl ?_
    refine AW.getI af_X0_50_6 sr_6_7 dX0_add_16 ?_
    refine AW.iload_n 1 dX0_add_19 rfl ?_
    obtain ⟨k2, h⟩ := hK h
    obtain ⟨g3, e4, h⟩ := hBe h
    refine AW.iast kc_48 sk_48 k2 dX0_add_20 e4 ?_
    refine AW.aloadr_n 0 dX0_add_21 rfl ?_
    refine AW.getR af_X0_15_6 sr_6_4 dX0_add_22 ?_
    refine AW.aloadr_n 0 dX0_add_25 rfl ?_
    refine AW.getI af_X0_50_6 sr_6_7 dX0_add_26 ?_
    refine AW.iload_n 2 dX0_add_29 rfl ?_
    obtain ⟨k5, h⟩ := hK h
    obtain ⟨g6, e7, h⟩ := hBe h
    refine AW.iast kc_49 sk_49 k5 dX0_add_30 e7 ?_
    refine AW.aloadr_n 0 dX0_add_31 rfl ?_
    refine AW.getR af_X0_18_6 sr_6_5 dX0_add_32 ?_
    refine AW.aloadr_n 0 dX0_add_35 rfl ?_
    refine AW.getI af_X0_50_6 sr_6_7 dX0_add_36 ?_
    refine AW.iload_n 3 dX0_add_39 rfl ?_
    obtain ⟨k8, h⟩ := hK h
    obtain ⟨g9, e10, h⟩ := hBe h
    refine AW.iast kc_50 sk_50 k8 dX0_add_40 e10 ?_
    refine AW.aloadr_n 0 dX0_add_41 rfl ?_
    refine AW.getR af_X0_21_6 sr_6_6 dX0_add_42 ?_
    refine AW.aloadr_n 0 dX0_add_45 rfl ?_
    refine AW.getI af_X0_50_6 sr_6_7 dX0_add_46 ?_
    refine AW.iload 4 dX0_add_49 rfl ?_
    obtain ⟨k11, h⟩ := hK h
    obtain ⟨g12, e13, h⟩ := hBe h
    refine AW.iast kc_51 sk_51 k11 dX0_add_51 e13 ?_
    refine AW.aloadr_n 0 dX0_add_52 rfl ?_
    refine AW.duprr dX0_add_53 ?_
    refine AW.getI af_X0_50_6 sr_6_7 dX0_add_54 ?_
    refine AW.iconst dX0_add_57 ?_
    refine AW.iadd dX0_add_58 ?_
    obtain ⟨g14, e15, h⟩ := hBe h
    refine AW.putI ap_X0_50_6 sr_6_7 dX0_add_59 e15 ?_
    refine AW.aloadr_n 0 dX0_add_62 rfl ?_
    refine AW.getI af_X0_50_6 sr_6_7 dX0_add_63 ?_
    refine AW.iconst dX0_add_66 ?_
    refine AW.isub dX0_add_67 ?_
    exact AW.iret1 rfl dX0_add_68 h rfl
  · replace h := hF h c1
    refine AW.iconst dX0_add_9 ?_
    exact AW.iret1 rfl dX0_add_10 h rfl
theorem X_boat_ok {z : AZ} {x1 : Int} {x2 : Int} {x3 : Int} {x4 : Int} {g : AG} {r : Int × AG} (h : X_boat x1 x2 x3 x4 g = some r) : AMf z yX11_boat cX11_boat 5 (some .int) 2 [rv z 0, iv x1, iv x2, iv x3, iv x4] g r := by
  intro d hdd
  refine AM.of (by decide +kernel) (Nat.le_of_ble_eq_true rfl) ?_
  show AW z (RX11, cX11_boat, 5, (some .int)) d (QD (some .int) r) 0 [(0, rv z 0), (1, iv x1), (2, iv x2), (3, iv x3), (4, iv x4)] [] g
  unfold X_boat at h
  refine AW.iload_n 1 dX11_boat_0 rfl ?_
  refine AW.callSi (As := [iv x1]) (st := []) X_isBerths_ok cq_X11_143 st_X11_isBerths (Nat.le_trans (by decide) hdd) rfl dX11_boat_1 rfl (Nat.le_of_ble_eq_true rfl) ?_
  refine AW.if_eq (tgt := 17) dX11_boat_4 (by decide) (fun c1 => ?_) (fun c1 => ?_)
  · replace h := hT h c1
    refine AW.iconst dX11_boat_17 ?_
    exact AW.iret1 rfl dX11_boat_18 h rfl
  · replace h := hF h c1
    refine AW.iload_n 2 dX11_boat_7 rfl ?_
    refine AW.iconst dX11_boat_8 ?_
    refine AW.bipush dX11_boat_9 (by decide) (by decide) ?_
    refine AW.callSi (As := [iv x2, iv 0, iv 99]) (st := []) X_within_ok cq_X11_99 st_X11_within (Nat.le_trans (by decide) hdd) rfl dX11_boat_11 rfl (Nat.le_of_ble_eq_true rfl) ?_
    refine AW.if_ne (tgt := 19) dX11_boat_14 (by decide) (fun c2 => ?_) (fun c2 => ?_)
    · replace h := hF h c2
      refine AW.iload_n 3 dX11_boat_19 rfl ?_
      refine AW.callSi (As := [iv x3]) (st := []) X_isPoint_ok cq_X11_111 st_X11_isPoint (Nat.le_trans (by decide) hdd) rfl dX11_boat_20 rfl (Nat.le_of_ble_eq_true rfl) ?_
      refine AW.if_eq (tgt := 37) dX11_boat_23 (by decide) (fun c3 => ?_) (fun c3 => ?_)
      · replace h := hT h c3
        refine AW.iconst dX11_boat_37 ?_
        exact AW.iret1 rfl dX11_boat_38 h rfl
      · replace h := hF h c3
        refine AW.iload 4 dX11_boat_26 rfl ?_
        refine AW.iconst dX11_boat_28 ?_
        refine AW.bipush dX11_boat_29 (by decide) (by decide) ?_
        refine AW.callSi (As := [iv x4, iv 0, iv 60]) (st := []) X_within_ok cq_X11_99 st_X11_within (Nat.le_trans (by decide) hdd) rfl dX11_boat_31 rfl (Nat.le_of_ble_eq_true rfl) ?_
        refine AW.if_ne (tgt := 39) dX11_boat_34 (by decide) (fun c4 => ?_) (fun c4 => ?_)
        · replace h := hF h c4
          refine AW.aloadr_n 0 dX11_boat_39 rfl ?_
          refine AW.getR af_X11_49_0 sr_0_5 dX11_boat_40 ?_
          refine AW.iload_n 1 dX11_boat_43 rfl ?_
          refine AW.iload_n 2 dX11_boat_44 rfl ?_
          refine AW.iload_n 3 dX11_boat_45 rfl ?_
          refine AW.iload 4 dX11_boat_46 rfl ?_
          obtain ⟨r5, e6, h⟩ := hC h
          refine AW.callVi (As := [iv x1, iv x2, iv x3, iv x4]) (st := []) (Boats_add_ok e6) cq_X11_146 cr_6_X0_add (Nat.le_trans (by decide) hdd) rfl dX11_boat_48 rfl (Nat.le_of_ble_eq_true rfl) ?_
          exact AW.iret1 rfl dX11_boat_51 h rfl
        · replace h := hT h c4
          refine AW.iconst dX11_boat_37 ?_
          exact AW.iret1 rfl dX11_boat_38 h rfl
    · replace h := hT h c2
      refine AW.iconst dX11_boat_17 ?_
      exact AW.iret1 rfl dX11_boat_18 h rfl
set_option synthInstance.maxHeartbeats 2000000 in
theorem Parser_put_b_ok {z : AZ} {d : Nat} (hdd : 0 ≤ d) {x1 : Int} : ∀ (x2 : Int) (g : AG) (r : Int × AG), Parser_put_b x1 x2 g = some r → AW z (RX4, cX4_put, 3, none) d (QD none r) 3 [(0, rv z 4), (1, iv x1), (2, iv x2)] [] g := by
  refine Parser_put_b.partial_correctness x1 (fun x2 g r => AW z (RX4, cX4_put, 3, none) d (QD none r) 3 [(0, rv z 4), (1, iv x1), (2, iv x2)] [] g) ?_
  intro fb9 ih x2 g r h
  refine AW.iload_n 2 dX4_put_3 rfl ?_
  refine AW.if_lt (tgt := 49) dX4_put_4 (by decide) (fun c1 => ?_) (fun c1 => ?_)
  · replace h := hT h c1
    exact AW.vret1 rfl dX4_put_49 h rfl
  · replace h := hF h c1
    refine AW.aloadr_n 0 dX4_put_7 rfl ?_
    refine AW.getI af_X4_29_4 sr_4_2 dX4_put_8 ?_
    refine AW.sipush dX4_put_11 (by decide) (by decide) ?_
    obtain ⟨r8, e9, h⟩ := hC h
    refine AW.join (tgt := 43) (lv1 := [(0, rv z 4), (1, iv x1), (2, iv x2)]) (st1 := []) (g1 := r8) ?_ (fun J14 => ?_)
    · refine AW.iinc (lv1 := [(2, iv (x2 + (-8))), (0, rv z 4), (1, iv x1)]) 2 dX4_put_43 rfl (by decide) rfl ?_
      refine AW.goto (tgt := 3) dX4_put_46 (by decide) ?_
      refine AW.sub (lv1 := [(0, rv z 4), (1, iv x1), (2, iv (x2 + (-8)))]) [1, 2, 0] rfl ?_
      exact ih _ _ _ h
    replace h := e9
    refine AW.icmp_ge (tgt := 43) dX4_put_14 (by decide) (fun c2 => ?_) (fun c2 => ?_)
    · replace h := hT h c2
      cases h
      exact J14
    · replace h := hF h c2
      refine AW.aloadr_n 0 dX4_put_17 rfl ?_
      refine AW.getR af_X4_9_4 sr_4_1 dX4_put_18 ?_
      refine AW.aloadr_n 0 dX4_put_21 rfl ?_
      refine AW.getI af_X4_29_4 sr_4_2 dX4_put_22 ?_
      refine AW.iload_n 1 dX4_put_25 rfl ?_
      refine AW.iload_n 2 dX4_put_26 rfl ?_
      refine AW.iushr dX4_put_27 ?_
      refine AW.sipush dX4_put_28 (by decide) (by decide) ?_
      refine AW.iand dX4_put_31 ?_
      obtain ⟨k3, h⟩ := hK h
      obtain ⟨g4, e5, h⟩ := hBe h
      refine AW.iast kc_41 sk_41 k3 dX4_put_32 e5 ?_
      refine AW.aloadr_n 0 dX4_put_33 rfl ?_
      refine AW.duprr dX4_put_34 ?_
      refine AW.getI af_X4_29_4 sr_4_2 dX4_put_35 ?_
      refine AW.iconst dX4_put_38 ?_
      refine AW.iadd dX4_put_39 ?_
      obtain ⟨g6, e7, h⟩ := hBe h
      refine AW.putI ap_X4_29_4 sr_4_2 dX4_put_40 e7 ?_
      cases h
      exact J14
theorem Parser_put_ok {z : AZ} {x1 : Int} {g : AG} {r : Int × AG} (h : Parser_put x1 g = some r) : AMf z yX4_put cX4_put 3 none 0 [rv z 4, iv x1] g r := by
  intro d hdd
  refine AM.of (by decide +kernel) (Nat.le_of_ble_eq_true rfl) ?_
  show AW z (RX4, cX4_put, 3, none) d (QD none r) 0 [(0, rv z 4), (1, iv x1)] [] g
  unfold Parser_put at h
  refine AW.bipush dX4_put_0 (by decide) (by decide) ?_
  refine AW.istore_n (lv1 := [(2, iv 24), (0, rv z 4), (1, iv x1)]) dX4_put_2 (by decide) rfl ?_
  refine AW.sub (lv1 := [(0, rv z 4), (1, iv x1), (2, iv 24)]) [1, 2, 0] rfl ?_
  exact Parser_put_b_ok hdd _ _ _ h
theorem X_feed_ok {z : AZ} {x1 : Int} {x2 : Int} {x3 : Int} {x4 : Int} {x5 : Int} {g : AG} {r : Int × AG} (h : X_feed x1 x2 x3 x4 x5 g = some r) : AMf z yX11_feed cX11_feed 6 (some .int) 1 [rv z 0, iv x1, iv x2, iv x3, iv x4, iv x5] g r := by
  intro d hdd
  refine AM.of (by decide +kernel) (Nat.le_of_ble_eq_true rfl) ?_
  show AW z (RX11, cX11_feed, 6, (some .int)) d (QD (some .int) r) 0 [(0, rv z 0), (1, iv x1), (2, iv x2), (3, iv x3), (4, iv x4), (5, iv x5)] [] g
  unfold X_feed at h
  refine AW.aloadr_n 0 dX11_feed_0 rfl ?_
  refine AW.getR af_X11_31_0 sr_0_3 dX11_feed_1 ?_
  refine AW.getI af_X11_150_4 sr_4_2 dX11_feed_4 ?_
  refine AW.bipush dX11_feed_7 (by decide) (by decide) ?_
  refine AW.iadd dX11_feed_9 ?_
  refine AW.sipush dX11_feed_10 (by decide) (by decide) ?_
  refine AW.icmp_le (tgt := 18) dX11_feed_13 (by decide) (fun c1 => ?_) (fun c1 => ?_)
  · replace h := hT h c1
    refine AW.aloadr_n 0 dX11_feed_18 rfl ?_
    refine AW.getR af_X11_31_0 sr_0_3 dX11_feed_19 ?_
    refine AW.iload_n 1 dX11_feed_22 rfl ?_
    obtain ⟨r2, e3, h⟩ := hC h
    refine AW.callVv (As := [iv x1]) (st := []) (Parser_put_ok e3) cq_X11_153 cr_4_X4_put (Nat.le_trans (by decide) hdd) rfl dX11_feed_23 rfl (Nat.le_of_ble_eq_true rfl) ?_
    refine AW.aloadr_n 0 dX11_feed_26 rfl ?_
    refine AW.getR af_X11_31_0 sr_0_3 dX11_feed_27 ?_
    refine AW.iload_n 2 dX11_feed_30 rfl ?_
    obtain ⟨r4, e5, h⟩ := hC h
    refine AW.callVv (As := [iv x2]) (st := []) (Parser_put_ok e5) cq_X11_153 cr_4_X4_put (Nat.le_trans (by decide) hdd) rfl dX11_feed_31 rfl (Nat.le_of_ble_eq_true rfl) ?_
    refine AW.aloadr_n 0 dX11_feed_34 rfl ?_
    refine AW.getR af_X11_31_0 sr_0_3 dX11_feed_35 ?_
    refine AW.iload_n 3 dX11_feed_38 rfl ?_
    obtain ⟨r6, e7, h⟩ := hC h
    refine AW.callVv (As := [iv x3]) (st := []) (Parser_put_ok e7) cq_X11_153 cr_4_X4_put (Nat.le_trans (by decide) hdd) rfl dX11_feed_39 rfl (Nat.le_of_ble_eq_true rfl) ?_
    refine AW.aloadr_n 0 dX11_feed_42 rfl ?_
    refine AW.getR af_X11_31_0 sr_0_3 dX11_feed_43 ?_
    refine AW.iload 4 dX11_feed_46 rfl ?_
    obtain ⟨r8, e9, h⟩ := hC h
    refine AW.callVv (As := [iv x4]) (st := []) (Parser_put_ok e9) cq_X11_153 cr_4_X4_put (Nat.le_trans (by decide) hdd) rfl dX11_feed_48 rfl (Nat.le_of_ble_eq_true rfl) ?_
    refine AW.aloadr_n 0 dX11_feed_51 rfl ?_
    refine AW.getR af_X11_31_0 sr_0_3 dX11_feed_52 ?_
    refine AW.iload 5 dX11_feed_55 rfl ?_
    obtain ⟨r10, e11, h⟩ := hC h
    refine AW.callVv (As := [iv x5]) (st := []) (Parser_put_ok e11) cq_X11_153 cr_4_X4_put (Nat.le_trans (by decide) hdd) rfl dX11_feed_57 rfl (Nat.le_of_ble_eq_true rfl) ?_
    refine AW.aloadr_n 0 dX11_feed_60 rfl ?_
    refine AW.getR af_X11_31_0 sr_0_3 dX11_feed_61 ?_
    refine AW.getI af_X11_150_4 sr_4_2 dX11_feed_64 ?_
    exact AW.iret1 rfl dX11_feed_67 h rfl
  · replace h := hF h c1
    refine AW.iconst dX11_feed_16 ?_
    exact AW.iret1 rfl dX11_feed_17 h rfl
theorem X_end_ok {z : AZ} {x1 : Int} {g : AG} {r : Int × AG} (h : X_end x1 g = some r) : AMf z yX11_end cX11_end 2 (some .boolean) 0 [rv z 0, iv x1] g r := by
  intro d hdd
  refine AM.of (by decide +kernel) (Nat.le_of_ble_eq_true rfl) ?_
  show AW z (RX11, cX11_end, 2, (some .boolean)) d (QD (some .boolean) r) 0 [(0, rv z 0), (1, iv x1)] [] g
  unfold X_end at h
  refine AW.iload_n 1 dX11_end_0 rfl ?_
  refine AW.if_lt (tgt := 15) dX11_end_1 (by decide) (fun c1 => ?_) (fun c1 => ?_)
  · replace h := hT h c1
    refine AW.iconst dX11_end_15 ?_
    exact AW.zret1 rfl (Or.inl rfl) dX11_end_16 h rfl
  · replace h := hF h c1
    refine AW.iload_n 1 dX11_end_4 rfl ?_
    refine AW.aloadr_n 0 dX11_end_5 rfl ?_
    refine AW.getR af_X11_31_0 sr_0_3 dX11_end_6 ?_
    refine AW.getI af_X11_150_4 sr_4_2 dX11_end_9 ?_
    refine AW.icmp_le (tgt := 17) dX11_end_12 (by decide) (fun c2 => ?_) (fun c2 => ?_)
    · replace h := hT h c2
      refine AW.aloadr_n 0 dX11_end_17 rfl ?_
      refine AW.getR af_X11_31_0 sr_0_3 dX11_end_18 ?_
      refine AW.iload_n 1 dX11_end_21 rfl ?_
      obtain ⟨g3, e4, h⟩ := hBe h
      refine AW.putI ap_X11_150_4 sr_4_2 dX11_end_22 e4 ?_
      refine AW.iconst dX11_end_25 ?_
      exact AW.zret1 rfl (Or.inr rfl) dX11_end_26 h rfl
    · replace h := hF h c2
      refine AW.iconst dX11_end_15 ?_
      exact AW.zret1 rfl (Or.inl rfl) dX11_end_16 h rfl
theorem Rules_clear_ok {z : AZ} {g : AG} {r : Int × AG} (h : Rules_clear g = some r) : AMf z yX6_clear cX6_clear 1 none 1 [rv z 3] g r := by
  intro d hdd
  refine AM.of (by decide +kernel) (Nat.le_of_ble_eq_true rfl) ?_
  show AW z (RX6, cX6_clear, 1, none) d (QD none r) 0 [(0, rv z 3)] [] g
  unfold Rules_clear at h
  refine AW.aloadr_n 0 dX6_clear_0 rfl ?_
  refine AW.iconst dX6_clear_1 ?_
  obtain ⟨g1, e2, h⟩ := hBe h
  refine AW.putI ap_X6_48_3 sr_3_2 dX6_clear_2 e2 ?_
  refine AW.aloadr_n 0 dX6_clear_5 rfl ?_
  refine AW.iconst dX6_clear_6 ?_
  obtain ⟨g3, e4, h⟩ := hBe h
  refine AW.putI ap_X6_52_3 sr_3_3 dX6_clear_7 e4 ?_
  refine AW.aloadr_n 0 dX6_clear_10 rfl ?_
  refine AW.iconst dX6_clear_11 ?_
  obtain ⟨g5, e6, h⟩ := hBe h
  refine AW.putI ap_X6_55_3 sr_3_10 dX6_clear_12 e6 ?_
  refine AW.aloadr_n 0 dX6_clear_15 rfl ?_
  refine AW.getR af_X6_36_3 sr_3_11 dX6_clear_16 ?_
  refine AW.iconst dX6_clear_19 ?_
  obtain ⟨g7, e8, h⟩ := hBe h
  refine AW.callSv (st := []) (fill_ok kc_37 sk_37 (by decide)) cf_X6_58 st_fill (Nat.le_trans (by decide) hdd) rfl dX6_clear_20 rfl (Nat.le_of_ble_eq_true rfl) ?_
  rw [← e8]
  refine AW.aloadr_n 0 dX6_clear_23 rfl ?_
  refine AW.getR af_X6_39_3 sr_3_12 dX6_clear_24 ?_
  refine AW.iconst dX6_clear_27 ?_
  obtain ⟨g9, e10, h⟩ := hBe h
  refine AW.callSv (st := []) (fill_ok kc_38 sk_38 (by decide)) cf_X6_58 st_fill (Nat.le_trans (by decide) hdd) rfl dX6_clear_28 rfl (Nat.le_of_ble_eq_true rfl) ?_
  rw [← e10]
  exact AW.vret1 rfl dX6_clear_31 h rfl
theorem Parser_isLetter_ok {z : AZ} {x0 : Int} {g : AG} : AMf z yX4_isLetter cX4_isLetter 1 (some .boolean) 1 [iv x0] g ((Parser_isLetter x0), g) := by
  intro d hdd
  refine AM.of (by decide +kernel) (Nat.le_of_ble_eq_true rfl) ?_
  show AW z (RX4, cX4_isLetter, 1, (some .boolean)) d (QD (some .boolean) ((Parser_isLetter x0), g)) 0 [(0, iv x0)] [] g
  refine AW.iload_n 0 dX4_isLetter_0 rfl ?_
  refine AW.bipush dX4_isLetter_1 (by decide) (by decide) ?_
  refine AW.bipush dX4_isLetter_3 (by decide) (by decide) ?_
  refine AW.callN0 (As := [iv x0, iv 97, iv 122]) (st := []) X_within_ok ns_X4_87 in_X11 cd_X11_within st_X11_within (by decide) (Nat.le_trans (by decide) hdd) rfl (Nat.le_of_ble_eq_true rfl) dX4_isLetter_5 rfl ?_
  refine AW.join (tgt := 27) (lv1 := [(0, iv x0)]) (st1 := [iv (if nw (X_within x0 97 122) = 0 then (if nw (X_within x0 65 90) = 0 then 0 else 1) else 1)]) (g1 := g) ?_ (fun J8 => ?_)
  · exact AW.zret rfl (by (repeat' split) <;> first | exact Or.inl rfl | exact Or.inr rfl) dX4_isLetter_27 ⟨congrArg (fun v => some (iv v)) (show Parser_isLetter x0  = (if nw (X_within x0 97 122) = 0 then (if nw (X_within x0 65 90) = 0 then 0 else 1) else 1) from rfl).symm, rfl⟩
  refine AW.if_ne (tgt := 22) dX4_isLetter_8 (by decide) (fun c1 => ?_) (fun c1 => ?_)
  · refine AW.iconst dX4_isLetter_22 ?_
    refine AW.goto (tgt := 27) dX4_isLetter_23 (by decide) ?_
    exact AW.val (if_neg c1) J8
  · refine AW.iload_n 0 dX4_isLetter_11 rfl ?_
    refine AW.bipush dX4_isLetter_12 (by decide) (by decide) ?_
    refine AW.bipush dX4_isLetter_14 (by decide) (by decide) ?_
    refine AW.callN0 (As := [iv x0, iv 65, iv 90]) (st := []) X_within_ok ns_X4_87 in_X11 cd_X11_within st_X11_within (by decide) (Nat.le_trans (by decide) hdd) rfl (Nat.le_of_ble_eq_true rfl) dX4_isLetter_16 rfl ?_
    refine AW.if_eq (tgt := 26) dX4_isLetter_19 (by decide) (fun c2 => ?_) (fun c2 => ?_)
    · refine AW.iconst dX4_isLetter_26 ?_
      exact AW.val ((if_pos c1).trans (if_pos c2)) J8
    · refine AW.iconst dX4_isLetter_22 ?_
      refine AW.goto (tgt := 27) dX4_isLetter_23 (by decide) ?_
      exact AW.val ((if_pos c1).trans (if_neg c2)) J8
theorem Parser_isDigit_ok {z : AZ} {x0 : Int} {g : AG} : AMf z yX4_isDigit cX4_isDigit 1 (some .boolean) 1 [iv x0] g ((Parser_isDigit x0), g) := by
  intro d hdd
  refine AM.of (by decide +kernel) (Nat.le_of_ble_eq_true rfl) ?_
  show AW z (RX4, cX4_isDigit, 1, (some .boolean)) d (QD (some .boolean) ((Parser_isDigit x0), g)) 0 [(0, iv x0)] [] g
  refine AW.iload_n 0 dX4_isDigit_0 rfl ?_
  refine AW.bipush dX4_isDigit_1 (by decide) (by decide) ?_
  refine AW.bipush dX4_isDigit_3 (by decide) (by decide) ?_
  refine AW.callN0 (As := [iv x0, iv 48, iv 57]) (st := []) X_within_ok ns_X4_87 in_X11 cd_X11_within st_X11_within (by decide) (Nat.le_trans (by decide) hdd) rfl (Nat.le_of_ble_eq_true rfl) dX4_isDigit_5 rfl ?_
  exact AW.zret rfl X_within_01 dX4_isDigit_8 ⟨congrArg (fun v => some (iv v)) (show Parser_isDigit x0  = (X_within x0 48 57) from rfl).symm, rfl⟩
theorem Parser_add_ok {z : AZ} {x1 : Int} {x2 : Int} {g : AG} {r : Int × AG} (h : Parser_add x1 x2 g = some r) : AMf z yX4_add cX4_add 3 none 0 [rv z 4, iv x1, iv x2] g r := by
  intro d hdd
  refine AM.of (by decide +kernel) (Nat.le_of_ble_eq_true rfl) ?_
  show AW z (RX4, cX4_add, 3, none) d (QD none r) 0 [(0, rv z 4), (1, iv x1), (2, iv x2)] [] g
  unfold Parser_add at h
  refine AW.aloadr_n 0 dX4_add_0 rfl ?_
  refine AW.getI af_X4_52_4 sr_4_5 dX4_add_1 ?_
  refine AW.aloadr_n 0 dX4_add_4 rfl ?_
  refine AW.getR af_X4_15_4 sr_4_3 dX4_add_5 ?_
  refine AW.alen kc_42 sk_42 dX4_add_8 ?_
  obtain ⟨r10, e11, h⟩ := hC h
  refine AW.join (tgt := 42) (lv1 := []) (st1 := []) (g1 := r10) ?_ (fun J9 => ?_)
  · exact AW.vret1 rfl dX4_add_42 h rfl
  replace h := e11
  refine AW.icmp_ge (tgt := 42) dX4_add_9 (by decide) (fun c1 => ?_) (fun c1 => ?_)
  · replace h := hT h c1
    refine AW.sub (lv1 := []) [] rfl ?_
    cases h
    exact J9
  · replace h := hF h c1
    refine AW.aloadr_n 0 dX4_add_12 rfl ?_
    refine AW.getR af_X4_15_4 sr_4_3 dX4_add_13 ?_
    refine AW.aloadr_n 0 dX4_add_16 rfl ?_
    refine AW.getI af_X4_52_4 sr_4_5 dX4_add_17 ?_
    refine AW.iload_n 1 dX4_add_20 rfl ?_
    obtain ⟨k2, h⟩ := hK h
    obtain ⟨g3, e4, h⟩ := hBe h
    refine AW.iast kc_42 sk_42 k2 dX4_add_21 e4 ?_
    refine AW.aloadr_n 0 dX4_add_22 rfl ?_
    refine AW.getR af_X4_18_4 sr_4_4 dX4_add_23 ?_
    refine AW.aloadr_n 0 dX4_add_26 rfl ?_
    refine AW.getI af_X4_52_4 sr_4_5 dX4_add_27 ?_
    refine AW.iload_n 2 dX4_add_30 rfl ?_
    obtain ⟨k5, h⟩ := hK h
    obtain ⟨g6, e7, h⟩ := hBe h
    refine AW.iast kc_43 sk_43 k5 dX4_add_31 e7 ?_
    refine AW.aloadr_n 0 dX4_add_32 rfl ?_
    refine AW.duprr dX4_add_33 ?_
    refine AW.getI af_X4_52_4 sr_4_5 dX4_add_34 ?_
    refine AW.iconst dX4_add_37 ?_
    refine AW.iadd dX4_add_38 ?_
    obtain ⟨g8, e9, h⟩ := hBe h
    refine AW.putI ap_X4_52_4 sr_4_5 dX4_add_39 e9 ?_
    refine AW.sub (lv1 := []) [] rfl ?_
    cases h
    exact J9
set_option synthInstance.maxHeartbeats 2000000 in
theorem Parser_endOfDigits_b_ok {z : AZ} {d : Nat} (hdd : 2 ≤ d) {g : AG} : ∀ (x2 : Int) (x3 : Int) (r : Int), Parser_endOfDigits_b g x2 x3 = some r → AW z (RX4, cX4_endOfDigits, 4, (some .int)) d (QD (some .int) (r, g)) 4 [(0, rv z 4), (2, iv x2), (3, iv x3)] [] g := by
  refine Parser_endOfDigits_b.partial_correctness g (fun x2 x3 r => AW z (RX4, cX4_endOfDigits, 4, (some .int)) d (QD (some .int) (r, g)) 4 [(0, rv z 4), (2, iv x2), (3, iv x3)] [] g) ?_
  intro fb9 ih x2 x3 r h
  refine AW.iload_n 2 dX4_endOfDigits_4 rfl ?_
  refine AW.aloadr_n 0 dX4_endOfDigits_5 rfl ?_
  refine AW.getI af_X4_29_4 sr_4_2 dX4_endOfDigits_6 ?_
  refine AW.icmp_ge (tgt := 34) dX4_endOfDigits_9 (by decide) (fun c1 => ?_) (fun c1 => ?_)
  · replace h := hT h c1
    refine AW.iload_n 1 dX4_endOfDigits_34 rfl ?_
    exact AW.iret2 rfl dX4_endOfDigits_35 h rfl
  · replace h := hF h c1
    refine AW.aloadr_n 0 dX4_endOfDigits_12 rfl ?_
    refine AW.getR af_X4_9_4 sr_4_1 dX4_endOfDigits_13 ?_
    refine AW.iload_n 2 dX4_endOfDigits_16 rfl ?_
    obtain ⟨k2, h⟩ := hK h
    refine AW.iald kc_41 sk_41 k2 dX4_endOfDigits_17 ?_
    refine AW.callSi (As := [iv (g 41 (ix x3))]) (st := []) Parser_isDigit_ok cq_X4_71 st_X4_isDigit (Nat.le_trans (by decide) hdd) rfl dX4_endOfDigits_18 rfl (Nat.le_of_ble_eq_true rfl) ?_
    refine AW.if_eq (tgt := 34) dX4_endOfDigits_21 (by decide) (fun c3 => ?_) (fun c3 => ?_)
    · replace h := hT h c3
      refine AW.iload_n 1 dX4_endOfDigits_34 rfl ?_
      exact AW.iret2 rfl dX4_endOfDigits_35 h rfl
    · replace h := hF h c3
      refine AW.iload_n 2 dX4_endOfDigits_24 rfl ?_
      refine AW.iconst dX4_endOfDigits_25 ?_
      refine AW.iadd dX4_endOfDigits_26 ?_
      refine AW.istore_n (lv1 := [(2, iv (x3 + 1)), (0, rv z 4), (3, iv x3)]) dX4_endOfDigits_27 (by decide) rfl ?_
      refine AW.iinc (lv1 := [(3, iv (x3 + 1)), (2, iv (x3 + 1)), (0, rv z 4)]) 2 dX4_endOfDigits_28 rfl (by decide) rfl ?_
      refine AW.goto (tgt := 4) dX4_endOfDigits_31 (by decide) ?_
      refine AW.sub (lv1 := [(0, rv z 4), (2, iv (x3 + 1)), (3, iv (x3 + 1))]) [2, 1, 0] rfl ?_
      exact ih _ _ _ h
theorem Parser_endOfDigits_ok {z : AZ} {x1 : Int} {g : AG} {r : Int} (h : Parser_endOfDigits x1 g = some r) : AMf z yX4_endOfDigits cX4_endOfDigits 4 (some .int) 2 [rv z 4, iv x1] g (r, g) := by
  intro d hdd
  refine AM.of (by decide +kernel) (Nat.le_of_ble_eq_true rfl) ?_
  show AW z (RX4, cX4_endOfDigits, 4, (some .int)) d (QD (some .int) (r, g)) 0 [(0, rv z 4), (1, iv x1)] [] g
  unfold Parser_endOfDigits at h
  refine AW.iload_n 1 dX4_endOfDigits_0 rfl ?_
  refine AW.istore_n (lv1 := [(2, iv x1), (0, rv z 4), (1, iv x1)]) dX4_endOfDigits_1 (by decide) rfl ?_
  refine AW.iload_n 2 dX4_endOfDigits_2 rfl ?_
  refine AW.istore_n (lv1 := [(3, iv x1), (2, iv x1), (0, rv z 4), (1, iv x1)]) dX4_endOfDigits_3 (by decide) rfl ?_
  refine AW.sub (lv1 := [(0, rv z 4), (2, iv x1), (3, iv x1)]) [2, 1, 0] rfl ?_
  exact Parser_endOfDigits_b_ok hdd _ _ _ h
set_option synthInstance.maxHeartbeats 2000000 in
theorem Parser_numberOf_b_ok {z : AZ} {d : Nat} (hdd : 0 ≤ d) {x2 : Int} {g : AG} : ∀ (x3 : Int) (x4 : Int) (r : Int), Parser_numberOf_b x2 g x3 x4 = some r → AW z (RX4, cX4_numberOf, 5, (some .int)) d (QD (some .int) (r, g)) 14 [(0, rv z 4), (2, iv x2), (3, iv x3), (4, iv x4)] [] g := by
  refine Parser_numberOf_b.partial_correctness x2 g (fun x3 x4 r => AW z (RX4, cX4_numberOf, 5, (some .int)) d (QD (some .int) (r, g)) 14 [(0, rv z 4), (2, iv x2), (3, iv x3), (4, iv x4)] [] g) ?_
  intro fb9 ih x3 x4 r h
  refine AW.iload 3 dX4_numberOf_14 rfl ?_
  refine AW.iload_n 1 dX4_numberOf_16 rfl ?_
  refine AW.icmp_ge (tgt := 42) dX4_numberOf_17 (by decide) (fun c1 => ?_) (fun c1 => ?_)
  · replace h := hT h c1
    refine AW.sipush dX4_numberOf_42 (by decide) (by decide) ?_
    refine AW.iload_n 2 dX4_numberOf_45 rfl ?_
    refine AW.iadd dX4_numberOf_46 ?_
    exact AW.iret2 rfl dX4_numberOf_47 h rfl
  · replace h := hF h c1
    refine AW.iload_n 2 dX4_numberOf_20 rfl ?_
    refine AW.bipush dX4_numberOf_21 (by decide) (by decide) ?_
    refine AW.imul dX4_numberOf_23 ?_
    refine AW.aloadr_n 0 dX4_numberOf_24 rfl ?_
    refine AW.getR af_X4_9_4 sr_4_1 dX4_numberOf_25 ?_
    refine AW.iload 3 dX4_numberOf_28 rfl ?_
    obtain ⟨k2, h⟩ := hK h
    refine AW.iald kc_41 sk_41 k2 dX4_numberOf_30 ?_
    refine AW.iadd dX4_numberOf_31 ?_
    refine AW.bipush dX4_numberOf_32 (by decide) (by decide) ?_
    refine AW.isub dX4_numberOf_34 ?_
    refine AW.istore_n (lv1 := [(3, iv (((x3 * 10) + (g 41 (ix x4))) - 48)), (0, rv z 4), (2, iv x2), (4, iv x4)]) dX4_numberOf_35 (by decide) rfl ?_
    refine AW.iinc (lv1 := [(4, iv (x4 + 1)), (3, iv (((x3 * 10) + (g 41 (ix x4))) - 48)), (0, rv z 4), (2, iv x2)]) 3 dX4_numberOf_36 rfl (by decide) rfl ?_
    refine AW.goto (tgt := 14) dX4_numberOf_39 (by decide) ?_
    refine AW.sub (lv1 := [(0, rv z 4), (2, iv x2), (3, iv (((x3 * 10) + (g 41 (ix x4))) - 48)), (4, iv (x4 + 1))]) [2, 3, 1, 0] rfl ?_
    exact ih _ _ _ h
theorem Parser_numberOf_ok {z : AZ} {x1 : Int} {x2 : Int} {g : AG} {r : Int} (h : Parser_numberOf x1 x2 g = some r) : AMf z yX4_numberOf cX4_numberOf 5 (some .int) 0 [rv z 4, iv x1, iv x2] g (r, g) := by
  intro d hdd
  refine AM.of (by decide +kernel) (Nat.le_of_ble_eq_true rfl) ?_
  show AW z (RX4, cX4_numberOf, 5, (some .int)) d (QD (some .int) (r, g)) 0 [(0, rv z 4), (1, iv x1), (2, iv x2)] [] g
  unfold Parser_numberOf at h
  refine AW.iload_n 2 dX4_numberOf_0 rfl ?_
  refine AW.iload_n 1 dX4_numberOf_1 rfl ?_
  refine AW.isub dX4_numberOf_2 ?_
  refine AW.iconst dX4_numberOf_3 ?_
  refine AW.icmp_le (tgt := 9) dX4_numberOf_4 (by decide) (fun c1 => ?_) (fun c1 => ?_)
  · replace h := hT h c1
    refine AW.iconst dX4_numberOf_9 ?_
    refine AW.istore_n (lv1 := [(3, iv 0), (0, rv z 4), (1, iv x1), (2, iv x2)]) dX4_numberOf_10 (by decide) rfl ?_
    refine AW.iload_n 2 dX4_numberOf_11 rfl ?_
    refine AW.istore (lv1 := [(4, iv x1), (3, iv 0), (0, rv z 4), (1, iv x1), (2, iv x2)]) dX4_numberOf_12 (by decide) rfl ?_
    refine AW.sub (lv1 := [(0, rv z 4), (2, iv x2), (3, iv 0), (4, iv x1)]) [2, 4, 1, 0] rfl ?_
    exact Parser_numberOf_b_ok hdd _ _ _ h
  · replace h := hF h c1
    refine AW.iconst dX4_numberOf_7 ?_
    exact AW.iret2 rfl dX4_numberOf_8 h rfl
set_option synthInstance.maxHeartbeats 2000000 in
theorem Parser_endOfWord_b_ok {z : AZ} {d : Nat} (hdd : 2 ≤ d) {g : AG} : ∀ (x2 : Int) (x3 : Int) (r : Int), Parser_endOfWord_b g x2 x3 = some r → AW z (RX4, cX4_endOfWord, 4, (some .int)) d (QD (some .int) (r, g)) 4 [(0, rv z 4), (2, iv x2), (3, iv x3)] [] g := by
  refine Parser_endOfWord_b.partial_correctness g (fun x2 x3 r => AW z (RX4, cX4_endOfWord, 4, (some .int)) d (QD (some .int) (r, g)) 4 [(0, rv z 4), (2, iv x2), (3, iv x3)] [] g) ?_
  intro fb9 ih x2 x3 r h
  refine AW.iload_n 2 dX4_endOfWord_4 rfl ?_
  refine AW.aloadr_n 0 dX4_endOfWord_5 rfl ?_
  refine AW.getI af_X4_29_4 sr_4_2 dX4_endOfWord_6 ?_
  refine AW.icmp_ge (tgt := 34) dX4_endOfWord_9 (by decide) (fun c1 => ?_) (fun c1 => ?_)
  · replace h := hT h c1
    refine AW.iload_n 1 dX4_endOfWord_34 rfl ?_
    exact AW.iret2 rfl dX4_endOfWord_35 h rfl
  · replace h := hF h c1
    refine AW.aloadr_n 0 dX4_endOfWord_12 rfl ?_
    refine AW.getR af_X4_9_4 sr_4_1 dX4_endOfWord_13 ?_
    refine AW.iload_n 2 dX4_endOfWord_16 rfl ?_
    obtain ⟨k2, h⟩ := hK h
    refine AW.iald kc_41 sk_41 k2 dX4_endOfWord_17 ?_
    refine AW.callSi (As := [iv (g 41 (ix x3))]) (st := []) Parser_isLetter_ok cq_X4_55 st_X4_isLetter (Nat.le_trans (by decide) hdd) rfl dX4_endOfWord_18 rfl (Nat.le_of_ble_eq_true rfl) ?_
    refine AW.if_eq (tgt := 34) dX4_endOfWord_21 (by decide) (fun c3 => ?_) (fun c3 => ?_)
    · replace h := hT h c3
      refine AW.iload_n 1 dX4_endOfWord_34 rfl ?_
      exact AW.iret2 rfl dX4_endOfWord_35 h rfl
    · replace h := hF h c3
      refine AW.iload_n 2 dX4_endOfWord_24 rfl ?_
      refine AW.iconst dX4_endOfWord_25 ?_
      refine AW.iadd dX4_endOfWord_26 ?_
      refine AW.istore_n (lv1 := [(2, iv (x3 + 1)), (0, rv z 4), (3, iv x3)]) dX4_endOfWord_27 (by decide) rfl ?_
      refine AW.iinc (lv1 := [(3, iv (x3 + 1)), (2, iv (x3 + 1)), (0, rv z 4)]) 2 dX4_endOfWord_28 rfl (by decide) rfl ?_
      refine AW.goto (tgt := 4) dX4_endOfWord_31 (by decide) ?_
      refine AW.sub (lv1 := [(0, rv z 4), (2, iv (x3 + 1)), (3, iv (x3 + 1))]) [2, 1, 0] rfl ?_
      exact ih _ _ _ h
theorem Parser_endOfWord_ok {z : AZ} {x1 : Int} {g : AG} {r : Int} (h : Parser_endOfWord x1 g = some r) : AMf z yX4_endOfWord cX4_endOfWord 4 (some .int) 2 [rv z 4, iv x1] g (r, g) := by
  intro d hdd
  refine AM.of (by decide +kernel) (Nat.le_of_ble_eq_true rfl) ?_
  show AW z (RX4, cX4_endOfWord, 4, (some .int)) d (QD (some .int) (r, g)) 0 [(0, rv z 4), (1, iv x1)] [] g
  unfold Parser_endOfWord at h
  refine AW.iload_n 1 dX4_endOfWord_0 rfl ?_
  refine AW.istore_n (lv1 := [(2, iv x1), (0, rv z 4), (1, iv x1)]) dX4_endOfWord_1 (by decide) rfl ?_
  refine AW.iload_n 2 dX4_endOfWord_2 rfl ?_
  refine AW.istore_n (lv1 := [(3, iv x1), (2, iv x1), (0, rv z 4), (1, iv x1)]) dX4_endOfWord_3 (by decide) rfl ?_
  refine AW.sub (lv1 := [(0, rv z 4), (2, iv x1), (3, iv x1)]) [2, 1, 0] rfl ?_
  exact Parser_endOfWord_b_ok hdd _ _ _ h
set_option synthInstance.maxHeartbeats 2000000 in
theorem Parser_isSame_b_ok {z : AZ} {d : Nat} (hdd : 5 ≤ d) {x1 : Int} {x2 : Int} {x3 : Int} {g : AG} : ∀ (x4 : Int) (r : Int), Parser_isSame_b x1 x2 x3 g x4 = some r → AW z (RX4, cX4_isSame, 5, (some .boolean)) d (QD (some .boolean) (r, g)) 3 [(0, rv z 4), (1, iv x1), (2, iv x2), (3, iv x3), (4, iv x4)] [] g := by
  refine Parser_isSame_b.partial_correctness x1 x2 x3 g (fun x4 r => AW z (RX4, cX4_isSame, 5, (some .boolean)) d (QD (some .boolean) (r, g)) 3 [(0, rv z 4), (1, iv x1), (2, iv x2), (3, iv x3), (4, iv x4)] [] g) ?_
  intro fb9 ih x4 r h
  refine AW.iload 4 dX4_isSame_3 rfl ?_
  refine AW.iload_n 3 dX4_isSame_5 rfl ?_
  refine AW.icmp_ge (tgt := 38) dX4_isSame_6 (by decide) (fun c1 => ?_) (fun c1 => ?_)
  · replace h := hT h c1
    refine AW.iconst dX4_isSame_38 ?_
    exact AW.zret2 rfl (Or.inr rfl) dX4_isSame_39 h rfl
  · replace h := hF h c1
    refine AW.aloadr_n 0 dX4_isSame_9 rfl ?_
    refine AW.getR af_X4_9_4 sr_4_1 dX4_isSame_10 ?_
    refine AW.iload_n 1 dX4_isSame_13 rfl ?_
    refine AW.iload 4 dX4_isSame_14 rfl ?_
    refine AW.iadd dX4_isSame_16 ?_
    obtain ⟨k2, h⟩ := hK h
    refine AW.iald kc_41 sk_41 k2 dX4_isSame_17 ?_
    refine AW.ldcS dX4_isSame_18 sw_X4_91 ?_
    refine AW.iload_n 2 dX4_isSame_20 rfl ?_
    refine AW.iload 4 dX4_isSame_21 rfl ?_
    refine AW.iadd dX4_isSame_23 ?_
    obtain ⟨k3, h⟩ := hK h
    refine AW.tCh cq_X4_96 (by decide) k3 (Nat.le_trans (by decide) hdd) dX4_isSame_24 (Nat.le_of_ble_eq_true rfl) ?_
    refine AW.icmp_eq (tgt := 32) dX4_isSame_27 (by decide) (fun c4 => ?_) (fun c4 => ?_)
    · replace h := hT h c4
      refine AW.iinc (lv1 := [(4, iv (x4 + 1)), (0, rv z 4), (1, iv x1), (2, iv x2), (3, iv x3)]) 4 dX4_isSame_32 rfl (by decide) rfl ?_
      refine AW.goto (tgt := 3) dX4_isSame_35 (by decide) ?_
      refine AW.sub (lv1 := [(0, rv z 4), (1, iv x1), (2, iv x2), (3, iv x3), (4, iv (x4 + 1))]) [1, 2, 3, 4, 0] rfl ?_
      exact ih _ _ h
    · replace h := hF h c4
      refine AW.iconst dX4_isSame_30 ?_
      exact AW.zret2 rfl (Or.inl rfl) dX4_isSame_31 h rfl
theorem Parser_isSame_ok {z : AZ} {x1 : Int} {x2 : Int} {x3 : Int} {g : AG} {r : Int} (h : Parser_isSame x1 x2 x3 g = some r) : AMf z yX4_isSame cX4_isSame 5 (some .boolean) 5 [rv z 4, iv x1, iv x2, iv x3] g (r, g) := by
  intro d hdd
  refine AM.of (by decide +kernel) (Nat.le_of_ble_eq_true rfl) ?_
  show AW z (RX4, cX4_isSame, 5, (some .boolean)) d (QD (some .boolean) (r, g)) 0 [(0, rv z 4), (1, iv x1), (2, iv x2), (3, iv x3)] [] g
  unfold Parser_isSame at h
  refine AW.iconst dX4_isSame_0 ?_
  refine AW.istore (lv1 := [(4, iv 0), (0, rv z 4), (1, iv x1), (2, iv x2), (3, iv x3)]) dX4_isSame_1 (by decide) rfl ?_
  refine AW.sub (lv1 := [(0, rv z 4), (1, iv x1), (2, iv x2), (3, iv x3), (4, iv 0)]) [1, 2, 3, 4, 0] rfl ?_
  exact Parser_isSame_b_ok hdd _ _ h
set_option synthInstance.maxHeartbeats 2000000 in
theorem Parser_wordOf_b_ok {z : AZ} {d : Nat} (hdd : 6 ≤ d) {x1 : Int} {x2 : Int} {g : AG} : ∀ (tag : Nat) (x3 : Int) (x4 : Int) (x5 : Int) (r : Int), Parser_wordOf_b x1 x2 g tag x3 x4 x5 = some r → (tag = 1 → AW z (RX4, cX4_wordOf, 6, (some .int)) d (QD (some .int) (r, g)) 9 [(0, rv z 4), (1, iv x1), (2, iv x2), (3, iv x3), (4, iv x4), (5, iv x5)] [] g) ∧ (tag = 2 → AW z (RX4, cX4_wordOf, 6, (some .int)) d (QD (some .int) (r, g)) 59 [(0, rv z 4), (1, iv x1), (2, iv x2), (3, iv x3), (5, iv x5)] [] g) ∧ (tag = 3 → AW z (RX4, cX4_wordOf, 6, (some .int)) d (QD (some .int) (r, g)) 68 [(0, rv z 4), (1, iv x1), (2, iv x2), (3, iv x3), (4, iv x4), (5, iv x5)] [] g) := by
  refine Parser_wordOf_b.partial_correctness x1 x2 g (fun tag x3 x4 x5 r => (tag = 1 → AW z (RX4, cX4_wordOf, 6, (some .int)) d (QD (some .int) (r, g)) 9 [(0, rv z 4), (1, iv x1), (2, iv x2), (3, iv x3), (4, iv x4), (5, iv x5)] [] g) ∧ (tag = 2 → AW z (RX4, cX4_wordOf, 6, (some .int)) d (QD (some .int) (r, g)) 59 [(0, rv z 4), (1, iv x1), (2, iv x2), (3, iv x3), (5, iv x5)] [] g) ∧ (tag = 3 → AW z (RX4, cX4_wordOf, 6, (some .int)) d (QD (some .int) (r, g)) 68 [(0, rv z 4), (1, iv x1), (2, iv x2), (3, iv x3), (4, iv x4), (5, iv x5)] [] g)) ?_
  intro fb9 ih tag x3 x4 x5 r h
  refine ⟨fun h9 => ?_, fun h9 => ?_, fun h9 => ?_⟩
  · subst h9
    replace h := hT h rfl
    refine AW.iload 5 dX4_wordOf_9 rfl ?_
    refine AW.ldcS dX4_wordOf_11 sw_X4_91 ?_
    refine AW.tLen cq_X4_93 (by decide) (Nat.le_trans (by decide) hdd) dX4_wordOf_13 (Nat.le_of_ble_eq_true rfl) ?_
    refine AW.icmp_ge (tgt := 74) dX4_wordOf_16 (by decide) (fun c1 => ?_) (fun c1 => ?_)
    · replace h := hT h c1
      refine AW.iconst dX4_wordOf_74 ?_
      exact AW.iret2 rfl dX4_wordOf_75 h rfl
    · replace h := hF h c1
      refine AW.ldcS dX4_wordOf_19 sw_X4_91 ?_
      refine AW.iload 5 dX4_wordOf_21 rfl ?_
      obtain ⟨k2, h⟩ := hK h
      refine AW.tCh cq_X4_96 (by decide) k2 (Nat.le_trans (by decide) hdd) dX4_wordOf_23 (Nat.le_of_ble_eq_true rfl) ?_
      refine AW.bipush dX4_wordOf_26 (by decide) (by decide) ?_
      refine AW.icmp_ne (tgt := 68) dX4_wordOf_28 (by decide) (fun c3 => ?_) (fun c3 => ?_)
      · replace h := hF h c3
        exact (ih _ _ _ _ _ h).2.2 rfl
      · replace h := hT h c3
        refine AW.iload 5 dX4_wordOf_31 rfl ?_
        refine AW.iload 4 dX4_wordOf_33 rfl ?_
        refine AW.isub dX4_wordOf_35 ?_
        refine AW.iload_n 2 dX4_wordOf_36 rfl ?_
        refine AW.iload_n 1 dX4_wordOf_37 rfl ?_
        refine AW.isub dX4_wordOf_38 ?_
        refine AW.icmp_ne (tgt := 59) dX4_wordOf_39 (by decide) (fun c4 => ?_) (fun c4 => ?_)
        · replace h := hF h c4
          refine AW.sub (lv1 := [(0, rv z 4), (1, iv x1), (2, iv x2), (3, iv x3), (5, iv x5)]) [0, 1, 2, 3, 5] rfl ?_
          exact (ih _ _ _ _ _ h).2.1 rfl
        · replace h := hT h c4
          refine AW.aloadr_n 0 dX4_wordOf_42 rfl ?_
          refine AW.iload_n 1 dX4_wordOf_43 rfl ?_
          refine AW.iload 4 dX4_wordOf_44 rfl ?_
          refine AW.iload 5 dX4_wordOf_46 rfl ?_
          refine AW.iload 4 dX4_wordOf_48 rfl ?_
          refine AW.isub dX4_wordOf_50 ?_
          obtain ⟨r5, e6, h⟩ := hC h
          refine AW.callVi (As := [iv x1, iv x4, iv (x5 - x4)]) (st := []) (Parser_isSame_ok e6) cq_X4_100 cr_4_X4_isSame (Nat.le_trans (by decide) hdd) rfl dX4_wordOf_51 rfl (Nat.le_of_ble_eq_true rfl) ?_
          refine AW.if_eq (tgt := 59) dX4_wordOf_54 (by decide) (fun c7 => ?_) (fun c7 => ?_)
          · replace h := hT h c7
            refine AW.sub (lv1 := [(0, rv z 4), (1, iv x1), (2, iv x2), (3, iv x3), (5, iv x5)]) [0, 1, 2, 3, 5] rfl ?_
            exact (ih _ _ _ _ _ h).2.1 rfl
          · replace h := hF h c7
            refine AW.iload_n 3 dX4_wordOf_57 rfl ?_
            exact AW.iret2 rfl dX4_wordOf_58 h rfl
  · subst h9
    replace h := hF h (by decide)
    replace h := hT h rfl
    refine AW.iinc (lv1 := [(3, iv (x3 + 1)), (0, rv z 4), (1, iv x1), (2, iv x2), (5, iv x5)]) 3 dX4_wordOf_59 rfl (by decide) rfl ?_
    refine AW.iload 4 dX4_wordOf_62 rfl ?_
    refine AW.iconst dX4_wordOf_64 ?_
    refine AW.iadd dX4_wordOf_65 ?_
    refine AW.istore (lv1 := [(4, iv (x5 + 1)), (3, iv (x3 + 1)), (0, rv z 4), (1, iv x1), (2, iv x2), (5, iv x5)]) dX4_wordOf_66 (by decide) rfl ?_
    refine AW.sub (lv1 := [(0, rv z 4), (1, iv x1), (2, iv x2), (3, iv (x3 + 1)), (4, iv (x5 + 1)), (5, iv x5)]) [2, 3, 4, 1, 0, 5] rfl ?_
    exact (ih _ _ _ _ _ h).2.2 rfl
  · subst h9
    replace h := hF h (by decide)
    replace h := hF h (by decide)
    replace h := hT h rfl
    refine AW.iinc (lv1 := [(5, iv (x5 + 1)), (0, rv z 4), (1, iv x1), (2, iv x2), (3, iv x3), (4, iv x4)]) 5 dX4_wordOf_68 rfl (by decide) rfl ?_
    refine AW.goto (tgt := 9) dX4_wordOf_71 (by decide) ?_
    refine AW.sub (lv1 := [(0, rv z 4), (1, iv x1), (2, iv x2), (3, iv x3), (4, iv x4), (5, iv (x5 + 1))]) [1, 2, 3, 4, 5, 0] rfl ?_
    exact (ih _ _ _ _ _ h).1 rfl
theorem Parser_wordOf_ok {z : AZ} {x1 : Int} {x2 : Int} {g : AG} {r : Int} (h : Parser_wordOf x1 x2 g = some r) : AMf z yX4_wordOf cX4_wordOf 6 (some .int) 6 [rv z 4, iv x1, iv x2] g (r, g) := by
  intro d hdd
  refine AM.of (by decide +kernel) (Nat.le_of_ble_eq_true rfl) ?_
  show AW z (RX4, cX4_wordOf, 6, (some .int)) d (QD (some .int) (r, g)) 0 [(0, rv z 4), (1, iv x1), (2, iv x2)] [] g
  unfold Parser_wordOf at h
  refine AW.bipush dX4_wordOf_0 (by decide) (by decide) ?_
  refine AW.istore_n (lv1 := [(3, iv 100), (0, rv z 4), (1, iv x1), (2, iv x2)]) dX4_wordOf_2 (by decide) rfl ?_
  refine AW.iconst dX4_wordOf_3 ?_
  refine AW.istore (lv1 := [(4, iv 0), (3, iv 100), (0, rv z 4), (1, iv x1), (2, iv x2)]) dX4_wordOf_4 (by decide) rfl ?_
  refine AW.iconst dX4_wordOf_6 ?_
  refine AW.istore (lv1 := [(5, iv 0), (4, iv 0), (3, iv 100), (0, rv z 4), (1, iv x1), (2, iv x2)]) dX4_wordOf_7 (by decide) rfl ?_
  refine AW.sub (lv1 := [(0, rv z 4), (1, iv x1), (2, iv x2), (3, iv 100), (4, iv 0), (5, iv 0)]) [3, 4, 5, 2, 1, 0] rfl ?_
  exact (Parser_wordOf_b_ok hdd _ _ _ _ _ h).1 rfl
