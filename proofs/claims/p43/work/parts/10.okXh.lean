theorem X_held_ok {z : AZ} {x1 : Int} {x2 : Int} {x3 : Int} {x4 : Int} {g : AG} {r : Int × AG} (h : X_held x1 x2 x3 x4 g = some r) : AMf z yX11_held cX11_held 6 (some .int) 5 [rv z 0, iv x1, iv x2, iv x3, iv x4] g r := by
  intro d hdd
  refine AM.of (by decide +kernel) (Nat.le_of_ble_eq_true rfl) ?_
  show AW z (RX11, cX11_held, 6, (some .int)) d (QD (some .int) r) 0 [(0, rv z 0), (1, iv x1), (2, iv x2), (3, iv x3), (4, iv x4)] [] g
  unfold X_held at h
  refine AW.aloadr_n 0 (dcN_0 dcg_459 :) rfl ?_
  refine AW.iload_n 1 (dcN_1 dcg_459 :) rfl ?_
  refine AW.callVi (As := [iv x1]) (st := []) X_isBoat_ok cq_X11_107 cr_0_X11_isBoat (Nat.le_trans (by decide) hdd) rfl (dcN_2 dcg_459 :) rfl (Nat.le_of_ble_eq_true rfl) ?_
  refine AW.if_eq (tgt := 16) (dcN_3 dcg_459 :) (by decide) (fun c1 => ?_) (fun c1 => ?_)
  · replace h := hT h c1
    refine AW.ldc (dcN_7 dcg_459 :) cw_X11_198 ?_
    exact AW.iret1 rfl (dcN_8 dcg_459 :) h rfl
  · replace h := hF h c1
    refine AW.iload 4 (dcN_4 dcg_459 :) rfl ?_
    refine AW.callSi (As := [iv x4]) (st := []) X_isWeek_ok cq_X11_267 st_X11_isWeek (Nat.le_trans (by decide) hdd) rfl (dcN_5 dcg_459 :) rfl (Nat.le_of_ble_eq_true rfl) ?_
    refine AW.if_ne (tgt := 19) (dcN_6 dcg_459 :) (by decide) (fun c2 => ?_) (fun c2 => ?_)
    · replace h := hF h c2
      refine AW.iload_n 2 (dcN_9 dcg_459 :) rfl ?_
      refine AW.iconst (dcN_10 dcg_459 :) ?_
      refine AW.bipush (dcN_11 dcg_459 :) (by decide) (by decide) ?_
      refine AW.callSi (As := [iv x2, iv 0, iv 99]) (st := []) X_within_ok cq_X11_99 st_X11_within (Nat.le_trans (by decide) hdd) rfl (dcN_12 dcg_459 :) rfl (Nat.le_of_ble_eq_true rfl) ?_
      refine AW.if_eq (tgt := 39) (dcN_13 dcg_459 :) (by decide) (fun c3 => ?_) (fun c3 => ?_)
      · replace h := hT h c3
        refine AW.ldc (dcN_2 dcg_460 :) cw_X11_198 ?_
        exact AW.iret1 rfl (dcN_3 dcg_460 :) h rfl
      · replace h := hF h c3
        refine AW.iload_n 3 (dcN_14 dcg_459 :) rfl ?_
        refine AW.iconst (dcN_15 dcg_459 :) ?_
        refine AW.bipush (dcN_16 dcg_459 :) (by decide) (by decide) ?_
        refine AW.callSi (As := [iv x3, iv 0, iv 9]) (st := []) X_within_ok cq_X11_99 st_X11_within (Nat.le_trans (by decide) hdd) rfl (dcN_0 dcg_460 :) rfl (Nat.le_of_ble_eq_true rfl) ?_
        refine AW.if_ne (tgt := 42) (dcN_1 dcg_460 :) (by decide) (fun c4 => ?_) (fun c4 => ?_)
        · replace h := hF h c4
          refine AW.aloadr_n 0 (dcN_4 dcg_460 :) rfl ?_
          refine AW.getR af_X11_49_0 sr_0_5 (dcN_5 dcg_460 :) ?_
          refine AW.iload_n 1 (dcN_6 dcg_460 :) rfl ?_
          refine AW.iload_n 2 (dcN_7 dcg_460 :) rfl ?_
          refine AW.iload_n 3 (dcN_8 dcg_460 :) rfl ?_
          refine AW.iload 4 (dcN_9 dcg_460 :) rfl ?_
          obtain ⟨r5, e6, h⟩ := hC h
          refine AW.callVi (As := [iv x1, iv x2, iv x3, iv x4]) (st := []) (Boats_holdLine_ok e6) cq_X11_405 cr_6_X0_holdLine (Nat.le_trans (by decide) hdd) rfl (dcN_10 dcg_460 :) rfl (Nat.le_of_ble_eq_true rfl) ?_
          refine AW.istore (lv1 := [(5, iv r5.1), (0, rv z 0), (1, iv x1), (2, iv x2), (3, iv x3), (4, iv x4)]) (dcN_11 dcg_460 :) (by decide) rfl ?_
          refine AW.iload 0 (dcN_12 dcg_460 :) rfl ?_
          refine AW.iconst (dcN_13 dcg_460 :) ?_
          obtain ⟨r10, e11, h⟩ := hC h
          refine AW.join (tgt := 75) (lv1 := []) (st1 := [iv r10.1]) (g1 := r10.2) ?_ (fun J59 => ?_)
          · exact AW.iret1 rfl (dcN_4 dcg_461 :) h rfl
          replace h := e11
          refine AW.icmp_ne (tgt := 66) (dcN_14 dcg_460 :) (by decide) (fun c7 => ?_) (fun c7 => ?_)
          · replace h := hF h c7
            refine AW.aloadr_n 1 (dcN_0 dcg_461 :) rfl ?_
            refine AW.getR af_X11_19_0 sr_0_1 (dcN_1 dcg_461 :) ?_
            refine AW.iload 0 (dcN_2 dcg_461 :) rfl ?_
            obtain ⟨r8, e9, h⟩ := hC h
            refine AW.callVi (As := [iv r5.1]) (st := []) (Rules_valueOf_ok e9) cq_X11_402 cr_2_X6_valueOf (Nat.le_trans (by decide) hdd) rfl (dcN_3 dcg_461 :) rfl (Nat.le_of_ble_eq_true rfl) ?_
            refine AW.sub (lv1 := []) [] rfl ?_
            cases h
            exact J59
          · replace h := hT h c7
            refine AW.iconst (dcN_15 dcg_460 :) ?_
            refine AW.goto (tgt := 75) (dcN_16 dcg_460 :) (by decide) ?_
            refine AW.sub (lv1 := []) [] rfl ?_
            cases h
            exact J59
        · replace h := hT h c4
          refine AW.ldc (dcN_2 dcg_460 :) cw_X11_198 ?_
          exact AW.iret1 rfl (dcN_3 dcg_460 :) h rfl
    · replace h := hT h c2
      refine AW.ldc (dcN_7 dcg_459 :) cw_X11_198 ?_
      exact AW.iret1 rfl (dcN_8 dcg_459 :) h rfl
theorem X_look_ok {z : AZ} {x1 : Int} {g : AG} : AMf z yX11_look cX11_look 2 (some .int) 0 [rv z 0, iv x1] g ((X_look x1 g), g) := by
  intro d hdd
  refine AM.of (by decide +kernel) (Nat.le_of_ble_eq_true rfl) ?_
  show AW z (RX11, cX11_look, 2, (some .int)) d (QD (some .int) ((X_look x1 g), g)) 0 [(0, rv z 0), (1, iv x1)] [] g
  refine AW.iload_n 1 (dcN_0 dcg_462 :) rfl ?_
  by_cases c1 : nw x1 = 0
  · refine AW.tsIn (tgt := 48) 0 dX11_look_1 c1 (by decide) (by decide) (by rfl) (by decide) ?_
    refine AW.aloadr_n 0 (dcN_0 dcg_463 :) rfl ?_
    refine AW.getR af_X11_49_0 sr_0_5 (dcN_1 dcg_463 :) ?_
    refine AW.getI af_X11_103_6 sr_6_7 (dcN_2 dcg_463 :) ?_
    exact AW.iret rfl (dcN_3 dcg_463 :) ⟨congrArg (fun v => some (iv v)) (show X_look x1 g = (g 6 7) from ((if_pos c1))).symm, rfl⟩
  · by_cases c2 : nw x1 = 1
    · refine AW.tsIn (tgt := 56) 1 dX11_look_1 c2 (by decide) (by decide) (by rfl) (by decide) ?_
      refine AW.aloadr_n 0 (dcN_4 dcg_463 :) rfl ?_
      refine AW.getR af_X11_58_0 sr_0_6 (dcN_5 dcg_463 :) ?_
      refine AW.getI af_X11_197_7 sr_7_8 (dcN_6 dcg_463 :) ?_
      exact AW.iret rfl (dcN_7 dcg_463 :) ⟨congrArg (fun v => some (iv v)) (show X_look x1 g = (g 7 8) from (((if_neg c1).trans (if_pos c2)))).symm, rfl⟩
    · by_cases c3 : nw x1 = 2
      · refine AW.tsIn (tgt := 64) 2 dX11_look_1 c3 (by decide) (by decide) (by rfl) (by decide) ?_
        refine AW.aloadr_n 0 (dcN_0 dcg_464 :) rfl ?_
        refine AW.getR af_X11_72_0 sr_0_8 (dcN_1 dcg_464 :) ?_
        refine AW.getI af_X11_283_9 sr_9_4 (dcN_2 dcg_464 :) ?_
        exact AW.iret rfl (dcN_3 dcg_464 :) ⟨congrArg (fun v => some (iv v)) (show X_look x1 g = (g 9 4) from (((if_neg c1).trans ((if_neg c2).trans (if_pos c3))))).symm, rfl⟩
      · by_cases c4 : nw x1 = 3
        · refine AW.tsIn (tgt := 72) 3 dX11_look_1 c4 (by decide) (by decide) (by rfl) (by decide) ?_
          refine AW.aloadr_n 0 (dcN_4 dcg_464 :) rfl ?_
          refine AW.getR af_X11_79_0 sr_0_9 (dcN_5 dcg_464 :) ?_
          refine AW.getI af_X11_314_10 sr_10_7 (dcN_6 dcg_464 :) ?_
          exact AW.iret rfl (dcN_7 dcg_464 :) ⟨congrArg (fun v => some (iv v)) (show X_look x1 g = (g 10 7) from (((if_neg c1).trans ((if_neg c2).trans ((if_neg c3).trans (if_pos c4)))))).symm, rfl⟩
        · by_cases c5 : nw x1 = 4
          · refine AW.tsIn (tgt := 80) 4 dX11_look_1 c5 (by decide) (by decide) (by rfl) (by decide) ?_
            refine AW.aloadr_n 0 (dcN_8 dcg_464 :) rfl ?_
            refine AW.getR af_X11_65_0 sr_0_7 (dcN_9 dcg_464 :) ?_
            refine AW.getI af_X11_408_8 sr_8_2 (dcN_10 dcg_464 :) ?_
            exact AW.iret rfl (dcN_11 dcg_464 :) ⟨congrArg (fun v => some (iv v)) (show X_look x1 g = (g 8 2) from (((if_neg c1).trans ((if_neg c2).trans ((if_neg c3).trans ((if_neg c4).trans (if_pos c5))))))).symm, rfl⟩
          · by_cases c6 : nw x1 = 5
            · refine AW.tsIn (tgt := 88) 5 dX11_look_1 c6 (by decide) (by decide) (by rfl) (by decide) ?_
              refine AW.aloadr_n 0 (dcN_12 dcg_464 :) rfl ?_
              refine AW.getR af_X11_12_0 sr_0_0 (dcN_13 dcg_464 :) ?_
              refine AW.getI af_X11_136_1 sr_1_4 (dcN_14 dcg_464 :) ?_
              exact AW.iret rfl (dcN_15 dcg_464 :) ⟨congrArg (fun v => some (iv v)) (show X_look x1 g = (g 1 4) from (((if_neg c1).trans ((if_neg c2).trans ((if_neg c3).trans ((if_neg c4).trans ((if_neg c5).trans (if_pos c6)))))))).symm, rfl⟩
            · by_cases c7 : nw x1 = 6
              · refine AW.tsIn (tgt := 96) 6 dX11_look_1 c7 (by decide) (by decide) (by rfl) (by decide) ?_
                refine AW.aloadr_n 0 (dcN_0 dcg_465 :) rfl ?_
                refine AW.getR af_X11_12_0 sr_0_0 (dcN_1 dcg_465 :) ?_
                refine AW.getI af_X11_127_1 sr_1_5 (dcN_2 dcg_465 :) ?_
                exact AW.iret rfl (dcN_3 dcg_465 :) ⟨congrArg (fun v => some (iv v)) (show X_look x1 g = (g 1 5) from (((if_neg c1).trans ((if_neg c2).trans ((if_neg c3).trans ((if_neg c4).trans ((if_neg c5).trans ((if_neg c6).trans (if_pos c7))))))))).symm, rfl⟩
              · by_cases c8 : nw x1 = 7
                · refine AW.tsIn (tgt := 104) 7 dX11_look_1 c8 (by decide) (by decide) (by rfl) (by decide) ?_
                  refine AW.aloadr_n 0 (dcN_4 dcg_465 :) rfl ?_
                  refine AW.getR af_X11_88_0 sr_0_10 (dcN_5 dcg_465 :) ?_
                  refine AW.getI af_X11_362_11 sr_11_5 (dcN_6 dcg_465 :) ?_
                  exact AW.iret rfl (dcN_7 dcg_465 :) ⟨congrArg (fun v => some (iv v)) (show X_look x1 g = (g 11 5) from (((if_neg c1).trans ((if_neg c2).trans ((if_neg c3).trans ((if_neg c4).trans ((if_neg c5).trans ((if_neg c6).trans ((if_neg c7).trans (if_pos c8)))))))))).symm, rfl⟩
                · refine AW.tsOut (tgt := 112) dX11_look_1 (by omega) (by decide) ?_
                  refine AW.iconst (dcN_8 dcg_465 :) ?_
                  exact AW.iret rfl (dcN_9 dcg_465 :) ⟨congrArg (fun v => some (iv v)) (show X_look x1 g = (-1) from (((if_neg c1).trans ((if_neg c2).trans ((if_neg c3).trans ((if_neg c4).trans ((if_neg c5).trans ((if_neg c6).trans ((if_neg c7).trans (if_neg c8)))))))))).symm, rfl⟩
