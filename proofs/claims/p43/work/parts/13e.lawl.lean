section LAWW
variable {p : Program} {l : Launch} {e : Env} {s : State} {m : MethodId} {below : List Frame} {meth : Method} {c : Code} {b L : Nat} {xs : Nat → Int32} {z : AZ} {pc : Nat} {lv : List (Nat × Value)} {st : List Value} {g : AG}
def Sims (Inv0 Inv : AG → Prop) : Prop := Sim_stretch Inv0 Inv ∧ Sim_water Inv0 Inv ∧ Sim_stoppage Inv0 Inv ∧ Sim_boat Inv0 Inv ∧ Sim_feed Inv0 Inv ∧ Sim_end Inv0 Inv ∧ Sim_rules Inv0 Inv ∧ Sim_fault Inv0 Inv ∧ Sim_open Inv0 Inv ∧ Sim_comes Inv0 Inv ∧ Sim_maybe Inv0 Inv ∧ Sim_harm Inv0 Inv ∧ Sim_back Inv0 Inv ∧ Sim_rung Inv0 Inv ∧ Sim_pump Inv0 Inv ∧ Sim_pumped Inv0 Inv ∧ Sim_enough Inv0 Inv ∧ Sim_trip Inv0 Inv ∧ Sim_late Inv0 Inv ∧ Sim_log Inv0 Inv ∧ Sim_could Inv0 Inv ∧ Sim_whose Inv0 Inv ∧ Sim_tonight Inv0 Inv ∧ Sim_queue Inv0 Inv ∧ Sim_lock Inv0 Inv ∧ Sim_booking Inv0 Inv ∧ Sim_given Inv0 Inv ∧ Sim_more Inv0 Inv ∧ Sim_gas Inv0 Inv ∧ Sim_dock Inv0 Inv ∧ Sim_job Inv0 Inv ∧ Sim_turned Inv0 Inv ∧ Sim_weight Inv0 Inv ∧ Sim_van Inv0 Inv ∧ Sim_vans Inv0 Inv ∧ Sim_call Inv0 Inv ∧ Sim_taken Inv0 Inv ∧ Sim_left Inv0 Inv ∧ Sim_shuts Inv0 Inv ∧ Sim_price Inv0 Inv ∧ Sim_held Inv0 Inv ∧ Sim_look Inv0 Inv
theorem LW.fin (C : LC p s m meth c b L xs z) : LW p l e s m below meth c b z 1920 lv [] g := by
  refine LW.iconst C (dcN_0 dLg_56 :) ?_
  intro H locs ls hP hS hl
  refine va_forget (fun q hq => hS.2.2 q hq) ?_
  refine W.widen (k := 600000) (n := 7302250) (by decide) (by decide) ?_
  exact lw_ret C.1.1 C.1.2.1 C.1.2.2.1 C.1.2.2.2.2.2.2.2.2.1 (dcN_1 dLg_56 :)
theorem lw_loop {Inv : AG → Prop} (hs : Sims Inv Inv) (C : LC p s m meth c b L xs z) (hL : L ≤ 3072) : ∀ (n : Nat) (i : Int) (g : AG), 0 ≤ i → i ≤ L → (L : Int) ≤ i + 6 * n + 5 → Inv g → LW p l e s m below meth c b z 18 [(3, iv i), (2, rv z 117), (1, rv z 0), (0, .ref b)] [] g := by
  unfold Sims at hs
  intro n
  induction n with
  | zero =>
    intro i g h0 hiL h1 hI
    have e1 : nw ((L : Int) - 6) = (L : Int) - 6 := nw_id (by omega) (by omega)
    have e2 : nw i = i := nw_id (by omega) (by omega)
    refine LW.iload_n C 0 (dcN_10 dLg_0 :) rfl ?_
    refine LW.aload_n C 3 (dcN_11 dLg_0 :) rfl ?_
    refine LW.slen C (dcN_12 dLg_0 :) ?_
    refine LW.bipush C (dcN_13 dLg_0 :) (by decide) (by decide) ?_
    refine LW.isub C (dcN_14 dLg_0 :) ?_
    exact LW.icmp_gt (tgt := 1920) C (dcN_15 dLg_0 :) (by decide) (fun _ => LW.fin C) (fun q => absurd (show nw ((L : Int) - 6) < nw i by rw [e1, e2]; omega) q)
  | succ n ih =>
    intro i g h0 hiL h1 hI
    have e1 : nw ((L : Int) - 6) = (L : Int) - 6 := nw_id (by omega) (by omega)
    have e2 : nw i = i := nw_id (by omega) (by omega)
    refine LW.iload_n C 0 (dcN_10 dLg_0 :) rfl ?_
    refine LW.aload_n C 3 (dcN_11 dLg_0 :) rfl ?_
    refine LW.slen C (dcN_12 dLg_0 :) ?_
    refine LW.bipush C (dcN_13 dLg_0 :) (by decide) (by decide) ?_
    refine LW.isub C (dcN_14 dLg_0 :) ?_
    refine LW.icmp_gt (tgt := 1920) C (dcN_15 dLg_0 :) (by decide) (fun _ => LW.fin C) (fun q => ?_)
    rw [e1, e2] at q
    have hi : i + 6 ≤ L := by omega
    have next : ∀ g9, Inv g9 → LW p l e s m below meth c b z 1914 [(3, iv i), (2, rv z 117), (1, rv z 0), (0, .ref b)] [] g9 := by
      intro g9 hI9
      refine LW.iinc (lv1 := [(3, iv (i + 6)), (2, rv z 117), (1, rv z 0), (0, .ref b)]) C 0 (dcN_18 dLg_55 :) rfl (by decide) rfl ?_
      refine LW.goto (tgt := 18) C (dcN_19 dLg_55 :) (by decide) ?_
      exact ih (i + 6) g9 (by omega) hi (by omega) hI9
    refine LW.aload_n C 3 (dcN_16 dLg_0 :) rfl ?_
    refine LW.iload_n C 0 (dcN_17 dLg_0 :) rfl ?_
    refine LW.sld C (by rw [e2]; omega) (dcN_18 dLg_0 :) ?_
    refine LW.bipush C (dcN_19 dLg_0 :) (by decide) (by decide) ?_
    refine LW.iand C (dcN_0 dLg_1 :) ?_
    generalize andI (xs (ix i)).toInt 63 = w
    by_cases hw : nw w < 0 ∨ 41 < nw w
    · exact LW.tsOut (tgt := 1914) C dL_law_33 hw (by decide) (next g hI)
    have h : nw w = 0 ∨ nw w = 1 ∨ nw w = 2 ∨ nw w = 3 ∨ nw w = 4 ∨ nw w = 5 ∨ nw w = 6 ∨ nw w = 7 ∨ nw w = 8 ∨ nw w = 9 ∨ nw w = 10 ∨ nw w = 11 ∨ nw w = 12 ∨ nw w = 13 ∨ nw w = 14 ∨ nw w = 15 ∨ nw w = 16 ∨ nw w = 17 ∨ nw w = 18 ∨ nw w = 19 ∨ nw w = 20 ∨ nw w = 21 ∨ nw w = 22 ∨ nw w = 23 ∨ nw w = 24 ∨ nw w = 25 ∨ nw w = 26 ∨ nw w = 27 ∨ nw w = 28 ∨ nw w = 29 ∨ nw w = 30 ∨ nw w = 31 ∨ nw w = 32 ∨ nw w = 33 ∨ nw w = 34 ∨ nw w = 35 ∨ nw w = 36 ∨ nw w = 37 ∨ nw w = 38 ∨ nw w = 39 ∨ nw w = 40 ∨ nw w = 41 := by omega
    rcases h with h | h | h | h | h | h | h | h | h | h | h | h | h | h | h | h | h | h | h | h | h | h | h | h | h | h | h | h | h | h | h | h | h | h | h | h | h | h | h | h | h | h
    · refine LW.tsIn (tgt := 216) C 0 dL_law_33 h (by decide) (by decide) (by rfl) (by decide) ?_
      exact lwc_stretch hs.1 C hL h0 hi hI next
    · refine LW.tsIn (tgt := 269) C 1 dL_law_33 h (by decide) (by decide) (by rfl) (by decide) ?_
      exact lwc_water hs.2.1 C hL h0 hi hI next
    · refine LW.tsIn (tgt := 292) C 2 dL_law_33 h (by decide) (by decide) (by rfl) (by decide) ?_
      exact lwc_stoppage hs.2.2.1 C hL h0 hi hI next
    · refine LW.tsIn (tgt := 335) C 3 dL_law_33 h (by decide) (by decide) (by rfl) (by decide) ?_
      exact lwc_boat hs.2.2.2.1 C hL h0 hi hI next
    · refine LW.tsIn (tgt := 388) C 4 dL_law_33 h (by decide) (by decide) (by rfl) (by decide) ?_
      exact lwc_feed hs.2.2.2.2.1 C hL h0 hi hI next
    · refine LW.tsIn (tgt := 451) C 5 dL_law_33 h (by decide) (by decide) (by rfl) (by decide) ?_
      exact lwc_end hs.2.2.2.2.2.1 C hL h0 hi hI next
    · refine LW.tsIn (tgt := 474) C 6 dL_law_33 h (by decide) (by decide) (by rfl) (by decide) ?_
      exact lwc_rules hs.2.2.2.2.2.2.1 C hL h0 hi hI next
    · refine LW.tsIn (tgt := 487) C 7 dL_law_33 h (by decide) (by decide) (by rfl) (by decide) ?_
      exact lwc_fault hs.2.2.2.2.2.2.2.1 C hL h0 hi hI next
    · refine LW.tsIn (tgt := 510) C 8 dL_law_33 h (by decide) (by decide) (by rfl) (by decide) ?_
      exact lwc_open hs.2.2.2.2.2.2.2.2.1 C hL h0 hi hI next
    · refine LW.tsIn (tgt := 543) C 9 dL_law_33 h (by decide) (by decide) (by rfl) (by decide) ?_
      exact lwc_comes hs.2.2.2.2.2.2.2.2.2.1 C hL h0 hi hI next
    · refine LW.tsIn (tgt := 596) C 10 dL_law_33 h (by decide) (by decide) (by rfl) (by decide) ?_
      exact lwc_maybe hs.2.2.2.2.2.2.2.2.2.2.1 C hL h0 hi hI next
    · refine LW.tsIn (tgt := 649) C 11 dL_law_33 h (by decide) (by decide) (by rfl) (by decide) ?_
      exact lwc_harm hs.2.2.2.2.2.2.2.2.2.2.2.1 C hL h0 hi hI next
    · refine LW.tsIn (tgt := 702) C 12 dL_law_33 h (by decide) (by decide) (by rfl) (by decide) ?_
      exact lwc_back hs.2.2.2.2.2.2.2.2.2.2.2.2.1 C hL h0 hi hI next
    · refine LW.tsIn (tgt := 735) C 13 dL_law_33 h (by decide) (by decide) (by rfl) (by decide) ?_
      exact lwc_rung hs.2.2.2.2.2.2.2.2.2.2.2.2.2.1 C hL h0 hi hI next
    · refine LW.tsIn (tgt := 748) C 14 dL_law_33 h (by decide) (by decide) (by rfl) (by decide) ?_
      exact lwc_pump hs.2.2.2.2.2.2.2.2.2.2.2.2.2.2.1 C hL h0 hi hI next
    · refine LW.tsIn (tgt := 797) C 15 dL_law_33 h (by decide) (by decide) (by rfl) (by decide) ?_
      exact lwc_pumped hs.2.2.2.2.2.2.2.2.2.2.2.2.2.2.2.1 C hL h0 hi hI next
    · refine LW.tsIn (tgt := 860) C 16 dL_law_33 h (by decide) (by decide) (by rfl) (by decide) ?_
      exact lwc_enough hs.2.2.2.2.2.2.2.2.2.2.2.2.2.2.2.2.1 C hL h0 hi hI next
    · refine LW.tsIn (tgt := 923) C 17 dL_law_33 h (by decide) (by decide) (by rfl) (by decide) ?_
      exact lwc_trip hs.2.2.2.2.2.2.2.2.2.2.2.2.2.2.2.2.2.1 C hL h0 hi hI next
    · refine LW.tsIn (tgt := 986) C 18 dL_law_33 h (by decide) (by decide) (by rfl) (by decide) ?_
      exact lwc_late hs.2.2.2.2.2.2.2.2.2.2.2.2.2.2.2.2.2.2.1 C hL h0 hi hI next
    · refine LW.tsIn (tgt := 1009) C 19 dL_law_33 h (by decide) (by decide) (by rfl) (by decide) ?_
      exact lwc_log hs.2.2.2.2.2.2.2.2.2.2.2.2.2.2.2.2.2.2.2.1 C hL h0 hi hI next
    · refine LW.tsIn (tgt := 1052) C 20 dL_law_33 h (by decide) (by decide) (by rfl) (by decide) ?_
      exact lwc_could hs.2.2.2.2.2.2.2.2.2.2.2.2.2.2.2.2.2.2.2.2.1 C hL h0 hi hI next
    · refine LW.tsIn (tgt := 1105) C 21 dL_law_33 h (by decide) (by decide) (by rfl) (by decide) ?_
      exact lwc_whose hs.2.2.2.2.2.2.2.2.2.2.2.2.2.2.2.2.2.2.2.2.2.1 C hL h0 hi hI next
    · refine LW.tsIn (tgt := 1158) C 22 dL_law_33 h (by decide) (by decide) (by rfl) (by decide) ?_
      exact lwc_tonight hs.2.2.2.2.2.2.2.2.2.2.2.2.2.2.2.2.2.2.2.2.2.2.1 C hL h0 hi hI next
    · refine LW.tsIn (tgt := 1191) C 23 dL_law_33 h (by decide) (by decide) (by rfl) (by decide) ?_
      exact lwc_queue hs.2.2.2.2.2.2.2.2.2.2.2.2.2.2.2.2.2.2.2.2.2.2.2.1 C hL h0 hi hI next
    · refine LW.tsIn (tgt := 1224) C 24 dL_law_33 h (by decide) (by decide) (by rfl) (by decide) ?_
      exact lwc_lock hs.2.2.2.2.2.2.2.2.2.2.2.2.2.2.2.2.2.2.2.2.2.2.2.2.1 C hL h0 hi hI next
    · refine LW.tsIn (tgt := 1247) C 25 dL_law_33 h (by decide) (by decide) (by rfl) (by decide) ?_
      exact lwc_booking hs.2.2.2.2.2.2.2.2.2.2.2.2.2.2.2.2.2.2.2.2.2.2.2.2.2.1 C hL h0 hi hI next
    · refine LW.tsIn (tgt := 1300) C 26 dL_law_33 h (by decide) (by decide) (by rfl) (by decide) ?_
      exact lwc_given hs.2.2.2.2.2.2.2.2.2.2.2.2.2.2.2.2.2.2.2.2.2.2.2.2.2.2.1 C hL h0 hi hI next
    · refine LW.tsIn (tgt := 1333) C 27 dL_law_33 h (by decide) (by decide) (by rfl) (by decide) ?_
      exact lwc_more hs.2.2.2.2.2.2.2.2.2.2.2.2.2.2.2.2.2.2.2.2.2.2.2.2.2.2.2.1 C hL h0 hi hI next
    · refine LW.tsIn (tgt := 1376) C 28 dL_law_33 h (by decide) (by decide) (by rfl) (by decide) ?_
      exact lwc_gas hs.2.2.2.2.2.2.2.2.2.2.2.2.2.2.2.2.2.2.2.2.2.2.2.2.2.2.2.2.1 C hL h0 hi hI next
    · refine LW.tsIn (tgt := 1419) C 29 dL_law_33 h (by decide) (by decide) (by rfl) (by decide) ?_
      exact lwc_dock hs.2.2.2.2.2.2.2.2.2.2.2.2.2.2.2.2.2.2.2.2.2.2.2.2.2.2.2.2.2.1 C hL h0 hi hI next
    · refine LW.tsIn (tgt := 1442) C 30 dL_law_33 h (by decide) (by decide) (by rfl) (by decide) ?_
      exact lwc_job hs.2.2.2.2.2.2.2.2.2.2.2.2.2.2.2.2.2.2.2.2.2.2.2.2.2.2.2.2.2.2.1 C hL h0 hi hI next
    · refine LW.tsIn (tgt := 1465) C 31 dL_law_33 h (by decide) (by decide) (by rfl) (by decide) ?_
      exact lwc_turned hs.2.2.2.2.2.2.2.2.2.2.2.2.2.2.2.2.2.2.2.2.2.2.2.2.2.2.2.2.2.2.2.1 C hL h0 hi hI next
    · refine LW.tsIn (tgt := 1498) C 32 dL_law_33 h (by decide) (by decide) (by rfl) (by decide) ?_
      exact lwc_weight hs.2.2.2.2.2.2.2.2.2.2.2.2.2.2.2.2.2.2.2.2.2.2.2.2.2.2.2.2.2.2.2.2.1 C hL h0 hi hI next
    · refine LW.tsIn (tgt := 1531) C 33 dL_law_33 h (by decide) (by decide) (by rfl) (by decide) ?_
      exact lwc_van hs.2.2.2.2.2.2.2.2.2.2.2.2.2.2.2.2.2.2.2.2.2.2.2.2.2.2.2.2.2.2.2.2.2.1 C hL h0 hi hI next
    · refine LW.tsIn (tgt := 1554) C 34 dL_law_33 h (by decide) (by decide) (by rfl) (by decide) ?_
      exact lwc_vans hs.2.2.2.2.2.2.2.2.2.2.2.2.2.2.2.2.2.2.2.2.2.2.2.2.2.2.2.2.2.2.2.2.2.2.1 C hL h0 hi hI next
    · refine LW.tsIn (tgt := 1577) C 35 dL_law_33 h (by decide) (by decide) (by rfl) (by decide) ?_
      exact lwc_call hs.2.2.2.2.2.2.2.2.2.2.2.2.2.2.2.2.2.2.2.2.2.2.2.2.2.2.2.2.2.2.2.2.2.2.2.1 C hL h0 hi hI next
    · refine LW.tsIn (tgt := 1620) C 36 dL_law_33 h (by decide) (by decide) (by rfl) (by decide) ?_
      exact lwc_taken hs.2.2.2.2.2.2.2.2.2.2.2.2.2.2.2.2.2.2.2.2.2.2.2.2.2.2.2.2.2.2.2.2.2.2.2.2.1 C hL h0 hi hI next
    · refine LW.tsIn (tgt := 1663) C 37 dL_law_33 h (by decide) (by decide) (by rfl) (by decide) ?_
      exact lwc_left hs.2.2.2.2.2.2.2.2.2.2.2.2.2.2.2.2.2.2.2.2.2.2.2.2.2.2.2.2.2.2.2.2.2.2.2.2.2.1 C hL h0 hi hI next
    · refine LW.tsIn (tgt := 1726) C 38 dL_law_33 h (by decide) (by decide) (by rfl) (by decide) ?_
      exact lwc_shuts hs.2.2.2.2.2.2.2.2.2.2.2.2.2.2.2.2.2.2.2.2.2.2.2.2.2.2.2.2.2.2.2.2.2.2.2.2.2.2.1 C hL h0 hi hI next
    · refine LW.tsIn (tgt := 1779) C 39 dL_law_33 h (by decide) (by decide) (by rfl) (by decide) ?_
      exact lwc_price hs.2.2.2.2.2.2.2.2.2.2.2.2.2.2.2.2.2.2.2.2.2.2.2.2.2.2.2.2.2.2.2.2.2.2.2.2.2.2.2.1 C hL h0 hi hI next
    · refine LW.tsIn (tgt := 1838) C 40 dL_law_33 h (by decide) (by decide) (by rfl) (by decide) ?_
      exact lwc_held hs.2.2.2.2.2.2.2.2.2.2.2.2.2.2.2.2.2.2.2.2.2.2.2.2.2.2.2.2.2.2.2.2.2.2.2.2.2.2.2.2.1 C hL h0 hi hI next
    · refine LW.tsIn (tgt := 1891) C 41 dL_law_33 h (by decide) (by decide) (by rfl) (by decide) ?_
      exact lwc_look hs.2.2.2.2.2.2.2.2.2.2.2.2.2.2.2.2.2.2.2.2.2.2.2.2.2.2.2.2.2.2.2.2.2.2.2.2.2.2.2.2.2 C hL h0 hi hI next
end LAWW
