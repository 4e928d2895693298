section LAWW
variable {p : Program} {l : Launch} {e : Env} {s : State} {m : MethodId} {below : List Frame} {meth : Method} {c : Code} {b L : Nat} {xs : Nat → Int32} {z : AZ} {pc : Nat} {lv : List (Nat × Value)} {st : List Value} {g : AG}
theorem lwc_pump {Inv0 Inv : AG → Prop} (hsim : Sim_pump Inv0 Inv) (C : LC p s m meth c b L xs z) (hL : L ≤ 3072) {i : Int} (h0 : 0 ≤ i) (h1 : i + 6 ≤ L) (hI : Inv0 g) (kk : ∀ g9, Inv g9 → LW p l e s m below meth c b z 1914 [(3, iv i), (2, rv z 117), (1, rv z 0), (0, .ref b)] [] g9) : LW p l e s m below meth c b z 748 [(3, iv i), (2, rv z 117), (1, rv z 0), (0, .ref b)] [] g := by
  by_cases hb : nw (xs (ix (i + 2))).toInt = 0
  · obtain ⟨r1, r2, e1, e2, hv, hI2⟩ := hsim ((xs (ix (i + 1))).toInt) (0) g (I32_of _) (Or.inl rfl) hI
    refine LW.aload_n C 2 (dcN_6 dLg_19 :) rfl ?_
    refine LW.aload_n C 3 (dcN_7 dLg_19 :) rfl ?_
    refine LW.iload_n C 0 (dcN_8 dLg_19 :) rfl ?_
    refine LW.iconst C (dcN_9 dLg_19 :) ?_
    refine LW.iadd C (dcN_10 dLg_19 :) ?_
    refine LW.sld C (lw_in hL h0 h1 (by decide) (by decide)) (dcN_11 dLg_19 :) ?_
    refine LW.aload_n C 3 (dcN_12 dLg_19 :) rfl ?_
    refine LW.iload_n C 0 (dcN_13 dLg_19 :) rfl ?_
    refine LW.iconst C (dcN_14 dLg_19 :) ?_
    refine LW.iadd C (dcN_15 dLg_19 :) ?_
    refine LW.sld C (lw_in hL h0 h1 (by decide) (by decide)) (dcN_16 dLg_19 :) ?_
    refine LW.if_eq (tgt := 766) C (dcN_17 dLg_19 :) (by decide) (fun _ => ?_) (fun q => absurd hb q)
    refine LW.iconst C (dcN_20 dLg_19 :) ?_
    refine LW.callV C (As := [iv (xs (ix (i + 1))).toInt, iv 0]) (st := []) (X_pump_ok e1) cqL_77 crL_77 (by decide) rfl (dcN_21 dLg_19 :) rfl (Nat.le_of_ble_eq_true rfl) ?_
    refine LW.pop C (dcN_0 dLg_20 :) ?_
    refine LW.aload_n C 1 (dcN_1 dLg_20 :) rfl ?_
    refine LW.aload_n C 3 (dcN_2 dLg_20 :) rfl ?_
    refine LW.iload_n C 0 (dcN_3 dLg_20 :) rfl ?_
    refine LW.iconst C (dcN_4 dLg_20 :) ?_
    refine LW.iadd C (dcN_5 dLg_20 :) ?_
    refine LW.sld C (lw_in hL h0 h1 (by decide) (by decide)) (dcN_6 dLg_20 :) ?_
    refine LW.aload_n C 3 (dcN_7 dLg_20 :) rfl ?_
    refine LW.iload_n C 0 (dcN_8 dLg_20 :) rfl ?_
    refine LW.iconst C (dcN_9 dLg_20 :) ?_
    refine LW.iadd C (dcN_10 dLg_20 :) ?_
    refine LW.sld C (lw_in hL h0 h1 (by decide) (by decide)) (dcN_11 dLg_20 :) ?_
    refine LW.if_eq (tgt := 789) C (dcN_12 dLg_20 :) (by decide) (fun _ => ?_) (fun q => absurd hb q)
    refine LW.iconst C (dcN_15 dLg_20 :) ?_
    refine LW.callV C (As := [iv (xs (ix (i + 1))).toInt, iv 0]) (st := []) (M_pump_ok e2) cqL_81 crL_81 (by decide) rfl (dcN_16 dLg_20 :) rfl (Nat.le_of_ble_eq_true rfl) ?_
    refine LW.pop C (dcN_17 dLg_20 :) ?_
    refine LW.goto (tgt := 1914) C (dcN_18 dLg_20 :) (by decide) ?_
    exact kk _ hI2
  · obtain ⟨r1, r2, e1, e2, hv, hI2⟩ := hsim ((xs (ix (i + 1))).toInt) (1) g (I32_of _) (Or.inr rfl) hI
    refine LW.aload_n C 2 (dcN_6 dLg_19 :) rfl ?_
    refine LW.aload_n C 3 (dcN_7 dLg_19 :) rfl ?_
    refine LW.iload_n C 0 (dcN_8 dLg_19 :) rfl ?_
    refine LW.iconst C (dcN_9 dLg_19 :) ?_
    refine LW.iadd C (dcN_10 dLg_19 :) ?_
    refine LW.sld C (lw_in hL h0 h1 (by decide) (by decide)) (dcN_11 dLg_19 :) ?_
    refine LW.aload_n C 3 (dcN_12 dLg_19 :) rfl ?_
    refine LW.iload_n C 0 (dcN_13 dLg_19 :) rfl ?_
    refine LW.iconst C (dcN_14 dLg_19 :) ?_
    refine LW.iadd C (dcN_15 dLg_19 :) ?_
    refine LW.sld C (lw_in hL h0 h1 (by decide) (by decide)) (dcN_16 dLg_19 :) ?_
    refine LW.if_eq (tgt := 766) C (dcN_17 dLg_19 :) (by decide) (fun q => absurd q hb) (fun _ => ?_)
    refine LW.iconst C (dcN_18 dLg_19 :) ?_
    refine LW.goto (tgt := 767) C (dcN_19 dLg_19 :) (by decide) ?_
    refine LW.callV C (As := [iv (xs (ix (i + 1))).toInt, iv 1]) (st := []) (X_pump_ok e1) cqL_77 crL_77 (by decide) rfl (dcN_21 dLg_19 :) rfl (Nat.le_of_ble_eq_true rfl) ?_
    refine LW.pop C (dcN_0 dLg_20 :) ?_
    refine LW.aload_n C 1 (dcN_1 dLg_20 :) rfl ?_
    refine LW.aload_n C 3 (dcN_2 dLg_20 :) rfl ?_
    refine LW.iload_n C 0 (dcN_3 dLg_20 :) rfl ?_
    refine LW.iconst C (dcN_4 dLg_20 :) ?_
    refine LW.iadd C (dcN_5 dLg_20 :) ?_
    refine LW.sld C (lw_in hL h0 h1 (by decide) (by decide)) (dcN_6 dLg_20 :) ?_
    refine LW.aload_n C 3 (dcN_7 dLg_20 :) rfl ?_
    refine LW.iload_n C 0 (dcN_8 dLg_20 :) rfl ?_
    refine LW.iconst C (dcN_9 dLg_20 :) ?_
    refine LW.iadd C (dcN_10 dLg_20 :) ?_
    refine LW.sld C (lw_in hL h0 h1 (by decide) (by decide)) (dcN_11 dLg_20 :) ?_
    refine LW.if_eq (tgt := 789) C (dcN_12 dLg_20 :) (by decide) (fun q => absurd q hb) (fun _ => ?_)
    refine LW.iconst C (dcN_13 dLg_20 :) ?_
    refine LW.goto (tgt := 790) C (dcN_14 dLg_20 :) (by decide) ?_
    refine LW.callV C (As := [iv (xs (ix (i + 1))).toInt, iv 1]) (st := []) (M_pump_ok e2) cqL_81 crL_81 (by decide) rfl (dcN_16 dLg_20 :) rfl (Nat.le_of_ble_eq_true rfl) ?_
    refine LW.pop C (dcN_17 dLg_20 :) ?_
    refine LW.goto (tgt := 1914) C (dcN_18 dLg_20 :) (by decide) ?_
    exact kk _ hI2
theorem lwc_pumped {Inv0 Inv : AG → Prop} (hsim : Sim_pumped Inv0 Inv) (C : LC p s m meth c b L xs z) (hL : L ≤ 3072) {i : Int} (h0 : 0 ≤ i) (h1 : i + 6 ≤ L) (hI : Inv0 g) (kk : ∀ g9, Inv g9 → LW p l e s m below meth c b z 1914 [(3, iv i), (2, rv z 117), (1, rv z 0), (0, .ref b)] [] g9) : LW p l e s m below meth c b z 797 [(3, iv i), (2, rv z 117), (1, rv z 0), (0, .ref b)] [] g := by
  obtain ⟨r1, r2, e1, e2, hv, hI2⟩ := hsim ((xs (ix (i + 1))).toInt) ((xs (ix (i + 2))).toInt) ((xs (ix (i + 3))).toInt) ((xs (ix (i + 4))).toInt) ((xs (ix (i + 5))).toInt) g (I32_of _) (I32_of _) (I32_of _) (I32_of _) (I32_of _) hI
  refine LW.aload_n C 2 (dcN_19 dLg_20 :) rfl ?_
  refine LW.aload_n C 3 (dcN_20 dLg_20 :) rfl ?_
  refine LW.iload_n C 0 (dcN_21 dLg_20 :) rfl ?_
  refine LW.iconst C (dcN_0 dLg_21 :) ?_
  refine LW.iadd C (dcN_1 dLg_21 :) ?_
  refine LW.sld C (lw_in hL h0 h1 (by decide) (by decide)) (dcN_2 dLg_21 :) ?_
  refine LW.aload_n C 3 (dcN_3 dLg_21 :) rfl ?_
  refine LW.iload_n C 0 (dcN_4 dLg_21 :) rfl ?_
  refine LW.iconst C (dcN_5 dLg_21 :) ?_
  refine LW.iadd C (dcN_6 dLg_21 :) ?_
  refine LW.sld C (lw_in hL h0 h1 (by decide) (by decide)) (dcN_7 dLg_21 :) ?_
  refine LW.aload_n C 3 (dcN_8 dLg_21 :) rfl ?_
  refine LW.iload_n C 0 (dcN_9 dLg_21 :) rfl ?_
  refine LW.iconst C (dcN_10 dLg_21 :) ?_
  refine LW.iadd C (dcN_11 dLg_21 :) ?_
  refine LW.sld C (lw_in hL h0 h1 (by decide) (by decide)) (dcN_12 dLg_21 :) ?_
  refine LW.aload_n C 3 (dcN_13 dLg_21 :) rfl ?_
  refine LW.iload_n C 0 (dcN_14 dLg_21 :) rfl ?_
  refine LW.iconst C (dcN_15 dLg_21 :) ?_
  refine LW.iadd C (dcN_16 dLg_21 :) ?_
  refine LW.sld C (lw_in hL h0 h1 (by decide) (by decide)) (dcN_17 dLg_21 :) ?_
  refine LW.aload_n C 3 (dcN_18 dLg_21 :) rfl ?_
  refine LW.iload_n C 0 (dcN_19 dLg_21 :) rfl ?_
  refine LW.iconst C (dcN_20 dLg_21 :) ?_
  refine LW.iadd C (dcN_21 dLg_21 :) ?_
  refine LW.sld C (lw_in hL h0 h1 (by decide) (by decide)) (dcN_22 dLg_21 :) ?_
  refine LW.callV C (As := [iv (xs (ix (i + 1))).toInt, iv (xs (ix (i + 2))).toInt, iv (xs (ix (i + 3))).toInt, iv (xs (ix (i + 4))).toInt, iv (xs (ix (i + 5))).toInt]) (st := []) (X_pumped_ok e1) cqL_82 crL_82 (by decide) rfl (dcN_23 dLg_21 :) rfl (Nat.le_of_ble_eq_true rfl) ?_
  refine LW.pop C (dcN_24 dLg_21 :) ?_
  refine LW.aload_n C 1 (dcN_25 dLg_21 :) rfl ?_
  refine LW.aload_n C 3 (dcN_26 dLg_21 :) rfl ?_
  refine LW.iload_n C 0 (dcN_27 dLg_21 :) rfl ?_
  refine LW.iconst C (dcN_28 dLg_21 :) ?_
  refine LW.iadd C (dcN_29 dLg_21 :) ?_
  refine LW.sld C (lw_in hL h0 h1 (by decide) (by decide)) (dcN_0 dLg_22 :) ?_
  refine LW.aload_n C 3 (dcN_1 dLg_22 :) rfl ?_
  refine LW.iload_n C 0 (dcN_2 dLg_22 :) rfl ?_
  refine LW.iconst C (dcN_3 dLg_22 :) ?_
  refine LW.iadd C (dcN_4 dLg_22 :) ?_
  refine LW.sld C (lw_in hL h0 h1 (by decide) (by decide)) (dcN_5 dLg_22 :) ?_
  refine LW.aload_n C 3 (dcN_6 dLg_22 :) rfl ?_
  refine LW.iload_n C 0 (dcN_7 dLg_22 :) rfl ?_
  refine LW.iconst C (dcN_8 dLg_22 :) ?_
  refine LW.iadd C (dcN_9 dLg_22 :) ?_
  refine LW.sld C (lw_in hL h0 h1 (by decide) (by decide)) (dcN_10 dLg_22 :) ?_
  refine LW.aload_n C 3 (dcN_11 dLg_22 :) rfl ?_
  refine LW.iload_n C 0 (dcN_12 dLg_22 :) rfl ?_
  refine LW.iconst C (dcN_13 dLg_22 :) ?_
  refine LW.iadd C (dcN_14 dLg_22 :) ?_
  refine LW.sld C (lw_in hL h0 h1 (by decide) (by decide)) (dcN_15 dLg_22 :) ?_
  refine LW.aload_n C 3 (dcN_16 dLg_22 :) rfl ?_
  refine LW.iload_n C 0 (dcN_17 dLg_22 :) rfl ?_
  refine LW.iconst C (dcN_18 dLg_22 :) ?_
  refine LW.iadd C (dcN_19 dLg_22 :) ?_
  refine LW.sld C (lw_in hL h0 h1 (by decide) (by decide)) (dcN_20 dLg_22 :) ?_
  refine LW.callV C (As := [iv (xs (ix (i + 1))).toInt, iv (xs (ix (i + 2))).toInt, iv (xs (ix (i + 3))).toInt, iv (xs (ix (i + 4))).toInt, iv (xs (ix (i + 5))).toInt]) (st := []) (M_pumped_ok e2) cqL_85 crL_85 (by decide) rfl (dcN_21 dLg_22 :) rfl (Nat.le_of_ble_eq_true rfl) ?_
  refine LW.pop C (dcN_22 dLg_22 :) ?_
  refine LW.goto (tgt := 1914) C (dcN_23 dLg_22 :) (by decide) ?_
  exact kk _ hI2
theorem lwc_enough {Inv0 Inv : AG → Prop} (hsim : Sim_enough Inv0 Inv) (C : LC p s m meth c b L xs z) (hL : L ≤ 3072) {i : Int} (h0 : 0 ≤ i) (h1 : i + 6 ≤ L) (hI : Inv0 g) (kk : ∀ g9, Inv g9 → LW p l e s m below meth c b z 1914 [(3, iv i), (2, rv z 117), (1, rv z 0), (0, .ref b)] [] g9) : LW p l e s m below meth c b z 860 [(3, iv i), (2, rv z 117), (1, rv z 0), (0, .ref b)] [] g := by
  obtain ⟨r1, r2, e1, e2, hv, hI2⟩ := hsim ((xs (ix (i + 1))).toInt) ((xs (ix (i + 2))).toInt) ((xs (ix (i + 3))).toInt) ((xs (ix (i + 4))).toInt) ((xs (ix (i + 5))).toInt) g (I32_of _) (I32_of _) (I32_of _) (I32_of _) (I32_of _) hI
  refine LW.aload_n C 2 (dcN_24 dLg_22 :) rfl ?_
  refine LW.aload_n C 3 (dcN_25 dLg_22 :) rfl ?_
  refine LW.iload_n C 0 (dcN_26 dLg_22 :) rfl ?_
  refine LW.iconst C (dcN_27 dLg_22 :) ?_
  refine LW.iadd C (dcN_0 dLg_23 :) ?_
  refine LW.sld C (lw_in hL h0 h1 (by decide) (by decide)) (dcN_1 dLg_23 :) ?_
  refine LW.aload_n C 3 (dcN_2 dLg_23 :) rfl ?_
  refine LW.iload_n C 0 (dcN_3 dLg_23 :) rfl ?_
  refine LW.iconst C (dcN_4 dLg_23 :) ?_
  refine LW.iadd C (dcN_5 dLg_23 :) ?_
  refine LW.sld C (lw_in hL h0 h1 (by decide) (by decide)) (dcN_6 dLg_23 :) ?_
  refine LW.aload_n C 3 (dcN_7 dLg_23 :) rfl ?_
  refine LW.iload_n C 0 (dcN_8 dLg_23 :) rfl ?_
  refine LW.iconst C (dcN_9 dLg_23 :) ?_
  refine LW.iadd C (dcN_10 dLg_23 :) ?_
  refine LW.sld C (lw_in hL h0 h1 (by decide) (by decide)) (dcN_11 dLg_23 :) ?_
  refine LW.aload_n C 3 (dcN_12 dLg_23 :) rfl ?_
  refine LW.iload_n C 0 (dcN_13 dLg_23 :) rfl ?_
  refine LW.iconst C (dcN_14 dLg_23 :) ?_
  refine LW.iadd C (dcN_15 dLg_23 :) ?_
  refine LW.sld C (lw_in hL h0 h1 (by decide) (by decide)) (dcN_16 dLg_23 :) ?_
  refine LW.aload_n C 3 (dcN_17 dLg_23 :) rfl ?_
  refine LW.iload_n C 0 (dcN_18 dLg_23 :) rfl ?_
  refine LW.iconst C (dcN_19 dLg_23 :) ?_
  refine LW.iadd C (dcN_20 dLg_23 :) ?_
  refine LW.sld C (lw_in hL h0 h1 (by decide) (by decide)) (dcN_21 dLg_23 :) ?_
  refine LW.callV C (As := [iv (xs (ix (i + 1))).toInt, iv (xs (ix (i + 2))).toInt, iv (xs (ix (i + 3))).toInt, iv (xs (ix (i + 4))).toInt, iv (xs (ix (i + 5))).toInt]) (st := []) (X_enough_ok e1) cqL_86 crL_86 (by decide) rfl (dcN_22 dLg_23 :) rfl (Nat.le_of_ble_eq_true rfl) ?_
  refine LW.pop C (dcN_23 dLg_23 :) ?_
  refine LW.aload_n C 1 (dcN_24 dLg_23 :) rfl ?_
  refine LW.aload_n C 3 (dcN_25 dLg_23 :) rfl ?_
  refine LW.iload_n C 0 (dcN_26 dLg_23 :) rfl ?_
  refine LW.iconst C (dcN_27 dLg_23 :) ?_
  refine LW.iadd C (dcN_28 dLg_23 :) ?_
  refine LW.sld C (lw_in hL h0 h1 (by decide) (by decide)) (dcN_29 dLg_23 :) ?_
  refine LW.aload_n C 3 (dcN_0 dLg_24 :) rfl ?_
  refine LW.iload_n C 0 (dcN_1 dLg_24 :) rfl ?_
  refine LW.iconst C (dcN_2 dLg_24 :) ?_
  refine LW.iadd C (dcN_3 dLg_24 :) ?_
  refine LW.sld C (lw_in hL h0 h1 (by decide) (by decide)) (dcN_4 dLg_24 :) ?_
  refine LW.aload_n C 3 (dcN_5 dLg_24 :) rfl ?_
  refine LW.iload_n C 0 (dcN_6 dLg_24 :) rfl ?_
  refine LW.iconst C (dcN_7 dLg_24 :) ?_
  refine LW.iadd C (dcN_8 dLg_24 :) ?_
  refine LW.sld C (lw_in hL h0 h1 (by decide) (by decide)) (dcN_9 dLg_24 :) ?_
  refine LW.aload_n C 3 (dcN_10 dLg_24 :) rfl ?_
  refine LW.iload_n C 0 (dcN_11 dLg_24 :) rfl ?_
  refine LW.iconst C (dcN_12 dLg_24 :) ?_
  refine LW.iadd C (dcN_13 dLg_24 :) ?_
  refine LW.sld C (lw_in hL h0 h1 (by decide) (by decide)) (dcN_14 dLg_24 :) ?_
  refine LW.aload_n C 3 (dcN_15 dLg_24 :) rfl ?_
  refine LW.iload_n C 0 (dcN_16 dLg_24 :) rfl ?_
  refine LW.iconst C (dcN_17 dLg_24 :) ?_
  refine LW.iadd C (dcN_18 dLg_24 :) ?_
  refine LW.sld C (lw_in hL h0 h1 (by decide) (by decide)) (dcN_19 dLg_24 :) ?_
  refine LW.callV C (As := [iv (xs (ix (i + 1))).toInt, iv (xs (ix (i + 2))).toInt, iv (xs (ix (i + 3))).toInt, iv (xs (ix (i + 4))).toInt, iv (xs (ix (i + 5))).toInt]) (st := []) (M_enough_ok e2) cqL_89 crL_89 (by decide) rfl (dcN_20 dLg_24 :) rfl (Nat.le_of_ble_eq_true rfl) ?_
  refine LW.pop C (dcN_21 dLg_24 :) ?_
  refine LW.goto (tgt := 1914) C (dcN_22 dLg_24 :) (by decide) ?_
  exact kk _ hI2
theorem lwc_trip {Inv0 Inv : AG → Prop} (hsim : Sim_trip Inv0 Inv) (C : LC p s m meth c b L xs z) (hL : L ≤ 3072) {i : Int} (h0 : 0 ≤ i) (h1 : i + 6 ≤ L) (hI : Inv0 g) (kk : ∀ g9, Inv g9 → LW p l e s m below meth c b z 1914 [(3, iv i), (2, rv z 117), (1, rv z 0), (0, .ref b)] [] g9) : LW p l e s m below meth c b z 923 [(3, iv i), (2, rv z 117), (1, rv z 0), (0, .ref b)] [] g := by
  obtain ⟨r1, r2, e1, e2, hv, hI2⟩ := hsim ((xs (ix (i + 1))).toInt) ((xs (ix (i + 2))).toInt) ((xs (ix (i + 3))).toInt) ((xs (ix (i + 4))).toInt) ((xs (ix (i + 5))).toInt) g (I32_of _) (I32_of _) (I32_of _) (I32_of _) (I32_of _) hI
  refine LW.aload_n C 2 (dcN_23 dLg_24 :) rfl ?_
  refine LW.aload_n C 3 (dcN_24 dLg_24 :) rfl ?_
  refine LW.iload_n C 0 (dcN_25 dLg_24 :) rfl ?_
  refine LW.iconst C (dcN_26 dLg_24 :) ?_
  refine LW.iadd C (dcN_27 dLg_24 :) ?_
  refine LW.sld C (lw_in hL h0 h1 (by decide) (by decide)) (dcN_0 dLg_25 :) ?_
  refine LW.aload_n C 3 (dcN_1 dLg_25 :) rfl ?_
  refine LW.iload_n C 0 (dcN_2 dLg_25 :) rfl ?_
  refine LW.iconst C (dcN_3 dLg_25 :) ?_
  refine LW.iadd C (dcN_4 dLg_25 :) ?_
  refine LW.sld C (lw_in hL h0 h1 (by decide) (by decide)) (dcN_5 dLg_25 :) ?_
  refine LW.aload_n C 3 (dcN_6 dLg_25 :) rfl ?_
  refine LW.iload_n C 0 (dcN_7 dLg_25 :) rfl ?_
  refine LW.iconst C (dcN_8 dLg_25 :) ?_
  refine LW.iadd C (dcN_9 dLg_25 :) ?_
  refine LW.sld C (lw_in hL h0 h1 (by decide) (by decide)) (dcN_10 dLg_25 :) ?_
  refine LW.aload_n C 3 (dcN_11 dLg_25 :) rfl ?_
  refine LW.iload_n C 0 (dcN_12 dLg_25 :) rfl ?_
  refine LW.iconst C (dcN_13 dLg_25 :) ?_
  refine LW.iadd C (dcN_14 dLg_25 :) ?_
  refine LW.sld C (lw_in hL h0 h1 (by decide) (by decide)) (dcN_15 dLg_25 :) ?_
  refine LW.aload_n C 3 (dcN_16 dLg_25 :) rfl ?_
  refine LW.iload_n C 0 (dcN_17 dLg_25 :) rfl ?_
  refine LW.iconst C (dcN_18 dLg_25 :) ?_
  refine LW.iadd C (dcN_19 dLg_25 :) ?_
  refine LW.sld C (lw_in hL h0 h1 (by decide) (by decide)) (dcN_20 dLg_25 :) ?_
  refine LW.callV C (As := [iv (xs (ix (i + 1))).toInt, iv (xs (ix (i + 2))).toInt, iv (xs (ix (i + 3))).toInt, iv (xs (ix (i + 4))).toInt, iv (xs (ix (i + 5))).toInt]) (st := []) (X_trip_ok e1) cqL_90 crL_90 (by decide) rfl (dcN_21 dLg_25 :) rfl (Nat.le_of_ble_eq_true rfl) ?_
  refine LW.pop C (dcN_22 dLg_25 :) ?_
  refine LW.aload_n C 1 (dcN_23 dLg_25 :) rfl ?_
  refine LW.aload_n C 3 (dcN_24 dLg_25 :) rfl ?_
  refine LW.iload_n C 0 (dcN_25 dLg_25 :) rfl ?_
  refine LW.iconst C (dcN_26 dLg_25 :) ?_
  refine LW.iadd C (dcN_27 dLg_25 :) ?_
  refine LW.sld C (lw_in hL h0 h1 (by decide) (by decide)) (dcN_28 dLg_25 :) ?_
  refine LW.aload_n C 3 (dcN_29 dLg_25 :) rfl ?_
  refine LW.iload_n C 0 (dcN_0 dLg_26 :) rfl ?_
  refine LW.iconst C (dcN_1 dLg_26 :) ?_
  refine LW.iadd C (dcN_2 dLg_26 :) ?_
  refine LW.sld C (lw_in hL h0 h1 (by decide) (by decide)) (dcN_3 dLg_26 :) ?_
  refine LW.aload_n C 3 (dcN_4 dLg_26 :) rfl ?_
  refine LW.iload_n C 0 (dcN_5 dLg_26 :) rfl ?_
  refine LW.iconst C (dcN_6 dLg_26 :) ?_
  refine LW.iadd C (dcN_7 dLg_26 :) ?_
  refine LW.sld C (lw_in hL h0 h1 (by decide) (by decide)) (dcN_8 dLg_26 :) ?_
  refine LW.aload_n C 3 (dcN_9 dLg_26 :) rfl ?_
  refine LW.iload_n C 0 (dcN_10 dLg_26 :) rfl ?_
  refine LW.iconst C (dcN_11 dLg_26 :) ?_
  refine LW.iadd C (dcN_12 dLg_26 :) ?_
  refine LW.sld C (lw_in hL h0 h1 (by decide) (by decide)) (dcN_13 dLg_26 :) ?_
  refine LW.aload_n C 3 (dcN_14 dLg_26 :) rfl ?_
  refine LW.iload_n C 0 (dcN_15 dLg_26 :) rfl ?_
  refine LW.iconst C (dcN_16 dLg_26 :) ?_
  refine LW.iadd C (dcN_17 dLg_26 :) ?_
  refine LW.sld C (lw_in hL h0 h1 (by decide) (by decide)) (dcN_18 dLg_26 :) ?_
  refine LW.callV C (As := [iv (xs (ix (i + 1))).toInt, iv (xs (ix (i + 2))).toInt, iv (xs (ix (i + 3))).toInt, iv (xs (ix (i + 4))).toInt, iv (xs (ix (i + 5))).toInt]) (st := []) (M_trip_ok e2) cqL_93 crL_93 (by decide) rfl (dcN_19 dLg_26 :) rfl (Nat.le_of_ble_eq_true rfl) ?_
  refine LW.pop C (dcN_20 dLg_26 :) ?_
  refine LW.goto (tgt := 1914) C (dcN_21 dLg_26 :) (by decide) ?_
  exact kk _ hI2
theorem lwc_late {Inv0 Inv : AG → Prop} (hsim : Sim_late Inv0 Inv) (C : LC p s m meth c b L xs z) (hL : L ≤ 3072) {i : Int} (h0 : 0 ≤ i) (h1 : i + 6 ≤ L) (hI : Inv0 g) (kk : ∀ g9, Inv g9 → LW p l e s m below meth c b z 1914 [(3, iv i), (2, rv z 117), (1, rv z 0), (0, .ref b)] [] g9) : LW p l e s m below meth c b z 986 [(3, iv i), (2, rv z 117), (1, rv z 0), (0, .ref b)] [] g := by
  obtain ⟨r1, r2, e1, e2, hv, hI2⟩ := hsim ((xs (ix (i + 1))).toInt) g (I32_of _) hI
  refine LW.aload_n C 2 (dcN_22 dLg_26 :) rfl ?_
  refine LW.aload_n C 3 (dcN_23 dLg_26 :) rfl ?_
  refine LW.iload_n C 0 (dcN_24 dLg_26 :) rfl ?_
  refine LW.iconst C (dcN_25 dLg_26 :) ?_
  refine LW.iadd C (dcN_26 dLg_26 :) ?_
  refine LW.sld C (lw_in hL h0 h1 (by decide) (by decide)) (dcN_27 dLg_26 :) ?_
  refine LW.callV C (As := [iv (xs (ix (i + 1))).toInt]) (st := []) (X_late_ok e1) cqL_94 crL_94 (by decide) rfl (dcN_0 dLg_27 :) rfl (Nat.le_of_ble_eq_true rfl) ?_
  refine LW.pop C (dcN_1 dLg_27 :) ?_
  refine LW.aload_n C 1 (dcN_2 dLg_27 :) rfl ?_
  refine LW.aload_n C 3 (dcN_3 dLg_27 :) rfl ?_
  refine LW.iload_n C 0 (dcN_4 dLg_27 :) rfl ?_
  refine LW.iconst C (dcN_5 dLg_27 :) ?_
  refine LW.iadd C (dcN_6 dLg_27 :) ?_
  refine LW.sld C (lw_in hL h0 h1 (by decide) (by decide)) (dcN_7 dLg_27 :) ?_
  refine LW.callV C (As := [iv (xs (ix (i + 1))).toInt]) (st := []) (M_late_ok e2) cqL_97 crL_97 (by decide) rfl (dcN_8 dLg_27 :) rfl (Nat.le_of_ble_eq_true rfl) ?_
  refine LW.pop C (dcN_9 dLg_27 :) ?_
  refine LW.goto (tgt := 1914) C (dcN_10 dLg_27 :) (by decide) ?_
  exact kk _ hI2
theorem lwc_log {Inv0 Inv : AG → Prop} (hsim : Sim_log Inv0 Inv) (C : LC p s m meth c b L xs z) (hL : L ≤ 3072) {i : Int} (h0 : 0 ≤ i) (h1 : i + 6 ≤ L) (hI : Inv0 g) (kk : ∀ g9, Inv g9 → LW p l e s m below meth c b z 1914 [(3, iv i), (2, rv z 117), (1, rv z 0), (0, .ref b)] [] g9) : LW p l e s m below meth c b z 1009 [(3, iv i), (2, rv z 117), (1, rv z 0), (0, .ref b)] [] g := by
  obtain ⟨r1, r2, e1, e2, hv, hI2⟩ := hsim ((xs (ix (i + 1))).toInt) ((xs (ix (i + 2))).toInt) ((xs (ix (i + 3))).toInt) g (I32_of _) (I32_of _) (I32_of _) hI
  refine LW.aload_n C 2 (dcN_11 dLg_27 :) rfl ?_
  refine LW.aload_n C 3 (dcN_12 dLg_27 :) rfl ?_
  refine LW.iload_n C 0 (dcN_13 dLg_27 :) rfl ?_
  refine LW.iconst C (dcN_14 dLg_27 :) ?_
  refine LW.iadd C (dcN_15 dLg_27 :) ?_
  refine LW.sld C (lw_in hL h0 h1 (by decide) (by decide)) (dcN_16 dLg_27 :) ?_
  refine LW.aload_n C 3 (dcN_17 dLg_27 :) rfl ?_
  refine LW.iload_n C 0 (dcN_18 dLg_27 :) rfl ?_
  refine LW.iconst C (dcN_19 dLg_27 :) ?_
  refine LW.iadd C (dcN_20 dLg_27 :) ?_
  refine LW.sld C (lw_in hL h0 h1 (by decide) (by decide)) (dcN_21 dLg_27 :) ?_
  refine LW.aload_n C 3 (dcN_22 dLg_27 :) rfl ?_
  refine LW.iload_n C 0 (dcN_23 dLg_27 :) rfl ?_
  refine LW.iconst C (dcN_24 dLg_27 :) ?_
  refine LW.iadd C (dcN_25 dLg_27 :) ?_
  refine LW.sld C (lw_in hL h0 h1 (by decide) (by decide)) (dcN_0 dLg_28 :) ?_
  refine LW.callV C (As := [iv (xs (ix (i + 1))).toInt, iv (xs (ix (i + 2))).toInt, iv (xs (ix (i + 3))).toInt]) (st := []) (X_log_ok e1) cqL_98 crL_98 (by decide) rfl (dcN_1 dLg_28 :) rfl (Nat.le_of_ble_eq_true rfl) ?_
  refine LW.pop C (dcN_2 dLg_28 :) ?_
  refine LW.aload_n C 1 (dcN_3 dLg_28 :) rfl ?_
  refine LW.aload_n C 3 (dcN_4 dLg_28 :) rfl ?_
  refine LW.iload_n C 0 (dcN_5 dLg_28 :) rfl ?_
  refine LW.iconst C (dcN_6 dLg_28 :) ?_
  refine LW.iadd C (dcN_7 dLg_28 :) ?_
  refine LW.sld C (lw_in hL h0 h1 (by decide) (by decide)) (dcN_8 dLg_28 :) ?_
  refine LW.aload_n C 3 (dcN_9 dLg_28 :) rfl ?_
  refine LW.iload_n C 0 (dcN_10 dLg_28 :) rfl ?_
  refine LW.iconst C (dcN_11 dLg_28 :) ?_
  refine LW.iadd C (dcN_12 dLg_28 :) ?_
  refine LW.sld C (lw_in hL h0 h1 (by decide) (by decide)) (dcN_13 dLg_28 :) ?_
  refine LW.aload_n C 3 (dcN_14 dLg_28 :) rfl ?_
  refine LW.iload_n C 0 (dcN_15 dLg_28 :) rfl ?_
  refine LW.iconst C (dcN_16 dLg_28 :) ?_
  refine LW.iadd C (dcN_17 dLg_28 :) ?_
  refine LW.sld C (lw_in hL h0 h1 (by decide) (by decide)) (dcN_18 dLg_28 :) ?_
  refine LW.callV C (As := [iv (xs (ix (i + 1))).toInt, iv (xs (ix (i + 2))).toInt, iv (xs (ix (i + 3))).toInt]) (st := []) (M_log_ok e2) cqL_101 crL_101 (by decide) rfl (dcN_19 dLg_28 :) rfl (Nat.le_of_ble_eq_true rfl) ?_
  refine LW.pop C (dcN_20 dLg_28 :) ?_
  refine LW.goto (tgt := 1914) C (dcN_21 dLg_28 :) (by decide) ?_
  exact kk _ hI2
theorem lwc_could {Inv0 Inv : AG → Prop} (hsim : Sim_could Inv0 Inv) (C : LC p s m meth c b L xs z) (hL : L ≤ 3072) {i : Int} (h0 : 0 ≤ i) (h1 : i + 6 ≤ L) (hI : Inv0 g) (kk : ∀ g9, Inv g9 → LW p l e s m below meth c b z 1914 [(3, iv i), (2, rv z 117), (1, rv z 0), (0, .ref b)] [] g9) : LW p l e s m below meth c b z 1052 [(3, iv i), (2, rv z 117), (1, rv z 0), (0, .ref b)] [] g := by
  obtain ⟨r1, r2, e1, e2, hv, hI2⟩ := hsim ((xs (ix (i + 1))).toInt) ((xs (ix (i + 2))).toInt) ((xs (ix (i + 3))).toInt) ((xs (ix (i + 4))).toInt) g (I32_of _) (I32_of _) (I32_of _) (I32_of _) hI
  refine LW.aload_n C 2 (dcN_22 dLg_28 :) rfl ?_
  refine LW.aload_n C 3 (dcN_23 dLg_28 :) rfl ?_
  refine LW.iload_n C 0 (dcN_24 dLg_28 :) rfl ?_
  refine LW.iconst C (dcN_25 dLg_28 :) ?_
  refine LW.iadd C (dcN_0 dLg_29 :) ?_
  refine LW.sld C (lw_in hL h0 h1 (by decide) (by decide)) (dcN_1 dLg_29 :) ?_
  refine LW.aload_n C 3 (dcN_2 dLg_29 :) rfl ?_
  refine LW.iload_n C 0 (dcN_3 dLg_29 :) rfl ?_
  refine LW.iconst C (dcN_4 dLg_29 :) ?_
  refine LW.iadd C (dcN_5 dLg_29 :) ?_
  refine LW.sld C (lw_in hL h0 h1 (by decide) (by decide)) (dcN_6 dLg_29 :) ?_
  refine LW.aload_n C 3 (dcN_7 dLg_29 :) rfl ?_
  refine LW.iload_n C 0 (dcN_8 dLg_29 :) rfl ?_
  refine LW.iconst C (dcN_9 dLg_29 :) ?_
  refine LW.iadd C (dcN_10 dLg_29 :) ?_
  refine LW.sld C (lw_in hL h0 h1 (by decide) (by decide)) (dcN_11 dLg_29 :) ?_
  refine LW.aload_n C 3 (dcN_12 dLg_29 :) rfl ?_
  refine LW.iload_n C 0 (dcN_13 dLg_29 :) rfl ?_
  refine LW.iconst C (dcN_14 dLg_29 :) ?_
  refine LW.iadd C (dcN_15 dLg_29 :) ?_
  refine LW.sld C (lw_in hL h0 h1 (by decide) (by decide)) (dcN_16 dLg_29 :) ?_
  refine LW.callV C (As := [iv (xs (ix (i + 1))).toInt, iv (xs (ix (i + 2))).toInt, iv (xs (ix (i + 3))).toInt, iv (xs (ix (i + 4))).toInt]) (st := []) (X_could_ok e1) cqL_102 crL_102 (by decide) rfl (dcN_17 dLg_29 :) rfl (Nat.le_of_ble_eq_true rfl) ?_
  refine LW.pop C (dcN_18 dLg_29 :) ?_
  refine LW.aload_n C 1 (dcN_19 dLg_29 :) rfl ?_
  refine LW.aload_n C 3 (dcN_20 dLg_29 :) rfl ?_
  refine LW.iload_n C 0 (dcN_21 dLg_29 :) rfl ?_
  refine LW.iconst C (dcN_22 dLg_29 :) ?_
  refine LW.iadd C (dcN_23 dLg_29 :) ?_
  refine LW.sld C (lw_in hL h0 h1 (by decide) (by decide)) (dcN_24 dLg_29 :) ?_
  refine LW.aload_n C 3 (dcN_25 dLg_29 :) rfl ?_
  refine LW.iload_n C 0 (dcN_26 dLg_29 :) rfl ?_
  refine LW.iconst C (dcN_27 dLg_29 :) ?_
  refine LW.iadd C (dcN_28 dLg_29 :) ?_
  refine LW.sld C (lw_in hL h0 h1 (by decide) (by decide)) (dcN_29 dLg_29 :) ?_
  refine LW.aload_n C 3 (dcN_0 dLg_30 :) rfl ?_
  refine LW.iload_n C 0 (dcN_1 dLg_30 :) rfl ?_
  refine LW.iconst C (dcN_2 dLg_30 :) ?_
  refine LW.iadd C (dcN_3 dLg_30 :) ?_
  refine LW.sld C (lw_in hL h0 h1 (by decide) (by decide)) (dcN_4 dLg_30 :) ?_
  refine LW.aload_n C 3 (dcN_5 dLg_30 :) rfl ?_
  refine LW.iload_n C 0 (dcN_6 dLg_30 :) rfl ?_
  refine LW.iconst C (dcN_7 dLg_30 :) ?_
  refine LW.iadd C (dcN_8 dLg_30 :) ?_
  refine LW.sld C (lw_in hL h0 h1 (by decide) (by decide)) (dcN_9 dLg_30 :) ?_
  refine LW.callV C (As := [iv (xs (ix (i + 1))).toInt, iv (xs (ix (i + 2))).toInt, iv (xs (ix (i + 3))).toInt, iv (xs (ix (i + 4))).toInt]) (st := []) (M_could_ok e2) cqL_105 crL_105 (by decide) rfl (dcN_10 dLg_30 :) rfl (Nat.le_of_ble_eq_true rfl) ?_
  refine LW.pop C (dcN_11 dLg_30 :) ?_
  refine LW.goto (tgt := 1914) C (dcN_12 dLg_30 :) (by decide) ?_
  exact kk _ hI2
theorem lwc_whose {Inv0 Inv : AG → Prop} (hsim : Sim_whose Inv0 Inv) (C : LC p s m meth c b L xs z) (hL : L ≤ 3072) {i : Int} (h0 : 0 ≤ i) (h1 : i + 6 ≤ L) (hI : Inv0 g) (kk : ∀ g9, Inv g9 → LW p l e s m below meth c b z 1914 [(3, iv i), (2, rv z 117), (1, rv z 0), (0, .ref b)] [] g9) : LW p l e s m below meth c b z 1105 [(3, iv i), (2, rv z 117), (1, rv z 0), (0, .ref b)] [] g := by
  obtain ⟨r1, r2, e1, e2, hv, hI2⟩ := hsim ((xs (ix (i + 1))).toInt) ((xs (ix (i + 2))).toInt) ((xs (ix (i + 3))).toInt) ((xs (ix (i + 4))).toInt) g (I32_of _) (I32_of _) (I32_of _) (I32_of _) hI
  refine LW.aload_n C 2 (dcN_13 dLg_30 :) rfl ?_
  refine LW.aload_n C 3 (dcN_14 dLg_30 :) rfl ?_
  refine LW.iload_n C 0 (dcN_15 dLg_30 :) rfl ?_
  refine LW.iconst C (dcN_16 dLg_30 :) ?_
  refine LW.iadd C (dcN_17 dLg_30 :) ?_
  refine LW.sld C (lw_in hL h0 h1 (by decide) (by decide)) (dcN_18 dLg_30 :) ?_
  refine LW.aload_n C 3 (dcN_19 dLg_30 :) rfl ?_
  refine LW.iload_n C 0 (dcN_20 dLg_30 :) rfl ?_
  refine LW.iconst C (dcN_21 dLg_30 :) ?_
  refine LW.iadd C (dcN_22 dLg_30 :) ?_
  refine LW.sld C (lw_in hL h0 h1 (by decide) (by decide)) (dcN_23 dLg_30 :) ?_
  refine LW.aload_n C 3 (dcN_24 dLg_30 :) rfl ?_
  refine LW.iload_n C 0 (dcN_25 dLg_30 :) rfl ?_
  refine LW.iconst C (dcN_26 dLg_30 :) ?_
  refine LW.iadd C (dcN_27 dLg_30 :) ?_
  refine LW.sld C (lw_in hL h0 h1 (by decide) (by decide)) (dcN_0 dLg_31 :) ?_
  refine LW.aload_n C 3 (dcN_1 dLg_31 :) rfl ?_
  refine LW.iload_n C 0 (dcN_2 dLg_31 :) rfl ?_
  refine LW.iconst C (dcN_3 dLg_31 :) ?_
  refine LW.iadd C (dcN_4 dLg_31 :) ?_
  refine LW.sld C (lw_in hL h0 h1 (by decide) (by decide)) (dcN_5 dLg_31 :) ?_
  refine LW.callV C (As := [iv (xs (ix (i + 1))).toInt, iv (xs (ix (i + 2))).toInt, iv (xs (ix (i + 3))).toInt, iv (xs (ix (i + 4))).toInt]) (st := []) (X_whose_ok e1) cqL_106 crL_106 (by decide) rfl (dcN_6 dLg_31 :) rfl (Nat.le_of_ble_eq_true rfl) ?_
  refine LW.pop C (dcN_7 dLg_31 :) ?_
  refine LW.aload_n C 1 (dcN_8 dLg_31 :) rfl ?_
  refine LW.aload_n C 3 (dcN_9 dLg_31 :) rfl ?_
  refine LW.iload_n C 0 (dcN_10 dLg_31 :) rfl ?_
  refine LW.iconst C (dcN_11 dLg_31 :) ?_
  refine LW.iadd C (dcN_12 dLg_31 :) ?_
  refine LW.sld C (lw_in hL h0 h1 (by decide) (by decide)) (dcN_13 dLg_31 :) ?_
  refine LW.aload_n C 3 (dcN_14 dLg_31 :) rfl ?_
  refine LW.iload_n C 0 (dcN_15 dLg_31 :) rfl ?_
  refine LW.iconst C (dcN_16 dLg_31 :) ?_
  refine LW.iadd C (dcN_17 dLg_31 :) ?_
  refine LW.sld C (lw_in hL h0 h1 (by decide) (by decide)) (dcN_18 dLg_31 :) ?_
  refine LW.aload_n C 3 (dcN_19 dLg_31 :) rfl ?_
  refine LW.iload_n C 0 (dcN_20 dLg_31 :) rfl ?_
  refine LW.iconst C (dcN_21 dLg_31 :) ?_
  refine LW.iadd C (dcN_22 dLg_31 :) ?_
  refine LW.sld C (lw_in hL h0 h1 (by decide) (by decide)) (dcN_23 dLg_31 :) ?_
  refine LW.aload_n C 3 (dcN_24 dLg_31 :) rfl ?_
  refine LW.iload_n C 0 (dcN_25 dLg_31 :) rfl ?_
  refine LW.iconst C (dcN_26 dLg_31 :) ?_
  refine LW.iadd C (dcN_27 dLg_31 :) ?_
  refine LW.sld C (lw_in hL h0 h1 (by decide) (by decide)) (dcN_28 dLg_31 :) ?_
  refine LW.callV C (As := [iv (xs (ix (i + 1))).toInt, iv (xs (ix (i + 2))).toInt, iv (xs (ix (i + 3))).toInt, iv (xs (ix (i + 4))).toInt]) (st := []) (M_whose_ok e2) cqL_109 crL_109 (by decide) rfl (dcN_29 dLg_31 :) rfl (Nat.le_of_ble_eq_true rfl) ?_
  refine LW.pop C (dcN_0 dLg_32 :) ?_
  refine LW.goto (tgt := 1914) C (dcN_1 dLg_32 :) (by decide) ?_
  exact kk _ hI2
theorem lwc_tonight {Inv0 Inv : AG → Prop} (hsim : Sim_tonight Inv0 Inv) (C : LC p s m meth c b L xs z) (hL : L ≤ 3072) {i : Int} (h0 : 0 ≤ i) (h1 : i + 6 ≤ L) (hI : Inv0 g) (kk : ∀ g9, Inv g9 → LW p l e s m below meth c b z 1914 [(3, iv i), (2, rv z 117), (1, rv z 0), (0, .ref b)] [] g9) : LW p l e s m below meth c b z 1158 [(3, iv i), (2, rv z 117), (1, rv z 0), (0, .ref b)] [] g := by
  obtain ⟨r1, r2, e1, e2, hv, hI2⟩ := hsim ((xs (ix (i + 1))).toInt) ((xs (ix (i + 2))).toInt) g (I32_of _) (I32_of _) hI
  refine LW.aload_n C 2 (dcN_2 dLg_32 :) rfl ?_
  refine LW.aload_n C 3 (dcN_3 dLg_32 :) rfl ?_
  refine LW.iload_n C 0 (dcN_4 dLg_32 :) rfl ?_
  refine LW.iconst C (dcN_5 dLg_32 :) ?_
  refine LW.iadd C (dcN_6 dLg_32 :) ?_
  refine LW.sld C (lw_in hL h0 h1 (by decide) (by decide)) (dcN_7 dLg_32 :) ?_
  refine LW.aload_n C 3 (dcN_8 dLg_32 :) rfl ?_
  refine LW.iload_n C 0 (dcN_9 dLg_32 :) rfl ?_
  refine LW.iconst C (dcN_10 dLg_32 :) ?_
  refine LW.iadd C (dcN_11 dLg_32 :) ?_
  refine LW.sld C (lw_in hL h0 h1 (by decide) (by decide)) (dcN_12 dLg_32 :) ?_
  refine LW.callV C (As := [iv (xs (ix (i + 1))).toInt, iv (xs (ix (i + 2))).toInt]) (st := []) (X_tonight_ok e1) cqL_110 crL_110 (by decide) rfl (dcN_13 dLg_32 :) rfl (Nat.le_of_ble_eq_true rfl) ?_
  refine LW.pop C (dcN_14 dLg_32 :) ?_
  refine LW.aload_n C 1 (dcN_15 dLg_32 :) rfl ?_
  refine LW.aload_n C 3 (dcN_16 dLg_32 :) rfl ?_
  refine LW.iload_n C 0 (dcN_17 dLg_32 :) rfl ?_
  refine LW.iconst C (dcN_18 dLg_32 :) ?_
  refine LW.iadd C (dcN_19 dLg_32 :) ?_
  refine LW.sld C (lw_in hL h0 h1 (by decide) (by decide)) (dcN_20 dLg_32 :) ?_
  refine LW.aload_n C 3 (dcN_21 dLg_32 :) rfl ?_
  refine LW.iload_n C 0 (dcN_22 dLg_32 :) rfl ?_
  refine LW.iconst C (dcN_23 dLg_32 :) ?_
  refine LW.iadd C (dcN_24 dLg_32 :) ?_
  refine LW.sld C (lw_in hL h0 h1 (by decide) (by decide)) (dcN_25 dLg_32 :) ?_
  refine LW.callV C (As := [iv (xs (ix (i + 1))).toInt, iv (xs (ix (i + 2))).toInt]) (st := []) (M_tonight_ok e2) cqL_113 crL_113 (by decide) rfl (dcN_0 dLg_33 :) rfl (Nat.le_of_ble_eq_true rfl) ?_
  refine LW.pop C (dcN_1 dLg_33 :) ?_
  refine LW.goto (tgt := 1914) C (dcN_2 dLg_33 :) (by decide) ?_
  exact kk _ hI2
theorem lwc_queue {Inv0 Inv : AG → Prop} (hsim : Sim_queue Inv0 Inv) (C : LC p s m meth c b L xs z) (hL : L ≤ 3072) {i : Int} (h0 : 0 ≤ i) (h1 : i + 6 ≤ L) (hI : Inv0 g) (kk : ∀ g9, Inv g9 → LW p l e s m below meth c b z 1914 [(3, iv i), (2, rv z 117), (1, rv z 0), (0, .ref b)] [] g9) : LW p l e s m below meth c b z 1191 [(3, iv i), (2, rv z 117), (1, rv z 0), (0, .ref b)] [] g := by
  obtain ⟨r1, r2, e1, e2, hv, hI2⟩ := hsim ((xs (ix (i + 1))).toInt) ((xs (ix (i + 2))).toInt) g (I32_of _) (I32_of _) hI
  refine LW.aload_n C 2 (dcN_3 dLg_33 :) rfl ?_
  refine LW.aload_n C 3 (dcN_4 dLg_33 :) rfl ?_
  refine LW.iload_n C 0 (dcN_5 dLg_33 :) rfl ?_
  refine LW.iconst C (dcN_6 dLg_33 :) ?_
  refine LW.iadd C (dcN_7 dLg_33 :) ?_
  refine LW.sld C (lw_in hL h0 h1 (by decide) (by decide)) (dcN_8 dLg_33 :) ?_
  refine LW.aload_n C 3 (dcN_9 dLg_33 :) rfl ?_
  refine LW.iload_n C 0 (dcN_10 dLg_33 :) rfl ?_
  refine LW.iconst C (dcN_11 dLg_33 :) ?_
  refine LW.iadd C (dcN_12 dLg_33 :) ?_
  refine LW.sld C (lw_in hL h0 h1 (by decide) (by decide)) (dcN_13 dLg_33 :) ?_
  refine LW.callV C (As := [iv (xs (ix (i + 1))).toInt, iv (xs (ix (i + 2))).toInt]) (st := []) (X_queue_ok e1) cqL_114 crL_114 (by decide) rfl (dcN_14 dLg_33 :) rfl (Nat.le_of_ble_eq_true rfl) ?_
  refine LW.pop C (dcN_15 dLg_33 :) ?_
  refine LW.aload_n C 1 (dcN_16 dLg_33 :) rfl ?_
  refine LW.aload_n C 3 (dcN_17 dLg_33 :) rfl ?_
  refine LW.iload_n C 0 (dcN_18 dLg_33 :) rfl ?_
  refine LW.iconst C (dcN_19 dLg_33 :) ?_
  refine LW.iadd C (dcN_20 dLg_33 :) ?_
  refine LW.sld C (lw_in hL h0 h1 (by decide) (by decide)) (dcN_21 dLg_33 :) ?_
  refine LW.aload_n C 3 (dcN_22 dLg_33 :) rfl ?_
  refine LW.iload_n C 0 (dcN_23 dLg_33 :) rfl ?_
  refine LW.iconst C (dcN_24 dLg_33 :) ?_
  refine LW.iadd C (dcN_25 dLg_33 :) ?_
  refine LW.sld C (lw_in hL h0 h1 (by decide) (by decide)) (dcN_0 dLg_34 :) ?_
  refine LW.callV C (As := [iv (xs (ix (i + 1))).toInt, iv (xs (ix (i + 2))).toInt]) (st := []) (M_queue_ok e2) cqL_117 crL_117 (by decide) rfl (dcN_1 dLg_34 :) rfl (Nat.le_of_ble_eq_true rfl) ?_
  refine LW.pop C (dcN_2 dLg_34 :) ?_
  refine LW.goto (tgt := 1914) C (dcN_3 dLg_34 :) (by decide) ?_
  exact kk _ hI2
theorem lwc_lock {Inv0 Inv : AG → Prop} (hsim : Sim_lock Inv0 Inv) (C : LC p s m meth c b L xs z) (hL : L ≤ 3072) {i : Int} (h0 : 0 ≤ i) (h1 : i + 6 ≤ L) (hI : Inv0 g) (kk : ∀ g9, Inv g9 → LW p l e s m below meth c b z 1914 [(3, iv i), (2, rv z 117), (1, rv z 0), (0, .ref b)] [] g9) : LW p l e s m below meth c b z 1224 [(3, iv i), (2, rv z 117), (1, rv z 0), (0, .ref b)] [] g := by
  obtain ⟨v1, r2, e1, e2, hv, hI2⟩ := hsim ((xs (ix (i + 1))).toInt) g (I32_of _) hI
  refine LW.aload_n C 2 (dcN_4 dLg_34 :) rfl ?_
  refine LW.aload_n C 3 (dcN_5 dLg_34 :) rfl ?_
  refine LW.iload_n C 0 (dcN_6 dLg_34 :) rfl ?_
  refine LW.iconst C (dcN_7 dLg_34 :) ?_
  refine LW.iadd C (dcN_8 dLg_34 :) ?_
  refine LW.sld C (lw_in hL h0 h1 (by decide) (by decide)) (dcN_9 dLg_34 :) ?_
  refine LW.callV C (As := [iv (xs (ix (i + 1))).toInt]) (st := []) (X_lock_ok e1) cqL_118 crL_118 (by decide) rfl (dcN_10 dLg_34 :) rfl (Nat.le_of_ble_eq_true rfl) ?_
  refine LW.pop C (dcN_11 dLg_34 :) ?_
  refine LW.aload_n C 1 (dcN_12 dLg_34 :) rfl ?_
  refine LW.aload_n C 3 (dcN_13 dLg_34 :) rfl ?_
  refine LW.iload_n C 0 (dcN_14 dLg_34 :) rfl ?_
  refine LW.iconst C (dcN_15 dLg_34 :) ?_
  refine LW.iadd C (dcN_16 dLg_34 :) ?_
  refine LW.sld C (lw_in hL h0 h1 (by decide) (by decide)) (dcN_17 dLg_34 :) ?_
  refine LW.callV C (As := [iv (xs (ix (i + 1))).toInt]) (st := []) (M_lock_ok e2) cqL_121 crL_121 (by decide) rfl (dcN_18 dLg_34 :) rfl (Nat.le_of_ble_eq_true rfl) ?_
  refine LW.pop C (dcN_19 dLg_34 :) ?_
  refine LW.goto (tgt := 1914) C (dcN_20 dLg_34 :) (by decide) ?_
  exact kk _ hI2
theorem lwc_booking {Inv0 Inv : AG → Prop} (hsim : Sim_booking Inv0 Inv) (C : LC p s m meth c b L xs z) (hL : L ≤ 3072) {i : Int} (h0 : 0 ≤ i) (h1 : i + 6 ≤ L) (hI : Inv0 g) (kk : ∀ g9, Inv g9 → LW p l e s m below meth c b z 1914 [(3, iv i), (2, rv z 117), (1, rv z 0), (0, .ref b)] [] g9) : LW p l e s m below meth c b z 1247 [(3, iv i), (2, rv z 117), (1, rv z 0), (0, .ref b)] [] g := by
  obtain ⟨r1, r2, e1, e2, hv, hI2⟩ := hsim ((xs (ix (i + 1))).toInt) ((xs (ix (i + 2))).toInt) ((xs (ix (i + 3))).toInt) ((xs (ix (i + 4))).toInt) g (I32_of _) (I32_of _) (I32_of _) (I32_of _) hI
  refine LW.aload_n C 2 (dcN_21 dLg_34 :) rfl ?_
  refine LW.aload_n C 3 (dcN_0 dLg_35 :) rfl ?_
  refine LW.iload_n C 0 (dcN_1 dLg_35 :) rfl ?_
  refine LW.iconst C (dcN_2 dLg_35 :) ?_
  refine LW.iadd C (dcN_3 dLg_35 :) ?_
  refine LW.sld C (lw_in hL h0 h1 (by decide) (by decide)) (dcN_4 dLg_35 :) ?_
  refine LW.aload_n C 3 (dcN_5 dLg_35 :) rfl ?_
  refine LW.iload_n C 0 (dcN_6 dLg_35 :) rfl ?_
  refine LW.iconst C (dcN_7 dLg_35 :) ?_
  refine LW.iadd C (dcN_8 dLg_35 :) ?_
  refine LW.sld C (lw_in hL h0 h1 (by decide) (by decide)) (dcN_9 dLg_35 :) ?_
  refine LW.aload_n C 3 (dcN_10 dLg_35 :) rfl ?_
  refine LW.iload_n C 0 (dcN_11 dLg_35 :) rfl ?_
  refine LW.iconst C (dcN_12 dLg_35 :) ?_
  refine LW.iadd C (dcN_13 dLg_35 :) ?_
  refine LW.sld C (lw_in hL h0 h1 (by decide) (by decide)) (dcN_14 dLg_35 :) ?_
  refine LW.aload_n C 3 (dcN_15 dLg_35 :) rfl ?_
  refine LW.iload_n C 0 (dcN_16 dLg_35 :) rfl ?_
  refine LW.iconst C (dcN_17 dLg_35 :) ?_
  refine LW.iadd C (dcN_18 dLg_35 :) ?_
  refine LW.sld C (lw_in hL h0 h1 (by decide) (by decide)) (dcN_19 dLg_35 :) ?_
  refine LW.callV C (As := [iv (xs (ix (i + 1))).toInt, iv (xs (ix (i + 2))).toInt, iv (xs (ix (i + 3))).toInt, iv (xs (ix (i + 4))).toInt]) (st := []) (X_booking_ok e1) cqL_122 crL_122 (by decide) rfl (dcN_20 dLg_35 :) rfl (Nat.le_of_ble_eq_true rfl) ?_
  refine LW.pop C (dcN_21 dLg_35 :) ?_
  refine LW.aload_n C 1 (dcN_22 dLg_35 :) rfl ?_
  refine LW.aload_n C 3 (dcN_23 dLg_35 :) rfl ?_
  refine LW.iload_n C 0 (dcN_24 dLg_35 :) rfl ?_
  refine LW.iconst C (dcN_25 dLg_35 :) ?_
  refine LW.iadd C (dcN_26 dLg_35 :) ?_
  refine LW.sld C (lw_in hL h0 h1 (by decide) (by decide)) (dcN_27 dLg_35 :) ?_
  refine LW.aload_n C 3 (dcN_28 dLg_35 :) rfl ?_
  refine LW.iload_n C 0 (dcN_29 dLg_35 :) rfl ?_
  refine LW.iconst C (dcN_0 dLg_36 :) ?_
  refine LW.iadd C (dcN_1 dLg_36 :) ?_
  refine LW.sld C (lw_in hL h0 h1 (by decide) (by decide)) (dcN_2 dLg_36 :) ?_
  refine LW.aload_n C 3 (dcN_3 dLg_36 :) rfl ?_
  refine LW.iload_n C 0 (dcN_4 dLg_36 :) rfl ?_
  refine LW.iconst C (dcN_5 dLg_36 :) ?_
  refine LW.iadd C (dcN_6 dLg_36 :) ?_
  refine LW.sld C (lw_in hL h0 h1 (by decide) (by decide)) (dcN_7 dLg_36 :) ?_
  refine LW.aload_n C 3 (dcN_8 dLg_36 :) rfl ?_
  refine LW.iload_n C 0 (dcN_9 dLg_36 :) rfl ?_
  refine LW.iconst C (dcN_10 dLg_36 :) ?_
  refine LW.iadd C (dcN_11 dLg_36 :) ?_
  refine LW.sld C (lw_in hL h0 h1 (by decide) (by decide)) (dcN_12 dLg_36 :) ?_
  refine LW.callV C (As := [iv (xs (ix (i + 1))).toInt, iv (xs (ix (i + 2))).toInt, iv (xs (ix (i + 3))).toInt, iv (xs (ix (i + 4))).toInt]) (st := []) (M_booking_ok e2) cqL_125 crL_125 (by decide) rfl (dcN_13 dLg_36 :) rfl (Nat.le_of_ble_eq_true rfl) ?_
  refine LW.pop C (dcN_14 dLg_36 :) ?_
  refine LW.goto (tgt := 1914) C (dcN_15 dLg_36 :) (by decide) ?_
  exact kk _ hI2
theorem lwc_given {Inv0 Inv : AG → Prop} (hsim : Sim_given Inv0 Inv) (C : LC p s m meth c b L xs z) (hL : L ≤ 3072) {i : Int} (h0 : 0 ≤ i) (h1 : i + 6 ≤ L) (hI : Inv0 g) (kk : ∀ g9, Inv g9 → LW p l e s m below meth c b z 1914 [(3, iv i), (2, rv z 117), (1, rv z 0), (0, .ref b)] [] g9) : LW p l e s m below meth c b z 1300 [(3, iv i), (2, rv z 117), (1, rv z 0), (0, .ref b)] [] g := by
  obtain ⟨r1, r2, e1, e2, hv, hI2⟩ := hsim ((xs (ix (i + 1))).toInt) ((xs (ix (i + 2))).toInt) g (I32_of _) (I32_of _) hI
  refine LW.aload_n C 2 (dcN_16 dLg_36 :) rfl ?_
  refine LW.aload_n C 3 (dcN_17 dLg_36 :) rfl ?_
  refine LW.iload_n C 0 (dcN_18 dLg_36 :) rfl ?_
  refine LW.iconst C (dcN_19 dLg_36 :) ?_
  refine LW.iadd C (dcN_20 dLg_36 :) ?_
  refine LW.sld C (lw_in hL h0 h1 (by decide) (by decide)) (dcN_21 dLg_36 :) ?_
  refine LW.aload_n C 3 (dcN_22 dLg_36 :) rfl ?_
  refine LW.iload_n C 0 (dcN_23 dLg_36 :) rfl ?_
  refine LW.iconst C (dcN_24 dLg_36 :) ?_
  refine LW.iadd C (dcN_25 dLg_36 :) ?_
  refine LW.sld C (lw_in hL h0 h1 (by decide) (by decide)) (dcN_26 dLg_36 :) ?_
  refine LW.callV C (As := [iv (xs (ix (i + 1))).toInt, iv (xs (ix (i + 2))).toInt]) (st := []) (X_given_ok e1) cqL_126 crL_126 (by decide) rfl (dcN_27 dLg_36 :) rfl (Nat.le_of_ble_eq_true rfl) ?_
  refine LW.pop C (dcN_0 dLg_37 :) ?_
  refine LW.aload_n C 1 (dcN_1 dLg_37 :) rfl ?_
  refine LW.aload_n C 3 (dcN_2 dLg_37 :) rfl ?_
  refine LW.iload_n C 0 (dcN_3 dLg_37 :) rfl ?_
  refine LW.iconst C (dcN_4 dLg_37 :) ?_
  refine LW.iadd C (dcN_5 dLg_37 :) ?_
  refine LW.sld C (lw_in hL h0 h1 (by decide) (by decide)) (dcN_6 dLg_37 :) ?_
  refine LW.aload_n C 3 (dcN_7 dLg_37 :) rfl ?_
  refine LW.iload_n C 0 (dcN_8 dLg_37 :) rfl ?_
  refine LW.iconst C (dcN_9 dLg_37 :) ?_
  refine LW.iadd C (dcN_10 dLg_37 :) ?_
  refine LW.sld C (lw_in hL h0 h1 (by decide) (by decide)) (dcN_11 dLg_37 :) ?_
  refine LW.callV C (As := [iv (xs (ix (i + 1))).toInt, iv (xs (ix (i + 2))).toInt]) (st := []) (M_given_ok e2) cqL_129 crL_129 (by decide) rfl (dcN_12 dLg_37 :) rfl (Nat.le_of_ble_eq_true rfl) ?_
  refine LW.pop C (dcN_13 dLg_37 :) ?_
  refine LW.goto (tgt := 1914) C (dcN_14 dLg_37 :) (by decide) ?_
  exact kk _ hI2
theorem lwc_more {Inv0 Inv : AG → Prop} (hsim : Sim_more Inv0 Inv) (C : LC p s m meth c b L xs z) (hL : L ≤ 3072) {i : Int} (h0 : 0 ≤ i) (h1 : i + 6 ≤ L) (hI : Inv0 g) (kk : ∀ g9, Inv g9 → LW p l e s m below meth c b z 1914 [(3, iv i), (2, rv z 117), (1, rv z 0), (0, .ref b)] [] g9) : LW p l e s m below meth c b z 1333 [(3, iv i), (2, rv z 117), (1, rv z 0), (0, .ref b)] [] g := by
  obtain ⟨r1, r2, e1, e2, hv, hI2⟩ := hsim ((xs (ix (i + 1))).toInt) ((xs (ix (i + 2))).toInt) ((xs (ix (i + 3))).toInt) g (I32_of _) (I32_of _) (I32_of _) hI
  refine LW.aload_n C 2 (dcN_15 dLg_37 :) rfl ?_
  refine LW.aload_n C 3 (dcN_16 dLg_37 :) rfl ?_
  refine LW.iload_n C 0 (dcN_17 dLg_37 :) rfl ?_
  refine LW.iconst C (dcN_18 dLg_37 :) ?_
  refine LW.iadd C (dcN_19 dLg_37 :) ?_
  refine LW.sld C (lw_in hL h0 h1 (by decide) (by decide)) (dcN_20 dLg_37 :) ?_
  refine LW.aload_n C 3 (dcN_21 dLg_37 :) rfl ?_
  refine LW.iload_n C 0 (dcN_22 dLg_37 :) rfl ?_
  refine LW.iconst C (dcN_23 dLg_37 :) ?_
  refine LW.iadd C (dcN_24 dLg_37 :) ?_
  refine LW.sld C (lw_in hL h0 h1 (by decide) (by decide)) (dcN_25 dLg_37 :) ?_
  refine LW.aload_n C 3 (dcN_0 dLg_38 :) rfl ?_
  refine LW.iload_n C 0 (dcN_1 dLg_38 :) rfl ?_
  refine LW.iconst C (dcN_2 dLg_38 :) ?_
  refine LW.iadd C (dcN_3 dLg_38 :) ?_
  refine LW.sld C (lw_in hL h0 h1 (by decide) (by decide)) (dcN_4 dLg_38 :) ?_
  refine LW.callV C (As := [iv (xs (ix (i + 1))).toInt, iv (xs (ix (i + 2))).toInt, iv (xs (ix (i + 3))).toInt]) (st := []) (X_more_ok e1) cqL_130 crL_130 (by decide) rfl (dcN_5 dLg_38 :) rfl (Nat.le_of_ble_eq_true rfl) ?_
  refine LW.pop C (dcN_6 dLg_38 :) ?_
  refine LW.aload_n C 1 (dcN_7 dLg_38 :) rfl ?_
  refine LW.aload_n C 3 (dcN_8 dLg_38 :) rfl ?_
  refine LW.iload_n C 0 (dcN_9 dLg_38 :) rfl ?_
  refine LW.iconst C (dcN_10 dLg_38 :) ?_
  refine LW.iadd C (dcN_11 dLg_38 :) ?_
  refine LW.sld C (lw_in hL h0 h1 (by decide) (by decide)) (dcN_12 dLg_38 :) ?_
  refine LW.aload_n C 3 (dcN_13 dLg_38 :) rfl ?_
  refine LW.iload_n C 0 (dcN_14 dLg_38 :) rfl ?_
  refine LW.iconst C (dcN_15 dLg_38 :) ?_
  refine LW.iadd C (dcN_16 dLg_38 :) ?_
  refine LW.sld C (lw_in hL h0 h1 (by decide) (by decide)) (dcN_17 dLg_38 :) ?_
  refine LW.aload_n C 3 (dcN_18 dLg_38 :) rfl ?_
  refine LW.iload_n C 0 (dcN_19 dLg_38 :) rfl ?_
  refine LW.iconst C (dcN_20 dLg_38 :) ?_
  refine LW.iadd C (dcN_21 dLg_38 :) ?_
  refine LW.sld C (lw_in hL h0 h1 (by decide) (by decide)) (dcN_22 dLg_38 :) ?_
  refine LW.callV C (As := [iv (xs (ix (i + 1))).toInt, iv (xs (ix (i + 2))).toInt, iv (xs (ix (i + 3))).toInt]) (st := []) (M_more_ok e2) cqL_133 crL_133 (by decide) rfl (dcN_23 dLg_38 :) rfl (Nat.le_of_ble_eq_true rfl) ?_
  refine LW.pop C (dcN_24 dLg_38 :) ?_
  refine LW.goto (tgt := 1914) C (dcN_25 dLg_38 :) (by decide) ?_
  exact kk _ hI2
end LAWW
