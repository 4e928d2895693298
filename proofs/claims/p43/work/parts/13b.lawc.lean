section LAWW
variable {p : Program} {l : Launch} {e : Env} {s : State} {m : MethodId} {below : List Frame} {meth : Method} {c : Code} {b L : Nat} {xs : Nat → Int32} {z : AZ} {pc : Nat} {lv : List (Nat × Value)} {st : List Value} {g : AG}
theorem lwc_stretch {Inv0 Inv : AG → Prop} (hsim : Sim_stretch Inv0 Inv) (C : LC p s m meth c b L xs z) (hL : L ≤ 3072) {i : Int} (h0 : 0 ≤ i) (h1 : i + 6 ≤ L) (hI : Inv0 g) (kk : ∀ g9, Inv g9 → LW p l e s m below meth c b z 1914 [(3, iv i), (2, rv z 117), (1, rv z 0), (0, .ref b)] [] g9) : LW p l e s m below meth c b z 216 [(3, iv i), (2, rv z 117), (1, rv z 0), (0, .ref b)] [] g := by
  obtain ⟨r1, r2, e1, e2, hv, hI2⟩ := hsim ((xs (ix (i + 1))).toInt) ((xs (ix (i + 2))).toInt) ((xs (ix (i + 3))).toInt) ((xs (ix (i + 4))).toInt) g (I32_of _) (I32_of _) (I32_of _) (I32_of _) hI
  refine LW.aload_n C 2 (dcN_0 dLg_2 :) rfl ?_
  refine LW.aload_n C 3 (dcN_1 dLg_2 :) rfl ?_
  refine LW.iload_n C 0 (dcN_2 dLg_2 :) rfl ?_
  refine LW.iconst C (dcN_3 dLg_2 :) ?_
  refine LW.iadd C (dcN_4 dLg_2 :) ?_
  refine LW.sld C (lw_in hL h0 h1 (by decide) (by decide)) (dcN_5 dLg_2 :) ?_
  refine LW.aload_n C 3 (dcN_6 dLg_2 :) rfl ?_
  refine LW.iload_n C 0 (dcN_7 dLg_2 :) rfl ?_
  refine LW.iconst C (dcN_0 dLg_3 :) ?_
  refine LW.iadd C (dcN_1 dLg_3 :) ?_
  refine LW.sld C (lw_in hL h0 h1 (by decide) (by decide)) (dcN_2 dLg_3 :) ?_
  refine LW.aload_n C 3 (dcN_3 dLg_3 :) rfl ?_
  refine LW.iload_n C 0 (dcN_4 dLg_3 :) rfl ?_
  refine LW.iconst C (dcN_5 dLg_3 :) ?_
  refine LW.iadd C (dcN_6 dLg_3 :) ?_
  refine LW.sld C (lw_in hL h0 h1 (by decide) (by decide)) (dcN_7 dLg_3 :) ?_
  refine LW.aload_n C 3 (dcN_8 dLg_3 :) rfl ?_
  refine LW.iload_n C 0 (dcN_9 dLg_3 :) rfl ?_
  refine LW.iconst C (dcN_10 dLg_3 :) ?_
  refine LW.iadd C (dcN_11 dLg_3 :) ?_
  refine LW.sld C (lw_in hL h0 h1 (by decide) (by decide)) (dcN_12 dLg_3 :) ?_
  refine LW.callV C (As := [iv (xs (ix (i + 1))).toInt, iv (xs (ix (i + 2))).toInt, iv (xs (ix (i + 3))).toInt, iv (xs (ix (i + 4))).toInt]) (st := []) (X_stretch_ok e1) cqL_13 crL_13 (by decide) rfl (dcN_13 dLg_3 :) rfl (Nat.le_of_ble_eq_true rfl) ?_
  refine LW.pop C (dcN_14 dLg_3 :) ?_
  refine LW.aload_n C 1 (dcN_15 dLg_3 :) rfl ?_
  refine LW.aload_n C 3 (dcN_16 dLg_3 :) rfl ?_
  refine LW.iload_n C 0 (dcN_17 dLg_3 :) rfl ?_
  refine LW.iconst C (dcN_18 dLg_3 :) ?_
  refine LW.iadd C (dcN_19 dLg_3 :) ?_
  refine LW.sld C (lw_in hL h0 h1 (by decide) (by decide)) (dcN_20 dLg_3 :) ?_
  refine LW.aload_n C 3 (dcN_21 dLg_3 :) rfl ?_
  refine LW.iload_n C 0 (dcN_22 dLg_3 :) rfl ?_
  refine LW.iconst C (dcN_23 dLg_3 :) ?_
  refine LW.iadd C (dcN_24 dLg_3 :) ?_
  refine LW.sld C (lw_in hL h0 h1 (by decide) (by decide)) (dcN_25 dLg_3 :) ?_
  refine LW.aload_n C 3 (dcN_26 dLg_3 :) rfl ?_
  refine LW.iload_n C 0 (dcN_27 dLg_3 :) rfl ?_
  refine LW.iconst C (dcN_28 dLg_3 :) ?_
  refine LW.iadd C (dcN_29 dLg_3 :) ?_
  refine LW.sld C (lw_in hL h0 h1 (by decide) (by decide)) (dcN_0 dLg_4 :) ?_
  refine LW.aload_n C 3 (dcN_1 dLg_4 :) rfl ?_
  refine LW.iload_n C 0 (dcN_2 dLg_4 :) rfl ?_
  refine LW.iconst C (dcN_3 dLg_4 :) ?_
  refine LW.iadd C (dcN_4 dLg_4 :) ?_
  refine LW.sld C (lw_in hL h0 h1 (by decide) (by decide)) (dcN_5 dLg_4 :) ?_
  refine LW.callV C (As := [iv (xs (ix (i + 1))).toInt, iv (xs (ix (i + 2))).toInt, iv (xs (ix (i + 3))).toInt, iv (xs (ix (i + 4))).toInt]) (st := []) (M_stretch_ok e2) cqL_17 crL_17 (by decide) rfl (dcN_6 dLg_4 :) rfl (Nat.le_of_ble_eq_true rfl) ?_
  refine LW.pop C (dcN_7 dLg_4 :) ?_
  refine LW.goto (tgt := 1914) C (dcN_8 dLg_4 :) (by decide) ?_
  exact kk _ hI2
theorem lwc_water {Inv0 Inv : AG → Prop} (hsim : Sim_water Inv0 Inv) (C : LC p s m meth c b L xs z) (hL : L ≤ 3072) {i : Int} (h0 : 0 ≤ i) (h1 : i + 6 ≤ L) (hI : Inv0 g) (kk : ∀ g9, Inv g9 → LW p l e s m below meth c b z 1914 [(3, iv i), (2, rv z 117), (1, rv z 0), (0, .ref b)] [] g9) : LW p l e s m below meth c b z 269 [(3, iv i), (2, rv z 117), (1, rv z 0), (0, .ref b)] [] g := by
  obtain ⟨r1, r2, e1, e2, hv, hI2⟩ := hsim ((xs (ix (i + 1))).toInt) g (I32_of _) hI
  refine LW.aload_n C 2 (dcN_9 dLg_4 :) rfl ?_
  refine LW.aload_n C 3 (dcN_10 dLg_4 :) rfl ?_
  refine LW.iload_n C 0 (dcN_11 dLg_4 :) rfl ?_
  refine LW.iconst C (dcN_12 dLg_4 :) ?_
  refine LW.iadd C (dcN_13 dLg_4 :) ?_
  refine LW.sld C (lw_in hL h0 h1 (by decide) (by decide)) (dcN_14 dLg_4 :) ?_
  refine LW.callV C (As := [iv (xs (ix (i + 1))).toInt]) (st := []) (X_water_ok e1) cqL_18 crL_18 (by decide) rfl (dcN_15 dLg_4 :) rfl (Nat.le_of_ble_eq_true rfl) ?_
  refine LW.pop C (dcN_16 dLg_4 :) ?_
  refine LW.aload_n C 1 (dcN_17 dLg_4 :) rfl ?_
  refine LW.aload_n C 3 (dcN_18 dLg_4 :) rfl ?_
  refine LW.iload_n C 0 (dcN_19 dLg_4 :) rfl ?_
  refine LW.iconst C (dcN_20 dLg_4 :) ?_
  refine LW.iadd C (dcN_21 dLg_4 :) ?_
  refine LW.sld C (lw_in hL h0 h1 (by decide) (by decide)) (dcN_22 dLg_4 :) ?_
  refine LW.callV C (As := [iv (xs (ix (i + 1))).toInt]) (st := []) (M_water_ok e2) cqL_22 crL_22 (by decide) rfl (dcN_23 dLg_4 :) rfl (Nat.le_of_ble_eq_true rfl) ?_
  refine LW.pop C (dcN_0 dLg_5 :) ?_
  refine LW.goto (tgt := 1914) C (dcN_1 dLg_5 :) (by decide) ?_
  exact kk _ hI2
theorem lwc_stoppage {Inv0 Inv : AG → Prop} (hsim : Sim_stoppage Inv0 Inv) (C : LC p s m meth c b L xs z) (hL : L ≤ 3072) {i : Int} (h0 : 0 ≤ i) (h1 : i + 6 ≤ L) (hI : Inv0 g) (kk : ∀ g9, Inv g9 → LW p l e s m below meth c b z 1914 [(3, iv i), (2, rv z 117), (1, rv z 0), (0, .ref b)] [] g9) : LW p l e s m below meth c b z 292 [(3, iv i), (2, rv z 117), (1, rv z 0), (0, .ref b)] [] g := by
  obtain ⟨r1, r2, e1, e2, hv, hI2⟩ := hsim ((xs (ix (i + 1))).toInt) ((xs (ix (i + 2))).toInt) ((xs (ix (i + 3))).toInt) g (I32_of _) (I32_of _) (I32_of _) hI
  refine LW.aload_n C 2 (dcN_2 dLg_5 :) rfl ?_
  refine LW.aload_n C 3 (dcN_3 dLg_5 :) rfl ?_
  refine LW.iload_n C 0 (dcN_4 dLg_5 :) rfl ?_
  refine LW.iconst C (dcN_5 dLg_5 :) ?_
  refine LW.iadd C (dcN_6 dLg_5 :) ?_
  refine LW.sld C (lw_in hL h0 h1 (by decide) (by decide)) (dcN_7 dLg_5 :) ?_
  refine LW.aload_n C 3 (dcN_8 dLg_5 :) rfl ?_
  refine LW.iload_n C 0 (dcN_9 dLg_5 :) rfl ?_
  refine LW.iconst C (dcN_10 dLg_5 :) ?_
  refine LW.iadd C (dcN_11 dLg_5 :) ?_
  refine LW.sld C (lw_in hL h0 h1 (by decide) (by decide)) (dcN_12 dLg_5 :) ?_
  refine LW.aload_n C 3 (dcN_13 dLg_5 :) rfl ?_
  refine LW.iload_n C 0 (dcN_14 dLg_5 :) rfl ?_
  refine LW.iconst C (dcN_15 dLg_5 :) ?_
  refine LW.iadd C (dcN_16 dLg_5 :) ?_
  refine LW.sld C (lw_in hL h0 h1 (by decide) (by decide)) (dcN_17 dLg_5 :) ?_
  refine LW.callV C (As := [iv (xs (ix (i + 1))).toInt, iv (xs (ix (i + 2))).toInt, iv (xs (ix (i + 3))).toInt]) (st := []) (X_stoppage_ok e1) cqL_23 crL_23 (by decide) rfl (dcN_18 dLg_5 :) rfl (Nat.le_of_ble_eq_true rfl) ?_
  refine LW.pop C (dcN_19 dLg_5 :) ?_
  refine LW.aload_n C 1 (dcN_20 dLg_5 :) rfl ?_
  refine LW.aload_n C 3 (dcN_21 dLg_5 :) rfl ?_
  refine LW.iload_n C 0 (dcN_22 dLg_5 :) rfl ?_
  refine LW.iconst C (dcN_23 dLg_5 :) ?_
  refine LW.iadd C (dcN_24 dLg_5 :) ?_
  refine LW.sld C (lw_in hL h0 h1 (by decide) (by decide)) (dcN_25 dLg_5 :) ?_
  refine LW.aload_n C 3 (dcN_26 dLg_5 :) rfl ?_
  refine LW.iload_n C 0 (dcN_27 dLg_5 :) rfl ?_
  refine LW.iconst C (dcN_0 dLg_6 :) ?_
  refine LW.iadd C (dcN_1 dLg_6 :) ?_
  refine LW.sld C (lw_in hL h0 h1 (by decide) (by decide)) (dcN_2 dLg_6 :) ?_
  refine LW.aload_n C 3 (dcN_3 dLg_6 :) rfl ?_
  refine LW.iload_n C 0 (dcN_4 dLg_6 :) rfl ?_
  refine LW.iconst C (dcN_5 dLg_6 :) ?_
  refine LW.iadd C (dcN_6 dLg_6 :) ?_
  refine LW.sld C (lw_in hL h0 h1 (by decide) (by decide)) (dcN_7 dLg_6 :) ?_
  refine LW.callV C (As := [iv (xs (ix (i + 1))).toInt, iv (xs (ix (i + 2))).toInt, iv (xs (ix (i + 3))).toInt]) (st := []) (M_stoppage_ok e2) cqL_27 crL_27 (by decide) rfl (dcN_8 dLg_6 :) rfl (Nat.le_of_ble_eq_true rfl) ?_
  refine LW.pop C (dcN_9 dLg_6 :) ?_
  refine LW.goto (tgt := 1914) C (dcN_10 dLg_6 :) (by decide) ?_
  exact kk _ hI2
theorem lwc_boat {Inv0 Inv : AG → Prop} (hsim : Sim_boat Inv0 Inv) (C : LC p s m meth c b L xs z) (hL : L ≤ 3072) {i : Int} (h0 : 0 ≤ i) (h1 : i + 6 ≤ L) (hI : Inv0 g) (kk : ∀ g9, Inv g9 → LW p l e s m below meth c b z 1914 [(3, iv i), (2, rv z 117), (1, rv z 0), (0, .ref b)] [] g9) : LW p l e s m below meth c b z 335 [(3, iv i), (2, rv z 117), (1, rv z 0), (0, .ref b)] [] g := by
  obtain ⟨r1, r2, e1, e2, hv, hI2⟩ := hsim ((xs (ix (i + 1))).toInt) ((xs (ix (i + 2))).toInt) ((xs (ix (i + 3))).toInt) ((xs (ix (i + 4))).toInt) g (I32_of _) (I32_of _) (I32_of _) (I32_of _) hI
  refine LW.aload_n C 2 (dcN_11 dLg_6 :) rfl ?_
  refine LW.aload_n C 3 (dcN_12 dLg_6 :) rfl ?_
  refine LW.iload_n C 0 (dcN_13 dLg_6 :) rfl ?_
  refine LW.iconst C (dcN_14 dLg_6 :) ?_
  refine LW.iadd C (dcN_15 dLg_6 :) ?_
  refine LW.sld C (lw_in hL h0 h1 (by decide) (by decide)) (dcN_16 dLg_6 :) ?_
  refine LW.aload_n C 3 (dcN_17 dLg_6 :) rfl ?_
  refine LW.iload_n C 0 (dcN_18 dLg_6 :) rfl ?_
  refine LW.iconst C (dcN_19 dLg_6 :) ?_
  refine LW.iadd C (dcN_20 dLg_6 :) ?_
  refine LW.sld C (lw_in hL h0 h1 (by decide) (by decide)) (dcN_21 dLg_6 :) ?_
  refine LW.aload_n C 3 (dcN_22 dLg_6 :) rfl ?_
  refine LW.iload_n C 0 (dcN_23 dLg_6 :) rfl ?_
  refine LW.iconst C (dcN_24 dLg_6 :) ?_
  refine LW.iadd C (dcN_25 dLg_6 :) ?_
  refine LW.sld C (lw_in hL h0 h1 (by decide) (by decide)) (dcN_26 dLg_6 :) ?_
  refine LW.aload_n C 3 (dcN_27 dLg_6 :) rfl ?_
  refine LW.iload_n C 0 (dcN_0 dLg_7 :) rfl ?_
  refine LW.iconst C (dcN_1 dLg_7 :) ?_
  refine LW.iadd C (dcN_2 dLg_7 :) ?_
  refine LW.sld C (lw_in hL h0 h1 (by decide) (by decide)) (dcN_3 dLg_7 :) ?_
  refine LW.callV C (As := [iv (xs (ix (i + 1))).toInt, iv (xs (ix (i + 2))).toInt, iv (xs (ix (i + 3))).toInt, iv (xs (ix (i + 4))).toInt]) (st := []) (X_boat_ok e1) cqL_28 crL_28 (by decide) rfl (dcN_4 dLg_7 :) rfl (Nat.le_of_ble_eq_true rfl) ?_
  refine LW.pop C (dcN_5 dLg_7 :) ?_
  refine LW.aload_n C 1 (dcN_6 dLg_7 :) rfl ?_
  refine LW.aload_n C 3 (dcN_7 dLg_7 :) rfl ?_
  refine LW.iload_n C 0 (dcN_8 dLg_7 :) rfl ?_
  refine LW.iconst C (dcN_9 dLg_7 :) ?_
  refine LW.iadd C (dcN_10 dLg_7 :) ?_
  refine LW.sld C (lw_in hL h0 h1 (by decide) (by decide)) (dcN_11 dLg_7 :) ?_
  refine LW.aload_n C 3 (dcN_12 dLg_7 :) rfl ?_
  refine LW.iload_n C 0 (dcN_13 dLg_7 :) rfl ?_
  refine LW.iconst C (dcN_14 dLg_7 :) ?_
  refine LW.iadd C (dcN_15 dLg_7 :) ?_
  refine LW.sld C (lw_in hL h0 h1 (by decide) (by decide)) (dcN_16 dLg_7 :) ?_
  refine LW.aload_n C 3 (dcN_17 dLg_7 :) rfl ?_
  refine LW.iload_n C 0 (dcN_18 dLg_7 :) rfl ?_
  refine LW.iconst C (dcN_19 dLg_7 :) ?_
  refine LW.iadd C (dcN_20 dLg_7 :) ?_
  refine LW.sld C (lw_in hL h0 h1 (by decide) (by decide)) (dcN_21 dLg_7 :) ?_
  refine LW.aload_n C 3 (dcN_22 dLg_7 :) rfl ?_
  refine LW.iload_n C 0 (dcN_23 dLg_7 :) rfl ?_
  refine LW.iconst C (dcN_24 dLg_7 :) ?_
  refine LW.iadd C (dcN_25 dLg_7 :) ?_
  refine LW.sld C (lw_in hL h0 h1 (by decide) (by decide)) (dcN_26 dLg_7 :) ?_
  refine LW.callV C (As := [iv (xs (ix (i + 1))).toInt, iv (xs (ix (i + 2))).toInt, iv (xs (ix (i + 3))).toInt, iv (xs (ix (i + 4))).toInt]) (st := []) (M_boat_ok e2) cqL_32 crL_32 (by decide) rfl (dcN_27 dLg_7 :) rfl (Nat.le_of_ble_eq_true rfl) ?_
  refine LW.pop C (dcN_0 dLg_8 :) ?_
  refine LW.goto (tgt := 1914) C (dcN_1 dLg_8 :) (by decide) ?_
  exact kk _ hI2
theorem lwc_feed {Inv0 Inv : AG → Prop} (hsim : Sim_feed Inv0 Inv) (C : LC p s m meth c b L xs z) (hL : L ≤ 3072) {i : Int} (h0 : 0 ≤ i) (h1 : i + 6 ≤ L) (hI : Inv0 g) (kk : ∀ g9, Inv g9 → LW p l e s m below meth c b z 1914 [(3, iv i), (2, rv z 117), (1, rv z 0), (0, .ref b)] [] g9) : LW p l e s m below meth c b z 388 [(3, iv i), (2, rv z 117), (1, rv z 0), (0, .ref b)] [] g := by
  obtain ⟨r1, r2, e1, e2, hv, hI2⟩ := hsim ((xs (ix (i + 1))).toInt) ((xs (ix (i + 2))).toInt) ((xs (ix (i + 3))).toInt) ((xs (ix (i + 4))).toInt) ((xs (ix (i + 5))).toInt) g (I32_of _) (I32_of _) (I32_of _) (I32_of _) (I32_of _) hI
  refine LW.aload_n C 2 (dcN_2 dLg_8 :) rfl ?_
  refine LW.aload_n C 3 (dcN_3 dLg_8 :) rfl ?_
  refine LW.iload_n C 0 (dcN_4 dLg_8 :) rfl ?_
  refine LW.iconst C (dcN_5 dLg_8 :) ?_
  refine LW.iadd C (dcN_6 dLg_8 :) ?_
  refine LW.sld C (lw_in hL h0 h1 (by decide) (by decide)) (dcN_7 dLg_8 :) ?_
  refine LW.aload_n C 3 (dcN_8 dLg_8 :) rfl ?_
  refine LW.iload_n C 0 (dcN_9 dLg_8 :) rfl ?_
  refine LW.iconst C (dcN_10 dLg_8 :) ?_
  refine LW.iadd C (dcN_11 dLg_8 :) ?_
  refine LW.sld C (lw_in hL h0 h1 (by decide) (by decide)) (dcN_12 dLg_8 :) ?_
  refine LW.aload_n C 3 (dcN_13 dLg_8 :) rfl ?_
  refine LW.iload_n C 0 (dcN_14 dLg_8 :) rfl ?_
  refine LW.iconst C (dcN_15 dLg_8 :) ?_
  refine LW.iadd C (dcN_16 dLg_8 :) ?_
  refine LW.sld C (lw_in hL h0 h1 (by decide) (by decide)) (dcN_17 dLg_8 :) ?_
  refine LW.aload_n C 3 (dcN_18 dLg_8 :) rfl ?_
  refine LW.iload_n C 0 (dcN_19 dLg_8 :) rfl ?_
  refine LW.iconst C (dcN_20 dLg_8 :) ?_
  refine LW.iadd C (dcN_21 dLg_8 :) ?_
  refine LW.sld C (lw_in hL h0 h1 (by decide) (by decide)) (dcN_22 dLg_8 :) ?_
  refine LW.aload_n C 3 (dcN_23 dLg_8 :) rfl ?_
  refine LW.iload_n C 0 (dcN_24 dLg_8 :) rfl ?_
  refine LW.iconst C (dcN_25 dLg_8 :) ?_
  refine LW.iadd C (dcN_26 dLg_8 :) ?_
  refine LW.sld C (lw_in hL h0 h1 (by decide) (by decide)) (dcN_27 dLg_8 :) ?_
  refine LW.callV C (As := [iv (xs (ix (i + 1))).toInt, iv (xs (ix (i + 2))).toInt, iv (xs (ix (i + 3))).toInt, iv (xs (ix (i + 4))).toInt, iv (xs (ix (i + 5))).toInt]) (st := []) (X_feed_ok e1) cqL_33 crL_33 (by decide) rfl (dcN_28 dLg_8 :) rfl (Nat.le_of_ble_eq_true rfl) ?_
  refine LW.pop C (dcN_0 dLg_9 :) ?_
  refine LW.aload_n C 1 (dcN_1 dLg_9 :) rfl ?_
  refine LW.aload_n C 3 (dcN_2 dLg_9 :) rfl ?_
  refine LW.iload_n C 0 (dcN_3 dLg_9 :) rfl ?_
  refine LW.iconst C (dcN_4 dLg_9 :) ?_
  refine LW.iadd C (dcN_5 dLg_9 :) ?_
  refine LW.sld C (lw_in hL h0 h1 (by decide) (by decide)) (dcN_6 dLg_9 :) ?_
  refine LW.aload_n C 3 (dcN_7 dLg_9 :) rfl ?_
  refine LW.iload_n C 0 (dcN_8 dLg_9 :) rfl ?_
  refine LW.iconst C (dcN_9 dLg_9 :) ?_
  refine LW.iadd C (dcN_10 dLg_9 :) ?_
  refine LW.sld C (lw_in hL h0 h1 (by decide) (by decide)) (dcN_11 dLg_9 :) ?_
  refine LW.aload_n C 3 (dcN_12 dLg_9 :) rfl ?_
  refine LW.iload_n C 0 (dcN_13 dLg_9 :) rfl ?_
  refine LW.iconst C (dcN_14 dLg_9 :) ?_
  refine LW.iadd C (dcN_15 dLg_9 :) ?_
  refine LW.sld C (lw_in hL h0 h1 (by decide) (by decide)) (dcN_16 dLg_9 :) ?_
  refine LW.aload_n C 3 (dcN_17 dLg_9 :) rfl ?_
  refine LW.iload_n C 0 (dcN_18 dLg_9 :) rfl ?_
  refine LW.iconst C (dcN_19 dLg_9 :) ?_
  refine LW.iadd C (dcN_20 dLg_9 :) ?_
  refine LW.sld C (lw_in hL h0 h1 (by decide) (by decide)) (dcN_21 dLg_9 :) ?_
  refine LW.aload_n C 3 (dcN_22 dLg_9 :) rfl ?_
  refine LW.iload_n C 0 (dcN_23 dLg_9 :) rfl ?_
  refine LW.iconst C (dcN_24 dLg_9 :) ?_
  refine LW.iadd C (dcN_25 dLg_9 :) ?_
  refine LW.sld C (lw_in hL h0 h1 (by decide) (by decide)) (dcN_26 dLg_9 :) ?_
  refine LW.callV C (As := [iv (xs (ix (i + 1))).toInt, iv (xs (ix (i + 2))).toInt, iv (xs (ix (i + 3))).toInt, iv (xs (ix (i + 4))).toInt, iv (xs (ix (i + 5))).toInt]) (st := []) (M_feed_ok e2) cqL_37 crL_37 (by decide) rfl (dcN_27 dLg_9 :) rfl (Nat.le_of_ble_eq_true rfl) ?_
  refine LW.pop C (dcN_28 dLg_9 :) ?_
  refine LW.goto (tgt := 1914) C (dcN_0 dLg_10 :) (by decide) ?_
  exact kk _ hI2
theorem lwc_end {Inv0 Inv : AG → Prop} (hsim : Sim_end Inv0 Inv) (C : LC p s m meth c b L xs z) (hL : L ≤ 3072) {i : Int} (h0 : 0 ≤ i) (h1 : i + 6 ≤ L) (hI : Inv0 g) (kk : ∀ g9, Inv g9 → LW p l e s m below meth c b z 1914 [(3, iv i), (2, rv z 117), (1, rv z 0), (0, .ref b)] [] g9) : LW p l e s m below meth c b z 451 [(3, iv i), (2, rv z 117), (1, rv z 0), (0, .ref b)] [] g := by
  obtain ⟨r1, r2, e1, e2, hv, hI2⟩ := hsim ((xs (ix (i + 1))).toInt) g (I32_of _) hI
  refine LW.aload_n C 2 (dcN_1 dLg_10 :) rfl ?_
  refine LW.aload_n C 3 (dcN_2 dLg_10 :) rfl ?_
  refine LW.iload_n C 0 (dcN_3 dLg_10 :) rfl ?_
  refine LW.iconst C (dcN_4 dLg_10 :) ?_
  refine LW.iadd C (dcN_5 dLg_10 :) ?_
  refine LW.sld C (lw_in hL h0 h1 (by decide) (by decide)) (dcN_6 dLg_10 :) ?_
  refine LW.callV C (As := [iv (xs (ix (i + 1))).toInt]) (st := []) (X_end_ok e1) cqL_38 crL_38 (by decide) rfl (dcN_7 dLg_10 :) rfl (Nat.le_of_ble_eq_true rfl) ?_
  refine LW.pop C (dcN_8 dLg_10 :) ?_
  refine LW.aload_n C 1 (dcN_9 dLg_10 :) rfl ?_
  refine LW.aload_n C 3 (dcN_10 dLg_10 :) rfl ?_
  refine LW.iload_n C 0 (dcN_11 dLg_10 :) rfl ?_
  refine LW.iconst C (dcN_12 dLg_10 :) ?_
  refine LW.iadd C (dcN_13 dLg_10 :) ?_
  refine LW.sld C (lw_in hL h0 h1 (by decide) (by decide)) (dcN_14 dLg_10 :) ?_
  refine LW.callV C (As := [iv (xs (ix (i + 1))).toInt]) (st := []) (M_end_ok e2) cqL_41 crL_41 (by decide) rfl (dcN_15 dLg_10 :) rfl (Nat.le_of_ble_eq_true rfl) ?_
  refine LW.pop C (dcN_16 dLg_10 :) ?_
  refine LW.goto (tgt := 1914) C (dcN_17 dLg_10 :) (by decide) ?_
  exact kk _ hI2
theorem lwc_rules {Inv0 Inv : AG → Prop} (hsim : Sim_rules Inv0 Inv) (C : LC p s m meth c b L xs z) (hL : L ≤ 3072) {i : Int} (h0 : 0 ≤ i) (h1 : i + 6 ≤ L) (hI : Inv0 g) (kk : ∀ g9, Inv g9 → LW p l e s m below meth c b z 1914 [(3, iv i), (2, rv z 117), (1, rv z 0), (0, .ref b)] [] g9) : LW p l e s m below meth c b z 474 [(3, iv i), (2, rv z 117), (1, rv z 0), (0, .ref b)] [] g := by
  obtain ⟨r1, r2, e1, e2, hv, hI2⟩ := hsim  g  hI
  refine LW.aload_n C 2 (dcN_18 dLg_10 :) rfl ?_
  refine LW.callV C (As := []) (st := []) (X_rules_ok e1) cqL_42 crL_42 (by decide) rfl (dcN_19 dLg_10 :) rfl (Nat.le_of_ble_eq_true rfl) ?_
  refine LW.pop C (dcN_20 dLg_10 :) ?_
  refine LW.aload_n C 1 (dcN_21 dLg_10 :) rfl ?_
  refine LW.callV C (As := []) (st := []) (M_rules_ok e2) cqL_46 crL_46 (by decide) rfl (dcN_0 dLg_11 :) rfl (Nat.le_of_ble_eq_true rfl) ?_
  refine LW.pop C (dcN_1 dLg_11 :) ?_
  refine LW.goto (tgt := 1914) C (dcN_2 dLg_11 :) (by decide) ?_
  exact kk _ hI2
theorem lwc_fault {Inv0 Inv : AG → Prop} (hsim : Sim_fault Inv0 Inv) (C : LC p s m meth c b L xs z) (hL : L ≤ 3072) {i : Int} (h0 : 0 ≤ i) (h1 : i + 6 ≤ L) (hI : Inv0 g) (kk : ∀ g9, Inv g9 → LW p l e s m below meth c b z 1914 [(3, iv i), (2, rv z 117), (1, rv z 0), (0, .ref b)] [] g9) : LW p l e s m below meth c b z 487 [(3, iv i), (2, rv z 117), (1, rv z 0), (0, .ref b)] [] g := by
  obtain ⟨hv, hI2⟩ := hsim ((xs (ix (i + 1))).toInt) g (I32_of _) hI
  refine LW.aload_n C 2 (dcN_3 dLg_11 :) rfl ?_
  refine LW.aload_n C 3 (dcN_4 dLg_11 :) rfl ?_
  refine LW.iload_n C 0 (dcN_5 dLg_11 :) rfl ?_
  refine LW.iconst C (dcN_6 dLg_11 :) ?_
  refine LW.iadd C (dcN_7 dLg_11 :) ?_
  refine LW.sld C (lw_in hL h0 h1 (by decide) (by decide)) (dcN_8 dLg_11 :) ?_
  refine LW.callV C (As := [iv (xs (ix (i + 1))).toInt]) (st := []) (X_fault_ok) cqL_47 crL_47 (by decide) rfl (dcN_9 dLg_11 :) rfl (Nat.le_of_ble_eq_true rfl) ?_
  refine LW.pop C (dcN_10 dLg_11 :) ?_
  refine LW.aload_n C 1 (dcN_11 dLg_11 :) rfl ?_
  refine LW.aload_n C 3 (dcN_12 dLg_11 :) rfl ?_
  refine LW.iload_n C 0 (dcN_13 dLg_11 :) rfl ?_
  refine LW.iconst C (dcN_14 dLg_11 :) ?_
  refine LW.iadd C (dcN_15 dLg_11 :) ?_
  refine LW.sld C (lw_in hL h0 h1 (by decide) (by decide)) (dcN_16 dLg_11 :) ?_
  refine LW.callV C (As := [iv (xs (ix (i + 1))).toInt]) (st := []) (M_fault_ok) cqL_51 crL_51 (by decide) rfl (dcN_17 dLg_11 :) rfl (Nat.le_of_ble_eq_true rfl) ?_
  refine LW.pop C (dcN_18 dLg_11 :) ?_
  refine LW.goto (tgt := 1914) C (dcN_19 dLg_11 :) (by decide) ?_
  exact kk _ hI2
theorem lwc_open {Inv0 Inv : AG → Prop} (hsim : Sim_open Inv0 Inv) (C : LC p s m meth c b L xs z) (hL : L ≤ 3072) {i : Int} (h0 : 0 ≤ i) (h1 : i + 6 ≤ L) (hI : Inv0 g) (kk : ∀ g9, Inv g9 → LW p l e s m below meth c b z 1914 [(3, iv i), (2, rv z 117), (1, rv z 0), (0, .ref b)] [] g9) : LW p l e s m below meth c b z 510 [(3, iv i), (2, rv z 117), (1, rv z 0), (0, .ref b)] [] g := by
  obtain ⟨v1, r2, e1, e2, hv, hI2⟩ := hsim ((xs (ix (i + 1))).toInt) ((xs (ix (i + 2))).toInt) g (I32_of _) (I32_of _) hI
  refine LW.aload_n C 2 (dcN_20 dLg_11 :) rfl ?_
  refine LW.aload_n C 3 (dcN_21 dLg_11 :) rfl ?_
  refine LW.iload_n C 0 (dcN_0 dLg_12 :) rfl ?_
  refine LW.iconst C (dcN_1 dLg_12 :) ?_
  refine LW.iadd C (dcN_2 dLg_12 :) ?_
  refine LW.sld C (lw_in hL h0 h1 (by decide) (by decide)) (dcN_3 dLg_12 :) ?_
  refine LW.aload_n C 3 (dcN_4 dLg_12 :) rfl ?_
  refine LW.iload_n C 0 (dcN_5 dLg_12 :) rfl ?_
  refine LW.iconst C (dcN_6 dLg_12 :) ?_
  refine LW.iadd C (dcN_7 dLg_12 :) ?_
  refine LW.sld C (lw_in hL h0 h1 (by decide) (by decide)) (dcN_8 dLg_12 :) ?_
  refine LW.callV C (As := [iv (xs (ix (i + 1))).toInt, iv (xs (ix (i + 2))).toInt]) (st := []) (X_open_ok e1) cqL_52 crL_52 (by decide) rfl (dcN_9 dLg_12 :) rfl (Nat.le_of_ble_eq_true rfl) ?_
  refine LW.pop C (dcN_10 dLg_12 :) ?_
  refine LW.aload_n C 1 (dcN_11 dLg_12 :) rfl ?_
  refine LW.aload_n C 3 (dcN_12 dLg_12 :) rfl ?_
  refine LW.iload_n C 0 (dcN_13 dLg_12 :) rfl ?_
  refine LW.iconst C (dcN_14 dLg_12 :) ?_
  refine LW.iadd C (dcN_15 dLg_12 :) ?_
  refine LW.sld C (lw_in hL h0 h1 (by decide) (by decide)) (dcN_16 dLg_12 :) ?_
  refine LW.aload_n C 3 (dcN_17 dLg_12 :) rfl ?_
  refine LW.iload_n C 0 (dcN_18 dLg_12 :) rfl ?_
  refine LW.iconst C (dcN_19 dLg_12 :) ?_
  refine LW.iadd C (dcN_20 dLg_12 :) ?_
  refine LW.sld C (lw_in hL h0 h1 (by decide) (by decide)) (dcN_21 dLg_12 :) ?_
  refine LW.callV C (As := [iv (xs (ix (i + 1))).toInt, iv (xs (ix (i + 2))).toInt]) (st := []) (M_open_ok e2) cqL_56 crL_56 (by decide) rfl (dcN_22 dLg_12 :) rfl (Nat.le_of_ble_eq_true rfl) ?_
  refine LW.pop C (dcN_23 dLg_12 :) ?_
  refine LW.goto (tgt := 1914) C (dcN_24 dLg_12 :) (by decide) ?_
  exact kk _ hI2
theorem lwc_comes {Inv0 Inv : AG → Prop} (hsim : Sim_comes Inv0 Inv) (C : LC p s m meth c b L xs z) (hL : L ≤ 3072) {i : Int} (h0 : 0 ≤ i) (h1 : i + 6 ≤ L) (hI : Inv0 g) (kk : ∀ g9, Inv g9 → LW p l e s m below meth c b z 1914 [(3, iv i), (2, rv z 117), (1, rv z 0), (0, .ref b)] [] g9) : LW p l e s m below meth c b z 543 [(3, iv i), (2, rv z 117), (1, rv z 0), (0, .ref b)] [] g := by
  obtain ⟨r1, r2, e1, e2, hv, hI2⟩ := hsim ((xs (ix (i + 1))).toInt) ((xs (ix (i + 2))).toInt) ((xs (ix (i + 3))).toInt) ((xs (ix (i + 4))).toInt) g (I32_of _) (I32_of _) (I32_of _) (I32_of _) hI
  refine LW.aload_n C 2 (dcN_25 dLg_12 :) rfl ?_
  refine LW.aload_n C 3 (dcN_0 dLg_13 :) rfl ?_
  refine LW.iload_n C 0 (dcN_1 dLg_13 :) rfl ?_
  refine LW.iconst C (dcN_2 dLg_13 :) ?_
  refine LW.iadd C (dcN_3 dLg_13 :) ?_
  refine LW.sld C (lw_in hL h0 h1 (by decide) (by decide)) (dcN_4 dLg_13 :) ?_
  refine LW.aload_n C 3 (dcN_5 dLg_13 :) rfl ?_
  refine LW.iload_n C 0 (dcN_6 dLg_13 :) rfl ?_
  refine LW.iconst C (dcN_7 dLg_13 :) ?_
  refine LW.iadd C (dcN_8 dLg_13 :) ?_
  refine LW.sld C (lw_in hL h0 h1 (by decide) (by decide)) (dcN_9 dLg_13 :) ?_
  refine LW.aload_n C 3 (dcN_10 dLg_13 :) rfl ?_
  refine LW.iload_n C 0 (dcN_11 dLg_13 :) rfl ?_
  refine LW.iconst C (dcN_12 dLg_13 :) ?_
  refine LW.iadd C (dcN_13 dLg_13 :) ?_
  refine LW.sld C (lw_in hL h0 h1 (by decide) (by decide)) (dcN_14 dLg_13 :) ?_
  refine LW.aload_n C 3 (dcN_15 dLg_13 :) rfl ?_
  refine LW.iload_n C 0 (dcN_16 dLg_13 :) rfl ?_
  refine LW.iconst C (dcN_17 dLg_13 :) ?_
  refine LW.iadd C (dcN_18 dLg_13 :) ?_
  refine LW.sld C (lw_in hL h0 h1 (by decide) (by decide)) (dcN_19 dLg_13 :) ?_
  refine LW.callV C (As := [iv (xs (ix (i + 1))).toInt, iv (xs (ix (i + 2))).toInt, iv (xs (ix (i + 3))).toInt, iv (xs (ix (i + 4))).toInt]) (st := []) (X_comes_ok e1) cqL_57 crL_57 (by decide) rfl (dcN_20 dLg_13 :) rfl (Nat.le_of_ble_eq_true rfl) ?_
  refine LW.pop C (dcN_21 dLg_13 :) ?_
  refine LW.aload_n C 1 (dcN_22 dLg_13 :) rfl ?_
  refine LW.aload_n C 3 (dcN_23 dLg_13 :) rfl ?_
  refine LW.iload_n C 0 (dcN_24 dLg_13 :) rfl ?_
  refine LW.iconst C (dcN_25 dLg_13 :) ?_
  refine LW.iadd C (dcN_26 dLg_13 :) ?_
  refine LW.sld C (lw_in hL h0 h1 (by decide) (by decide)) (dcN_27 dLg_13 :) ?_
  refine LW.aload_n C 3 (dcN_28 dLg_13 :) rfl ?_
  refine LW.iload_n C 0 (dcN_29 dLg_13 :) rfl ?_
  refine LW.iconst C (dcN_0 dLg_14 :) ?_
  refine LW.iadd C (dcN_1 dLg_14 :) ?_
  refine LW.sld C (lw_in hL h0 h1 (by decide) (by decide)) (dcN_2 dLg_14 :) ?_
  refine LW.aload_n C 3 (dcN_3 dLg_14 :) rfl ?_
  refine LW.iload_n C 0 (dcN_4 dLg_14 :) rfl ?_
  refine LW.iconst C (dcN_5 dLg_14 :) ?_
  refine LW.iadd C (dcN_6 dLg_14 :) ?_
  refine LW.sld C (lw_in hL h0 h1 (by decide) (by decide)) (dcN_7 dLg_14 :) ?_
  refine LW.aload_n C 3 (dcN_8 dLg_14 :) rfl ?_
  refine LW.iload_n C 0 (dcN_9 dLg_14 :) rfl ?_
  refine LW.iconst C (dcN_10 dLg_14 :) ?_
  refine LW.iadd C (dcN_11 dLg_14 :) ?_
  refine LW.sld C (lw_in hL h0 h1 (by decide) (by decide)) (dcN_12 dLg_14 :) ?_
  refine LW.callV C (As := [iv (xs (ix (i + 1))).toInt, iv (xs (ix (i + 2))).toInt, iv (xs (ix (i + 3))).toInt, iv (xs (ix (i + 4))).toInt]) (st := []) (M_comes_ok e2) cqL_60 crL_60 (by decide) rfl (dcN_13 dLg_14 :) rfl (Nat.le_of_ble_eq_true rfl) ?_
  refine LW.pop C (dcN_14 dLg_14 :) ?_
  refine LW.goto (tgt := 1914) C (dcN_15 dLg_14 :) (by decide) ?_
  exact kk _ hI2
theorem lwc_maybe {Inv0 Inv : AG → Prop} (hsim : Sim_maybe Inv0 Inv) (C : LC p s m meth c b L xs z) (hL : L ≤ 3072) {i : Int} (h0 : 0 ≤ i) (h1 : i + 6 ≤ L) (hI : Inv0 g) (kk : ∀ g9, Inv g9 → LW p l e s m below meth c b z 1914 [(3, iv i), (2, rv z 117), (1, rv z 0), (0, .ref b)] [] g9) : LW p l e s m below meth c b z 596 [(3, iv i), (2, rv z 117), (1, rv z 0), (0, .ref b)] [] g := by
  obtain ⟨r1, r2, e1, e2, hv, hI2⟩ := hsim ((xs (ix (i + 1))).toInt) ((xs (ix (i + 2))).toInt) ((xs (ix (i + 3))).toInt) ((xs (ix (i + 4))).toInt) g (I32_of _) (I32_of _) (I32_of _) (I32_of _) hI
  refine LW.aload_n C 2 (dcN_16 dLg_14 :) rfl ?_
  refine LW.aload_n C 3 (dcN_17 dLg_14 :) rfl ?_
  refine LW.iload_n C 0 (dcN_18 dLg_14 :) rfl ?_
  refine LW.iconst C (dcN_19 dLg_14 :) ?_
  refine LW.iadd C (dcN_20 dLg_14 :) ?_
  refine LW.sld C (lw_in hL h0 h1 (by decide) (by decide)) (dcN_21 dLg_14 :) ?_
  refine LW.aload_n C 3 (dcN_22 dLg_14 :) rfl ?_
  refine LW.iload_n C 0 (dcN_23 dLg_14 :) rfl ?_
  refine LW.iconst C (dcN_24 dLg_14 :) ?_
  refine LW.iadd C (dcN_25 dLg_14 :) ?_
  refine LW.sld C (lw_in hL h0 h1 (by decide) (by decide)) (dcN_26 dLg_14 :) ?_
  refine LW.aload_n C 3 (dcN_27 dLg_14 :) rfl ?_
  refine LW.iload_n C 0 (dcN_0 dLg_15 :) rfl ?_
  refine LW.iconst C (dcN_1 dLg_15 :) ?_
  refine LW.iadd C (dcN_2 dLg_15 :) ?_
  refine LW.sld C (lw_in hL h0 h1 (by decide) (by decide)) (dcN_3 dLg_15 :) ?_
  refine LW.aload_n C 3 (dcN_4 dLg_15 :) rfl ?_
  refine LW.iload_n C 0 (dcN_5 dLg_15 :) rfl ?_
  refine LW.iconst C (dcN_6 dLg_15 :) ?_
  refine LW.iadd C (dcN_7 dLg_15 :) ?_
  refine LW.sld C (lw_in hL h0 h1 (by decide) (by decide)) (dcN_8 dLg_15 :) ?_
  refine LW.callV C (As := [iv (xs (ix (i + 1))).toInt, iv (xs (ix (i + 2))).toInt, iv (xs (ix (i + 3))).toInt, iv (xs (ix (i + 4))).toInt]) (st := []) (X_maybe_ok e1) cqL_61 crL_61 (by decide) rfl (dcN_9 dLg_15 :) rfl (Nat.le_of_ble_eq_true rfl) ?_
  refine LW.pop C (dcN_10 dLg_15 :) ?_
  refine LW.aload_n C 1 (dcN_11 dLg_15 :) rfl ?_
  refine LW.aload_n C 3 (dcN_12 dLg_15 :) rfl ?_
  refine LW.iload_n C 0 (dcN_13 dLg_15 :) rfl ?_
  refine LW.iconst C (dcN_14 dLg_15 :) ?_
  refine LW.iadd C (dcN_15 dLg_15 :) ?_
  refine LW.sld C (lw_in hL h0 h1 (by decide) (by decide)) (dcN_16 dLg_15 :) ?_
  refine LW.aload_n C 3 (dcN_17 dLg_15 :) rfl ?_
  refine LW.iload_n C 0 (dcN_18 dLg_15 :) rfl ?_
  refine LW.iconst C (dcN_19 dLg_15 :) ?_
  refine LW.iadd C (dcN_20 dLg_15 :) ?_
  refine LW.sld C (lw_in hL h0 h1 (by decide) (by decide)) (dcN_21 dLg_15 :) ?_
  refine LW.aload_n C 3 (dcN_22 dLg_15 :) rfl ?_
  refine LW.iload_n C 0 (dcN_23 dLg_15 :) rfl ?_
  refine LW.iconst C (dcN_24 dLg_15 :) ?_
  refine LW.iadd C (dcN_25 dLg_15 :) ?_
  refine LW.sld C (lw_in hL h0 h1 (by decide) (by decide)) (dcN_26 dLg_15 :) ?_
  refine LW.aload_n C 3 (dcN_27 dLg_15 :) rfl ?_
  refine LW.iload_n C 0 (dcN_28 dLg_15 :) rfl ?_
  refine LW.iconst C (dcN_29 dLg_15 :) ?_
  refine LW.iadd C (dcN_0 dLg_16 :) ?_
  refine LW.sld C (lw_in hL h0 h1 (by decide) (by decide)) (dcN_1 dLg_16 :) ?_
  refine LW.callV C (As := [iv (xs (ix (i + 1))).toInt, iv (xs (ix (i + 2))).toInt, iv (xs (ix (i + 3))).toInt, iv (xs (ix (i + 4))).toInt]) (st := []) (M_maybe_ok e2) cqL_64 crL_64 (by decide) rfl (dcN_2 dLg_16 :) rfl (Nat.le_of_ble_eq_true rfl) ?_
  refine LW.pop C (dcN_3 dLg_16 :) ?_
  refine LW.goto (tgt := 1914) C (dcN_4 dLg_16 :) (by decide) ?_
  exact kk _ hI2
theorem lwc_harm {Inv0 Inv : AG → Prop} (hsim : Sim_harm Inv0 Inv) (C : LC p s m meth c b L xs z) (hL : L ≤ 3072) {i : Int} (h0 : 0 ≤ i) (h1 : i + 6 ≤ L) (hI : Inv0 g) (kk : ∀ g9, Inv g9 → LW p l e s m below meth c b z 1914 [(3, iv i), (2, rv z 117), (1, rv z 0), (0, .ref b)] [] g9) : LW p l e s m below meth c b z 649 [(3, iv i), (2, rv z 117), (1, rv z 0), (0, .ref b)] [] g := by
  obtain ⟨r1, r2, e1, e2, hv, hI2⟩ := hsim ((xs (ix (i + 1))).toInt) ((xs (ix (i + 2))).toInt) ((xs (ix (i + 3))).toInt) ((xs (ix (i + 4))).toInt) g (I32_of _) (I32_of _) (I32_of _) (I32_of _) hI
  refine LW.aload_n C 2 (dcN_5 dLg_16 :) rfl ?_
  refine LW.aload_n C 3 (dcN_6 dLg_16 :) rfl ?_
  refine LW.iload_n C 0 (dcN_7 dLg_16 :) rfl ?_
  refine LW.iconst C (dcN_8 dLg_16 :) ?_
  refine LW.iadd C (dcN_9 dLg_16 :) ?_
  refine LW.sld C (lw_in hL h0 h1 (by decide) (by decide)) (dcN_10 dLg_16 :) ?_
  refine LW.aload_n C 3 (dcN_11 dLg_16 :) rfl ?_
  refine LW.iload_n C 0 (dcN_12 dLg_16 :) rfl ?_
  refine LW.iconst C (dcN_13 dLg_16 :) ?_
  refine LW.iadd C (dcN_14 dLg_16 :) ?_
  refine LW.sld C (lw_in hL h0 h1 (by decide) (by decide)) (dcN_15 dLg_16 :) ?_
  refine LW.aload_n C 3 (dcN_16 dLg_16 :) rfl ?_
  refine LW.iload_n C 0 (dcN_17 dLg_16 :) rfl ?_
  refine LW.iconst C (dcN_18 dLg_16 :) ?_
  refine LW.iadd C (dcN_19 dLg_16 :) ?_
  refine LW.sld C (lw_in hL h0 h1 (by decide) (by decide)) (dcN_20 dLg_16 :) ?_
  refine LW.aload_n C 3 (dcN_21 dLg_16 :) rfl ?_
  refine LW.iload_n C 0 (dcN_22 dLg_16 :) rfl ?_
  refine LW.iconst C (dcN_23 dLg_16 :) ?_
  refine LW.iadd C (dcN_24 dLg_16 :) ?_
  refine LW.sld C (lw_in hL h0 h1 (by decide) (by decide)) (dcN_25 dLg_16 :) ?_
  refine LW.callV C (As := [iv (xs (ix (i + 1))).toInt, iv (xs (ix (i + 2))).toInt, iv (xs (ix (i + 3))).toInt, iv (xs (ix (i + 4))).toInt]) (st := []) (X_harm_ok e1) cqL_65 crL_65 (by decide) rfl (dcN_26 dLg_16 :) rfl (Nat.le_of_ble_eq_true rfl) ?_
  refine LW.pop C (dcN_0 dLg_17 :) ?_
  refine LW.aload_n C 1 (dcN_1 dLg_17 :) rfl ?_
  refine LW.aload_n C 3 (dcN_2 dLg_17 :) rfl ?_
  refine LW.iload_n C 0 (dcN_3 dLg_17 :) rfl ?_
  refine LW.iconst C (dcN_4 dLg_17 :) ?_
  refine LW.iadd C (dcN_5 dLg_17 :) ?_
  refine LW.sld C (lw_in hL h0 h1 (by decide) (by decide)) (dcN_6 dLg_17 :) ?_
  refine LW.aload_n C 3 (dcN_7 dLg_17 :) rfl ?_
  refine LW.iload_n C 0 (dcN_8 dLg_17 :) rfl ?_
  refine LW.iconst C (dcN_9 dLg_17 :) ?_
  refine LW.iadd C (dcN_10 dLg_17 :) ?_
  refine LW.sld C (lw_in hL h0 h1 (by decide) (by decide)) (dcN_11 dLg_17 :) ?_
  refine LW.aload_n C 3 (dcN_12 dLg_17 :) rfl ?_
  refine LW.iload_n C 0 (dcN_13 dLg_17 :) rfl ?_
  refine LW.iconst C (dcN_14 dLg_17 :) ?_
  refine LW.iadd C (dcN_15 dLg_17 :) ?_
  refine LW.sld C (lw_in hL h0 h1 (by decide) (by decide)) (dcN_16 dLg_17 :) ?_
  refine LW.aload_n C 3 (dcN_17 dLg_17 :) rfl ?_
  refine LW.iload_n C 0 (dcN_18 dLg_17 :) rfl ?_
  refine LW.iconst C (dcN_19 dLg_17 :) ?_
  refine LW.iadd C (dcN_20 dLg_17 :) ?_
  refine LW.sld C (lw_in hL h0 h1 (by decide) (by decide)) (dcN_21 dLg_17 :) ?_
  refine LW.callV C (As := [iv (xs (ix (i + 1))).toInt, iv (xs (ix (i + 2))).toInt, iv (xs (ix (i + 3))).toInt, iv (xs (ix (i + 4))).toInt]) (st := []) (M_harm_ok e2) cqL_68 crL_68 (by decide) rfl (dcN_22 dLg_17 :) rfl (Nat.le_of_ble_eq_true rfl) ?_
  refine LW.pop C (dcN_23 dLg_17 :) ?_
  refine LW.goto (tgt := 1914) C (dcN_24 dLg_17 :) (by decide) ?_
  exact kk _ hI2
theorem lwc_back {Inv0 Inv : AG → Prop} (hsim : Sim_back Inv0 Inv) (C : LC p s m meth c b L xs z) (hL : L ≤ 3072) {i : Int} (h0 : 0 ≤ i) (h1 : i + 6 ≤ L) (hI : Inv0 g) (kk : ∀ g9, Inv g9 → LW p l e s m below meth c b z 1914 [(3, iv i), (2, rv z 117), (1, rv z 0), (0, .ref b)] [] g9) : LW p l e s m below meth c b z 702 [(3, iv i), (2, rv z 117), (1, rv z 0), (0, .ref b)] [] g := by
  obtain ⟨r1, r2, e1, e2, hv, hI2⟩ := hsim ((xs (ix (i + 1))).toInt) ((xs (ix (i + 2))).toInt) g (I32_of _) (I32_of _) hI
  refine LW.aload_n C 2 (dcN_25 dLg_17 :) rfl ?_
  refine LW.aload_n C 3 (dcN_26 dLg_17 :) rfl ?_
  refine LW.iload_n C 0 (dcN_0 dLg_18 :) rfl ?_
  refine LW.iconst C (dcN_1 dLg_18 :) ?_
  refine LW.iadd C (dcN_2 dLg_18 :) ?_
  refine LW.sld C (lw_in hL h0 h1 (by decide) (by decide)) (dcN_3 dLg_18 :) ?_
  refine LW.aload_n C 3 (dcN_4 dLg_18 :) rfl ?_
  refine LW.iload_n C 0 (dcN_5 dLg_18 :) rfl ?_
  refine LW.iconst C (dcN_6 dLg_18 :) ?_
  refine LW.iadd C (dcN_7 dLg_18 :) ?_
  refine LW.sld C (lw_in hL h0 h1 (by decide) (by decide)) (dcN_8 dLg_18 :) ?_
  refine LW.callV C (As := [iv (xs (ix (i + 1))).toInt, iv (xs (ix (i + 2))).toInt]) (st := []) (X_back_ok e1) cqL_69 crL_69 (by decide) rfl (dcN_9 dLg_18 :) rfl (Nat.le_of_ble_eq_true rfl) ?_
  refine LW.pop C (dcN_10 dLg_18 :) ?_
  refine LW.aload_n C 1 (dcN_11 dLg_18 :) rfl ?_
  refine LW.aload_n C 3 (dcN_12 dLg_18 :) rfl ?_
  refine LW.iload_n C 0 (dcN_13 dLg_18 :) rfl ?_
  refine LW.iconst C (dcN_14 dLg_18 :) ?_
  refine LW.iadd C (dcN_15 dLg_18 :) ?_
  refine LW.sld C (lw_in hL h0 h1 (by decide) (by decide)) (dcN_16 dLg_18 :) ?_
  refine LW.aload_n C 3 (dcN_17 dLg_18 :) rfl ?_
  refine LW.iload_n C 0 (dcN_18 dLg_18 :) rfl ?_
  refine LW.iconst C (dcN_19 dLg_18 :) ?_
  refine LW.iadd C (dcN_20 dLg_18 :) ?_
  refine LW.sld C (lw_in hL h0 h1 (by decide) (by decide)) (dcN_21 dLg_18 :) ?_
  refine LW.callV C (As := [iv (xs (ix (i + 1))).toInt, iv (xs (ix (i + 2))).toInt]) (st := []) (M_back_ok e2) cqL_72 crL_72 (by decide) rfl (dcN_22 dLg_18 :) rfl (Nat.le_of_ble_eq_true rfl) ?_
  refine LW.pop C (dcN_23 dLg_18 :) ?_
  refine LW.goto (tgt := 1914) C (dcN_24 dLg_18 :) (by decide) ?_
  exact kk _ hI2
theorem lwc_rung {Inv0 Inv : AG → Prop} (hsim : Sim_rung Inv0 Inv) (C : LC p s m meth c b L xs z) (hL : L ≤ 3072) {i : Int} (h0 : 0 ≤ i) (h1 : i + 6 ≤ L) (hI : Inv0 g) (kk : ∀ g9, Inv g9 → LW p l e s m below meth c b z 1914 [(3, iv i), (2, rv z 117), (1, rv z 0), (0, .ref b)] [] g9) : LW p l e s m below meth c b z 735 [(3, iv i), (2, rv z 117), (1, rv z 0), (0, .ref b)] [] g := by
  obtain ⟨r1, r2, e1, e2, hv, hI2⟩ := hsim  g  hI
  refine LW.aload_n C 2 (dcN_25 dLg_18 :) rfl ?_
  refine LW.callV C (As := []) (st := []) (X_rung_ok e1) cqL_73 crL_73 (by decide) rfl (dcN_0 dLg_19 :) rfl (Nat.le_of_ble_eq_true rfl) ?_
  refine LW.pop C (dcN_1 dLg_19 :) ?_
  refine LW.aload_n C 1 (dcN_2 dLg_19 :) rfl ?_
  refine LW.callV C (As := []) (st := []) (M_rung_ok e2) cqL_76 crL_76 (by decide) rfl (dcN_3 dLg_19 :) rfl (Nat.le_of_ble_eq_true rfl) ?_
  refine LW.pop C (dcN_4 dLg_19 :) ?_
  refine LW.goto (tgt := 1914) C (dcN_5 dLg_19 :) (by decide) ?_
  exact kk _ hI2
end LAWW
