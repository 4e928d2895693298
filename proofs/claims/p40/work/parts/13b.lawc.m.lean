section
section LAWW
variable {p : Program} {l : Launch} {e : Env} {s : State} {m : MethodId} {below : List Frame} {meth : Method} {c : Code} {b L : Nat} {xs : Nat → Int32} {z : AZ} {pc : Nat} {lv : List (Nat × Value)} {st : List Value} {g : AG}
theorem lwc_stretch {Inv0 Inv : AG → Prop} (hsim : Sim_stretch Inv0 Inv) (C : LC p s m meth c b L xs z) (hL : L ≤ 3072) {i : Int} (h0 : 0 ≤ i) (h1 : i + 6 ≤ L) (hI : Inv0 g) (kk : ∀ g9, Inv g9 → LW p l e s m below meth c b z 1914 [(3, iv i), (2, rv z 117), (1, rv z 0), (0, .ref b)] [] g9) : LW p l e s m below meth c b z 216 [(3, iv i), (2, rv z 117), (1, rv z 0), (0, .ref b)] [] g := by
  obtain ⟨r1, r2, e1, e2, hv, hI2⟩ := hsim ((xs (ix (i + 1))).toInt) ((xs (ix (i + 2))).toInt) ((xs (ix (i + 3))).toInt) ((xs (ix (i + 4))).toInt) g (I32_of _) (I32_of _) (I32_of _) (I32_of _) hI
  refine LW.aload_n C 2 (dcN_0 dLg_2 :) rfl ?_
  refine LW.aload_n C 3 (dcN_1 dLg_2 :) rfl ?_
  refine LW.iload_n C 0 (dcN_2 dLg_2 :) rfl ?_
  refine LW.iconst C (dcN_3 dLg_2 :) ?_
  refine LW.iadd C (dcN_4 dLg_2 :) ?_
  refine LW.sld C (lw_in hL h0 h1 (by decide) (by decide)) (dcN_5 dLg_2 :) ?_
  refine LW.aload_n C 3 (dcN_6 dLg_2 :) rfl ?_
  refine LW.iload_n C 0 (dcN_7 dLg_2 :) rfl ?_
  refine LW.iconst C (dcN_0 dLg_3 :) ?_
  refine LW.iadd C (dcN_1 dLg_3 :) ?_
  refine LW.sld C (lw_in hL h0 h1 (by decide) (by decide)) (dcN_2 dLg_3 :) ?_
  refine LW.aload_n C 3 (dcN_3 dLg_3 :) rfl ?_
  refine LW.iload_n C 0 (dcN_4 dLg_3 :) rfl ?_
  refine LW.iconst C (dcN_5 dLg_3 :) ?_
  refine LW.iadd C (dcN_6 dLg_3 :) ?_
  refine LW.sld C (lw_in hL h0 h1 (by decide) (by decide)) (dcN_7 dLg_3 :) ?_
  refine LW.aload_n C 3 (dcN_8 dLg_3 :) rfl ?_
  refine LW.iload_n C 0 (dcN_9 dLg_3 :) rfl ?_
  refine LW.iconst C (dcN_10 dLg_3 :) ?_
  refine LW.iadd C (dcN_11 dLg_3 :) ?_
  refine LW.sld C (lw_in hL h0 h1 (by decide) (by decide)) (dcN_12 dLg_3 :) ?_
  refine LW.callV C (As := [iv (xs (ix (i + 1))).toInt, iv (xs (ix (i + 2))).toInt, iv (xs (ix (i + 3))).toInt, iv (xs (ix (i + 4))).toInt]) (st := []) (X_stretch_ok e1) cqL_13 crL_13 (by decide) rfl (dcN_13 dLg_3 :) rfl (Nat.le_of_ble_eq_true rfl) ?_
  refine LW.pop C (dcN_14 dLg_3 :) ?_
  refine LW.aload_n C 1 (dcN_15 dLg_3 :) rfl ?_
  refine LW.aload_n C 3 (dcN_16 dLg_3 :) rfl ?_
  refine LW.iload_n C 0 (dcN_17 dLg_3 :) rfl ?_
  refine LW.iconst C (dcN_18 dLg_3 :) ?_
  refine LW.iadd C (dcN_19 dLg_3 :) ?_
  refine LW.sld C (lw_in hL h0 h1 (by decide) (by decide)) (dcN_20 dLg_3 :) ?_
  refine LW.aload_n C 3 (dcN_21 dLg_3 :) rfl ?_
  refine LW.iload_n C 0 (dcN_22 dLg_3 :) rfl ?_
  refine LW.iconst C (dcN_23 dLg_3 :) ?_
  refine LW.iadd C (dcN_24 dLg_3 :) ?_
  refine LW.sld C (lw_in hL h0 h1 (by decide) (by decide)) (dcN_25 dLg_3 :) ?_
  refine LW.aload_n C 3 (dcN_26 dLg_3 :) rfl ?_
  refine LW.iload_n C 0 (dcN_27 dLg_3 :) rfl ?_
  refine LW.iconst C (dcN_28 dLg_3 :) ?_
  refine LW.iadd C (dcN_29 dLg_3 :) ?_
  refine LW.sld C (lw_in hL h0 h1 (by decide) (by decide)) (dcN_0 dLg_4 :) ?_
  refine LW.aload_n C 3 (dcN_1 dLg_4 :) rfl ?_
  refine LW.iload_n C 0 (dcN_2 dLg_4 :) rfl ?_
  refine LW.iconst C (dcN_3 dLg_4 :) ?_
  refine LW.iadd C (dcN_4 dLg_4 :) ?_
  refine LW.sld C (lw_in hL h0 h1 (by decide) (by decide)) (dcN_5 dLg_4 :) ?_
  refine LW.callV C (As := [iv (xs (ix (i + 1))).toInt, iv (xs (ix (i + 2))).toInt, iv (xs (ix (i + 3))).toInt, iv (xs (ix (i + 4))).toInt]) (st := []) (M_stretch_ok e2) cqL_17 crL_17 (by decide) rfl (dcN_6 dLg_4 :) rfl (Nat.le_of_ble_eq_true rfl) ?_
  refine LW.pop C (dcN_7 dLg_4 :) ?_
  refine LW.goto (tgt := 1914) C (dcN_8 dLg_4 :) (by decide) ?_
  exact kk _ hI2
theorem lwc_water {Inv0 Inv : AG → Prop} (hsim : Sim_water Inv0 Inv) (C : LC p s m meth c b L xs z) (hL : L ≤ 3072) {i : Int} (h0 : 0 ≤ i) (h1 : i + 6 ≤ L) (hI : Inv0 g) (kk : ∀ g9, Inv g9 → LW p l e s m below meth c b z 1914 [(3, iv i), (2, rv z 117), (1, rv z 0), (0, .ref b)] [] g9) : LW p l e s m below meth c b z 269 [(3, iv i), (2, rv z 117), (1, rv z 0), (0, .ref b)] [] g := by
  obtain ⟨r1, r2, e1, e2, hv, hI2⟩ := hsim ((xs (ix (i + 1))).toInt) g (I32_of _) hI
  refine LW.aload_n C 2 (dcN_9 dLg_4 :) rfl ?_
  refine LW.aload_n C 3 (dcN_10 dLg_4 :) rfl ?_
  refine LW.iload_n C 0 (dcN_11 dLg_4 :) rfl ?_
  refine LW.iconst C (dcN_12 dLg_4 :) ?_
  refine LW.iadd C (dcN_13 dLg_4 :) ?_
  refine LW.sld C (lw_in hL h0 h1 (by decide) (by decide)) (dcN_14 dLg_4 :) ?_
  refine LW.callV C (As := [iv (xs (ix (i + 1))).toInt]) (st := []) (X_water_ok e1) cqL_18 crL_18 (by decide) rfl (dcN_15 dLg_4 :) rfl (Nat.le_of_ble_eq_true rfl) ?_
  refine LW.pop C (dcN_16 dLg_4 :) ?_
  refine LW.aload_n C 1 (dcN_17 dLg_4 :) rfl ?_
  refine LW.aload_n C 3 (dcN_18 dLg_4 :) rfl ?_
  refine LW.iload_n C 0 (dcN_19 dLg_4 :) rfl ?_
  refine LW.iconst C (dcN_20 dLg_4 :) ?_
  refine LW.iadd C (dcN_21 dLg_4 :) ?_
  refine LW.sld C (lw_in hL h0 h1 (by decide) (by decide)) (dcN_22 dLg_4 :) ?_
  refine LW.callV C (As := [iv (xs (ix (i + 1))).toInt]) (st := []) (M_water_ok e2) cqL_22 crL_22 (by decide) rfl (dcN_23 dLg_4 :) rfl (Nat.le_of_ble_eq_true rfl) ?_
  refine LW.pop C (dcN_0 dLg_5 :) ?_
  refine LW.goto (tgt := 1914) C (dcN_1 dLg_5 :) (by decide) ?_
  exact kk _ hI2
theorem lwc_stoppage {Inv0 Inv : AG → Prop} (hsim : Sim_stoppage Inv0 Inv) (C : LC p s m meth c b L xs z) (hL : L ≤ 3072) {i : Int} (h0 : 0 ≤ i) (h1 : i + 6 ≤ L) (hI : Inv0 g) (kk : ∀ g9, Inv g9 → LW p l e s m below meth c b z 1914 [(3, iv i), (2, rv z 117), (1, rv z 0), (0, .ref b)] [] g9) : LW p l e s m below meth c b z 292 [(3, iv i), (2, rv z 117), (1, rv z 0), (0, .ref b)] [] g := by
  obtain ⟨r1, r2, e1, e2, hv, hI2⟩ := hsim ((xs (ix (i + 1))).toInt) ((xs (ix (i + 2))).toInt) ((xs (ix (i + 3))).toInt) g (I32_of _) (I32_of _) (I32_of _) hI
  refine LW.aload_n C 2 (dcN_2 dLg_5 :) rfl ?_
  refine LW.aload_n C 3 (dcN_3 dLg_5 :) rfl ?_
  refine LW.iload_n C 0 (dcN_4 dLg_5 :) rfl ?_
  refine LW.iconst C (dcN_5 dLg_5 :) ?_
  refine LW.iadd C (dcN_6 dLg_5 :) ?_
  refine LW.sld C (lw_in hL h0 h1 (by decide) (by decide)) (dcN_7 dLg_5 :) ?_
  refine LW.aload_n C 3 (dcN_8 dLg_5 :) rfl ?_
  refine LW.iload_n C 0 (dcN_9 dLg_5 :) rfl ?_
  refine LW.iconst C (dcN_10 dLg_5 :) ?_
  refine LW.iadd C (dcN_11 dLg_5 :) ?_
  refine LW.sld C (lw_in hL h0 h1 (by decide) (by decide)) (dcN_12 dLg_5 :) ?_
  refine LW.aload_n C 3 (dcN_13 dLg_5 :) rfl ?_
  refine LW.iload_n C 0 (dcN_14 dLg_5 :) rfl ?_
  refine LW.iconst C (dcN_15 dLg_5 :) ?_
  refine LW.iadd C (dcN_16 dLg_5 :) ?_
  refine LW.sld C (lw_in hL h0 h1 (by decide) (by decide)) (dcN_17 dLg_5 :) ?_
  refine LW.callV C (As := [iv (xs (ix (i + 1))).toInt, iv (xs (ix (i + 2))).toInt, iv (xs (ix (i + 3))).toInt]) (st := []) (X_stoppage_ok e1) cqL_23 crL_23 (by decide) rfl (dcN_18 dLg_5 :) rfl (Nat.le_of_ble_eq_true rfl) ?_
  refine LW.pop C (dcN_19 dLg_5 :) ?_
  refine LW.aload_n C 1 (dcN_20 dLg_5 :) rfl ?_
  refine LW.aload_n C 3 (dcN_21 dLg_5 :) rfl ?_
  refine LW.iload_n C 0 (dcN_22 dLg_5 :) rfl ?_
  refine LW.iconst C (dcN_23 dLg_5 :) ?_
  refine LW.iadd C (dcN_24 dLg_5 :) ?_
  refine LW.sld C (lw_in hL h0 h1 (by decide) (by decide)) (dcN_25 dLg_5 :) ?_
  refine LW.aload_n C 3 (dcN_26 dLg_5 :) rfl ?_
  refine LW.iload_n C 0 (dcN_27 dLg_5 :) rfl ?_
  refine LW.iconst C (dcN_0 dLg_6 :) ?_
  refine LW.iadd C (dcN_1 dLg_6 :) ?_
  refine LW.sld C (lw_in hL h0 h1 (by decide) (by decide)) (dcN_2 dLg_6 :) ?_
  refine LW.aload_n C 3 (dcN_3 dLg_6 :) rfl ?_
  refine LW.iload_n C 0 (dcN_4 dLg_6 :) rfl ?_
  refine LW.iconst C (dcN_5 dLg_6 :) ?_
  refine LW.iadd C (dcN_6 dLg_6 :) ?_
  refine LW.sld C (lw_in hL h0 h1 (by decide) (by decide)) (dcN_7 dLg_6 :) ?_
  refine LW.callV C (As := [iv (xs (ix (i + 1))).toInt, iv (xs (ix (i + 2))).toInt, iv (xs (ix (i + 3))).toInt]) (st := []) (M_stoppage_ok e2) cqL_27 crL_27 (by decide) rfl (dcN_8 dLg_6 :) rfl (Nat.le_of_ble_eq_true rfl) ?_
  refine LW.pop C (dcN_9 dLg_6 :) ?_
  refine LW.goto (tgt := 1914) C (dcN_10 dLg_6 :) (by decide) ?_
  exact kk _ hI2
theorem lwc_boat {Inv0 Inv : AG → Prop} (hsim : Sim_boat Inv0 Inv) (C : LC p s m meth c b L xs z) (hL : L ≤ 3072) {i : Int} (h0 : 0 ≤ i) (h1 : i + 6 ≤ L) (hI : Inv0 g) (kk : ∀ g9, Inv g9 → LW p l e s m below meth c b z 1914 [(3, iv i), (2, rv z 117), (1, rv z 0), (0, .ref b)] [] g9) : LW p l e s m below meth c b z 335 [(3, iv i), (2, rv z 117), (1, rv z 0), (0, .ref b)] [] g := by
  obtain ⟨r1, r2, e1, e2, hv, hI2⟩ := hsim ((xs (ix (i + 1))).toInt) ((xs (ix (i + 2))).toInt) ((xs (ix (i + 3))).toInt) ((xs (ix (i + 4))).toInt) g (I32_of _) (I32_of _) (I32_of _) (I32_of _) hI
  refine LW.aload_n C 2 (dcN_11 dLg_6 :) rfl ?_
  refine LW.aload_n C 3 (dcN_12 dLg_6 :) rfl ?_
  refine LW.iload_n C 0 (dcN_13 dLg_6 :) rfl ?_
  refine LW.iconst C (dcN_14 dLg_6 :) ?_
  refine LW.iadd C (dcN_15 dLg_6 :) ?_
  refine LW.sld C (lw_in hL h0 h1 (by decide) (by decide)) (dcN_16 dLg_6 :) ?_
  refine LW.aload_n C 3 (dcN_17 dLg_6 :) rfl ?_
  refine LW.iload_n C 0 (dcN_18 dLg_6 :) rfl ?_
  refine LW.iconst C (dcN_19 dLg_6 :) ?_
  refine LW.iadd C (dcN_20 dLg_6 :) ?_
  refine LW.sld C (lw_in hL h0 h1 (by decide) (by decide)) (dcN_21 dLg_6 :) ?_
  refine LW.aload_n C 3 (dcN_22 dLg_6 :) rfl ?_
  refine LW.iload_n C 0 (dcN_23 dLg_6 :) rfl ?_
  refine LW.iconst C (dcN_24 dLg_6 :) ?_
  refine LW.iadd C (dcN_25 dLg_6 :) ?_
  refine LW.sld C (lw_in hL h0 h1 (by decide) (by decide)) (dcN_26 dLg_6 :) ?_
  refine LW.aload_n C 3 (dcN_27 dLg_6 :) rfl ?_
  refine LW.iload_n C 0 (dcN_0 dLg_7 :) rfl ?_
  refine LW.iconst C (dcN_1 dLg_7 :) ?_
  refine LW.iadd C (dcN_2 dLg_7 :) ?_
  refine LW.sld C (lw_in hL h0 h1 (by decide) (by decide)) (dcN_3 dLg_7 :) ?_
  refine LW.callV C (As := [iv (xs (ix (i + 1))).toInt, iv (xs (ix (i + 2))).toInt, iv (xs (ix (i + 3))).toInt, iv (xs (ix (i + 4))).toInt]) (st := []) (X_boat_ok e1) cqL_28 crL_28 (by decide) rfl (dcN_4 dLg_7 :) rfl (Nat.le_of_ble_eq_true rfl) ?_
  refine LW.pop C (dcN_5 dLg_7 :) ?_
  refine LW.aload_n C 1 (dcN_6 dLg_7 :) rfl ?_
  refine LW.aload_n C 3 (dcN_7 dLg_7 :) rfl ?_
  refine LW.iload_n C 0 (dcN_8 dLg_7 :) rfl ?_
  refine LW.iconst C (dcN_9 dLg_7 :) ?_
  refine LW.iadd C (dcN_10 dLg_7 :) ?_
  refine LW.sld C (lw_in hL h0 h1 (by decide) (by decide)) (dcN_11 dLg_7 :) ?_
  refine LW.aload_n C 3 (dcN_12 dLg_7 :) rfl ?_
  refine LW.iload_n C 0 (dcN_13 dLg_7 :) rfl ?_
  refine LW.iconst C (dcN_14 dLg_7 :) ?_
  refine LW.iadd C (dcN_15 dLg_7 :) ?_
  refine LW.sld C (lw_in hL h0 h1 (by decide) (by decide)) (dcN_16 dLg_7 :) ?_
  refine LW.aload_n C 3 (dcN_17 dLg_7 :) rfl ?_
  refine LW.iload_n C 0 (dcN_18 dLg_7 :) rfl ?_
  refine LW.iconst C (dcN_19 dLg_7 :) ?_
  refine LW.iadd C (dcN_20 dLg_7 :) ?_
  refine LW.sld C (lw_in hL h0 h1 (by decide) (by decide)) (dcN_21 dLg_7 :) ?_
  refine LW.aload_n C 3 (dcN_22 dLg_7 :) rfl ?_
  refine LW.iload_n C 0 (dcN_23 dLg_7 :) rfl ?_
  refine LW.iconst C (dcN_24 dLg_7 :) ?_
  refine LW.iadd C (dcN_25 dLg_7 :) ?_
  refine LW.sld C (lw_in hL h0 h1 (by decide) (by decide)) (dcN_26 dLg_7 :) ?_
  refine LW.callV C (As := [iv (xs (ix (i + 1))).toInt, iv (xs (ix (i + 2))).toInt, iv (xs (ix (i + 3))).toInt, iv (xs (ix (i + 4))).toInt]) (st := []) (M_boat_ok e2) cqL_32 crL_32 (by decide) rfl (dcN_27 dLg_7 :) rfl (Nat.le_of_ble_eq_true rfl) ?_
  refine LW.pop C (dcN_0 dLg_8 :) ?_
  refine LW.goto (tgt := 1914) C (dcN_1 dLg_8 :) (by decide) ?_
  exact kk _ hI2
theorem lwc_feed {Inv0 Inv : AG → Prop} (hsim : Sim_feed Inv0 Inv) (C : LC p s m meth c b L xs z) (hL : L ≤ 3072) {i : Int} (h0 : 0 ≤ i) (h1 : i + 6 ≤ L) (hI : Inv0 g) (kk : ∀ g9, Inv g9 → LW p l e s m below meth c b z 1914 [(3, iv i), (2, rv z 117), (1, rv z 0), (0, .ref b)] [] g9) : LW p l e s m below meth c b z 388 [(3, iv i), (2, rv z 117), (1, rv z 0), (0, .ref b)] [] g := by
  obtain ⟨r1, r2, e1, e2, hv, hI2⟩ := hsim ((xs (ix (i + 1))).toInt) ((xs (ix (i + 2))).toInt) ((xs (ix (i + 3))).toInt) ((xs (ix (i + 4))).toInt) ((xs (ix (i + 5))).toInt) g (I32_of _) (I32_of _) (I32_of _) (I32_of _) (I32_of _) hI
  refine LW.aload_n C 2 (dcN_2 dLg_8 :) rfl ?_
  refine LW.aload_n C 3 (dcN_3 dLg_8 :) rfl ?_
  refine LW.iload_n C 0 (dcN_4 dLg_8 :) rfl ?_
  refine LW.iconst C (dcN_5 dLg_8 :) ?_
  refine LW.iadd C (dcN_6 dLg_8 :) ?_
  refine LW.sld C (lw_in hL h0 h1 (by decide) (by decide)) (dcN_7 dLg_8 :) ?_
  refine LW.aload_n C 3 (dcN_8 dLg_8 :) rfl ?_
  refine LW.iload_n C 0 (dcN_9 dLg_8 :) rfl ?_
  refine LW.iconst C (dcN_10 dLg_8 :) ?_
  refine LW.iadd C (dcN_11 dLg_8 :) ?_
  refine LW.sld C (lw_in hL h0 h1 (by decide) (by decide)) (dcN_12 dLg_8 :) ?_
  refine LW.aload_n C 3 (dcN_13 dLg_8 :) rfl ?_
  refine LW.iload_n C 0 (dcN_14 dLg_8 :) rfl ?_
  refine LW.iconst C (dcN_15 dLg_8 :) ?_
  refine LW.iadd C (dcN_16 dLg_8 :) ?_
  refine LW.sld C (lw_in hL h0 h1 (by decide) (by decide)) (dcN_17 dLg_8 :) ?_
  refine LW.aload_n C 3 (dcN_18 dLg_8 :) rfl ?_
  refine LW.iload_n C 0 (dcN_19 dLg_8 :) rfl ?_
  refine LW.iconst C (dcN_20 dLg_8 :) ?_
  refine LW.iadd C (dcN_21 dLg_8 :) ?_
  refine LW.sld C (lw_in hL h0 h1 (by decide) (by decide)) (dcN_22 dLg_8 :) ?_
  refine LW.aload_n C 3 (dcN_23 dLg_8 :) rfl ?_
  refine LW.iload_n C 0 (dcN_24 dLg_8 :) rfl ?_
  refine LW.iconst C (dcN_25 dLg_8 :) ?_
  refine LW.iadd C (dcN_26 dLg_8 :) ?_
  refine LW.sld C (lw_in hL h0 h1 (by decide) (by decide)) (dcN_27 dLg_8 :) ?_
  refine LW.callV C (As := [iv (xs (ix (i + 1))).toInt, iv (xs (ix (i + 2))).toInt, iv (xs (ix (i + 3))).toInt, iv (xs (ix (i + 4))).toInt, iv (xs (ix (i + 5))).toInt]) (st := []) (X_feed_ok e1) cqL_33 crL_33 (by decide) rfl (dcN_28 dLg_8 :) rfl (Nat.le_of_ble_eq_true rfl) ?_
  refine LW.pop C (dcN_0 dLg_9 :) ?_
  refine LW.aload_n C 1 (dcN_1 dLg_9 :) rfl ?_
  refine LW.aload_n C 3 (dcN_2 dLg_9 :) rfl ?_
  refine LW.iload_n C 0 (dcN_3 dLg_9 :) rfl ?_
  refine LW.iconst C (dcN_4 dLg_9 :) ?_
  refine LW.iadd C (dcN_5 dLg_9 :) ?_
  refine LW.sld C (lw_in hL h0 h1 (by decide) (by decide)) (dcN_6 dLg_9 :) ?_
  refine LW.aload_n C 3 (dcN_7 dLg_9 :) rfl ?_
  refine LW.iload_n C 0 (dcN_8 dLg_9 :) rfl ?_
  refine LW.iconst C (dcN_9 dLg_9 :) ?_
  refine LW.iadd C (dcN_10 dLg_9 :) ?_
  refine LW.sld C (lw_in hL h0 h1 (by decide) (by decide)) (dcN_11 dLg_9 :) ?_
  refine LW.aload_n C 3 (dcN_12 dLg_9 :) rfl ?_
  refine LW.iload_n C 0 (dcN_13 dLg_9 :) rfl ?_
  refine LW.iconst C (dcN_14 dLg_9 :) ?_
  refine LW.iadd C (dcN_15 dLg_9 :) ?_
  refine LW.sld C (lw_in hL h0 h1 (by decide) (by decide)) (dcN_16 dLg_9 :) ?_
  refine LW.aload_n C 3 (dcN_17 dLg_9 :) rfl ?_
  refine LW.iload_n C 0 (dcN_18 dLg_9 :) rfl ?_
  refine LW.iconst C (dcN_19 dLg_9 :) ?_
  refine LW.iadd C (dcN_20 dLg_9 :) ?_
  refine LW.sld C (lw_in hL h0 h1 (by decide) (by decide)) (dcN_21 dLg_9 :) ?_
  refine LW.aload_n C 3 (dcN_22 dLg_9 :) rfl ?_
  refine LW.iload_n C 0 (dcN_23 dLg_9 :) rfl ?_
  refine LW.iconst C (dcN_24 dLg_9 :) ?_
  refine LW.iadd C (dcN_25 dLg_9 :) ?_
  refine LW.sld C (lw_in hL h0 h1 (by decide) (by decide)) (dcN_26 dLg_9 :) ?_
  refine LW.callV C (As := [iv (xs (ix (i + 1))).toInt, iv (xs (ix (i + 2))).toInt, iv (xs (ix (i + 3))).toInt, iv (xs (ix (i + 4))).toInt, iv (xs (ix (i + 5))).toInt]) (st := []) (M_feed_ok e2) cqL_37 crL_37 (by decide) rfl (dcN_27 dLg_9 :) rfl (Nat.le_of_ble_eq_true rfl) ?_
  refine LW.pop C (dcN_28 dLg_9 :) ?_
  refine LW.goto (tgt := 1914) C (dcN_0 dLg_10 :) (by decide) ?_
  exact kk _ hI2
theorem lwc_end {Inv0 Inv : AG → Prop} (hsim : Sim_end Inv0 Inv) (C : LC p s m meth c b L xs z) (hL : L ≤ 3072) {i : Int} (h0 : 0 ≤ i) (h1 : i + 6 ≤ L) (hI : Inv0 g) (kk : ∀ g9, Inv g9 → LW p l e s m below meth c b z 1914 [(3, iv i), (2, rv z 117), (1, rv z 0), (0, .ref b)] [] g9) : LW p l e s m below meth c b z 451 [(3, iv i), (2, rv z 117), (1, rv z 0), (0, .ref b)] [] g := by
  obtain ⟨r1, r2, e1, e2, hv, hI2⟩ := hsim ((xs (ix (i + 1))).toInt) g (I32_of _) hI
  refine LW.aload_n C 2 (dcN_1 dLg_10 :) rfl ?_
  refine LW.aload_n C 3 (dcN_2 dLg_10 :) rfl ?_
  refine LW.iload_n C 0 (dcN_3 dLg_10 :) rfl ?_
  refine LW.iconst C (dcN_4 dLg_10 :) ?_
  refine LW.iadd C (dcN_5 dLg_10 :) ?_
  refine LW.sld C (lw_in hL h0 h1 (by decide) (by decide)) (dcN_6 dLg_10 :) ?_
  refine LW.callV C (As := [iv (xs (ix (i + 1))).toInt]) (st := []) (X_end_ok e1) cqL_38 crL_38 (by decide) rfl (dcN_7 dLg_10 :) rfl (Nat.le_of_ble_eq_true rfl) ?_
  refine LW.pop C (dcN_8 dLg_10 :) ?_
  refine LW.aload_n C 1 (dcN_9 dLg_10 :) rfl ?_
  refine LW.aload_n C 3 (dcN_10 dLg_10 :) rfl ?_
  refine LW.iload_n C 0 (dcN_11 dLg_10 :) rfl ?_
  refine LW.iconst C (dcN_12 dLg_10 :) ?_
  refine LW.iadd C (dcN_13 dLg_10 :) ?_
  refine LW.sld C (lw_in hL h0 h1 (by decide) (by decide)) (dcN_14 dLg_10 :) ?_
  refine LW.callV C (As := [iv (xs (ix (i + 1))).toInt]) (st := []) (M_end_ok e2) cqL_41 crL_41 (by decide) rfl (dcN_15 dLg_10 :) rfl (Nat.le_of_ble_eq_true rfl) ?_
  refine LW.pop C (dcN_16 dLg_10 :) ?_
  refine LW.goto (tgt := 1914) C (dcN_17 dLg_10 :) (by decide) ?_
  exact kk _ hI2
theorem lwc_rules {Inv0 Inv : AG → Prop} (hsim : Sim_rules Inv0 Inv) (C : LC p s m meth c b L xs z) (hL : L ≤ 3072) {i : Int} (h0 : 0 ≤ i) (h1 : i + 6 ≤ L) (hI : Inv0 g) (kk : ∀ g9, Inv g9 → LW p l e s m below meth c b z 1914 [(3, iv i), (2, rv z 117), (1, rv z 0), (0, .ref b)] [] g9) : LW p l e s m below meth c b z 474 [(3, iv i), (2, rv z 117), (1, rv z 0), (0, .ref b)] [] g := by
  obtain ⟨r1, r2, e1, e2, hv, hI2⟩ := hsim  g  hI
  refine LW.aload_n C 2 (dcN_18 dLg_10 :) rfl ?_
  refine LW.callV C (As := []) (st := []) (X_rules_ok e1) cqL_42 crL_42 (by decide) rfl (dcN_19 dLg_10 :) rfl (Nat.le_of_ble_eq_true rfl) ?_
  refine LW.pop C (dcN_20 dLg_10 :) ?_
  refine LW.aload_n C 1 (dcN_21 dLg_10 :) rfl ?_
  refine LW.callV C (As := []) (st := []) (M_rules_ok e2) cqL_46 crL_46 (by decide) rfl (dcN_0 dLg_11 :) rfl (Nat.le_of_ble_eq_true rfl) ?_
  refine LW.pop C (dcN_1 dLg_11 :) ?_
  refine LW.goto (tgt := 1914) C (dcN_2 dLg_11 :) (by decide) ?_
  exact kk _ hI2
theorem lwc_fault {Inv0 Inv : AG → Prop} (hsim : Sim_fault Inv0 Inv) (C : LC p s m meth c b L xs z) (hL : L ≤ 3072) {i : Int} (h0 : 0 ≤ i) (h1 : i + 6 ≤ L) (hI : Inv0 g) (kk : ∀ g9, Inv g9 → LW p l e s m below meth c b z 1914 [(3, iv i), (2, rv z 117), (1, rv z 0), (0, .ref b)] [] g9) : LW p l e s m below meth c b z 487 [(3, iv i), (2, rv z 117), (1, rv z 0), (0, .ref b)] [] g := by
  obtain ⟨hv, hI2⟩ := hsim ((xs (ix (i + 1))).toInt) g (I32_of _) hI
  refine LW.aload_n C 2 (dcN_3 dLg_11 :) rfl ?_
  refine LW.aload_n C 3 (dcN_4 dLg_11 :) rfl ?_
  refine LW.iload_n C 0 (dcN_5 dLg_11 :) rfl ?_
  refine LW.iconst C (dcN_6 dLg_11 :) ?_
  refine LW.iadd C (dcN_7 dLg_11 :) ?_
  refine LW.sld C (lw_in hL h0 h1 (by decide) (by decide)) (dcN_8 dLg_11 :) ?_
  refine LW.callV C (As := [iv (xs (ix (i + 1))).toInt]) (st := []) (X_fault_ok) cqL_47 crL_47 (by decide) rfl (dcN_9 dLg_11 :) rfl (Nat.le_of_ble_eq_true rfl) ?_
  refine LW.pop C (dcN_10 dLg_11 :) ?_
  refine LW.aload_n C 1 (dcN_11 dLg_11 :) rfl ?_
  refine LW.aload_n C 3 (dcN_12 dLg_11 :) rfl ?_
  refine LW.iload_n C 0 (dcN_13 dLg_11 :) rfl ?_
  refine LW.iconst C (dcN_14 dLg_11 :) ?_
  refine LW.iadd C (dcN_15 dLg_11 :) ?_
  refine LW.sld C (lw_in hL h0 h1 (by decide) (by decide)) (dcN_16 dLg_11 :) ?_
  refine LW.callV C (As := [iv (xs (ix (i + 1))).toInt]) (st := []) (M_fault_ok) cqL_51 crL_51 (by decide) rfl (dcN_17 dLg_11 :) rfl (Nat.le_of_ble_eq_true rfl) ?_
  refine LW.pop C (dcN_18 dLg_11 :) ?_
  refine LW.goto (tgt := 1914) C (dcN_19 dLg_11 :) (by decide) ?_
  exact kk _ hI2
theorem lwc_open {Inv0 Inv : AG → Prop} (hsim : Sim_open Inv0 Inv) (C : LC p s m meth c b L xs z) (hL : L ≤ 3072) {i : Int} (h0 : 0 ≤ i) (h1 : i + 6 ≤ L) (hI : Inv0 g) (kk : ∀ g9, Inv g9 → LW p l e s m below meth c b z 1914 [(3, iv i), (2, rv z 117), (1, rv z 0), (0, .ref b)] [] g9) : LW p l e s m below meth c b z 510 [(3, iv i), (2, rv z 117), (1, rv z 0), (0, .ref b)] [] g := by
  obtain ⟨v1, r2, e1, e2, hv, hI2⟩ := hsim ((xs (ix (i + 1))).toInt) ((xs (ix (i + 2))).toInt) g (I32_of _) (I32_of _) hI
  refine LW.aload_n C 2 (dcN_20 dLg_11 :) rfl ?_
  refine LW.aload_n C 3 (dcN_21 dLg_11 :) rfl ?_
  refine LW.iload_n C 0 (dcN_0 dLg_12 :) rfl ?_
  refine LW.iconst C (dcN_1 dLg_12 :) ?_
  refine LW.iadd C (dcN_2 dLg_12 :) ?_
  refine LW.sld C (lw_in hL h0 h1 (by decide) (by decide)) (dcN_3 dLg_12 :) ?_
  refine LW.aload_n C 3 (dcN_4 dLg_12 :) rfl ?_
  refine LW.iload_n C 0 (dcN_5 dLg_12 :) rfl ?_
  refine LW.iconst C (dcN_6 dLg_12 :) ?_
  refine LW.iadd C (dcN_7 dLg_12 :) ?_
  refine LW.sld C (lw_in hL h0 h1 (by decide) (by decide)) (dcN_8 dLg_12 :) ?_
  refine LW.callV C (As := [iv (xs (ix (i + 1))).toInt, iv (xs (ix (i + 2))).toInt]) (st := []) (X_open_ok e1) cqL_52 crL_52 (by decide) rfl (dcN_9 dLg_12 :) rfl (Nat.le_of_ble_eq_true rfl) ?_
  refine LW.pop C (dcN_10 dLg_12 :) ?_
  refine LW.aload_n C 1 (dcN_11 dLg_12 :) rfl ?_
  refine LW.aload_n C 3 (dcN_12 dLg_12 :) rfl ?_
  refine LW.iload_n C 0 (dcN_13 dLg_12 :) rfl ?_
  refine LW.iconst C (dcN_14 dLg_12 :) ?_
  refine LW.iadd C (dcN_15 dLg_12 :) ?_
  refine LW.sld C (lw_in hL h0 h1 (by decide) (by decide)) (dcN_16 dLg_12 :) ?_
  refine LW.aload_n C 3 (dcN_17 dLg_12 :) rfl ?_
  refine LW.iload_n C 0 (dcN_18 dLg_12 :) rfl ?_
  refine LW.iconst C (dcN_19 dLg_12 :) ?_
  refine LW.iadd C (dcN_20 dLg_12 :) ?_
  refine LW.sld C (lw_in hL h0 h1 (by decide) (by decide)) (dcN_21 dLg_12 :) ?_
  refine LW.callV C (As := [iv (xs (ix (i + 1))).toInt, iv (xs (ix (i + 2))).toInt]) (st := []) (M_open_ok e2) cqL_56 crL_56 (by decide) rfl (dcN_22 dLg_12 :) rfl (Nat.le_of_ble_eq_true rfl) ?_
  refine LW.pop C (dcN_23 dLg_12 :) ?_
  refine LW.goto (tgt := 1914) C (dcN_24 dLg_12 :) (by decide) ?_
  exact kk _ hI2
theorem lwc_comes {Inv0 Inv : AG → Prop} (hsim : Sim_comes Inv0 Inv) (C : LC p s m meth c b L xs z) (hL : L ≤ 3072) {i : Int} (h0 : 0 ≤ i) (h1 : i + 6 ≤ L) (hI : Inv0 g) (kk : ∀ g9, Inv g9 → LW p l e s m below meth c b z 1914 [(3, iv i), (2, rv z 117), (1, rv z 0), (0, .ref b)] [] g9) : LW p l e s m below meth c b z 543 [(3, iv i), (2, rv z 117), (1, rv z 0), (0, .ref b)] [] g := by
  obtain ⟨r1, r2, e1, e2, hv, hI2⟩ := hsim ((xs (ix (i + 1))).toInt) ((xs (ix (i + 2))).toInt) ((xs (ix (i + 3))).toInt) ((xs (ix (i + 4))).toInt) g (I32_of _) (I32_of _) (I32_of _) (I32_of _) hI
  refine LW.aload_n C 2 (dcN_25 dLg_12 :) rfl ?_
  refine LW.aload_n C 3 (dcN_0 dLg_13 :) rfl ?_
  refine LW.iload_n C 0 (dcN_1 dLg_13 :) rfl ?_
  refine LW.iconst C (dcN_2 dLg_13 :) ?_
  refine LW.iadd C (dcN_3 dLg_13 :) ?_
  refine LW.sld C (lw_in hL h0 h1 (by decide) (by decide)) (dcN_4 dLg_13 :) ?_
  refine LW.aload_n C 3 (dcN_5 dLg_13 :) rfl ?_
  refine LW.iload_n C 0 (dcN_6 dLg_13 :) rfl ?_
  refine LW.iconst C (dcN_7 dLg_13 :) ?_
  refine LW.iadd C (dcN_8 dLg_13 :) ?_
  refine LW.sld C (lw_in hL h0 h1 (by decide) (by decide)) (dcN_9 dLg_13 :) ?_
  refine LW.aload_n C 3 (dcN_10 dLg_13 :) rfl ?_
  refine LW.iload_n C 0 (dcN_11 dLg_13 :) rfl ?_
  refine LW.iconst C (dcN_12 dLg_13 :) ?_
  refine LW.iadd C (dcN_13 dLg_13 :) ?_
  refine LW.sld C (lw_in hL h0 h1 (by decide) (by decide)) (dcN_14 dLg_13 :) ?_
  refine LW.aload_n C 3 (dcN_15 dLg_13 :) rfl ?_
  refine LW.iload_n C 0 (dcN_16 dLg_13 :) rfl ?_
  refine LW.iconst C (dcN_17 dLg_13 :) ?_
  refine LW.iadd C (dcN_18 dLg_13 :) ?_
  refine LW.sld C (lw_in hL h0 h1 (by decide) (by decide)) (dcN_19 dLg_13 :) ?_
  refine LW.callV C (As := [iv (xs (ix (i + 1))).toInt, iv (xs (ix (i + 2))).toInt, iv (xs (ix (i + 3))).toInt, iv (xs (ix (i + 4))).toInt]) (st := []) (X_comes_ok e1) cqL_57 crL_57 (by decide) rfl (dcN_20 dLg_13 :) rfl (Nat.le_of_ble_eq_true rfl) ?_
  refine LW.pop C (dcN_21 dLg_13 :) ?_
  refine LW.aload_n C 1 (dcN_22 dLg_13 :) rfl ?_
  refine LW.aload_n C 3 (dcN_23 dLg_13 :) rfl ?_
  refine LW.iload_n C 0 (dcN_24 dLg_13 :) rfl ?_
  refine LW.iconst C (dcN_25 dLg_13 :) ?_
  refine LW.iadd C (dcN_26 dLg_13 :) ?_
  refine LW.sld C (lw_in hL h0 h1 (by decide) (by decide)) (dcN_27 dLg_13 :) ?_
  refine LW.aload_n C 3 (dcN_28 dLg_13 :) rfl ?_
  refine LW.iload_n C 0 (dcN_29 dLg_13 :) rfl ?_
  refine LW.iconst C (dcN_0 dLg_14 :) ?_
  refine LW.iadd C (dcN_1 dLg_14 :) ?_
  refine LW.sld C (lw_in hL h0 h1 (by decide) (by decide)) (dcN_2 dLg_14 :) ?_
  refine LW.aload_n C 3 (dcN_3 dLg_14 :) rfl ?_
  refine LW.iload_n C 0 (dcN_4 dLg_14 :) rfl ?_
  refine LW.iconst C (dcN_5 dLg_14 :) ?_
  refine LW.iadd C (dcN_6 dLg_14 :) ?_
  refine LW.sld C (lw_in hL h0 h1 (by decide) (by decide)) (dcN_7 dLg_14 :) ?_
  refine LW.aload_n C 3 (dcN_8 dLg_14 :) rfl ?_
  refine LW.iload_n C 0 (dcN_9 dLg_14 :) rfl ?_
  refine LW.iconst C (dcN_10 dLg_14 :) ?_
  refine LW.iadd C (dcN_11 dLg_14 :) ?_
  refine LW.sld C (lw_in hL h0 h1 (by decide) (by decide)) (dcN_12 dLg_14 :) ?_
  refine LW.callV C (As := [iv (xs (ix (i + 1))).toInt, iv (xs (ix (i + 2))).toInt, iv (xs (ix (i + 3))).toInt, iv (xs (ix (i + 4))).toInt]) (st := []) (M_comes_ok e2) cqL_60 crL_60 (by decide) rfl (dcN_13 dLg_14 :) rfl (Nat.le_of_ble_eq_true rfl) ?_
  refine LW.pop C (dcN_14 dLg_14 :) ?_
  refine LW.goto (tgt := 1914) C (dcN_15 dLg_14 :) (by decide) ?_
  exact kk _ hI2
theorem lwc_maybe {Inv0 Inv : AG → Prop} (hsim : Sim_maybe Inv0 Inv) (C : LC p s m meth c b L xs z) (hL : L ≤ 3072) {i : Int} (h0 : 0 ≤ i) (h1 : i + 6 ≤ L) (hI : Inv0 g) (kk : ∀ g9, Inv g9 → LW p l e s m below meth c b z 1914 [(3, iv i), (2, rv z 117), (1, rv z 0), (0, .ref b)] [] g9) : LW p l e s m below meth c b z 596 [(3, iv i), (2, rv z 117), (1, rv z 0), (0, .ref b)] [] g := by
  obtain ⟨r1, r2, e1, e2, hv, hI2⟩ := hsim ((xs (ix (i + 1))).toInt) ((xs (ix (i + 2))).toInt) ((xs (ix (i + 3))).toInt) ((xs (ix (i + 4))).toInt) g (I32_of _) (I32_of _) (I32_of _) (I32_of _) hI
  refine LW.aload_n C 2 (dcN_16 dLg_14 :) rfl ?_
  refine LW.aload_n C 3 (dcN_17 dLg_14 :) rfl ?_
  refine LW.iload_n C 0 (dcN_18 dLg_14 :) rfl ?_
  refine LW.iconst C (dcN_19 dLg_14 :) ?_
  refine LW.iadd C (dcN_20 dLg_14 :) ?_
  refine LW.sld C (lw_in hL h0 h1 (by decide) (by decide)) (dcN_21 dLg_14 :) ?_
  refine LW.aload_n C 3 (dcN_22 dLg_14 :) rfl ?_
  refine LW.iload_n C 0 (dcN_23 dLg_14 :) rfl ?_
  refine LW.iconst C (dcN_24 dLg_14 :) ?_
  refine LW.iadd C (dcN_25 dLg_14 :) ?_
  refine LW.sld C (lw_in hL h0 h1 (by decide) (by decide)) (dcN_26 dLg_14 :) ?_
  refine LW.aload_n C 3 (dcN_27 dLg_14 :) rfl ?_
  refine LW.iload_n C 0 (dcN_0 dLg_15 :) rfl ?_
  refine LW.iconst C (dcN_1 dLg_15 :) ?_
  refine LW.iadd C (dcN_2 dLg_15 :) ?_
  refine LW.sld C (lw_in hL h0 h1 (by decide) (by decide)) (dcN_3 dLg_15 :) ?_
  refine LW.aload_n C 3 (dcN_4 dLg_15 :) rfl ?_
  refine LW.iload_n C 0 (dcN_5 dLg_15 :) rfl ?_
  refine LW.iconst C (dcN_6 dLg_15 :) ?_
  refine LW.iadd C (dcN_7 dLg_15 :) ?_
  refine LW.sld C (lw_in hL h0 h1 (by decide) (by decide)) (dcN_8 dLg_15 :) ?_
  refine LW.callV C (As := [iv (xs (ix (i + 1))).toInt, iv (xs (ix (i + 2))).toInt, iv (xs (ix (i + 3))).toInt, iv (xs (ix (i + 4))).toInt]) (st := []) (X_maybe_ok e1) cqL_61 crL_61 (by decide) rfl (dcN_9 dLg_15 :) rfl (Nat.le_of_ble_eq_true rfl) ?_
  refine LW.pop C (dcN_10 dLg_15 :) ?_
  refine LW.aload_n C 1 (dcN_11 dLg_15 :) rfl ?_
  refine LW.aload_n C 3 (dcN_12 dLg_15 :) rfl ?_
  refine LW.iload_n C 0 (dcN_13 dLg_15 :) rfl ?_
  refine LW.iconst C (dcN_14 dLg_15 :) ?_
  refine LW.iadd C (dcN_15 dLg_15 :) ?_
  refine LW.sld C (lw_in hL h0 h1 (by decide) (by decide)) (dcN_16 dLg_15 :) ?_
  refine LW.aload_n C 3 (dcN_17 dLg_15 :) rfl ?_
  refine LW.iload_n C 0 (dcN_18 dLg_15 :) rfl ?_
  refine LW.iconst C (dcN_19 dLg_15 :) ?_
  refine LW.iadd C (dcN_20 dLg_15 :) ?_
  refine LW.sld C (lw_in hL h0 h1 (by decide) (by decide)) (dcN_21 dLg_15 :) ?_
  refine LW.aload_n C 3 (dcN_22 dLg_15 :) rfl ?_
  refine LW.iload_n C 0 (dcN_23 dLg_15 :) rfl ?_
  refine LW.iconst C (dcN_24 dLg_15 :) ?_
  refine LW.iadd C (dcN_25 dLg_15 :) ?_
  refine LW.sld C (lw_in hL h0 h1 (by decide) (by decide)) (dcN_26 dLg_15 :) ?_
  refine LW.aload_n C 3 (dcN_27 dLg_15 :) rfl ?_
  refine LW.iload_n C 0 (dcN_28 dLg_15 :) rfl ?_
  refine LW.iconst C (dcN_29 dLg_15 :) ?_
  refine LW.iadd C (dcN_0 dLg_16 :) ?_
  refine LW.sld C (lw_in hL h0 h1 (by decide) (by decide)) (dcN_1 dLg_16 :) ?_
  refine LW.callV C (As := [iv (xs (ix (i + 1))).toInt, iv (xs (ix (i + 2))).toInt, iv (xs (ix (i + 3))).toInt, iv (xs (ix (i + 4))).toInt]) (st := []) (M_maybe_ok e2) cqL_64 crL_64 (by decide) rfl (dcN_2 dLg_16 :) rfl (Nat.le_of_ble_eq_true rfl) ?_
  refine LW.pop C (dcN_3 dLg_16 :) ?_
  refine LW.goto (tgt := 1914) C (dcN_4 dLg_16 :) (by decide) ?_
  exact kk _ hI2
theorem lwc_harm {Inv0 Inv : AG → Prop} (hsim : Sim_harm Inv0 Inv) (C : LC p s m meth c b L xs z) (hL : L ≤ 3072) {i : Int} (h0 : 0 ≤ i) (h1 : i + 6 ≤ L) (hI : Inv0 g) (kk : ∀ g9, Inv g9 → LW p l e s m below meth c b z 1914 [(3, iv i), (2, rv z 117), (1, rv z 0), (0, .ref b)] [] g9) : LW p l e s m below meth c b z 649 [(3, iv i), (2, rv z 117), (1, rv z 0), (0, .ref b)] [] g := by
  obtain ⟨r1, r2, e1, e2, hv, hI2⟩ := hsim ((xs (ix (i + 1))).toInt) ((xs (ix (i + 2))).toInt) ((xs (ix (i + 3))).toInt) ((xs (ix (i + 4))).toInt) g (I32_of _) (I32_of _) (I32_of _) (I32_of _) hI
  refine LW.aload_n C 2 (dcN_5 dLg_16 :) rfl ?_
  refine LW.aload_n C 3 (dcN_6 dLg_16 :) rfl ?_
  refine LW.iload_n C 0 (dcN_7 dLg_16 :) rfl ?_
  refine LW.iconst C (dcN_8 dLg_16 :) ?_
  refine LW.iadd C (dcN_9 dLg_16 :) ?_
  refine LW.sld C (lw_in hL h0 h1 (by decide) (by decide)) (dcN_10 dLg_16 :) ?_
  refine LW.aload_n C 3 (dcN_11 dLg_16 :) rfl ?_
  refine LW.iload_n C 0 (dcN_12 dLg_16 :) rfl ?_
  refine LW.iconst C (dcN_13 dLg_16 :) ?_
  refine LW.iadd C (dcN_14 dLg_16 :) ?_
  refine LW.sld C (lw_in hL h0 h1 (by decide) (by decide)) (dcN_15 dLg_16 :) ?_
  refine LW.aload_n C 3 (dcN_16 dLg_16 :) rfl ?_
  refine LW.iload_n C 0 (dcN_17 dLg_16 :) rfl ?_
  refine LW.iconst C (dcN_18 dLg_16 :) ?_
  refine LW.iadd C (dcN_19 dLg_16 :) ?_
  refine LW.sld C (lw_in hL h0 h1 (by decide) (by decide)) (dcN_20 dLg_16 :) ?_
  refine LW.aload_n C 3 (dcN_21 dLg_16 :) rfl ?_
  refine LW.iload_n C 0 (dcN_22 dLg_16 :) rfl ?_
  refine LW.iconst C (dcN_23 dLg_16 :) ?_
  refine LW.iadd C (dcN_24 dLg_16 :) ?_
  refine LW.sld C (lw_in hL h0 h1 (by decide) (by decide)) (dcN_25 dLg_16 :) ?_
  refine LW.callV C (As := [iv (xs (ix (i + 1))).toInt, iv (xs (ix (i + 2))).toInt, iv (xs (ix (i + 3))).toInt, iv (xs (ix (i + 4))).toInt]) (st := []) (X_harm_ok e1) cqL_65 crL_65 (by decide) rfl (dcN_26 dLg_16 :) rfl (Nat.le_of_ble_eq_true rfl) ?_
  refine LW.pop C (dcN_0 dLg_17 :) ?_
  refine LW.aload_n C 1 (dcN_1 dLg_17 :) rfl ?_
  refine LW.aload_n C 3 (dcN_2 dLg_17 :) rfl ?_
  refine LW.iload_n C 0 (dcN_3 dLg_17 :) rfl ?_
  refine LW.iconst C (dcN_4 dLg_17 :) ?_
  refine LW.iadd C (dcN_5 dLg_17 :) ?_
  refine LW.sld C (lw_in hL h0 h1 (by decide) (by decide)) (dcN_6 dLg_17 :) ?_
  refine LW.aload_n C 3 (dcN_7 dLg_17 :) rfl ?_
  refine LW.iload_n C 0 (dcN_8 dLg_17 :) rfl ?_
  refine LW.iconst C (dcN_9 dLg_17 :) ?_
  refine LW.iadd C (dcN_10 dLg_17 :) ?_
  refine LW.sld C (lw_in hL h0 h1 (by decide) (by decide)) (dcN_11 dLg_17 :) ?_
  refine LW.aload_n C 3 (dcN_12 dLg_17 :) rfl ?_
  refine LW.iload_n C 0 (dcN_13 dLg_17 :) rfl ?_
  refine LW.iconst C (dcN_14 dLg_17 :) ?_
  refine LW.iadd C (dcN_15 dLg_17 :) ?_
  refine LW.sld C (lw_in hL h0 h1 (by decide) (by decide)) (dcN_16 dLg_17 :) ?_
  refine LW.aload_n C 3 (dcN_17 dLg_17 :) rfl ?_
  refine LW.iload_n C 0 (dcN_18 dLg_17 :) rfl ?_
  refine LW.iconst C (dcN_19 dLg_17 :) ?_
  refine LW.iadd C (dcN_20 dLg_17 :) ?_
  refine LW.sld C (lw_in hL h0 h1 (by decide) (by decide)) (dcN_21 dLg_17 :) ?_
  refine LW.callV C (As := [iv (xs (ix (i + 1))).toInt, iv (xs (ix (i + 2))).toInt, iv (xs (ix (i + 3))).toInt, iv (xs (ix (i + 4))).toInt]) (st := []) (M_harm_ok e2) cqL_68 crL_68 (by decide) rfl (dcN_22 dLg_17 :) rfl (Nat.le_of_ble_eq_true rfl) ?_
  refine LW.pop C (dcN_23 dLg_17 :) ?_
  refine LW.goto (tgt := 1914) C (dcN_24 dLg_17 :) (by decide) ?_
  exact kk _ hI2
theorem lwc_back {Inv0 Inv : AG → Prop} (hsim : Sim_back Inv0 Inv) (C : LC p s m meth c b L xs z) (hL : L ≤ 3072) {i : Int} (h0 : 0 ≤ i) (h1 : i + 6 ≤ L) (hI : Inv0 g) (kk : ∀ g9, Inv g9 → LW p l e s m below meth c b z 1914 [(3, iv i), (2, rv z 117), (1, rv z 0), (0, .ref b)] [] g9) : LW p l e s m below meth c b z 702 [(3, iv i), (2, rv z 117), (1, rv z 0), (0, .ref b)] [] g := by
  obtain ⟨r1, r2, e1, e2, hv, hI2⟩ := hsim ((xs (ix (i + 1))).toInt) ((xs (ix (i + 2))).toInt) g (I32_of _) (I32_of _) hI
  refine LW.aload_n C 2 (dcN_25 dLg_17 :) rfl ?_
  refine LW.aload_n C 3 (dcN_26 dLg_17 :) rfl ?_
  refine LW.iload_n C 0 (dcN_0 dLg_18 :) rfl ?_
  refine LW.iconst C (dcN_1 dLg_18 :) ?_
  refine LW.iadd C (dcN_2 dLg_18 :) ?_
  refine LW.sld C (lw_in hL h0 h1 (by decide) (by decide)) (dcN_3 dLg_18 :) ?_
  refine LW.aload_n C 3 (dcN_4 dLg_18 :) rfl ?_
  refine LW.iload_n C 0 (dcN_5 dLg_18 :) rfl ?_
  refine LW.iconst C (dcN_6 dLg_18 :) ?_
  refine LW.iadd C (dcN_7 dLg_18 :) ?_
  refine LW.sld C (lw_in hL h0 h1 (by decide) (by decide)) (dcN_8 dLg_18 :) ?_
  refine LW.callV C (As := [iv (xs (ix (i + 1))).toInt, iv (xs (ix (i + 2))).toInt]) (st := []) (X_back_ok e1) cqL_69 crL_69 (by decide) rfl (dcN_9 dLg_18 :) rfl (Nat.le_of_ble_eq_true rfl) ?_
  refine LW.pop C (dcN_10 dLg_18 :) ?_
  refine LW.aload_n C 1 (dcN_11 dLg_18 :) rfl ?_
  refine LW.aload_n C 3 (dcN_12 dLg_18 :) rfl ?_
  refine LW.iload_n C 0 (dcN_13 dLg_18 :) rfl ?_
  refine LW.iconst C (dcN_14 dLg_18 :) ?_
  refine LW.iadd C (dcN_15 dLg_18 :) ?_
  refine LW.sld C (lw_in hL h0 h1 (by decide) (by decide)) (dcN_16 dLg_18 :) ?_
  refine LW.aload_n C 3 (dcN_17 dLg_18 :) rfl ?_
  refine LW.iload_n C 0 (dcN_18 dLg_18 :) rfl ?_
  refine LW.iconst C (dcN_19 dLg_18 :) ?_
  refine LW.iadd C (dcN_20 dLg_18 :) ?_
  refine LW.sld C (lw_in hL h0 h1 (by decide) (by decide)) (dcN_21 dLg_18 :) ?_
  refine LW.callV C (As := [iv (xs (ix (i + 1))).toInt, iv (xs (ix (i + 2))).toInt]) (st := []) (M_back_ok e2) cqL_72 crL_72 (by decide) rfl (dcN_22 dLg_18 :) rfl (Nat.le_of_ble_eq_true rfl) ?_
  refine LW.pop C (dcN_23 dLg_18 :) ?_
  refine LW.goto (tgt := 1914) C (dcN_24 dLg_18 :) (by decide) ?_
  exact kk _ hI2
theorem lwc_rung {Inv0 Inv : AG → Prop} (hsim : Sim_rung Inv0 Inv) (C : LC p s m meth c b L xs z) (hL : L ≤ 3072) {i : Int} (h0 : 0 ≤ i) (h1 : i + 6 ≤ L) (hI : Inv0 g) (kk : ∀ g9, Inv g9 → LW p l e s m below meth c b z 1914 [(3, iv i), (2, rv z 117), (1, rv z 0), (0, .ref b)] [] g9) : LW p l e s m below meth c b z 735 [(3, iv i), (2, rv z 117), (1, rv z 0), (0, .ref b)] [] g := by
  obtain ⟨r1, r2, e1, e2, hv, hI2⟩ := hsim  g  hI
  refine LW.aload_n C 2 (dcN_25 dLg_18 :) rfl ?_
  refine LW.callV C (As := []) (st := []) (X_rung_ok e1) cqL_73 crL_73 (by decide) rfl (dcN_0 dLg_19 :) rfl (Nat.le_of_ble_eq_true rfl) ?_
  refine LW.pop C (dcN_1 dLg_19 :) ?_
  refine LW.aload_n C 1 (dcN_2 dLg_19 :) rfl ?_
  refine LW.callV C (As := []) (st := []) (M_rung_ok e2) cqL_76 crL_76 (by decide) rfl (dcN_3 dLg_19 :) rfl (Nat.le_of_ble_eq_true rfl) ?_
  refine LW.pop C (dcN_4 dLg_19 :) ?_
  refine LW.goto (tgt := 1914) C (dcN_5 dLg_19 :) (by decide) ?_
  exact kk _ hI2
end LAWW
end
section
section LAWW
variable {p : Program} {l : Launch} {e : Env} {s : State} {m : MethodId} {below : List Frame} {meth : Method} {c : Code} {b L : Nat} {xs : Nat → Int32} {z : AZ} {pc : Nat} {lv : List (Nat × Value)} {st : List Value} {g : AG}
theorem lwc_pump {Inv0 Inv : AG → Prop} (hsim : Sim_pump Inv0 Inv) (C : LC p s m meth c b L xs z) (hL : L ≤ 3072) {i : Int} (h0 : 0 ≤ i) (h1 : i + 6 ≤ L) (hI : Inv0 g) (kk : ∀ g9, Inv g9 → LW p l e s m below meth c b z 1914 [(3, iv i), (2, rv z 117), (1, rv z 0), (0, .ref b)] [] g9) : LW p l e s m below meth c b z 748 [(3, iv i), (2, rv z 117), (1, rv z 0), (0, .ref b)] [] g := by
  by_cases hb : nw (xs (ix (i + 2))).toInt = 0
  · obtain ⟨r1, r2, e1, e2, hv, hI2⟩ := hsim ((xs (ix (i + 1))).toInt) (0) g (I32_of _) (Or.inl rfl) hI
    refine LW.aload_n C 2 (dcN_6 dLg_19 :) rfl ?_
    refine LW.aload_n C 3 (dcN_7 dLg_19 :) rfl ?_
    refine LW.iload_n C 0 (dcN_8 dLg_19 :) rfl ?_
    refine LW.iconst C (dcN_9 dLg_19 :) ?_
    refine LW.iadd C (dcN_10 dLg_19 :) ?_
    refine LW.sld C (lw_in hL h0 h1 (by decide) (by decide)) (dcN_11 dLg_19 :) ?_
    refine LW.aload_n C 3 (dcN_12 dLg_19 :) rfl ?_
    refine LW.iload_n C 0 (dcN_13 dLg_19 :) rfl ?_
    refine LW.iconst C (dcN_14 dLg_19 :) ?_
    refine LW.iadd C (dcN_15 dLg_19 :) ?_
    refine LW.sld C (lw_in hL h0 h1 (by decide) (by decide)) (dcN_16 dLg_19 :) ?_
    refine LW.if_eq (tgt := 766) C (dcN_17 dLg_19 :) (by decide) (fun _ => ?_) (fun q => absurd hb q)
    refine LW.iconst C (dcN_20 dLg_19 :) ?_
    refine LW.callV C (As := [iv (xs (ix (i + 1))).toInt, iv 0]) (st := []) (X_pump_ok e1) cqL_77 crL_77 (by decide) rfl (dcN_21 dLg_19 :) rfl (Nat.le_of_ble_eq_true rfl) ?_
    refine LW.pop C (dcN_0 dLg_20 :) ?_
    refine LW.aload_n C 1 (dcN_1 dLg_20 :) rfl ?_
    refine LW.aload_n C 3 (dcN_2 dLg_20 :) rfl ?_
    refine LW.iload_n C 0 (dcN_3 dLg_20 :) rfl ?_
    refine LW.iconst C (dcN_4 dLg_20 :) ?_
    refine LW.iadd C (dcN_5 dLg_20 :) ?_
    refine LW.sld C (lw_in hL h0 h1 (by decide) (by decide)) (dcN_6 dLg_20 :) ?_
    refine LW.aload_n C 3 (dcN_7 dLg_20 :) rfl ?_
    refine LW.iload_n C 0 (dcN_8 dLg_20 :) rfl ?_
    refine LW.iconst C (dcN_9 dLg_20 :) ?_
    refine LW.iadd C (dcN_10 dLg_20 :) ?_
    refine LW.sld C (lw_in hL h0 h1 (by decide) (by decide)) (dcN_11 dLg_20 :) ?_
    refine LW.if_eq (tgt := 789) C (dcN_12 dLg_20 :) (by decide) (fun _ => ?_) (fun q => absurd hb q)
    refine LW.iconst C (dcN_15 dLg_20 :) ?_
    refine LW.callV C (As := [iv (xs (ix (i + 1))).toInt, iv 0]) (st := []) (M_pump_ok e2) cqL_81 crL_81 (by decide) rfl (dcN_16 dLg_20 :) rfl (Nat.le_of_ble_eq_true rfl) ?_
    refine LW.pop C (dcN_17 dLg_20 :) ?_
    refine LW.goto (tgt := 1914) C (dcN_18 dLg_20 :) (by decide) ?_
    exact kk _ hI2
  · obtain ⟨r1, r2, e1, e2, hv, hI2⟩ := hsim ((xs (ix (i + 1))).toInt) (1) g (I32_of _) (Or.inr rfl) hI
    refine LW.aload_n C 2 (dcN_6 dLg_19 :) rfl ?_
    refine LW.aload_n C 3 (dcN_7 dLg_19 :) rfl ?_
    refine LW.iload_n C 0 (dcN_8 dLg_19 :) rfl ?_
    refine LW.iconst C (dcN_9 dLg_19 :) ?_
    refine LW.iadd C (dcN_10 dLg_19 :) ?_
    refine LW.sld C (lw_in hL h0 h1 (by decide) (by decide)) (dcN_11 dLg_19 :) ?_
    refine LW.aload_n C 3 (dcN_12 dLg_19 :) rfl ?_
    refine LW.iload_n C 0 (dcN_13 dLg_19 :) rfl ?_
    refine LW.iconst C (dcN_14 dLg_19 :) ?_
    refine LW.iadd C (dcN_15 dLg_19 :) ?_
    refine LW.sld C (lw_in hL h0 h1 (by decide) (by decide)) (dcN_16 dLg_19 :) ?_
    refine LW.if_eq (tgt := 766) C (dcN_17 dLg_19 :) (by decide) (fun q => absurd q hb) (fun _ => ?_)
    refine LW.iconst C (dcN_18 dLg_19 :) ?_
    refine LW.goto (tgt := 767) C (dcN_19 dLg_19 :) (by decide) ?_
    refine LW.callV C (As := [iv (xs (ix (i + 1))).toInt, iv 1]) (st := []) (X_pump_ok e1) cqL_77 crL_77 (by decide) rfl (dcN_21 dLg_19 :) rfl (Nat.le_of_ble_eq_true rfl) ?_
    refine LW.pop C (dcN_0 dLg_20 :) ?_
    refine LW.aload_n C 1 (dcN_1 dLg_20 :) rfl ?_
    refine LW.aload_n C 3 (dcN_2 dLg_20 :) rfl ?_
    refine LW.iload_n C 0 (dcN_3 dLg_20 :) rfl ?_
    refine LW.iconst C (dcN_4 dLg_20 :) ?_
    refine LW.iadd C (dcN_5 dLg_20 :) ?_
    refine LW.sld C (lw_in hL h0 h1 (by decide) (by decide)) (dcN_6 dLg_20 :) ?_
    refine LW.aload_n C 3 (dcN_7 dLg_20 :) rfl ?_
    refine LW.iload_n C 0 (dcN_8 dLg_20 :) rfl ?_
    refine LW.iconst C (dcN_9 dLg_20 :) ?_
    refine LW.iadd C (dcN_10 dLg_20 :) ?_
    refine LW.sld C (lw_in hL h0 h1 (by decide) (by decide)) (dcN_11 dLg_20 :) ?_
    refine LW.if_eq (tgt := 789) C (dcN_12 dLg_20 :) (by decide) (fun q => absurd q hb) (fun _ => ?_)
    refine LW.iconst C (dcN_13 dLg_20 :) ?_
    refine LW.goto (tgt := 790) C (dcN_14 dLg_20 :) (by decide) ?_
    refine LW.callV C (As := [iv (xs (ix (i + 1))).toInt, iv 1]) (st := []) (M_pump_ok e2) cqL_81 crL_81 (by decide) rfl (dcN_16 dLg_20 :) rfl (Nat.le_of_ble_eq_true rfl) ?_
    refine LW.pop C (dcN_17 dLg_20 :) ?_
    refine LW.goto (tgt := 1914) C (dcN_18 dLg_20 :) (by decide) ?_
    exact kk _ hI2
theorem lwc_pumped {Inv0 Inv : AG → Prop} (hsim : Sim_pumped Inv0 Inv) (C : LC p s m meth c b L xs z) (hL : L ≤ 3072) {i : Int} (h0 : 0 ≤ i) (h1 : i + 6 ≤ L) (hI : Inv0 g) (kk : ∀ g9, Inv g9 → LW p l e s m below meth c b z 1914 [(3, iv i), (2, rv z 117), (1, rv z 0), (0, .ref b)] [] g9) : LW p l e s m below meth c b z 797 [(3, iv i), (2, rv z 117), (1, rv z 0), (0, .ref b)] [] g := by
  obtain ⟨r1, r2, e1, e2, hv, hI2⟩ := hsim ((xs (ix (i + 1))).toInt) ((xs (ix (i + 2))).toInt) ((xs (ix (i + 3))).toInt) ((xs (ix (i + 4))).toInt) ((xs (ix (i + 5))).toInt) g (I32_of _) (I32_of _) (I32_of _) (I32_of _) (I32_of _) hI
  refine LW.aload_n C 2 (dcN_19 dLg_20 :) rfl ?_
  refine LW.aload_n C 3 (dcN_20 dLg_20 :) rfl ?_
  refine LW.iload_n C 0 (dcN_21 dLg_20 :) rfl ?_
  refine LW.iconst C (dcN_0 dLg_21 :) ?_
  refine LW.iadd C (dcN_1 dLg_21 :) ?_
  refine LW.sld C (lw_in hL h0 h1 (by decide) (by decide)) (dcN_2 dLg_21 :) ?_
  refine LW.aload_n C 3 (dcN_3 dLg_21 :) rfl ?_
  refine LW.iload_n C 0 (dcN_4 dLg_21 :) rfl ?_
  refine LW.iconst C (dcN_5 dLg_21 :) ?_
  refine LW.iadd C (dcN_6 dLg_21 :) ?_
  refine LW.sld C (lw_in hL h0 h1 (by decide) (by decide)) (dcN_7 dLg_21 :) ?_
  refine LW.aload_n C 3 (dcN_8 dLg_21 :) rfl ?_
  refine LW.iload_n C 0 (dcN_9 dLg_21 :) rfl ?_
  refine LW.iconst C (dcN_10 dLg_21 :) ?_
  refine LW.iadd C (dcN_11 dLg_21 :) ?_
  refine LW.sld C (lw_in hL h0 h1 (by decide) (by decide)) (dcN_12 dLg_21 :) ?_
  refine LW.aload_n C 3 (dcN_13 dLg_21 :) rfl ?_
  refine LW.iload_n C 0 (dcN_14 dLg_21 :) rfl ?_
  refine LW.iconst C (dcN_15 dLg_21 :) ?_
  refine LW.iadd C (dcN_16 dLg_21 :) ?_
  refine LW.sld C (lw_in hL h0 h1 (by decide) (by decide)) (dcN_17 dLg_21 :) ?_
  refine LW.aload_n C 3 (dcN_18 dLg_21 :) rfl ?_
  refine LW.iload_n C 0 (dcN_19 dLg_21 :) rfl ?_
  refine LW.iconst C (dcN_20 dLg_21 :) ?_
  refine LW.iadd C (dcN_21 dLg_21 :) ?_
  refine LW.sld C (lw_in hL h0 h1 (by decide) (by decide)) (dcN_22 dLg_21 :) ?_
  refine LW.callV C (As := [iv (xs (ix (i + 1))).toInt, iv (xs (ix (i + 2))).toInt, iv (xs (ix (i + 3))).toInt, iv (xs (ix (i + 4))).toInt, iv (xs (ix (i + 5))).toInt]) (st := []) (X_pumped_ok e1) cqL_82 crL_82 (by decide) rfl (dcN_23 dLg_21 :) rfl (Nat.le_of_ble_eq_true rfl) ?_
  refine LW.pop C (dcN_24 dLg_21 :) ?_
  refine LW.aload_n C 1 (dcN_25 dLg_21 :) rfl ?_
  refine LW.aload_n C 3 (dcN_26 dLg_21 :) rfl ?_
  refine LW.iload_n C 0 (dcN_27 dLg_21 :) rfl ?_
  refine LW.iconst C (dcN_28 dLg_21 :) ?_
  refine LW.iadd C (dcN_29 dLg_21 :) ?_
  refine LW.sld C (lw_in hL h0 h1 (by decide) (by decide)) (dcN_0 dLg_22 :) ?_
  refine LW.aload_n C 3 (dcN_1 dLg_22 :) rfl ?_
  refine LW.iload_n C 0 (dcN_2 dLg_22 :) rfl ?_
  refine LW.iconst C (dcN_3 dLg_22 :) ?_
  refine LW.iadd C (dcN_4 dLg_22 :) ?_
  refine LW.sld C (lw_in hL h0 h1 (by decide) (by decide)) (dcN_5 dLg_22 :) ?_
  refine LW.aload_n C 3 (dcN_6 dLg_22 :) rfl ?_
  refine LW.iload_n C 0 (dcN_7 dLg_22 :) rfl ?_
  refine LW.iconst C (dcN_8 dLg_22 :) ?_
  refine LW.iadd C (dcN_9 dLg_22 :) ?_
  refine LW.sld C (lw_in hL h0 h1 (by decide) (by decide)) (dcN_10 dLg_22 :) ?_
  refine LW.aload_n C 3 (dcN_11 dLg_22 :) rfl ?_
  refine LW.iload_n C 0 (dcN_12 dLg_22 :) rfl ?_
  refine LW.iconst C (dcN_13 dLg_22 :) ?_
  refine LW.iadd C (dcN_14 dLg_22 :) ?_
  refine LW.sld C (lw_in hL h0 h1 (by decide) (by decide)) (dcN_15 dLg_22 :) ?_
  refine LW.aload_n C 3 (dcN_16 dLg_22 :) rfl ?_
  refine LW.iload_n C 0 (dcN_17 dLg_22 :) rfl ?_
  refine LW.iconst C (dcN_18 dLg_22 :) ?_
  refine LW.iadd C (dcN_19 dLg_22 :) ?_
  refine LW.sld C (lw_in hL h0 h1 (by decide) (by decide)) (dcN_20 dLg_22 :) ?_
  refine LW.callV C (As := [iv (xs (ix (i + 1))).toInt, iv (xs (ix (i + 2))).toInt, iv (xs (ix (i + 3))).toInt, iv (xs (ix (i + 4))).toInt, iv (xs (ix (i + 5))).toInt]) (st := []) (M_pumped_ok e2) cqL_85 crL_85 (by decide) rfl (dcN_21 dLg_22 :) rfl (Nat.le_of_ble_eq_true rfl) ?_
  refine LW.pop C (dcN_22 dLg_22 :) ?_
  refine LW.goto (tgt := 1914) C (dcN_23 dLg_22 :) (by decide) ?_
  exact kk _ hI2
theorem lwc_enough {Inv0 Inv : AG → Prop} (hsim : Sim_enough Inv0 Inv) (C : LC p s m meth c b L xs z) (hL : L ≤ 3072) {i : Int} (h0 : 0 ≤ i) (h1 : i + 6 ≤ L) (hI : Inv0 g) (kk : ∀ g9, Inv g9 → LW p l e s m below meth c b z 1914 [(3, iv i), (2, rv z 117), (1, rv z 0), (0, .ref b)] [] g9) : LW p l e s m below meth c b z 860 [(3, iv i), (2, rv z 117), (1, rv z 0), (0, .ref b)] [] g := by
  obtain ⟨r1, r2, e1, e2, hv, hI2⟩ := hsim ((xs (ix (i + 1))).toInt) ((xs (ix (i + 2))).toInt) ((xs (ix (i + 3))).toInt) ((xs (ix (i + 4))).toInt) ((xs (ix (i + 5))).toInt) g (I32_of _) (I32_of _) (I32_of _) (I32_of _) (I32_of _) hI
  refine LW.aload_n C 2 (dcN_24 dLg_22 :) rfl ?_
  refine LW.aload_n C 3 (dcN_25 dLg_22 :) rfl ?_
  refine LW.iload_n C 0 (dcN_26 dLg_22 :) rfl ?_
  refine LW.iconst C (dcN_27 dLg_22 :) ?_
  refine LW.iadd C (dcN_0 dLg_23 :) ?_
  refine LW.sld C (lw_in hL h0 h1 (by decide) (by decide)) (dcN_1 dLg_23 :) ?_
  refine LW.aload_n C 3 (dcN_2 dLg_23 :) rfl ?_
  refine LW.iload_n C 0 (dcN_3 dLg_23 :) rfl ?_
  refine LW.iconst C (dcN_4 dLg_23 :) ?_
  refine LW.iadd C (dcN_5 dLg_23 :) ?_
  refine LW.sld C (lw_in hL h0 h1 (by decide) (by decide)) (dcN_6 dLg_23 :) ?_
  refine LW.aload_n C 3 (dcN_7 dLg_23 :) rfl ?_
  refine LW.iload_n C 0 (dcN_8 dLg_23 :) rfl ?_
  refine LW.iconst C (dcN_9 dLg_23 :) ?_
  refine LW.iadd C (dcN_10 dLg_23 :) ?_
  refine LW.sld C (lw_in hL h0 h1 (by decide) (by decide)) (dcN_11 dLg_23 :) ?_
  refine LW.aload_n C 3 (dcN_12 dLg_23 :) rfl ?_
  refine LW.iload_n C 0 (dcN_13 dLg_23 :) rfl ?_
  refine LW.iconst C (dcN_14 dLg_23 :) ?_
  refine LW.iadd C (dcN_15 dLg_23 :) ?_
  refine LW.sld C (lw_in hL h0 h1 (by decide) (by decide)) (dcN_16 dLg_23 :) ?_
  refine LW.aload_n C 3 (dcN_17 dLg_23 :) rfl ?_
  refine LW.iload_n C 0 (dcN_18 dLg_23 :) rfl ?_
  refine LW.iconst C (dcN_19 dLg_23 :) ?_
  refine LW.iadd C (dcN_20 dLg_23 :) ?_
  refine LW.sld C (lw_in hL h0 h1 (by decide) (by decide)) (dcN_21 dLg_23 :) ?_
  refine LW.callV C (As := [iv (xs (ix (i + 1))).toInt, iv (xs (ix (i + 2))).toInt, iv (xs (ix (i + 3))).toInt, iv (xs (ix (i + 4))).toInt, iv (xs (ix (i + 5))).toInt]) (st := []) (X_enough_ok e1) cqL_86 crL_86 (by decide) rfl (dcN_22 dLg_23 :) rfl (Nat.le_of_ble_eq_true rfl) ?_
  refine LW.pop C (dcN_23 dLg_23 :) ?_
  refine LW.aload_n C 1 (dcN_24 dLg_23 :) rfl ?_
  refine LW.aload_n C 3 (dcN_25 dLg_23 :) rfl ?_
  refine LW.iload_n C 0 (dcN_26 dLg_23 :) rfl ?_
  refine LW.iconst C (dcN_27 dLg_23 :) ?_
  refine LW.iadd C (dcN_28 dLg_23 :) ?_
  refine LW.sld C (lw_in hL h0 h1 (by decide) (by decide)) (dcN_29 dLg_23 :) ?_
  refine LW.aload_n C 3 (dcN_0 dLg_24 :) rfl ?_
  refine LW.iload_n C 0 (dcN_1 dLg_24 :) rfl ?_
  refine LW.iconst C (dcN_2 dLg_24 :) ?_
  refine LW.iadd C (dcN_3 dLg_24 :) ?_
  refine LW.sld C (lw_in hL h0 h1 (by decide) (by decide)) (dcN_4 dLg_24 :) ?_
  refine LW.aload_n C 3 (dcN_5 dLg_24 :) rfl ?_
  refine LW.iload_n C 0 (dcN_6 dLg_24 :) rfl ?_
  refine LW.iconst C (dcN_7 dLg_24 :) ?_
  refine LW.iadd C (dcN_8 dLg_24 :) ?_
  refine LW.sld C (lw_in hL h0 h1 (by decide) (by decide)) (dcN_9 dLg_24 :) ?_
  refine LW.aload_n C 3 (dcN_10 dLg_24 :) rfl ?_
  refine LW.iload_n C 0 (dcN_11 dLg_24 :) rfl ?_
  refine LW.iconst C (dcN_12 dLg_24 :) ?_
  refine LW.iadd C (dcN_13 dLg_24 :) ?_
  refine LW.sld C (lw_in hL h0 h1 (by decide) (by decide)) (dcN_14 dLg_24 :) ?_
  refine LW.aload_n C 3 (dcN_15 dLg_24 :) rfl ?_
  refine LW.iload_n C 0 (dcN_16 dLg_24 :) rfl ?_
  refine LW.iconst C (dcN_17 dLg_24 :) ?_
  refine LW.iadd C (dcN_18 dLg_24 :) ?_
  refine LW.sld C (lw_in hL h0 h1 (by decide) (by decide)) (dcN_19 dLg_24 :) ?_
  refine LW.callV C (As := [iv (xs (ix (i + 1))).toInt, iv (xs (ix (i + 2))).toInt, iv (xs (ix (i + 3))).toInt, iv (xs (ix (i + 4))).toInt, iv (xs (ix (i + 5))).toInt]) (st := []) (M_enough_ok e2) cqL_89 crL_89 (by decide) rfl (dcN_20 dLg_24 :) rfl (Nat.le_of_ble_eq_true rfl) ?_
  refine LW.pop C (dcN_21 dLg_24 :) ?_
  refine LW.goto (tgt := 1914) C (dcN_22 dLg_24 :) (by decide) ?_
  exact kk _ hI2
theorem lwc_trip {Inv0 Inv : AG → Prop} (hsim : Sim_trip Inv0 Inv) (C : LC p s m meth c b L xs z) (hL : L ≤ 3072) {i : Int} (h0 : 0 ≤ i) (h1 : i + 6 ≤ L) (hI : Inv0 g) (kk : ∀ g9, Inv g9 → LW p l e s m below meth c b z 1914 [(3, iv i), (2, rv z 117), (1, rv z 0), (0, .ref b)] [] g9) : LW p l e s m below meth c b z 923 [(3, iv i), (2, rv z 117), (1, rv z 0), (0, .ref b)] [] g := by
  obtain ⟨r1, r2, e1, e2, hv, hI2⟩ := hsim ((xs (ix (i + 1))).toInt) ((xs (ix (i + 2))).toInt) ((xs (ix (i + 3))).toInt) ((xs (ix (i + 4))).toInt) ((xs (ix (i + 5))).toInt) g (I32_of _) (I32_of _) (I32_of _) (I32_of _) (I32_of _) hI
  refine LW.aload_n C 2 (dcN_23 dLg_24 :) rfl ?_
  refine LW.aload_n C 3 (dcN_24 dLg_24 :) rfl ?_
  refine LW.iload_n C 0 (dcN_25 dLg_24 :) rfl ?_
  refine LW.iconst C (dcN_26 dLg_24 :) ?_
  refine LW.iadd C (dcN_27 dLg_24 :) ?_
  refine LW.sld C (lw_in hL h0 h1 (by decide) (by decide)) (dcN_0 dLg_25 :) ?_
  refine LW.aload_n C 3 (dcN_1 dLg_25 :) rfl ?_
  refine LW.iload_n C 0 (dcN_2 dLg_25 :) rfl ?_
  refine LW.iconst C (dcN_3 dLg_25 :) ?_
  refine LW.iadd C (dcN_4 dLg_25 :) ?_
  refine LW.sld C (lw_in hL h0 h1 (by decide) (by decide)) (dcN_5 dLg_25 :) ?_
  refine LW.aload_n C 3 (dcN_6 dLg_25 :) rfl ?_
  refine LW.iload_n C 0 (dcN_7 dLg_25 :) rfl ?_
  refine LW.iconst C (dcN_8 dLg_25 :) ?_
  refine LW.iadd C (dcN_9 dLg_25 :) ?_
  refine LW.sld C (lw_in hL h0 h1 (by decide) (by decide)) (dcN_10 dLg_25 :) ?_
  refine LW.aload_n C 3 (dcN_11 dLg_25 :) rfl ?_
  refine LW.iload_n C 0 (dcN_12 dLg_25 :) rfl ?_
  refine LW.iconst C (dcN_13 dLg_25 :) ?_
  refine LW.iadd C (dcN_14 dLg_25 :) ?_
  refine LW.sld C (lw_in hL h0 h1 (by decide) (by decide)) (dcN_15 dLg_25 :) ?_
  refine LW.aload_n C 3 (dcN_16 dLg_25 :) rfl ?_
  refine LW.iload_n C 0 (dcN_17 dLg_25 :) rfl ?_
  refine LW.iconst C (dcN_18 dLg_25 :) ?_
  refine LW.iadd C (dcN_19 dLg_25 :) ?_
  refine LW.sld C (lw_in hL h0 h1 (by decide) (by decide)) (dcN_20 dLg_25 :) ?_
  refine LW.callV C (As := [iv (xs (ix (i + 1))).toInt, iv (xs (ix (i + 2))).toInt, iv (xs (ix (i + 3))).toInt, iv (xs (ix (i + 4))).toInt, iv (xs (ix (i + 5))).toInt]) (st := []) (X_trip_ok e1) cqL_90 crL_90 (by decide) rfl (dcN_21 dLg_25 :) rfl (Nat.le_of_ble_eq_true rfl) ?_
  refine LW.pop C (dcN_22 dLg_25 :) ?_
  refine LW.aload_n C 1 (dcN_23 dLg_25 :) rfl ?_
  refine LW.aload_n C 3 (dcN_24 dLg_25 :) rfl ?_
  refine LW.iload_n C 0 (dcN_25 dLg_25 :) rfl ?_
  refine LW.iconst C (dcN_26 dLg_25 :) ?_
  refine LW.iadd C (dcN_27 dLg_25 :) ?_
  refine LW.sld C (lw_in hL h0 h1 (by decide) (by decide)) (dcN_28 dLg_25 :) ?_
  refine LW.aload_n C 3 (dcN_29 dLg_25 :) rfl ?_
  refine LW.iload_n C 0 (dcN_0 dLg_26 :) rfl ?_
  refine LW.iconst C (dcN_1 dLg_26 :) ?_
  refine LW.iadd C (dcN_2 dLg_26 :) ?_
  refine LW.sld C (lw_in hL h0 h1 (by decide) (by decide)) (dcN_3 dLg_26 :) ?_
  refine LW.aload_n C 3 (dcN_4 dLg_26 :) rfl ?_
  refine LW.iload_n C 0 (dcN_5 dLg_26 :) rfl ?_
  refine LW.iconst C (dcN_6 dLg_26 :) ?_
  refine LW.iadd C (dcN_7 dLg_26 :) ?_
  refine LW.sld C (lw_in hL h0 h1 (by decide) (by decide)) (dcN_8 dLg_26 :) ?_
  refine LW.aload_n C 3 (dcN_9 dLg_26 :) rfl ?_
  refine LW.iload_n C 0 (dcN_10 dLg_26 :) rfl ?_
  refine LW.iconst C (dcN_11 dLg_26 :) ?_
  refine LW.iadd C (dcN_12 dLg_26 :) ?_
  refine LW.sld C (lw_in hL h0 h1 (by decide) (by decide)) (dcN_13 dLg_26 :) ?_
  refine LW.aload_n C 3 (dcN_14 dLg_26 :) rfl ?_
  refine LW.iload_n C 0 (dcN_15 dLg_26 :) rfl ?_
  refine LW.iconst C (dcN_16 dLg_26 :) ?_
  refine LW.iadd C (dcN_17 dLg_26 :) ?_
  refine LW.sld C (lw_in hL h0 h1 (by decide) (by decide)) (dcN_18 dLg_26 :) ?_
  refine LW.callV C (As := [iv (xs (ix (i + 1))).toInt, iv (xs (ix (i + 2))).toInt, iv (xs (ix (i + 3))).toInt, iv (xs (ix (i + 4))).toInt, iv (xs (ix (i + 5))).toInt]) (st := []) (M_trip_ok e2) cqL_93 crL_93 (by decide) rfl (dcN_19 dLg_26 :) rfl (Nat.le_of_ble_eq_true rfl) ?_
  refine LW.pop C (dcN_20 dLg_26 :) ?_
  refine LW.goto (tgt := 1914) C (dcN_21 dLg_26 :) (by decide) ?_
  exact kk _ hI2
theorem lwc_late {Inv0 Inv : AG → Prop} (hsim : Sim_late Inv0 Inv) (C : LC p s m meth c b L xs z) (hL : L ≤ 3072) {i : Int} (h0 : 0 ≤ i) (h1 : i + 6 ≤ L) (hI : Inv0 g) (kk : ∀ g9, Inv g9 → LW p l e s m below meth c b z 1914 [(3, iv i), (2, rv z 117), (1, rv z 0), (0, .ref b)] [] g9) : LW p l e s m below meth c b z 986 [(3, iv i), (2, rv z 117), (1, rv z 0), (0, .ref b)] [] g := by
  obtain ⟨r1, r2, e1, e2, hv, hI2⟩ := hsim ((xs (ix (i + 1))).toInt) g (I32_of _) hI
  refine LW.aload_n C 2 (dcN_22 dLg_26 :) rfl ?_
  refine LW.aload_n C 3 (dcN_23 dLg_26 :) rfl ?_
  refine LW.iload_n C 0 (dcN_24 dLg_26 :) rfl ?_
  refine LW.iconst C (dcN_25 dLg_26 :) ?_
  refine LW.iadd C (dcN_26 dLg_26 :) ?_
  refine LW.sld C (lw_in hL h0 h1 (by decide) (by decide)) (dcN_27 dLg_26 :) ?_
  refine LW.callV C (As := [iv (xs (ix (i + 1))).toInt]) (st := []) (X_late_ok e1) cqL_94 crL_94 (by decide) rfl (dcN_0 dLg_27 :) rfl (Nat.le_of_ble_eq_true rfl) ?_
  refine LW.pop C (dcN_1 dLg_27 :) ?_
  refine LW.aload_n C 1 (dcN_2 dLg_27 :) rfl ?_
  refine LW.aload_n C 3 (dcN_3 dLg_27 :) rfl ?_
  refine LW.iload_n C 0 (dcN_4 dLg_27 :) rfl ?_
  refine LW.iconst C (dcN_5 dLg_27 :) ?_
  refine LW.iadd C (dcN_6 dLg_27 :) ?_
  refine LW.sld C (lw_in hL h0 h1 (by decide) (by decide)) (dcN_7 dLg_27 :) ?_
  refine LW.callV C (As := [iv (xs (ix (i + 1))).toInt]) (st := []) (M_late_ok e2) cqL_97 crL_97 (by decide) rfl (dcN_8 dLg_27 :) rfl (Nat.le_of_ble_eq_true rfl) ?_
  refine LW.pop C (dcN_9 dLg_27 :) ?_
  refine LW.goto (tgt := 1914) C (dcN_10 dLg_27 :) (by decide) ?_
  exact kk _ hI2
theorem lwc_log {Inv0 Inv : AG → Prop} (hsim : Sim_log Inv0 Inv) (C : LC p s m meth c b L xs z) (hL : L ≤ 3072) {i : Int} (h0 : 0 ≤ i) (h1 : i + 6 ≤ L) (hI : Inv0 g) (kk : ∀ g9, Inv g9 → LW p l e s m below meth c b z 1914 [(3, iv i), (2, rv z 117), (1, rv z 0), (0, .ref b)] [] g9) : LW p l e s m below meth c b z 1009 [(3, iv i), (2, rv z 117), (1, rv z 0), (0, .ref b)] [] g := by
  obtain ⟨r1, r2, e1, e2, hv, hI2⟩ := hsim ((xs (ix (i + 1))).toInt) ((xs (ix (i + 2))).toInt) ((xs (ix (i + 3))).toInt) g (I32_of _) (I32_of _) (I32_of _) hI
  refine LW.aload_n C 2 (dcN_11 dLg_27 :) rfl ?_
  refine LW.aload_n C 3 (dcN_12 dLg_27 :) rfl ?_
  refine LW.iload_n C 0 (dcN_13 dLg_27 :) rfl ?_
  refine LW.iconst C (dcN_14 dLg_27 :) ?_
  refine LW.iadd C (dcN_15 dLg_27 :) ?_
  refine LW.sld C (lw_in hL h0 h1 (by decide) (by decide)) (dcN_16 dLg_27 :) ?_
  refine LW.aload_n C 3 (dcN_17 dLg_27 :) rfl ?_
  refine LW.iload_n C 0 (dcN_18 dLg_27 :) rfl ?_
  refine LW.iconst C (dcN_19 dLg_27 :) ?_
  refine LW.iadd C (dcN_20 dLg_27 :) ?_
  refine LW.sld C (lw_in hL h0 h1 (by decide) (by decide)) (dcN_21 dLg_27 :) ?_
  refine LW.aload_n C 3 (dcN_22 dLg_27 :) rfl ?_
  refine LW.iload_n C 0 (dcN_23 dLg_27 :) rfl ?_
  refine LW.iconst C (dcN_24 dLg_27 :) ?_
  refine LW.iadd C (dcN_25 dLg_27 :) ?_
  refine LW.sld C (lw_in hL h0 h1 (by decide) (by decide)) (dcN_0 dLg_28 :) ?_
  refine LW.callV C (As := [iv (xs (ix (i + 1))).toInt, iv (xs (ix (i + 2))).toInt, iv (xs (ix (i + 3))).toInt]) (st := []) (X_log_ok e1) cqL_98 crL_98 (by decide) rfl (dcN_1 dLg_28 :) rfl (Nat.le_of_ble_eq_true rfl) ?_
  refine LW.pop C (dcN_2 dLg_28 :) ?_
  refine LW.aload_n C 1 (dcN_3 dLg_28 :) rfl ?_
  refine LW.aload_n C 3 (dcN_4 dLg_28 :) rfl ?_
  refine LW.iload_n C 0 (dcN_5 dLg_28 :) rfl ?_
  refine LW.iconst C (dcN_6 dLg_28 :) ?_
  refine LW.iadd C (dcN_7 dLg_28 :) ?_
  refine LW.sld C (lw_in hL h0 h1 (by decide) (by decide)) (dcN_8 dLg_28 :) ?_
  refine LW.aload_n C 3 (dcN_9 dLg_28 :) rfl ?_
  refine LW.iload_n C 0 (dcN_10 dLg_28 :) rfl ?_
  refine LW.iconst C (dcN_11 dLg_28 :) ?_
  refine LW.iadd C (dcN_12 dLg_28 :) ?_
  refine LW.sld C (lw_in hL h0 h1 (by decide) (by decide)) (dcN_13 dLg_28 :) ?_
  refine LW.aload_n C 3 (dcN_14 dLg_28 :) rfl ?_
  refine LW.iload_n C 0 (dcN_15 dLg_28 :) rfl ?_
  refine LW.iconst C (dcN_16 dLg_28 :) ?_
  refine LW.iadd C (dcN_17 dLg_28 :) ?_
  refine LW.sld C (lw_in hL h0 h1 (by decide) (by decide)) (dcN_18 dLg_28 :) ?_
  refine LW.callV C (As := [iv (xs (ix (i + 1))).toInt, iv (xs (ix (i + 2))).toInt, iv (xs (ix (i + 3))).toInt]) (st := []) (M_log_ok e2) cqL_101 crL_101 (by decide) rfl (dcN_19 dLg_28 :) rfl (Nat.le_of_ble_eq_true rfl) ?_
  refine LW.pop C (dcN_20 dLg_28 :) ?_
  refine LW.goto (tgt := 1914) C (dcN_21 dLg_28 :) (by decide) ?_
  exact kk _ hI2
theorem lwc_could {Inv0 Inv : AG → Prop} (hsim : Sim_could Inv0 Inv) (C : LC p s m meth c b L xs z) (hL : L ≤ 3072) {i : Int} (h0 : 0 ≤ i) (h1 : i + 6 ≤ L) (hI : Inv0 g) (kk : ∀ g9, Inv g9 → LW p l e s m below meth c b z 1914 [(3, iv i), (2, rv z 117), (1, rv z 0), (0, .ref b)] [] g9) : LW p l e s m below meth c b z 1052 [(3, iv i), (2, rv z 117), (1, rv z 0), (0, .ref b)] [] g := by
  obtain ⟨r1, r2, e1, e2, hv, hI2⟩ := hsim ((xs (ix (i + 1))).toInt) ((xs (ix (i + 2))).toInt) ((xs (ix (i + 3))).toInt) ((xs (ix (i + 4))).toInt) g (I32_of _) (I32_of _) (I32_of _) (I32_of _) hI
  refine LW.aload_n C 2 (dcN_22 dLg_28 :) rfl ?_
  refine LW.aload_n C 3 (dcN_23 dLg_28 :) rfl ?_
  refine LW.iload_n C 0 (dcN_24 dLg_28 :) rfl ?_
  refine LW.iconst C (dcN_25 dLg_28 :) ?_
  refine LW.iadd C (dcN_0 dLg_29 :) ?_
  refine LW.sld C (lw_in hL h0 h1 (by decide) (by decide)) (dcN_1 dLg_29 :) ?_
  refine LW.aload_n C 3 (dcN_2 dLg_29 :) rfl ?_
  refine LW.iload_n C 0 (dcN_3 dLg_29 :) rfl ?_
  refine LW.iconst C (dcN_4 dLg_29 :) ?_
  refine LW.iadd C (dcN_5 dLg_29 :) ?_
  refine LW.sld C (lw_in hL h0 h1 (by decide) (by decide)) (dcN_6 dLg_29 :) ?_
  refine LW.aload_n C 3 (dcN_7 dLg_29 :) rfl ?_
  refine LW.iload_n C 0 (dcN_8 dLg_29 :) rfl ?_
  refine LW.iconst C (dcN_9 dLg_29 :) ?_
  refine LW.iadd C (dcN_10 dLg_29 :) ?_
  refine LW.sld C (lw_in hL h0 h1 (by decide) (by decide)) (dcN_11 dLg_29 :) ?_
  refine LW.aload_n C 3 (dcN_12 dLg_29 :) rfl ?_
  refine LW.iload_n C 0 (dcN_13 dLg_29 :) rfl ?_
  refine LW.iconst C (dcN_14 dLg_29 :) ?_
  refine LW.iadd C (dcN_15 dLg_29 :) ?_
  refine LW.sld C (lw_in hL h0 h1 (by decide) (by decide)) (dcN_16 dLg_29 :) ?_
  refine LW.callV C (As := [iv (xs (ix (i + 1))).toInt, iv (xs (ix (i + 2))).toInt, iv (xs (ix (i + 3))).toInt, iv (xs (ix (i + 4))).toInt]) (st := []) (X_could_ok e1) cqL_102 crL_102 (by decide) rfl (dcN_17 dLg_29 :) rfl (Nat.le_of_ble_eq_true rfl) ?_
  refine LW.pop C (dcN_18 dLg_29 :) ?_
  refine LW.aload_n C 1 (dcN_19 dLg_29 :) rfl ?_
  refine LW.aload_n C 3 (dcN_20 dLg_29 :) rfl ?_
  refine LW.iload_n C 0 (dcN_21 dLg_29 :) rfl ?_
  refine LW.iconst C (dcN_22 dLg_29 :) ?_
  refine LW.iadd C (dcN_23 dLg_29 :) ?_
  refine LW.sld C (lw_in hL h0 h1 (by decide) (by decide)) (dcN_24 dLg_29 :) ?_
  refine LW.aload_n C 3 (dcN_25 dLg_29 :) rfl ?_
  refine LW.iload_n C 0 (dcN_26 dLg_29 :) rfl ?_
  refine LW.iconst C (dcN_27 dLg_29 :) ?_
  refine LW.iadd C (dcN_28 dLg_29 :) ?_
  refine LW.sld C (lw_in hL h0 h1 (by decide) (by decide)) (dcN_29 dLg_29 :) ?_
  refine LW.aload_n C 3 (dcN_0 dLg_30 :) rfl ?_
  refine LW.iload_n C 0 (dcN_1 dLg_30 :) rfl ?_
  refine LW.iconst C (dcN_2 dLg_30 :) ?_
  refine LW.iadd C (dcN_3 dLg_30 :) ?_
  refine LW.sld C (lw_in hL h0 h1 (by decide) (by decide)) (dcN_4 dLg_30 :) ?_
  refine LW.aload_n C 3 (dcN_5 dLg_30 :) rfl ?_
  refine LW.iload_n C 0 (dcN_6 dLg_30 :) rfl ?_
  refine LW.iconst C (dcN_7 dLg_30 :) ?_
  refine LW.iadd C (dcN_8 dLg_30 :) ?_
  refine LW.sld C (lw_in hL h0 h1 (by decide) (by decide)) (dcN_9 dLg_30 :) ?_
  refine LW.callV C (As := [iv (xs (ix (i + 1))).toInt, iv (xs (ix (i + 2))).toInt, iv (xs (ix (i + 3))).toInt, iv (xs (ix (i + 4))).toInt]) (st := []) (M_could_ok e2) cqL_105 crL_105 (by decide) rfl (dcN_10 dLg_30 :) rfl (Nat.le_of_ble_eq_true rfl) ?_
  refine LW.pop C (dcN_11 dLg_30 :) ?_
  refine LW.goto (tgt := 1914) C (dcN_12 dLg_30 :) (by decide) ?_
  exact kk _ hI2
theorem lwc_whose {Inv0 Inv : AG → Prop} (hsim : Sim_whose Inv0 Inv) (C : LC p s m meth c b L xs z) (hL : L ≤ 3072) {i : Int} (h0 : 0 ≤ i) (h1 : i + 6 ≤ L) (hI : Inv0 g) (kk : ∀ g9, Inv g9 → LW p l e s m below meth c b z 1914 [(3, iv i), (2, rv z 117), (1, rv z 0), (0, .ref b)] [] g9) : LW p l e s m below meth c b z 1105 [(3, iv i), (2, rv z 117), (1, rv z 0), (0, .ref b)] [] g := by
  obtain ⟨r1, r2, e1, e2, hv, hI2⟩ := hsim ((xs (ix (i + 1))).toInt) ((xs (ix (i + 2))).toInt) ((xs (ix (i + 3))).toInt) ((xs (ix (i + 4))).toInt) g (I32_of _) (I32_of _) (I32_of _) (I32_of _) hI
  refine LW.aload_n C 2 (dcN_13 dLg_30 :) rfl ?_
  refine LW.aload_n C 3 (dcN_14 dLg_30 :) rfl ?_
  refine LW.iload_n C 0 (dcN_15 dLg_30 :) rfl ?_
  refine LW.iconst C (dcN_16 dLg_30 :) ?_
  refine LW.iadd C (dcN_17 dLg_30 :) ?_
  refine LW.sld C (lw_in hL h0 h1 (by decide) (by decide)) (dcN_18 dLg_30 :) ?_
  refine LW.aload_n C 3 (dcN_19 dLg_30 :) rfl ?_
  refine LW.iload_n C 0 (dcN_20 dLg_30 :) rfl ?_
  refine LW.iconst C (dcN_21 dLg_30 :) ?_
  refine LW.iadd C (dcN_22 dLg_30 :) ?_
  refine LW.sld C (lw_in hL h0 h1 (by decide) (by decide)) (dcN_23 dLg_30 :) ?_
  refine LW.aload_n C 3 (dcN_24 dLg_30 :) rfl ?_
  refine LW.iload_n C 0 (dcN_25 dLg_30 :) rfl ?_
  refine LW.iconst C (dcN_26 dLg_30 :) ?_
  refine LW.iadd C (dcN_27 dLg_30 :) ?_
  refine LW.sld C (lw_in hL h0 h1 (by decide) (by decide)) (dcN_0 dLg_31 :) ?_
  refine LW.aload_n C 3 (dcN_1 dLg_31 :) rfl ?_
  refine LW.iload_n C 0 (dcN_2 dLg_31 :) rfl ?_
  refine LW.iconst C (dcN_3 dLg_31 :) ?_
  refine LW.iadd C (dcN_4 dLg_31 :) ?_
  refine LW.sld C (lw_in hL h0 h1 (by decide) (by decide)) (dcN_5 dLg_31 :) ?_
  refine LW.callV C (As := [iv (xs (ix (i + 1))).toInt, iv (xs (ix (i + 2))).toInt, iv (xs (ix (i + 3))).toInt, iv (xs (ix (i + 4))).toInt]) (st := []) (X_whose_ok e1) cqL_106 crL_106 (by decide) rfl (dcN_6 dLg_31 :) rfl (Nat.le_of_ble_eq_true rfl) ?_
  refine LW.pop C (dcN_7 dLg_31 :) ?_
  refine LW.aload_n C 1 (dcN_8 dLg_31 :) rfl ?_
  refine LW.aload_n C 3 (dcN_9 dLg_31 :) rfl ?_
  refine LW.iload_n C 0 (dcN_10 dLg_31 :) rfl ?_
  refine LW.iconst C (dcN_11 dLg_31 :) ?_
  refine LW.iadd C (dcN_12 dLg_31 :) ?_
  refine LW.sld C (lw_in hL h0 h1 (by decide) (by decide)) (dcN_13 dLg_31 :) ?_
  refine LW.aload_n C 3 (dcN_14 dLg_31 :) rfl ?_
  refine LW.iload_n C 0 (dcN_15 dLg_31 :) rfl ?_
  refine LW.iconst C (dcN_16 dLg_31 :) ?_
  refine LW.iadd C (dcN_17 dLg_31 :) ?_
  refine LW.sld C (lw_in hL h0 h1 (by decide) (by decide)) (dcN_18 dLg_31 :) ?_
  refine LW.aload_n C 3 (dcN_19 dLg_31 :) rfl ?_
  refine LW.iload_n C 0 (dcN_20 dLg_31 :) rfl ?_
  refine LW.iconst C (dcN_21 dLg_31 :) ?_
  refine LW.iadd C (dcN_22 dLg_31 :) ?_
  refine LW.sld C (lw_in hL h0 h1 (by decide) (by decide)) (dcN_23 dLg_31 :) ?_
  refine LW.aload_n C 3 (dcN_24 dLg_31 :) rfl ?_
  refine LW.iload_n C 0 (dcN_25 dLg_31 :) rfl ?_
  refine LW.iconst C (dcN_26 dLg_31 :) ?_
  refine LW.iadd C (dcN_27 dLg_31 :) ?_
  refine LW.sld C (lw_in hL h0 h1 (by decide) (by decide)) (dcN_28 dLg_31 :) ?_
  refine LW.callV C (As := [iv (xs (ix (i + 1))).toInt, iv (xs (ix (i + 2))).toInt, iv (xs (ix (i + 3))).toInt, iv (xs (ix (i + 4))).toInt]) (st := []) (M_whose_ok e2) cqL_109 crL_109 (by decide) rfl (dcN_29 dLg_31 :) rfl (Nat.le_of_ble_eq_true rfl) ?_
  refine LW.pop C (dcN_0 dLg_32 :) ?_
  refine LW.goto (tgt := 1914) C (dcN_1 dLg_32 :) (by decide) ?_
  exact kk _ hI2
theorem lwc_tonight {Inv0 Inv : AG → Prop} (hsim : Sim_tonight Inv0 Inv) (C : LC p s m meth c b L xs z) (hL : L ≤ 3072) {i : Int} (h0 : 0 ≤ i) (h1 : i + 6 ≤ L) (hI : Inv0 g) (kk : ∀ g9, Inv g9 → LW p l e s m below meth c b z 1914 [(3, iv i), (2, rv z 117), (1, rv z 0), (0, .ref b)] [] g9) : LW p l e s m below meth c b z 1158 [(3, iv i), (2, rv z 117), (1, rv z 0), (0, .ref b)] [] g := by
  obtain ⟨r1, r2, e1, e2, hv, hI2⟩ := hsim ((xs (ix (i + 1))).toInt) ((xs (ix (i + 2))).toInt) g (I32_of _) (I32_of _) hI
  refine LW.aload_n C 2 (dcN_2 dLg_32 :) rfl ?_
  refine LW.aload_n C 3 (dcN_3 dLg_32 :) rfl ?_
  refine LW.iload_n C 0 (dcN_4 dLg_32 :) rfl ?_
  refine LW.iconst C (dcN_5 dLg_32 :) ?_
  refine LW.iadd C (dcN_6 dLg_32 :) ?_
  refine LW.sld C (lw_in hL h0 h1 (by decide) (by decide)) (dcN_7 dLg_32 :) ?_
  refine LW.aload_n C 3 (dcN_8 dLg_32 :) rfl ?_
  refine LW.iload_n C 0 (dcN_9 dLg_32 :) rfl ?_
  refine LW.iconst C (dcN_10 dLg_32 :) ?_
  refine LW.iadd C (dcN_11 dLg_32 :) ?_
  refine LW.sld C (lw_in hL h0 h1 (by decide) (by decide)) (dcN_12 dLg_32 :) ?_
  refine LW.callV C (As := [iv (xs (ix (i + 1))).toInt, iv (xs (ix (i + 2))).toInt]) (st := []) (X_tonight_ok e1) cqL_110 crL_110 (by decide) rfl (dcN_13 dLg_32 :) rfl (Nat.le_of_ble_eq_true rfl) ?_
  refine LW.pop C (dcN_14 dLg_32 :) ?_
  refine LW.aload_n C 1 (dcN_15 dLg_32 :) rfl ?_
  refine LW.aload_n C 3 (dcN_16 dLg_32 :) rfl ?_
  refine LW.iload_n C 0 (dcN_17 dLg_32 :) rfl ?_
  refine LW.iconst C (dcN_18 dLg_32 :) ?_
  refine LW.iadd C (dcN_19 dLg_32 :) ?_
  refine LW.sld C (lw_in hL h0 h1 (by decide) (by decide)) (dcN_20 dLg_32 :) ?_
  refine LW.aload_n C 3 (dcN_21 dLg_32 :) rfl ?_
  refine LW.iload_n C 0 (dcN_22 dLg_32 :) rfl ?_
  refine LW.iconst C (dcN_23 dLg_32 :) ?_
  refine LW.iadd C (dcN_24 dLg_32 :) ?_
  refine LW.sld C (lw_in hL h0 h1 (by decide) (by decide)) (dcN_25 dLg_32 :) ?_
  refine LW.callV C (As := [iv (xs (ix (i + 1))).toInt, iv (xs (ix (i + 2))).toInt]) (st := []) (M_tonight_ok e2) cqL_113 crL_113 (by decide) rfl (dcN_0 dLg_33 :) rfl (Nat.le_of_ble_eq_true rfl) ?_
  refine LW.pop C (dcN_1 dLg_33 :) ?_
  refine LW.goto (tgt := 1914) C (dcN_2 dLg_33 :) (by decide) ?_
  exact kk _ hI2
theorem lwc_queue {Inv0 Inv : AG → Prop} (hsim : Sim_queue Inv0 Inv) (C : LC p s m meth c b L xs z) (hL : L ≤ 3072) {i : Int} (h0 : 0 ≤ i) (h1 : i + 6 ≤ L) (hI : Inv0 g) (kk : ∀ g9, Inv g9 → LW p l e s m below meth c b z 1914 [(3, iv i), (2, rv z 117), (1, rv z 0), (0, .ref b)] [] g9) : LW p l e s m below meth c b z 1191 [(3, iv i), (2, rv z 117), (1, rv z 0), (0, .ref b)] [] g := by
  obtain ⟨r1, r2, e1, e2, hv, hI2⟩ := hsim ((xs (ix (i + 1))).toInt) ((xs (ix (i + 2))).toInt) g (I32_of _) (I32_of _) hI
  refine LW.aload_n C 2 (dcN_3 dLg_33 :) rfl ?_
  refine LW.aload_n C 3 (dcN_4 dLg_33 :) rfl ?_
  refine LW.iload_n C 0 (dcN_5 dLg_33 :) rfl ?_
  refine LW.iconst C (dcN_6 dLg_33 :) ?_
  refine LW.iadd C (dcN_7 dLg_33 :) ?_
  refine LW.sld C (lw_in hL h0 h1 (by decide) (by decide)) (dcN_8 dLg_33 :) ?_
  refine LW.aload_n C 3 (dcN_9 dLg_33 :) rfl ?_
  refine LW.iload_n C 0 (dcN_10 dLg_33 :) rfl ?_
  refine LW.iconst C (dcN_11 dLg_33 :) ?_
  refine LW.iadd C (dcN_12 dLg_33 :) ?_
  refine LW.sld C (lw_in hL h0 h1 (by decide) (by decide)) (dcN_13 dLg_33 :) ?_
  refine LW.callV C (As := [iv (xs (ix (i + 1))).toInt, iv (xs (ix (i + 2))).toInt]) (st := []) (X_queue_ok e1) cqL_114 crL_114 (by decide) rfl (dcN_14 dLg_33 :) rfl (Nat.le_of_ble_eq_true rfl) ?_
  refine LW.pop C (dcN_15 dLg_33 :) ?_
  refine LW.aload_n C 1 (dcN_16 dLg_33 :) rfl ?_
  refine LW.aload_n C 3 (dcN_17 dLg_33 :) rfl ?_
  refine LW.iload_n C 0 (dcN_18 dLg_33 :) rfl ?_
  refine LW.iconst C (dcN_19 dLg_33 :) ?_
  refine LW.iadd C (dcN_20 dLg_33 :) ?_
  refine LW.sld C (lw_in hL h0 h1 (by decide) (by decide)) (dcN_21 dLg_33 :) ?_
  refine LW.aload_n C 3 (dcN_22 dLg_33 :) rfl ?_
  refine LW.iload_n C 0 (dcN_23 dLg_33 :) rfl ?_
  refine LW.iconst C (dcN_24 dLg_33 :) ?_
  refine LW.iadd C (dcN_25 dLg_33 :) ?_
  refine LW.sld C (lw_in hL h0 h1 (by decide) (by decide)) (dcN_0 dLg_34 :) ?_
  refine LW.callV C (As := [iv (xs (ix (i + 1))).toInt, iv (xs (ix (i + 2))).toInt]) (st := []) (M_queue_ok e2) cqL_117 crL_117 (by decide) rfl (dcN_1 dLg_34 :) rfl (Nat.le_of_ble_eq_true rfl) ?_
  refine LW.pop C (dcN_2 dLg_34 :) ?_
  refine LW.goto (tgt := 1914) C (dcN_3 dLg_34 :) (by decide) ?_
  exact kk _ hI2
theorem lwc_lock {Inv0 Inv : AG → Prop} (hsim : Sim_lock Inv0 Inv) (C : LC p s m meth c b L xs z) (hL : L ≤ 3072) {i : Int} (h0 : 0 ≤ i) (h1 : i + 6 ≤ L) (hI : Inv0 g) (kk : ∀ g9, Inv g9 → LW p l e s m below meth c b z 1914 [(3, iv i), (2, rv z 117), (1, rv z 0), (0, .ref b)] [] g9) : LW p l e s m below meth c b z 1224 [(3, iv i), (2, rv z 117), (1, rv z 0), (0, .ref b)] [] g := by
  obtain ⟨v1, r2, e1, e2, hv, hI2⟩ := hsim ((xs (ix (i + 1))).toInt) g (I32_of _) hI
  refine LW.aload_n C 2 (dcN_4 dLg_34 :) rfl ?_
  refine LW.aload_n C 3 (dcN_5 dLg_34 :) rfl ?_
  refine LW.iload_n C 0 (dcN_6 dLg_34 :) rfl ?_
  refine LW.iconst C (dcN_7 dLg_34 :) ?_
  refine LW.iadd C (dcN_8 dLg_34 :) ?_
  refine LW.sld C (lw_in hL h0 h1 (by decide) (by decide)) (dcN_9 dLg_34 :) ?_
  refine LW.callV C (As := [iv (xs (ix (i + 1))).toInt]) (st := []) (X_lock_ok e1) cqL_118 crL_118 (by decide) rfl (dcN_10 dLg_34 :) rfl (Nat.le_of_ble_eq_true rfl) ?_
  refine LW.pop C (dcN_11 dLg_34 :) ?_
  refine LW.aload_n C 1 (dcN_12 dLg_34 :) rfl ?_
  refine LW.aload_n C 3 (dcN_13 dLg_34 :) rfl ?_
  refine LW.iload_n C 0 (dcN_14 dLg_34 :) rfl ?_
  refine LW.iconst C (dcN_15 dLg_34 :) ?_
  refine LW.iadd C (dcN_16 dLg_34 :) ?_
  refine LW.sld C (lw_in hL h0 h1 (by decide) (by decide)) (dcN_17 dLg_34 :) ?_
  refine LW.callV C (As := [iv (xs (ix (i + 1))).toInt]) (st := []) (M_lock_ok e2) cqL_121 crL_121 (by decide) rfl (dcN_18 dLg_34 :) rfl (Nat.le_of_ble_eq_true rfl) ?_
  refine LW.pop C (dcN_19 dLg_34 :) ?_
  refine LW.goto (tgt := 1914) C (dcN_20 dLg_34 :) (by decide) ?_
  exact kk _ hI2
theorem lwc_booking {Inv0 Inv : AG → Prop} (hsim : Sim_booking Inv0 Inv) (C : LC p s m meth c b L xs z) (hL : L ≤ 3072) {i : Int} (h0 : 0 ≤ i) (h1 : i + 6 ≤ L) (hI : Inv0 g) (kk : ∀ g9, Inv g9 → LW p l e s m below meth c b z 1914 [(3, iv i), (2, rv z 117), (1, rv z 0), (0, .ref b)] [] g9) : LW p l e s m below meth c b z 1247 [(3, iv i), (2, rv z 117), (1, rv z 0), (0, .ref b)] [] g := by
  obtain ⟨r1, r2, e1, e2, hv, hI2⟩ := hsim ((xs (ix (i + 1))).toInt) ((xs (ix (i + 2))).toInt) ((xs (ix (i + 3))).toInt) ((xs (ix (i + 4))).toInt) g (I32_of _) (I32_of _) (I32_of _) (I32_of _) hI
  refine LW.aload_n C 2 (dcN_21 dLg_34 :) rfl ?_
  refine LW.aload_n C 3 (dcN_0 dLg_35 :) rfl ?_
  refine LW.iload_n C 0 (dcN_1 dLg_35 :) rfl ?_
  refine LW.iconst C (dcN_2 dLg_35 :) ?_
  refine LW.iadd C (dcN_3 dLg_35 :) ?_
  refine LW.sld C (lw_in hL h0 h1 (by decide) (by decide)) (dcN_4 dLg_35 :) ?_
  refine LW.aload_n C 3 (dcN_5 dLg_35 :) rfl ?_
  refine LW.iload_n C 0 (dcN_6 dLg_35 :) rfl ?_
  refine LW.iconst C (dcN_7 dLg_35 :) ?_
  refine LW.iadd C (dcN_8 dLg_35 :) ?_
  refine LW.sld C (lw_in hL h0 h1 (by decide) (by decide)) (dcN_9 dLg_35 :) ?_
  refine LW.aload_n C 3 (dcN_10 dLg_35 :) rfl ?_
  refine LW.iload_n C 0 (dcN_11 dLg_35 :) rfl ?_
  refine LW.iconst C (dcN_12 dLg_35 :) ?_
  refine LW.iadd C (dcN_13 dLg_35 :) ?_
  refine LW.sld C (lw_in hL h0 h1 (by decide) (by decide)) (dcN_14 dLg_35 :) ?_
  refine LW.aload_n C 3 (dcN_15 dLg_35 :) rfl ?_
  refine LW.iload_n C 0 (dcN_16 dLg_35 :) rfl ?_
  refine LW.iconst C (dcN_17 dLg_35 :) ?_
  refine LW.iadd C (dcN_18 dLg_35 :) ?_
  refine LW.sld C (lw_in hL h0 h1 (by decide) (by decide)) (dcN_19 dLg_35 :) ?_
  refine LW.callV C (As := [iv (xs (ix (i + 1))).toInt, iv (xs (ix (i + 2))).toInt, iv (xs (ix (i + 3))).toInt, iv (xs (ix (i + 4))).toInt]) (st := []) (X_booking_ok e1) cqL_122 crL_122 (by decide) rfl (dcN_20 dLg_35 :) rfl (Nat.le_of_ble_eq_true rfl) ?_
  refine LW.pop C (dcN_21 dLg_35 :) ?_
  refine LW.aload_n C 1 (dcN_22 dLg_35 :) rfl ?_
  refine LW.aload_n C 3 (dcN_23 dLg_35 :) rfl ?_
  refine LW.iload_n C 0 (dcN_24 dLg_35 :) rfl ?_
  refine LW.iconst C (dcN_25 dLg_35 :) ?_
  refine LW.iadd C (dcN_26 dLg_35 :) ?_
  refine LW.sld C (lw_in hL h0 h1 (by decide) (by decide)) (dcN_27 dLg_35 :) ?_
  refine LW.aload_n C 3 (dcN_28 dLg_35 :) rfl ?_
  refine LW.iload_n C 0 (dcN_29 dLg_35 :) rfl ?_
  refine LW.iconst C (dcN_0 dLg_36 :) ?_
  refine LW.iadd C (dcN_1 dLg_36 :) ?_
  refine LW.sld C (lw_in hL h0 h1 (by decide) (by decide)) (dcN_2 dLg_36 :) ?_
  refine LW.aload_n C 3 (dcN_3 dLg_36 :) rfl ?_
  refine LW.iload_n C 0 (dcN_4 dLg_36 :) rfl ?_
  refine LW.iconst C (dcN_5 dLg_36 :) ?_
  refine LW.iadd C (dcN_6 dLg_36 :) ?_
  refine LW.sld C (lw_in hL h0 h1 (by decide) (by decide)) (dcN_7 dLg_36 :) ?_
  refine LW.aload_n C 3 (dcN_8 dLg_36 :) rfl ?_
  refine LW.iload_n C 0 (dcN_9 dLg_36 :) rfl ?_
  refine LW.iconst C (dcN_10 dLg_36 :) ?_
  refine LW.iadd C (dcN_11 dLg_36 :) ?_
  refine LW.sld C (lw_in hL h0 h1 (by decide) (by decide)) (dcN_12 dLg_36 :) ?_
  refine LW.callV C (As := [iv (xs (ix (i + 1))).toInt, iv (xs (ix (i + 2))).toInt, iv (xs (ix (i + 3))).toInt, iv (xs (ix (i + 4))).toInt]) (st := []) (M_booking_ok e2) cqL_125 crL_125 (by decide) rfl (dcN_13 dLg_36 :) rfl (Nat.le_of_ble_eq_true rfl) ?_
  refine LW.pop C (dcN_14 dLg_36 :) ?_
  refine LW.goto (tgt := 1914) C (dcN_15 dLg_36 :) (by decide) ?_
  exact kk _ hI2
theorem lwc_given {Inv0 Inv : AG → Prop} (hsim : Sim_given Inv0 Inv) (C : LC p s m meth c b L xs z) (hL : L ≤ 3072) {i : Int} (h0 : 0 ≤ i) (h1 : i + 6 ≤ L) (hI : Inv0 g) (kk : ∀ g9, Inv g9 → LW p l e s m below meth c b z 1914 [(3, iv i), (2, rv z 117), (1, rv z 0), (0, .ref b)] [] g9) : LW p l e s m below meth c b z 1300 [(3, iv i), (2, rv z 117), (1, rv z 0), (0, .ref b)] [] g := by
  obtain ⟨r1, r2, e1, e2, hv, hI2⟩ := hsim ((xs (ix (i + 1))).toInt) ((xs (ix (i + 2))).toInt) g (I32_of _) (I32_of _) hI
  refine LW.aload_n C 2 (dcN_16 dLg_36 :) rfl ?_
  refine LW.aload_n C 3 (dcN_17 dLg_36 :) rfl ?_
  refine LW.iload_n C 0 (dcN_18 dLg_36 :) rfl ?_
  refine LW.iconst C (dcN_19 dLg_36 :) ?_
  refine LW.iadd C (dcN_20 dLg_36 :) ?_
  refine LW.sld C (lw_in hL h0 h1 (by decide) (by decide)) (dcN_21 dLg_36 :) ?_
  refine LW.aload_n C 3 (dcN_22 dLg_36 :) rfl ?_
  refine LW.iload_n C 0 (dcN_23 dLg_36 :) rfl ?_
  refine LW.iconst C (dcN_24 dLg_36 :) ?_
  refine LW.iadd C (dcN_25 dLg_36 :) ?_
  refine LW.sld C (lw_in hL h0 h1 (by decide) (by decide)) (dcN_26 dLg_36 :) ?_
  refine LW.callV C (As := [iv (xs (ix (i + 1))).toInt, iv (xs (ix (i + 2))).toInt]) (st := []) (X_given_ok e1) cqL_126 crL_126 (by decide) rfl (dcN_27 dLg_36 :) rfl (Nat.le_of_ble_eq_true rfl) ?_
  refine LW.pop C (dcN_0 dLg_37 :) ?_
  refine LW.aload_n C 1 (dcN_1 dLg_37 :) rfl ?_
  refine LW.aload_n C 3 (dcN_2 dLg_37 :) rfl ?_
  refine LW.iload_n C 0 (dcN_3 dLg_37 :) rfl ?_
  refine LW.iconst C (dcN_4 dLg_37 :) ?_
  refine LW.iadd C (dcN_5 dLg_37 :) ?_
  refine LW.sld C (lw_in hL h0 h1 (by decide) (by decide)) (dcN_6 dLg_37 :) ?_
  refine LW.aload_n C 3 (dcN_7 dLg_37 :) rfl ?_
  refine LW.iload_n C 0 (dcN_8 dLg_37 :) rfl ?_
  refine LW.iconst C (dcN_9 dLg_37 :) ?_
  refine LW.iadd C (dcN_10 dLg_37 :) ?_
  refine LW.sld C (lw_in hL h0 h1 (by decide) (by decide)) (dcN_11 dLg_37 :) ?_
  refine LW.callV C (As := [iv (xs (ix (i + 1))).toInt, iv (xs (ix (i + 2))).toInt]) (st := []) (M_given_ok e2) cqL_129 crL_129 (by decide) rfl (dcN_12 dLg_37 :) rfl (Nat.le_of_ble_eq_true rfl) ?_
  refine LW.pop C (dcN_13 dLg_37 :) ?_
  refine LW.goto (tgt := 1914) C (dcN_14 dLg_37 :) (by decide) ?_
  exact kk _ hI2
theorem lwc_more {Inv0 Inv : AG → Prop} (hsim : Sim_more Inv0 Inv) (C : LC p s m meth c b L xs z) (hL : L ≤ 3072) {i : Int} (h0 : 0 ≤ i) (h1 : i + 6 ≤ L) (hI : Inv0 g) (kk : ∀ g9, Inv g9 → LW p l e s m below meth c b z 1914 [(3, iv i), (2, rv z 117), (1, rv z 0), (0, .ref b)] [] g9) : LW p l e s m below meth c b z 1333 [(3, iv i), (2, rv z 117), (1, rv z 0), (0, .ref b)] [] g := by
  obtain ⟨r1, r2, e1, e2, hv, hI2⟩ := hsim ((xs (ix (i + 1))).toInt) ((xs (ix (i + 2))).toInt) ((xs (ix (i + 3))).toInt) g (I32_of _) (I32_of _) (I32_of _) hI
  refine LW.aload_n C 2 (dcN_15 dLg_37 :) rfl ?_
  refine LW.aload_n C 3 (dcN_16 dLg_37 :) rfl ?_
  refine LW.iload_n C 0 (dcN_17 dLg_37 :) rfl ?_
  refine LW.iconst C (dcN_18 dLg_37 :) ?_
  refine LW.iadd C (dcN_19 dLg_37 :) ?_
  refine LW.sld C (lw_in hL h0 h1 (by decide) (by decide)) (dcN_20 dLg_37 :) ?_
  refine LW.aload_n C 3 (dcN_21 dLg_37 :) rfl ?_
  refine LW.iload_n C 0 (dcN_22 dLg_37 :) rfl ?_
  refine LW.iconst C (dcN_23 dLg_37 :) ?_
  refine LW.iadd C (dcN_24 dLg_37 :) ?_
  refine LW.sld C (lw_in hL h0 h1 (by decide) (by decide)) (dcN_25 dLg_37 :) ?_
  refine LW.aload_n C 3 (dcN_0 dLg_38 :) rfl ?_
  refine LW.iload_n C 0 (dcN_1 dLg_38 :) rfl ?_
  refine LW.iconst C (dcN_2 dLg_38 :) ?_
  refine LW.iadd C (dcN_3 dLg_38 :) ?_
  refine LW.sld C (lw_in hL h0 h1 (by decide) (by decide)) (dcN_4 dLg_38 :) ?_
  refine LW.callV C (As := [iv (xs (ix (i + 1))).toInt, iv (xs (ix (i + 2))).toInt, iv (xs (ix (i + 3))).toInt]) (st := []) (X_more_ok e1) cqL_130 crL_130 (by decide) rfl (dcN_5 dLg_38 :) rfl (Nat.le_of_ble_eq_true rfl) ?_
  refine LW.pop C (dcN_6 dLg_38 :) ?_
  refine LW.aload_n C 1 (dcN_7 dLg_38 :) rfl ?_
  refine LW.aload_n C 3 (dcN_8 dLg_38 :) rfl ?_
  refine LW.iload_n C 0 (dcN_9 dLg_38 :) rfl ?_
  refine LW.iconst C (dcN_10 dLg_38 :) ?_
  refine LW.iadd C (dcN_11 dLg_38 :) ?_
  refine LW.sld C (lw_in hL h0 h1 (by decide) (by decide)) (dcN_12 dLg_38 :) ?_
  refine LW.aload_n C 3 (dcN_13 dLg_38 :) rfl ?_
  refine LW.iload_n C 0 (dcN_14 dLg_38 :) rfl ?_
  refine LW.iconst C (dcN_15 dLg_38 :) ?_
  refine LW.iadd C (dcN_16 dLg_38 :) ?_
  refine LW.sld C (lw_in hL h0 h1 (by decide) (by decide)) (dcN_17 dLg_38 :) ?_
  refine LW.aload_n C 3 (dcN_18 dLg_38 :) rfl ?_
  refine LW.iload_n C 0 (dcN_19 dLg_38 :) rfl ?_
  refine LW.iconst C (dcN_20 dLg_38 :) ?_
  refine LW.iadd C (dcN_21 dLg_38 :) ?_
  refine LW.sld C (lw_in hL h0 h1 (by decide) (by decide)) (dcN_22 dLg_38 :) ?_
  refine LW.callV C (As := [iv (xs (ix (i + 1))).toInt, iv (xs (ix (i + 2))).toInt, iv (xs (ix (i + 3))).toInt]) (st := []) (M_more_ok e2) cqL_133 crL_133 (by decide) rfl (dcN_23 dLg_38 :) rfl (Nat.le_of_ble_eq_true rfl) ?_
  refine LW.pop C (dcN_24 dLg_38 :) ?_
  refine LW.goto (tgt := 1914) C (dcN_25 dLg_38 :) (by decide) ?_
  exact kk _ hI2
end LAWW
end
section
section LAWW
variable {p : Program} {l : Launch} {e : Env} {s : State} {m : MethodId} {below : List Frame} {meth : Method} {c : Code} {b L : Nat} {xs : Nat → Int32} {z : AZ} {pc : Nat} {lv : List (Nat × Value)} {st : List Value} {g : AG}
theorem lwc_gas {Inv0 Inv : AG → Prop} (hsim : Sim_gas Inv0 Inv) (C : LC p s m meth c b L xs z) (hL : L ≤ 3072) {i : Int} (h0 : 0 ≤ i) (h1 : i + 6 ≤ L) (hI : Inv0 g) (kk : ∀ g9, Inv g9 → LW p l e s m below meth c b z 1914 [(3, iv i), (2, rv z 117), (1, rv z 0), (0, .ref b)] [] g9) : LW p l e s m below meth c b z 1376 [(3, iv i), (2, rv z 117), (1, rv z 0), (0, .ref b)] [] g := by
  obtain ⟨r1, r2, e1, e2, hI2⟩ := hsim ((xs (ix (i + 1))).toInt) ((xs (ix (i + 2))).toInt) ((xs (ix (i + 3))).toInt) g (I32_of _) (I32_of _) (I32_of _) hI
  refine LW.aload_n C 2 (dcN_0 dLg_39 :) rfl ?_
  refine LW.aload_n C 3 (dcN_1 dLg_39 :) rfl ?_
  refine LW.iload_n C 0 (dcN_2 dLg_39 :) rfl ?_
  refine LW.iconst C (dcN_3 dLg_39 :) ?_
  refine LW.iadd C (dcN_4 dLg_39 :) ?_
  refine LW.sld C (lw_in hL h0 h1 (by decide) (by decide)) (dcN_5 dLg_39 :) ?_
  refine LW.aload_n C 3 (dcN_6 dLg_39 :) rfl ?_
  refine LW.iload_n C 0 (dcN_7 dLg_39 :) rfl ?_
  refine LW.iconst C (dcN_8 dLg_39 :) ?_
  refine LW.iadd C (dcN_9 dLg_39 :) ?_
  refine LW.sld C (lw_in hL h0 h1 (by decide) (by decide)) (dcN_10 dLg_39 :) ?_
  refine LW.aload_n C 3 (dcN_11 dLg_39 :) rfl ?_
  refine LW.iload_n C 0 (dcN_12 dLg_39 :) rfl ?_
  refine LW.iconst C (dcN_13 dLg_39 :) ?_
  refine LW.iadd C (dcN_14 dLg_39 :) ?_
  refine LW.sld C (lw_in hL h0 h1 (by decide) (by decide)) (dcN_15 dLg_39 :) ?_
  refine LW.callV C (As := [iv (xs (ix (i + 1))).toInt, iv (xs (ix (i + 2))).toInt, iv (xs (ix (i + 3))).toInt]) (st := []) (X_gas_ok e1) cqL_134 crL_134 (by decide) rfl (dcN_16 dLg_39 :) rfl (Nat.le_of_ble_eq_true rfl) ?_
  refine LW.pop C (dcN_17 dLg_39 :) ?_
  refine LW.aload_n C 1 (dcN_18 dLg_39 :) rfl ?_
  refine LW.aload_n C 3 (dcN_19 dLg_39 :) rfl ?_
  refine LW.iload_n C 0 (dcN_20 dLg_39 :) rfl ?_
  refine LW.iconst C (dcN_21 dLg_39 :) ?_
  refine LW.iadd C (dcN_22 dLg_39 :) ?_
  refine LW.sld C (lw_in hL h0 h1 (by decide) (by decide)) (dcN_23 dLg_39 :) ?_
  refine LW.aload_n C 3 (dcN_24 dLg_39 :) rfl ?_
  refine LW.iload_n C 0 (dcN_25 dLg_39 :) rfl ?_
  refine LW.iconst C (dcN_26 dLg_39 :) ?_
  refine LW.iadd C (dcN_27 dLg_39 :) ?_
  refine LW.sld C (lw_in hL h0 h1 (by decide) (by decide)) (dcN_28 dLg_39 :) ?_
  refine LW.aload_n C 3 (dcN_29 dLg_39 :) rfl ?_
  refine LW.iload_n C 0 (dcN_0 dLg_40 :) rfl ?_
  refine LW.iconst C (dcN_1 dLg_40 :) ?_
  refine LW.iadd C (dcN_2 dLg_40 :) ?_
  refine LW.sld C (lw_in hL h0 h1 (by decide) (by decide)) (dcN_3 dLg_40 :) ?_
  refine LW.callV C (As := [iv (xs (ix (i + 1))).toInt, iv (xs (ix (i + 2))).toInt, iv (xs (ix (i + 3))).toInt]) (st := []) (M_gas_ok e2) cqL_138 crL_138 (by decide) rfl (dcN_4 dLg_40 :) rfl (Nat.le_of_ble_eq_true rfl) ?_
  refine LW.pop C (dcN_5 dLg_40 :) ?_
  refine LW.goto (tgt := 1914) C (dcN_6 dLg_40 :) (by decide) ?_
  exact kk _ hI2
theorem lwc_dock {Inv0 Inv : AG → Prop} (hsim : Sim_dock Inv0 Inv) (C : LC p s m meth c b L xs z) (hL : L ≤ 3072) {i : Int} (h0 : 0 ≤ i) (h1 : i + 6 ≤ L) (hI : Inv0 g) (kk : ∀ g9, Inv g9 → LW p l e s m below meth c b z 1914 [(3, iv i), (2, rv z 117), (1, rv z 0), (0, .ref b)] [] g9) : LW p l e s m below meth c b z 1419 [(3, iv i), (2, rv z 117), (1, rv z 0), (0, .ref b)] [] g := by
  obtain ⟨r1, r2, e1, e2, hv, hI2⟩ := hsim ((xs (ix (i + 1))).toInt) g (I32_of _) hI
  refine LW.aload_n C 2 (dcN_7 dLg_40 :) rfl ?_
  refine LW.aload_n C 3 (dcN_8 dLg_40 :) rfl ?_
  refine LW.iload_n C 0 (dcN_9 dLg_40 :) rfl ?_
  refine LW.iconst C (dcN_10 dLg_40 :) ?_
  refine LW.iadd C (dcN_11 dLg_40 :) ?_
  refine LW.sld C (lw_in hL h0 h1 (by decide) (by decide)) (dcN_12 dLg_40 :) ?_
  refine LW.callV C (As := [iv (xs (ix (i + 1))).toInt]) (st := []) (X_dock_ok e1) cqL_139 crL_139 (by decide) rfl (dcN_13 dLg_40 :) rfl (Nat.le_of_ble_eq_true rfl) ?_
  refine LW.pop C (dcN_14 dLg_40 :) ?_
  refine LW.aload_n C 1 (dcN_15 dLg_40 :) rfl ?_
  refine LW.aload_n C 3 (dcN_16 dLg_40 :) rfl ?_
  refine LW.iload_n C 0 (dcN_17 dLg_40 :) rfl ?_
  refine LW.iconst C (dcN_18 dLg_40 :) ?_
  refine LW.iadd C (dcN_19 dLg_40 :) ?_
  refine LW.sld C (lw_in hL h0 h1 (by decide) (by decide)) (dcN_20 dLg_40 :) ?_
  refine LW.callV C (As := [iv (xs (ix (i + 1))).toInt]) (st := []) (M_dock_ok e2) cqL_142 crL_142 (by decide) rfl (dcN_21 dLg_40 :) rfl (Nat.le_of_ble_eq_true rfl) ?_
  refine LW.pop C (dcN_22 dLg_40 :) ?_
  refine LW.goto (tgt := 1914) C (dcN_23 dLg_40 :) (by decide) ?_
  exact kk _ hI2
theorem lwc_job {Inv0 Inv : AG → Prop} (hsim : Sim_job Inv0 Inv) (C : LC p s m meth c b L xs z) (hL : L ≤ 3072) {i : Int} (h0 : 0 ≤ i) (h1 : i + 6 ≤ L) (hI : Inv0 g) (kk : ∀ g9, Inv g9 → LW p l e s m below meth c b z 1914 [(3, iv i), (2, rv z 117), (1, rv z 0), (0, .ref b)] [] g9) : LW p l e s m below meth c b z 1442 [(3, iv i), (2, rv z 117), (1, rv z 0), (0, .ref b)] [] g := by
  obtain ⟨r1, r2, e1, e2, hv, hI2⟩ := hsim ((xs (ix (i + 1))).toInt) g (I32_of _) hI
  refine LW.aload_n C 2 (dcN_0 dLg_41 :) rfl ?_
  refine LW.aload_n C 3 (dcN_1 dLg_41 :) rfl ?_
  refine LW.iload_n C 0 (dcN_2 dLg_41 :) rfl ?_
  refine LW.iconst C (dcN_3 dLg_41 :) ?_
  refine LW.iadd C (dcN_4 dLg_41 :) ?_
  refine LW.sld C (lw_in hL h0 h1 (by decide) (by decide)) (dcN_5 dLg_41 :) ?_
  refine LW.callV C (As := [iv (xs (ix (i + 1))).toInt]) (st := []) (X_job_ok e1) cqL_143 crL_143 (by decide) rfl (dcN_6 dLg_41 :) rfl (Nat.le_of_ble_eq_true rfl) ?_
  refine LW.pop C (dcN_7 dLg_41 :) ?_
  refine LW.aload_n C 1 (dcN_8 dLg_41 :) rfl ?_
  refine LW.aload_n C 3 (dcN_9 dLg_41 :) rfl ?_
  refine LW.iload_n C 0 (dcN_10 dLg_41 :) rfl ?_
  refine LW.iconst C (dcN_11 dLg_41 :) ?_
  refine LW.iadd C (dcN_12 dLg_41 :) ?_
  refine LW.sld C (lw_in hL h0 h1 (by decide) (by decide)) (dcN_13 dLg_41 :) ?_
  refine LW.callV C (As := [iv (xs (ix (i + 1))).toInt]) (st := []) (M_job_ok e2) cqL_146 crL_146 (by decide) rfl (dcN_14 dLg_41 :) rfl (Nat.le_of_ble_eq_true rfl) ?_
  refine LW.pop C (dcN_15 dLg_41 :) ?_
  refine LW.goto (tgt := 1914) C (dcN_16 dLg_41 :) (by decide) ?_
  exact kk _ hI2
theorem lwc_turned {Inv0 Inv : AG → Prop} (hsim : Sim_turned Inv0 Inv) (C : LC p s m meth c b L xs z) (hL : L ≤ 3072) {i : Int} (h0 : 0 ≤ i) (h1 : i + 6 ≤ L) (hI : Inv0 g) (kk : ∀ g9, Inv g9 → LW p l e s m below meth c b z 1914 [(3, iv i), (2, rv z 117), (1, rv z 0), (0, .ref b)] [] g9) : LW p l e s m below meth c b z 1465 [(3, iv i), (2, rv z 117), (1, rv z 0), (0, .ref b)] [] g := by
  obtain ⟨r1, r2, e1, e2, hv, hI2⟩ := hsim ((xs (ix (i + 1))).toInt) ((xs (ix (i + 2))).toInt) g (I32_of _) (I32_of _) hI
  refine LW.aload_n C 2 (dcN_17 dLg_41 :) rfl ?_
  refine LW.aload_n C 3 (dcN_18 dLg_41 :) rfl ?_
  refine LW.iload_n C 0 (dcN_19 dLg_41 :) rfl ?_
  refine LW.iconst C (dcN_20 dLg_41 :) ?_
  refine LW.iadd C (dcN_21 dLg_41 :) ?_
  refine LW.sld C (lw_in hL h0 h1 (by decide) (by decide)) (dcN_22 dLg_41 :) ?_
  refine LW.aload_n C 3 (dcN_23 dLg_41 :) rfl ?_
  refine LW.iload_n C 0 (dcN_0 dLg_42 :) rfl ?_
  refine LW.iconst C (dcN_1 dLg_42 :) ?_
  refine LW.iadd C (dcN_2 dLg_42 :) ?_
  refine LW.sld C (lw_in hL h0 h1 (by decide) (by decide)) (dcN_3 dLg_42 :) ?_
  refine LW.callV C (As := [iv (xs (ix (i + 1))).toInt, iv (xs (ix (i + 2))).toInt]) (st := []) (X_turned_ok e1) cqL_147 crL_147 (by decide) rfl (dcN_4 dLg_42 :) rfl (Nat.le_of_ble_eq_true rfl) ?_
  refine LW.pop C (dcN_5 dLg_42 :) ?_
  refine LW.aload_n C 1 (dcN_6 dLg_42 :) rfl ?_
  refine LW.aload_n C 3 (dcN_7 dLg_42 :) rfl ?_
  refine LW.iload_n C 0 (dcN_8 dLg_42 :) rfl ?_
  refine LW.iconst C (dcN_9 dLg_42 :) ?_
  refine LW.iadd C (dcN_10 dLg_42 :) ?_
  refine LW.sld C (lw_in hL h0 h1 (by decide) (by decide)) (dcN_11 dLg_42 :) ?_
  refine LW.aload_n C 3 (dcN_12 dLg_42 :) rfl ?_
  refine LW.iload_n C 0 (dcN_13 dLg_42 :) rfl ?_
  refine LW.iconst C (dcN_14 dLg_42 :) ?_
  refine LW.iadd C (dcN_15 dLg_42 :) ?_
  refine LW.sld C (lw_in hL h0 h1 (by decide) (by decide)) (dcN_16 dLg_42 :) ?_
  refine LW.callV C (As := [iv (xs (ix (i + 1))).toInt, iv (xs (ix (i + 2))).toInt]) (st := []) (M_turned_ok e2) cqL_150 crL_150 (by decide) rfl (dcN_17 dLg_42 :) rfl (Nat.le_of_ble_eq_true rfl) ?_
  refine LW.pop C (dcN_18 dLg_42 :) ?_
  refine LW.goto (tgt := 1914) C (dcN_19 dLg_42 :) (by decide) ?_
  exact kk _ hI2
theorem lwc_weight {Inv0 Inv : AG → Prop} (hsim : Sim_weight Inv0 Inv) (C : LC p s m meth c b L xs z) (hL : L ≤ 3072) {i : Int} (h0 : 0 ≤ i) (h1 : i + 6 ≤ L) (hI : Inv0 g) (kk : ∀ g9, Inv g9 → LW p l e s m below meth c b z 1914 [(3, iv i), (2, rv z 117), (1, rv z 0), (0, .ref b)] [] g9) : LW p l e s m below meth c b z 1498 [(3, iv i), (2, rv z 117), (1, rv z 0), (0, .ref b)] [] g := by
  obtain ⟨r1, r2, e1, e2, hv, hI2⟩ := hsim ((xs (ix (i + 1))).toInt) ((xs (ix (i + 2))).toInt) g (I32_of _) (I32_of _) hI
  refine LW.aload_n C 2 (dcN_20 dLg_42 :) rfl ?_
  refine LW.aload_n C 3 (dcN_21 dLg_42 :) rfl ?_
  refine LW.iload_n C 0 (dcN_22 dLg_42 :) rfl ?_
  refine LW.iconst C (dcN_23 dLg_42 :) ?_
  refine LW.iadd C (dcN_24 dLg_42 :) ?_
  refine LW.sld C (lw_in hL h0 h1 (by decide) (by decide)) (dcN_25 dLg_42 :) ?_
  refine LW.aload_n C 3 (dcN_0 dLg_43 :) rfl ?_
  refine LW.iload_n C 0 (dcN_1 dLg_43 :) rfl ?_
  refine LW.iconst C (dcN_2 dLg_43 :) ?_
  refine LW.iadd C (dcN_3 dLg_43 :) ?_
  refine LW.sld C (lw_in hL h0 h1 (by decide) (by decide)) (dcN_4 dLg_43 :) ?_
  refine LW.callV C (As := [iv (xs (ix (i + 1))).toInt, iv (xs (ix (i + 2))).toInt]) (st := []) (X_weight_ok e1) cqL_151 crL_151 (by decide) rfl (dcN_5 dLg_43 :) rfl (Nat.le_of_ble_eq_true rfl) ?_
  refine LW.pop C (dcN_6 dLg_43 :) ?_
  refine LW.aload_n C 1 (dcN_7 dLg_43 :) rfl ?_
  refine LW.aload_n C 3 (dcN_8 dLg_43 :) rfl ?_
  refine LW.iload_n C 0 (dcN_9 dLg_43 :) rfl ?_
  refine LW.iconst C (dcN_10 dLg_43 :) ?_
  refine LW.iadd C (dcN_11 dLg_43 :) ?_
  refine LW.sld C (lw_in hL h0 h1 (by decide) (by decide)) (dcN_12 dLg_43 :) ?_
  refine LW.aload_n C 3 (dcN_13 dLg_43 :) rfl ?_
  refine LW.iload_n C 0 (dcN_14 dLg_43 :) rfl ?_
  refine LW.iconst C (dcN_15 dLg_43 :) ?_
  refine LW.iadd C (dcN_16 dLg_43 :) ?_
  refine LW.sld C (lw_in hL h0 h1 (by decide) (by decide)) (dcN_17 dLg_43 :) ?_
  refine LW.callV C (As := [iv (xs (ix (i + 1))).toInt, iv (xs (ix (i + 2))).toInt]) (st := []) (M_weight_ok e2) cqL_155 crL_155 (by decide) rfl (dcN_18 dLg_43 :) rfl (Nat.le_of_ble_eq_true rfl) ?_
  refine LW.pop C (dcN_19 dLg_43 :) ?_
  refine LW.goto (tgt := 1914) C (dcN_20 dLg_43 :) (by decide) ?_
  exact kk _ hI2
theorem lwc_van {Inv0 Inv : AG → Prop} (hsim : Sim_van Inv0 Inv) (C : LC p s m meth c b L xs z) (hL : L ≤ 3072) {i : Int} (h0 : 0 ≤ i) (h1 : i + 6 ≤ L) (hI : Inv0 g) (kk : ∀ g9, Inv g9 → LW p l e s m below meth c b z 1914 [(3, iv i), (2, rv z 117), (1, rv z 0), (0, .ref b)] [] g9) : LW p l e s m below meth c b z 1531 [(3, iv i), (2, rv z 117), (1, rv z 0), (0, .ref b)] [] g := by
  obtain ⟨r1, v2, e1, e2, hv, hI2⟩ := hsim ((xs (ix (i + 1))).toInt) g (I32_of _) hI
  refine LW.aload_n C 2 (dcN_21 dLg_43 :) rfl ?_
  refine LW.aload_n C 3 (dcN_22 dLg_43 :) rfl ?_
  refine LW.iload_n C 0 (dcN_23 dLg_43 :) rfl ?_
  refine LW.iconst C (dcN_24 dLg_43 :) ?_
  refine LW.iadd C (dcN_25 dLg_43 :) ?_
  refine LW.sld C (lw_in hL h0 h1 (by decide) (by decide)) (dcN_0 dLg_44 :) ?_
  refine LW.callV C (As := [iv (xs (ix (i + 1))).toInt]) (st := []) (X_van_ok e1) cqL_156 crL_156 (by decide) rfl (dcN_1 dLg_44 :) rfl (Nat.le_of_ble_eq_true rfl) ?_
  refine LW.pop C (dcN_2 dLg_44 :) ?_
  refine LW.aload_n C 1 (dcN_3 dLg_44 :) rfl ?_
  refine LW.aload_n C 3 (dcN_4 dLg_44 :) rfl ?_
  refine LW.iload_n C 0 (dcN_5 dLg_44 :) rfl ?_
  refine LW.iconst C (dcN_6 dLg_44 :) ?_
  refine LW.iadd C (dcN_7 dLg_44 :) ?_
  refine LW.sld C (lw_in hL h0 h1 (by decide) (by decide)) (dcN_8 dLg_44 :) ?_
  refine LW.callV C (As := [iv (xs (ix (i + 1))).toInt]) (st := []) (M_van_ok e2) cqL_159 crL_159 (by decide) rfl (dcN_9 dLg_44 :) rfl (Nat.le_of_ble_eq_true rfl) ?_
  refine LW.pop C (dcN_10 dLg_44 :) ?_
  refine LW.goto (tgt := 1914) C (dcN_11 dLg_44 :) (by decide) ?_
  exact kk _ hI2
theorem lwc_vans {Inv0 Inv : AG → Prop} (hsim : Sim_vans Inv0 Inv) (C : LC p s m meth c b L xs z) (hL : L ≤ 3072) {i : Int} (h0 : 0 ≤ i) (h1 : i + 6 ≤ L) (hI : Inv0 g) (kk : ∀ g9, Inv g9 → LW p l e s m below meth c b z 1914 [(3, iv i), (2, rv z 117), (1, rv z 0), (0, .ref b)] [] g9) : LW p l e s m below meth c b z 1554 [(3, iv i), (2, rv z 117), (1, rv z 0), (0, .ref b)] [] g := by
  obtain ⟨r1, v2, e1, e2, hv, hI2⟩ := hsim ((xs (ix (i + 1))).toInt) g (I32_of _) hI
  refine LW.aload_n C 2 (dcN_12 dLg_44 :) rfl ?_
  refine LW.aload_n C 3 (dcN_13 dLg_44 :) rfl ?_
  refine LW.iload_n C 0 (dcN_14 dLg_44 :) rfl ?_
  refine LW.iconst C (dcN_15 dLg_44 :) ?_
  refine LW.iadd C (dcN_16 dLg_44 :) ?_
  refine LW.sld C (lw_in hL h0 h1 (by decide) (by decide)) (dcN_17 dLg_44 :) ?_
  refine LW.callV C (As := [iv (xs (ix (i + 1))).toInt]) (st := []) (X_vans_ok e1) cqL_160 crL_160 (by decide) rfl (dcN_18 dLg_44 :) rfl (Nat.le_of_ble_eq_true rfl) ?_
  refine LW.pop C (dcN_19 dLg_44 :) ?_
  refine LW.aload_n C 1 (dcN_20 dLg_44 :) rfl ?_
  refine LW.aload_n C 3 (dcN_21 dLg_44 :) rfl ?_
  refine LW.iload_n C 0 (dcN_22 dLg_44 :) rfl ?_
  refine LW.iconst C (dcN_23 dLg_44 :) ?_
  refine LW.iadd C (dcN_0 dLg_45 :) ?_
  refine LW.sld C (lw_in hL h0 h1 (by decide) (by decide)) (dcN_1 dLg_45 :) ?_
  refine LW.callV C (As := [iv (xs (ix (i + 1))).toInt]) (st := []) (M_vans_ok e2) cqL_163 crL_163 (by decide) rfl (dcN_2 dLg_45 :) rfl (Nat.le_of_ble_eq_true rfl) ?_
  refine LW.pop C (dcN_3 dLg_45 :) ?_
  refine LW.goto (tgt := 1914) C (dcN_4 dLg_45 :) (by decide) ?_
  exact kk _ hI2
theorem lwc_call {Inv0 Inv : AG → Prop} (hsim : Sim_call Inv0 Inv) (C : LC p s m meth c b L xs z) (hL : L ≤ 3072) {i : Int} (h0 : 0 ≤ i) (h1 : i + 6 ≤ L) (hI : Inv0 g) (kk : ∀ g9, Inv g9 → LW p l e s m below meth c b z 1914 [(3, iv i), (2, rv z 117), (1, rv z 0), (0, .ref b)] [] g9) : LW p l e s m below meth c b z 1577 [(3, iv i), (2, rv z 117), (1, rv z 0), (0, .ref b)] [] g := by
  obtain ⟨r1, r2, e1, e2, hv, hI2⟩ := hsim ((xs (ix (i + 1))).toInt) ((xs (ix (i + 2))).toInt) ((xs (ix (i + 3))).toInt) g (I32_of _) (I32_of _) (I32_of _) hI
  refine LW.aload_n C 2 (dcN_5 dLg_45 :) rfl ?_
  refine LW.aload_n C 3 (dcN_6 dLg_45 :) rfl ?_
  refine LW.iload_n C 0 (dcN_7 dLg_45 :) rfl ?_
  refine LW.iconst C (dcN_8 dLg_45 :) ?_
  refine LW.iadd C (dcN_9 dLg_45 :) ?_
  refine LW.sld C (lw_in hL h0 h1 (by decide) (by decide)) (dcN_10 dLg_45 :) ?_
  refine LW.aload_n C 3 (dcN_11 dLg_45 :) rfl ?_
  refine LW.iload_n C 0 (dcN_12 dLg_45 :) rfl ?_
  refine LW.iconst C (dcN_13 dLg_45 :) ?_
  refine LW.iadd C (dcN_14 dLg_45 :) ?_
  refine LW.sld C (lw_in hL h0 h1 (by decide) (by decide)) (dcN_15 dLg_45 :) ?_
  refine LW.aload_n C 3 (dcN_16 dLg_45 :) rfl ?_
  refine LW.iload_n C 0 (dcN_17 dLg_45 :) rfl ?_
  refine LW.iconst C (dcN_18 dLg_45 :) ?_
  refine LW.iadd C (dcN_19 dLg_45 :) ?_
  refine LW.sld C (lw_in hL h0 h1 (by decide) (by decide)) (dcN_20 dLg_45 :) ?_
  refine LW.callV C (As := [iv (xs (ix (i + 1))).toInt, iv (xs (ix (i + 2))).toInt, iv (xs (ix (i + 3))).toInt]) (st := []) (X_call_ok e1) cqL_164 crL_164 (by decide) rfl (dcN_21 dLg_45 :) rfl (Nat.le_of_ble_eq_true rfl) ?_
  refine LW.pop C (dcN_22 dLg_45 :) ?_
  refine LW.aload_n C 1 (dcN_23 dLg_45 :) rfl ?_
  refine LW.aload_n C 3 (dcN_24 dLg_45 :) rfl ?_
  refine LW.iload_n C 0 (dcN_25 dLg_45 :) rfl ?_
  refine LW.iconst C (dcN_0 dLg_46 :) ?_
  refine LW.iadd C (dcN_1 dLg_46 :) ?_
  refine LW.sld C (lw_in hL h0 h1 (by decide) (by decide)) (dcN_2 dLg_46 :) ?_
  refine LW.aload_n C 3 (dcN_3 dLg_46 :) rfl ?_
  refine LW.iload_n C 0 (dcN_4 dLg_46 :) rfl ?_
  refine LW.iconst C (dcN_5 dLg_46 :) ?_
  refine LW.iadd C (dcN_6 dLg_46 :) ?_
  refine LW.sld C (lw_in hL h0 h1 (by decide) (by decide)) (dcN_7 dLg_46 :) ?_
  refine LW.aload_n C 3 (dcN_8 dLg_46 :) rfl ?_
  refine LW.iload_n C 0 (dcN_9 dLg_46 :) rfl ?_
  refine LW.iconst C (dcN_10 dLg_46 :) ?_
  refine LW.iadd C (dcN_11 dLg_46 :) ?_
  refine LW.sld C (lw_in hL h0 h1 (by decide) (by decide)) (dcN_12 dLg_46 :) ?_
  refine LW.callV C (As := [iv (xs (ix (i + 1))).toInt, iv (xs (ix (i + 2))).toInt, iv (xs (ix (i + 3))).toInt]) (st := []) (M_call_ok e2) cqL_167 crL_167 (by decide) rfl (dcN_13 dLg_46 :) rfl (Nat.le_of_ble_eq_true rfl) ?_
  refine LW.pop C (dcN_14 dLg_46 :) ?_
  refine LW.goto (tgt := 1914) C (dcN_15 dLg_46 :) (by decide) ?_
  exact kk _ hI2
theorem lwc_taken {Inv0 Inv : AG → Prop} (hsim : Sim_taken Inv0 Inv) (C : LC p s m meth c b L xs z) (hL : L ≤ 3072) {i : Int} (h0 : 0 ≤ i) (h1 : i + 6 ≤ L) (hI : Inv0 g) (kk : ∀ g9, Inv g9 → LW p l e s m below meth c b z 1914 [(3, iv i), (2, rv z 117), (1, rv z 0), (0, .ref b)] [] g9) : LW p l e s m below meth c b z 1620 [(3, iv i), (2, rv z 117), (1, rv z 0), (0, .ref b)] [] g := by
  obtain ⟨r1, r2, e1, e2, hv, hI2⟩ := hsim ((xs (ix (i + 1))).toInt) ((xs (ix (i + 2))).toInt) ((xs (ix (i + 3))).toInt) g (I32_of _) (I32_of _) (I32_of _) hI
  refine LW.aload_n C 2 (dcN_16 dLg_46 :) rfl ?_
  refine LW.aload_n C 3 (dcN_17 dLg_46 :) rfl ?_
  refine LW.iload_n C 0 (dcN_18 dLg_46 :) rfl ?_
  refine LW.iconst C (dcN_19 dLg_46 :) ?_
  refine LW.iadd C (dcN_20 dLg_46 :) ?_
  refine LW.sld C (lw_in hL h0 h1 (by decide) (by decide)) (dcN_21 dLg_46 :) ?_
  refine LW.aload_n C 3 (dcN_22 dLg_46 :) rfl ?_
  refine LW.iload_n C 0 (dcN_23 dLg_46 :) rfl ?_
  refine LW.iconst C (dcN_24 dLg_46 :) ?_
  refine LW.iadd C (dcN_25 dLg_46 :) ?_
  refine LW.sld C (lw_in hL h0 h1 (by decide) (by decide)) (dcN_26 dLg_46 :) ?_
  refine LW.aload_n C 3 (dcN_27 dLg_46 :) rfl ?_
  refine LW.iload_n C 0 (dcN_0 dLg_47 :) rfl ?_
  refine LW.iconst C (dcN_1 dLg_47 :) ?_
  refine LW.iadd C (dcN_2 dLg_47 :) ?_
  refine LW.sld C (lw_in hL h0 h1 (by decide) (by decide)) (dcN_3 dLg_47 :) ?_
  refine LW.callV C (As := [iv (xs (ix (i + 1))).toInt, iv (xs (ix (i + 2))).toInt, iv (xs (ix (i + 3))).toInt]) (st := []) (X_taken_ok e1) cqL_168 crL_168 (by decide) rfl (dcN_4 dLg_47 :) rfl (Nat.le_of_ble_eq_true rfl) ?_
  refine LW.pop C (dcN_5 dLg_47 :) ?_
  refine LW.aload_n C 1 (dcN_6 dLg_47 :) rfl ?_
  refine LW.aload_n C 3 (dcN_7 dLg_47 :) rfl ?_
  refine LW.iload_n C 0 (dcN_8 dLg_47 :) rfl ?_
  refine LW.iconst C (dcN_9 dLg_47 :) ?_
  refine LW.iadd C (dcN_10 dLg_47 :) ?_
  refine LW.sld C (lw_in hL h0 h1 (by decide) (by decide)) (dcN_11 dLg_47 :) ?_
  refine LW.aload_n C 3 (dcN_12 dLg_47 :) rfl ?_
  refine LW.iload_n C 0 (dcN_13 dLg_47 :) rfl ?_
  refine LW.iconst C (dcN_14 dLg_47 :) ?_
  refine LW.iadd C (dcN_15 dLg_47 :) ?_
  refine LW.sld C (lw_in hL h0 h1 (by decide) (by decide)) (dcN_16 dLg_47 :) ?_
  refine LW.aload_n C 3 (dcN_17 dLg_47 :) rfl ?_
  refine LW.iload_n C 0 (dcN_18 dLg_47 :) rfl ?_
  refine LW.iconst C (dcN_19 dLg_47 :) ?_
  refine LW.iadd C (dcN_20 dLg_47 :) ?_
  refine LW.sld C (lw_in hL h0 h1 (by decide) (by decide)) (dcN_21 dLg_47 :) ?_
  refine LW.callV C (As := [iv (xs (ix (i + 1))).toInt, iv (xs (ix (i + 2))).toInt, iv (xs (ix (i + 3))).toInt]) (st := []) (M_taken_ok e2) cqL_171 crL_171 (by decide) rfl (dcN_22 dLg_47 :) rfl (Nat.le_of_ble_eq_true rfl) ?_
  refine LW.pop C (dcN_23 dLg_47 :) ?_
  refine LW.goto (tgt := 1914) C (dcN_24 dLg_47 :) (by decide) ?_
  exact kk _ hI2
theorem lwc_left {Inv0 Inv : AG → Prop} (hsim : Sim_left Inv0 Inv) (C : LC p s m meth c b L xs z) (hL : L ≤ 3072) {i : Int} (h0 : 0 ≤ i) (h1 : i + 6 ≤ L) (hI : Inv0 g) (kk : ∀ g9, Inv g9 → LW p l e s m below meth c b z 1914 [(3, iv i), (2, rv z 117), (1, rv z 0), (0, .ref b)] [] g9) : LW p l e s m below meth c b z 1663 [(3, iv i), (2, rv z 117), (1, rv z 0), (0, .ref b)] [] g := by
  obtain ⟨r1, r2, e1, e2, hv, hI2⟩ := hsim ((xs (ix (i + 1))).toInt) ((xs (ix (i + 2))).toInt) ((xs (ix (i + 3))).toInt) ((xs (ix (i + 4))).toInt) ((xs (ix (i + 5))).toInt) g (I32_of _) (I32_of _) (I32_of _) (I32_of _) (I32_of _) hI
  refine LW.aload_n C 2 (dcN_25 dLg_47 :) rfl ?_
  refine LW.aload_n C 3 (dcN_0 dLg_48 :) rfl ?_
  refine LW.iload_n C 0 (dcN_1 dLg_48 :) rfl ?_
  refine LW.iconst C (dcN_2 dLg_48 :) ?_
  refine LW.iadd C (dcN_3 dLg_48 :) ?_
  refine LW.sld C (lw_in hL h0 h1 (by decide) (by decide)) (dcN_4 dLg_48 :) ?_
  refine LW.aload_n C 3 (dcN_5 dLg_48 :) rfl ?_
  refine LW.iload_n C 0 (dcN_6 dLg_48 :) rfl ?_
  refine LW.iconst C (dcN_7 dLg_48 :) ?_
  refine LW.iadd C (dcN_8 dLg_48 :) ?_
  refine LW.sld C (lw_in hL h0 h1 (by decide) (by decide)) (dcN_9 dLg_48 :) ?_
  refine LW.aload_n C 3 (dcN_10 dLg_48 :) rfl ?_
  refine LW.iload_n C 0 (dcN_11 dLg_48 :) rfl ?_
  refine LW.iconst C (dcN_12 dLg_48 :) ?_
  refine LW.iadd C (dcN_13 dLg_48 :) ?_
  refine LW.sld C (lw_in hL h0 h1 (by decide) (by decide)) (dcN_14 dLg_48 :) ?_
  refine LW.aload_n C 3 (dcN_15 dLg_48 :) rfl ?_
  refine LW.iload_n C 0 (dcN_16 dLg_48 :) rfl ?_
  refine LW.iconst C (dcN_17 dLg_48 :) ?_
  refine LW.iadd C (dcN_18 dLg_48 :) ?_
  refine LW.sld C (lw_in hL h0 h1 (by decide) (by decide)) (dcN_19 dLg_48 :) ?_
  refine LW.aload_n C 3 (dcN_20 dLg_48 :) rfl ?_
  refine LW.iload_n C 0 (dcN_21 dLg_48 :) rfl ?_
  refine LW.iconst C (dcN_22 dLg_48 :) ?_
  refine LW.iadd C (dcN_23 dLg_48 :) ?_
  refine LW.sld C (lw_in hL h0 h1 (by decide) (by decide)) (dcN_24 dLg_48 :) ?_
  refine LW.callV C (As := [iv (xs (ix (i + 1))).toInt, iv (xs (ix (i + 2))).toInt, iv (xs (ix (i + 3))).toInt, iv (xs (ix (i + 4))).toInt, iv (xs (ix (i + 5))).toInt]) (st := []) (X_left_ok e1) cqL_172 crL_172 (by decide) rfl (dcN_25 dLg_48 :) rfl (Nat.le_of_ble_eq_true rfl) ?_
  refine LW.pop C (dcN_26 dLg_48 :) ?_
  refine LW.aload_n C 1 (dcN_27 dLg_48 :) rfl ?_
  refine LW.aload_n C 3 (dcN_28 dLg_48 :) rfl ?_
  refine LW.iload_n C 0 (dcN_29 dLg_48 :) rfl ?_
  refine LW.iconst C (dcN_0 dLg_49 :) ?_
  refine LW.iadd C (dcN_1 dLg_49 :) ?_
  refine LW.sld C (lw_in hL h0 h1 (by decide) (by decide)) (dcN_2 dLg_49 :) ?_
  refine LW.aload_n C 3 (dcN_3 dLg_49 :) rfl ?_
  refine LW.iload_n C 0 (dcN_4 dLg_49 :) rfl ?_
  refine LW.iconst C (dcN_5 dLg_49 :) ?_
  refine LW.iadd C (dcN_6 dLg_49 :) ?_
  refine LW.sld C (lw_in hL h0 h1 (by decide) (by decide)) (dcN_7 dLg_49 :) ?_
  refine LW.aload_n C 3 (dcN_8 dLg_49 :) rfl ?_
  refine LW.iload_n C 0 (dcN_9 dLg_49 :) rfl ?_
  refine LW.iconst C (dcN_10 dLg_49 :) ?_
  refine LW.iadd C (dcN_11 dLg_49 :) ?_
  refine LW.sld C (lw_in hL h0 h1 (by decide) (by decide)) (dcN_12 dLg_49 :) ?_
  refine LW.aload_n C 3 (dcN_13 dLg_49 :) rfl ?_
  refine LW.iload_n C 0 (dcN_14 dLg_49 :) rfl ?_
  refine LW.iconst C (dcN_15 dLg_49 :) ?_
  refine LW.iadd C (dcN_16 dLg_49 :) ?_
  refine LW.sld C (lw_in hL h0 h1 (by decide) (by decide)) (dcN_17 dLg_49 :) ?_
  refine LW.aload_n C 3 (dcN_18 dLg_49 :) rfl ?_
  refine LW.iload_n C 0 (dcN_19 dLg_49 :) rfl ?_
  refine LW.iconst C (dcN_20 dLg_49 :) ?_
  refine LW.iadd C (dcN_21 dLg_49 :) ?_
  refine LW.sld C (lw_in hL h0 h1 (by decide) (by decide)) (dcN_22 dLg_49 :) ?_
  refine LW.callV C (As := [iv (xs (ix (i + 1))).toInt, iv (xs (ix (i + 2))).toInt, iv (xs (ix (i + 3))).toInt, iv (xs (ix (i + 4))).toInt, iv (xs (ix (i + 5))).toInt]) (st := []) (M_left_ok e2) cqL_175 crL_175 (by decide) rfl (dcN_23 dLg_49 :) rfl (Nat.le_of_ble_eq_true rfl) ?_
  refine LW.pop C (dcN_24 dLg_49 :) ?_
  refine LW.goto (tgt := 1914) C (dcN_25 dLg_49 :) (by decide) ?_
  exact kk _ hI2
theorem lwc_shuts {Inv0 Inv : AG → Prop} (hsim : Sim_shuts Inv0 Inv) (C : LC p s m meth c b L xs z) (hL : L ≤ 3072) {i : Int} (h0 : 0 ≤ i) (h1 : i + 6 ≤ L) (hI : Inv0 g) (kk : ∀ g9, Inv g9 → LW p l e s m below meth c b z 1914 [(3, iv i), (2, rv z 117), (1, rv z 0), (0, .ref b)] [] g9) : LW p l e s m below meth c b z 1726 [(3, iv i), (2, rv z 117), (1, rv z 0), (0, .ref b)] [] g := by
  obtain ⟨r1, r2, e1, e2, hv, hI2⟩ := hsim ((xs (ix (i + 1))).toInt) ((xs (ix (i + 2))).toInt) ((xs (ix (i + 3))).toInt) ((xs (ix (i + 4))).toInt) g (I32_of _) (I32_of _) (I32_of _) (I32_of _) hI
  refine LW.aload_n C 2 (dcN_26 dLg_49 :) rfl ?_
  refine LW.aload_n C 3 (dcN_27 dLg_49 :) rfl ?_
  refine LW.iload_n C 0 (dcN_0 dLg_50 :) rfl ?_
  refine LW.iconst C (dcN_1 dLg_50 :) ?_
  refine LW.iadd C (dcN_2 dLg_50 :) ?_
  refine LW.sld C (lw_in hL h0 h1 (by decide) (by decide)) (dcN_3 dLg_50 :) ?_
  refine LW.aload_n C 3 (dcN_4 dLg_50 :) rfl ?_
  refine LW.iload_n C 0 (dcN_5 dLg_50 :) rfl ?_
  refine LW.iconst C (dcN_6 dLg_50 :) ?_
  refine LW.iadd C (dcN_7 dLg_50 :) ?_
  refine LW.sld C (lw_in hL h0 h1 (by decide) (by decide)) (dcN_8 dLg_50 :) ?_
  refine LW.aload_n C 3 (dcN_9 dLg_50 :) rfl ?_
  refine LW.iload_n C 0 (dcN_10 dLg_50 :) rfl ?_
  refine LW.iconst C (dcN_11 dLg_50 :) ?_
  refine LW.iadd C (dcN_12 dLg_50 :) ?_
  refine LW.sld C (lw_in hL h0 h1 (by decide) (by decide)) (dcN_13 dLg_50 :) ?_
  refine LW.aload_n C 3 (dcN_14 dLg_50 :) rfl ?_
  refine LW.iload_n C 0 (dcN_15 dLg_50 :) rfl ?_
  refine LW.iconst C (dcN_16 dLg_50 :) ?_
  refine LW.iadd C (dcN_17 dLg_50 :) ?_
  refine LW.sld C (lw_in hL h0 h1 (by decide) (by decide)) (dcN_18 dLg_50 :) ?_
  refine LW.callV C (As := [iv (xs (ix (i + 1))).toInt, iv (xs (ix (i + 2))).toInt, iv (xs (ix (i + 3))).toInt, iv (xs (ix (i + 4))).toInt]) (st := []) (X_shuts_ok e1) cqL_176 crL_176 (by decide) rfl (dcN_19 dLg_50 :) rfl (Nat.le_of_ble_eq_true rfl) ?_
  refine LW.aload_n C 1 (dcN_20 dLg_50 :) rfl ?_
  refine LW.aload_n C 3 (dcN_21 dLg_50 :) rfl ?_
  refine LW.iload_n C 0 (dcN_22 dLg_50 :) rfl ?_
  refine LW.iconst C (dcN_23 dLg_50 :) ?_
  refine LW.iadd C (dcN_24 dLg_50 :) ?_
  refine LW.sld C (lw_in hL h0 h1 (by decide) (by decide)) (dcN_25 dLg_50 :) ?_
  refine LW.aload_n C 3 (dcN_26 dLg_50 :) rfl ?_
  refine LW.iload_n C 0 (dcN_27 dLg_50 :) rfl ?_
  refine LW.iconst C (dcN_28 dLg_50 :) ?_
  refine LW.iadd C (dcN_29 dLg_50 :) ?_
  refine LW.sld C (lw_in hL h0 h1 (by decide) (by decide)) (dcN_0 dLg_51 :) ?_
  refine LW.aload_n C 3 (dcN_1 dLg_51 :) rfl ?_
  refine LW.iload_n C 0 (dcN_2 dLg_51 :) rfl ?_
  refine LW.iconst C (dcN_3 dLg_51 :) ?_
  refine LW.iadd C (dcN_4 dLg_51 :) ?_
  refine LW.sld C (lw_in hL h0 h1 (by decide) (by decide)) (dcN_5 dLg_51 :) ?_
  refine LW.aload_n C 3 (dcN_6 dLg_51 :) rfl ?_
  refine LW.iload_n C 0 (dcN_7 dLg_51 :) rfl ?_
  refine LW.iconst C (dcN_8 dLg_51 :) ?_
  refine LW.iadd C (dcN_9 dLg_51 :) ?_
  refine LW.sld C (lw_in hL h0 h1 (by decide) (by decide)) (dcN_10 dLg_51 :) ?_
  refine LW.callV C (As := [iv (xs (ix (i + 1))).toInt, iv (xs (ix (i + 2))).toInt, iv (xs (ix (i + 3))).toInt, iv (xs (ix (i + 4))).toInt]) (st := [iv r1.1]) (M_shuts_ok e2) cqL_179 crL_179 (by decide) rfl (dcN_11 dLg_51 :) rfl (Nat.le_of_ble_eq_true rfl) ?_
  refine LW.icmp_eq (tgt := 1914) C (dcN_12 dLg_51 :) (by decide) hv ?_
  exact kk _ hI2
theorem lwc_price {Inv0 Inv : AG → Prop} (hsim : Sim_price Inv0 Inv) (C : LC p s m meth c b L xs z) (hL : L ≤ 3072) {i : Int} (h0 : 0 ≤ i) (h1 : i + 6 ≤ L) (hI : Inv0 g) (kk : ∀ g9, Inv g9 → LW p l e s m below meth c b z 1914 [(3, iv i), (2, rv z 117), (1, rv z 0), (0, .ref b)] [] g9) : LW p l e s m below meth c b z 1779 [(3, iv i), (2, rv z 117), (1, rv z 0), (0, .ref b)] [] g := by
  by_cases hb : nw (xs (ix (i + 3))).toInt = 0
  · obtain ⟨r1, r2, e1, e2, hv, hI2⟩ := hsim ((xs (ix (i + 1))).toInt) ((xs (ix (i + 2))).toInt) (0) g (I32_of _) (I32_of _) (Or.inl rfl) hI
    refine LW.aload_n C 2 (dcN_15 dLg_51 :) rfl ?_
    refine LW.aload_n C 3 (dcN_16 dLg_51 :) rfl ?_
    refine LW.iload_n C 0 (dcN_17 dLg_51 :) rfl ?_
    refine LW.iconst C (dcN_18 dLg_51 :) ?_
    refine LW.iadd C (dcN_19 dLg_51 :) ?_
    refine LW.sld C (lw_in hL h0 h1 (by decide) (by decide)) (dcN_20 dLg_51 :) ?_
    refine LW.aload_n C 3 (dcN_21 dLg_51 :) rfl ?_
    refine LW.iload_n C 0 (dcN_22 dLg_51 :) rfl ?_
    refine LW.iconst C (dcN_23 dLg_51 :) ?_
    refine LW.iadd C (dcN_24 dLg_51 :) ?_
    refine LW.sld C (lw_in hL h0 h1 (by decide) (by decide)) (dcN_25 dLg_51 :) ?_
    refine LW.aload_n C 3 (dcN_26 dLg_51 :) rfl ?_
    refine LW.iload_n C 0 (dcN_27 dLg_51 :) rfl ?_
    refine LW.iconst C (dcN_0 dLg_52 :) ?_
    refine LW.iadd C (dcN_1 dLg_52 :) ?_
    refine LW.sld C (lw_in hL h0 h1 (by decide) (by decide)) (dcN_2 dLg_52 :) ?_
    refine LW.if_eq (tgt := 1802) C (dcN_3 dLg_52 :) (by decide) (fun _ => ?_) (fun q => absurd hb q)
    refine LW.iconst C (dcN_6 dLg_52 :) ?_
    refine LW.callV C (As := [iv (xs (ix (i + 1))).toInt, iv (xs (ix (i + 2))).toInt, iv 0]) (st := []) (X_price_ok e1) cqL_180 crL_180 (by decide) rfl (dcN_7 dLg_52 :) rfl (Nat.le_of_ble_eq_true rfl) ?_
    refine LW.pop C (dcN_8 dLg_52 :) ?_
    refine LW.aload_n C 1 (dcN_9 dLg_52 :) rfl ?_
    refine LW.aload_n C 3 (dcN_10 dLg_52 :) rfl ?_
    refine LW.iload_n C 0 (dcN_11 dLg_52 :) rfl ?_
    refine LW.iconst C (dcN_12 dLg_52 :) ?_
    refine LW.iadd C (dcN_13 dLg_52 :) ?_
    refine LW.sld C (lw_in hL h0 h1 (by decide) (by decide)) (dcN_14 dLg_52 :) ?_
    refine LW.aload_n C 3 (dcN_15 dLg_52 :) rfl ?_
    refine LW.iload_n C 0 (dcN_16 dLg_52 :) rfl ?_
    refine LW.iconst C (dcN_17 dLg_52 :) ?_
    refine LW.iadd C (dcN_18 dLg_52 :) ?_
    refine LW.sld C (lw_in hL h0 h1 (by decide) (by decide)) (dcN_19 dLg_52 :) ?_
    refine LW.aload_n C 3 (dcN_20 dLg_52 :) rfl ?_
    refine LW.iload_n C 0 (dcN_21 dLg_52 :) rfl ?_
    refine LW.iconst C (dcN_22 dLg_52 :) ?_
    refine LW.iadd C (dcN_23 dLg_52 :) ?_
    refine LW.sld C (lw_in hL h0 h1 (by decide) (by decide)) (dcN_24 dLg_52 :) ?_
    refine LW.if_eq (tgt := 1830) C (dcN_25 dLg_52 :) (by decide) (fun _ => ?_) (fun q => absurd hb q)
    refine LW.iconst C (dcN_2 dLg_53 :) ?_
    refine LW.callV C (As := [iv (xs (ix (i + 1))).toInt, iv (xs (ix (i + 2))).toInt, iv 0]) (st := []) (M_price_ok e2) cqL_184 crL_184 (by decide) rfl (dcN_3 dLg_53 :) rfl (Nat.le_of_ble_eq_true rfl) ?_
    refine LW.pop C (dcN_4 dLg_53 :) ?_
    refine LW.goto (tgt := 1914) C (dcN_5 dLg_53 :) (by decide) ?_
    exact kk _ hI2
  · obtain ⟨r1, r2, e1, e2, hv, hI2⟩ := hsim ((xs (ix (i + 1))).toInt) ((xs (ix (i + 2))).toInt) (1) g (I32_of _) (I32_of _) (Or.inr rfl) hI
    refine LW.aload_n C 2 (dcN_15 dLg_51 :) rfl ?_
    refine LW.aload_n C 3 (dcN_16 dLg_51 :) rfl ?_
    refine LW.iload_n C 0 (dcN_17 dLg_51 :) rfl ?_
    refine LW.iconst C (dcN_18 dLg_51 :) ?_
    refine LW.iadd C (dcN_19 dLg_51 :) ?_
    refine LW.sld C (lw_in hL h0 h1 (by decide) (by decide)) (dcN_20 dLg_51 :) ?_
    refine LW.aload_n C 3 (dcN_21 dLg_51 :) rfl ?_
    refine LW.iload_n C 0 (dcN_22 dLg_51 :) rfl ?_
    refine LW.iconst C (dcN_23 dLg_51 :) ?_
    refine LW.iadd C (dcN_24 dLg_51 :) ?_
    refine LW.sld C (lw_in hL h0 h1 (by decide) (by decide)) (dcN_25 dLg_51 :) ?_
    refine LW.aload_n C 3 (dcN_26 dLg_51 :) rfl ?_
    refine LW.iload_n C 0 (dcN_27 dLg_51 :) rfl ?_
    refine LW.iconst C (dcN_0 dLg_52 :) ?_
    refine LW.iadd C (dcN_1 dLg_52 :) ?_
    refine LW.sld C (lw_in hL h0 h1 (by decide) (by decide)) (dcN_2 dLg_52 :) ?_
    refine LW.if_eq (tgt := 1802) C (dcN_3 dLg_52 :) (by decide) (fun q => absurd q hb) (fun _ => ?_)
    refine LW.iconst C (dcN_4 dLg_52 :) ?_
    refine LW.goto (tgt := 1803) C (dcN_5 dLg_52 :) (by decide) ?_
    refine LW.callV C (As := [iv (xs (ix (i + 1))).toInt, iv (xs (ix (i + 2))).toInt, iv 1]) (st := []) (X_price_ok e1) cqL_180 crL_180 (by decide) rfl (dcN_7 dLg_52 :) rfl (Nat.le_of_ble_eq_true rfl) ?_
    refine LW.pop C (dcN_8 dLg_52 :) ?_
    refine LW.aload_n C 1 (dcN_9 dLg_52 :) rfl ?_
    refine LW.aload_n C 3 (dcN_10 dLg_52 :) rfl ?_
    refine LW.iload_n C 0 (dcN_11 dLg_52 :) rfl ?_
    refine LW.iconst C (dcN_12 dLg_52 :) ?_
    refine LW.iadd C (dcN_13 dLg_52 :) ?_
    refine LW.sld C (lw_in hL h0 h1 (by decide) (by decide)) (dcN_14 dLg_52 :) ?_
    refine LW.aload_n C 3 (dcN_15 dLg_52 :) rfl ?_
    refine LW.iload_n C 0 (dcN_16 dLg_52 :) rfl ?_
    refine LW.iconst C (dcN_17 dLg_52 :) ?_
    refine LW.iadd C (dcN_18 dLg_52 :) ?_
    refine LW.sld C (lw_in hL h0 h1 (by decide) (by decide)) (dcN_19 dLg_52 :) ?_
    refine LW.aload_n C 3 (dcN_20 dLg_52 :) rfl ?_
    refine LW.iload_n C 0 (dcN_21 dLg_52 :) rfl ?_
    refine LW.iconst C (dcN_22 dLg_52 :) ?_
    refine LW.iadd C (dcN_23 dLg_52 :) ?_
    refine LW.sld C (lw_in hL h0 h1 (by decide) (by decide)) (dcN_24 dLg_52 :) ?_
    refine LW.if_eq (tgt := 1830) C (dcN_25 dLg_52 :) (by decide) (fun q => absurd q hb) (fun _ => ?_)
    refine LW.iconst C (dcN_0 dLg_53 :) ?_
    refine LW.goto (tgt := 1831) C (dcN_1 dLg_53 :) (by decide) ?_
    refine LW.callV C (As := [iv (xs (ix (i + 1))).toInt, iv (xs (ix (i + 2))).toInt, iv 1]) (st := []) (M_price_ok e2) cqL_184 crL_184 (by decide) rfl (dcN_3 dLg_53 :) rfl (Nat.le_of_ble_eq_true rfl) ?_
    refine LW.pop C (dcN_4 dLg_53 :) ?_
    refine LW.goto (tgt := 1914) C (dcN_5 dLg_53 :) (by decide) ?_
    exact kk _ hI2
theorem lwc_held {Inv0 Inv : AG → Prop} (hsim : Sim_held Inv0 Inv) (C : LC p s m meth c b L xs z) (hL : L ≤ 3072) {i : Int} (h0 : 0 ≤ i) (h1 : i + 6 ≤ L) (hI : Inv0 g) (kk : ∀ g9, Inv g9 → LW p l e s m below meth c b z 1914 [(3, iv i), (2, rv z 117), (1, rv z 0), (0, .ref b)] [] g9) : LW p l e s m below meth c b z 1838 [(3, iv i), (2, rv z 117), (1, rv z 0), (0, .ref b)] [] g := by
  obtain ⟨r1, r2, e1, e2, hv, hI2⟩ := hsim ((xs (ix (i + 1))).toInt) ((xs (ix (i + 2))).toInt) ((xs (ix (i + 3))).toInt) ((xs (ix (i + 4))).toInt) g (I32_of _) (I32_of _) (I32_of _) (I32_of _) hI
  refine LW.aload_n C 2 (dcN_6 dLg_53 :) rfl ?_
  refine LW.aload_n C 3 (dcN_7 dLg_53 :) rfl ?_
  refine LW.iload_n C 0 (dcN_8 dLg_53 :) rfl ?_
  refine LW.iconst C (dcN_9 dLg_53 :) ?_
  refine LW.iadd C (dcN_10 dLg_53 :) ?_
  refine LW.sld C (lw_in hL h0 h1 (by decide) (by decide)) (dcN_11 dLg_53 :) ?_
  refine LW.aload_n C 3 (dcN_12 dLg_53 :) rfl ?_
  refine LW.iload_n C 0 (dcN_13 dLg_53 :) rfl ?_
  refine LW.iconst C (dcN_14 dLg_53 :) ?_
  refine LW.iadd C (dcN_15 dLg_53 :) ?_
  refine LW.sld C (lw_in hL h0 h1 (by decide) (by decide)) (dcN_16 dLg_53 :) ?_
  refine LW.aload_n C 3 (dcN_17 dLg_53 :) rfl ?_
  refine LW.iload_n C 0 (dcN_18 dLg_53 :) rfl ?_
  refine LW.iconst C (dcN_19 dLg_53 :) ?_
  refine LW.iadd C (dcN_20 dLg_53 :) ?_
  refine LW.sld C (lw_in hL h0 h1 (by decide) (by decide)) (dcN_21 dLg_53 :) ?_
  refine LW.aload_n C 3 (dcN_22 dLg_53 :) rfl ?_
  refine LW.iload_n C 0 (dcN_23 dLg_53 :) rfl ?_
  refine LW.iconst C (dcN_0 dLg_54 :) ?_
  refine LW.iadd C (dcN_1 dLg_54 :) ?_
  refine LW.sld C (lw_in hL h0 h1 (by decide) (by decide)) (dcN_2 dLg_54 :) ?_
  refine LW.callV C (As := [iv (xs (ix (i + 1))).toInt, iv (xs (ix (i + 2))).toInt, iv (xs (ix (i + 3))).toInt, iv (xs (ix (i + 4))).toInt]) (st := []) (X_held_ok e1) cqL_185 crL_185 (by decide) rfl (dcN_3 dLg_54 :) rfl (Nat.le_of_ble_eq_true rfl) ?_
  refine LW.pop C (dcN_4 dLg_54 :) ?_
  refine LW.aload_n C 1 (dcN_5 dLg_54 :) rfl ?_
  refine LW.aload_n C 3 (dcN_6 dLg_54 :) rfl ?_
  refine LW.iload_n C 0 (dcN_7 dLg_54 :) rfl ?_
  refine LW.iconst C (dcN_8 dLg_54 :) ?_
  refine LW.iadd C (dcN_9 dLg_54 :) ?_
  refine LW.sld C (lw_in hL h0 h1 (by decide) (by decide)) (dcN_10 dLg_54 :) ?_
  refine LW.aload_n C 3 (dcN_11 dLg_54 :) rfl ?_
  refine LW.iload_n C 0 (dcN_12 dLg_54 :) rfl ?_
  refine LW.iconst C (dcN_13 dLg_54 :) ?_
  refine LW.iadd C (dcN_14 dLg_54 :) ?_
  refine LW.sld C (lw_in hL h0 h1 (by decide) (by decide)) (dcN_15 dLg_54 :) ?_
  refine LW.aload_n C 3 (dcN_16 dLg_54 :) rfl ?_
  refine LW.iload_n C 0 (dcN_17 dLg_54 :) rfl ?_
  refine LW.iconst C (dcN_18 dLg_54 :) ?_
  refine LW.iadd C (dcN_19 dLg_54 :) ?_
  refine LW.sld C (lw_in hL h0 h1 (by decide) (by decide)) (dcN_20 dLg_54 :) ?_
  refine LW.aload_n C 3 (dcN_21 dLg_54 :) rfl ?_
  refine LW.iload_n C 0 (dcN_22 dLg_54 :) rfl ?_
  refine LW.iconst C (dcN_23 dLg_54 :) ?_
  refine LW.iadd C (dcN_24 dLg_54 :) ?_
  refine LW.sld C (lw_in hL h0 h1 (by decide) (by decide)) (dcN_25 dLg_54 :) ?_
  refine LW.callV C (As := [iv (xs (ix (i + 1))).toInt, iv (xs (ix (i + 2))).toInt, iv (xs (ix (i + 3))).toInt, iv (xs (ix (i + 4))).toInt]) (st := []) (M_held_ok e2) cqL_188 crL_188 (by decide) rfl (dcN_26 dLg_54 :) rfl (Nat.le_of_ble_eq_true rfl) ?_
  refine LW.pop C (dcN_27 dLg_54 :) ?_
  refine LW.goto (tgt := 1914) C (dcN_0 dLg_55 :) (by decide) ?_
  exact kk _ hI2
theorem lwc_look {Inv0 Inv : AG → Prop} (hsim : Sim_look Inv0 Inv) (C : LC p s m meth c b L xs z) (hL : L ≤ 3072) {i : Int} (h0 : 0 ≤ i) (h1 : i + 6 ≤ L) (hI : Inv0 g) (kk : ∀ g9, Inv g9 → LW p l e s m below meth c b z 1914 [(3, iv i), (2, rv z 117), (1, rv z 0), (0, .ref b)] [] g9) : LW p l e s m below meth c b z 1891 [(3, iv i), (2, rv z 117), (1, rv z 0), (0, .ref b)] [] g := by
  obtain ⟨hv, hI2⟩ := hsim ((xs (ix (i + 1))).toInt) g (I32_of _) hI
  refine LW.aload_n C 2 (dcN_1 dLg_55 :) rfl ?_
  refine LW.aload_n C 3 (dcN_2 dLg_55 :) rfl ?_
  refine LW.iload_n C 0 (dcN_3 dLg_55 :) rfl ?_
  refine LW.iconst C (dcN_4 dLg_55 :) ?_
  refine LW.iadd C (dcN_5 dLg_55 :) ?_
  refine LW.sld C (lw_in hL h0 h1 (by decide) (by decide)) (dcN_6 dLg_55 :) ?_
  refine LW.callV C (As := [iv (xs (ix (i + 1))).toInt]) (st := []) (X_look_ok) cqL_189 crL_189 (by decide) rfl (dcN_7 dLg_55 :) rfl (Nat.le_of_ble_eq_true rfl) ?_
  refine LW.pop C (dcN_8 dLg_55 :) ?_
  refine LW.aload_n C 1 (dcN_9 dLg_55 :) rfl ?_
  refine LW.aload_n C 3 (dcN_10 dLg_55 :) rfl ?_
  refine LW.iload_n C 0 (dcN_11 dLg_55 :) rfl ?_
  refine LW.iconst C (dcN_12 dLg_55 :) ?_
  refine LW.iadd C (dcN_13 dLg_55 :) ?_
  refine LW.sld C (lw_in hL h0 h1 (by decide) (by decide)) (dcN_14 dLg_55 :) ?_
  refine LW.callV C (As := [iv (xs (ix (i + 1))).toInt]) (st := []) (M_look_ok) cqL_192 crL_192 (by decide) rfl (dcN_15 dLg_55 :) rfl (Nat.le_of_ble_eq_true rfl) ?_
  refine LW.pop C (dcN_16 dLg_55 :) ?_
  refine LW.goto (tgt := 1914) C (dcN_17 dLg_55 :) (by decide) ?_
  exact kk _ hI2
end LAWW
end
section
section LAWW
variable {p : Program} {l : Launch} {e : Env} {s : State} {m : MethodId} {below : List Frame} {meth : Method} {c : Code} {b L : Nat} {xs : Nat → Int32} {z : AZ} {pc : Nat} {lv : List (Nat × Value)} {st : List Value} {g : AG}
def Sims (Inv0 Inv : AG → Prop) : Prop := Sim_stretch Inv0 Inv ∧ Sim_water Inv0 Inv ∧ Sim_stoppage Inv0 Inv ∧ Sim_boat Inv0 Inv ∧ Sim_feed Inv0 Inv ∧ Sim_end Inv0 Inv ∧ Sim_rules Inv0 Inv ∧ Sim_fault Inv0 Inv ∧ Sim_open Inv0 Inv ∧ Sim_comes Inv0 Inv ∧ Sim_maybe Inv0 Inv ∧ Sim_harm Inv0 Inv ∧ Sim_back Inv0 Inv ∧ Sim_rung Inv0 Inv ∧ Sim_pump Inv0 Inv ∧ Sim_pumped Inv0 Inv ∧ Sim_enough Inv0 Inv ∧ Sim_trip Inv0 Inv ∧ Sim_late Inv0 Inv ∧ Sim_log Inv0 Inv ∧ Sim_could Inv0 Inv ∧ Sim_whose Inv0 Inv ∧ Sim_tonight Inv0 Inv ∧ Sim_queue Inv0 Inv ∧ Sim_lock Inv0 Inv ∧ Sim_booking Inv0 Inv ∧ Sim_given Inv0 Inv ∧ Sim_more Inv0 Inv ∧ Sim_gas Inv0 Inv ∧ Sim_dock Inv0 Inv ∧ Sim_job Inv0 Inv ∧ Sim_turned Inv0 Inv ∧ Sim_weight Inv0 Inv ∧ Sim_van Inv0 Inv ∧ Sim_vans Inv0 Inv ∧ Sim_call Inv0 Inv ∧ Sim_taken Inv0 Inv ∧ Sim_left Inv0 Inv ∧ Sim_shuts Inv0 Inv ∧ Sim_price Inv0 Inv ∧ Sim_held Inv0 Inv ∧ Sim_look Inv0 Inv
theorem LW.fin (C : LC p s m meth c b L xs z) : LW p l e s m below meth c b z 1920 lv [] g := by
  refine LW.iconst C (dcN_0 dLg_56 :) ?_
  intro H locs ls hP hS hl
  refine va_forget (fun q hq => hS.2.2 q hq) ?_
  refine W.widen (k := 600000) (n := 7302250) (by decide) (by decide) ?_
  exact lw_ret C.1.1 C.1.2.1 C.1.2.2.1 C.1.2.2.2.2.2.2.2.2.1 (dcN_1 dLg_56 :)
theorem lw_loop {Inv : AG → Prop} (hs : Sims Inv Inv) (C : LC p s m meth c b L xs z) (hL : L ≤ 3072) : ∀ (n : Nat) (i : Int) (g : AG), 0 ≤ i → i ≤ L → (L : Int) ≤ i + 6 * n + 5 → Inv g → LW p l e s m below meth c b z 18 [(3, iv i), (2, rv z 117), (1, rv z 0), (0, .ref b)] [] g := by
  unfold Sims at hs
  intro n
  induction n with
  | zero =>
    intro i g h0 hiL h1 hI
    have e1 : nw ((L : Int) - 6) = (L : Int) - 6 := nw_id (by omega) (by omega)
    have e2 : nw i = i := nw_id (by omega) (by omega)
    refine LW.iload_n C 0 (dcN_10 dLg_0 :) rfl ?_
    refine LW.aload_n C 3 (dcN_11 dLg_0 :) rfl ?_
    refine LW.slen C (dcN_12 dLg_0 :) ?_
    refine LW.bipush C (dcN_13 dLg_0 :) (by decide) (by decide) ?_
    refine LW.isub C (dcN_14 dLg_0 :) ?_
    exact LW.icmp_gt (tgt := 1920) C (dcN_15 dLg_0 :) (by decide) (fun _ => LW.fin C) (fun q => absurd (show nw ((L : Int) - 6) < nw i by rw [e1, e2]; omega) q)
  | succ n ih =>
    intro i g h0 hiL h1 hI
    have e1 : nw ((L : Int) - 6) = (L : Int) - 6 := nw_id (by omega) (by omega)
    have e2 : nw i = i := nw_id (by omega) (by omega)
    refine LW.iload_n C 0 (dcN_10 dLg_0 :) rfl ?_
    refine LW.aload_n C 3 (dcN_11 dLg_0 :) rfl ?_
    refine LW.slen C (dcN_12 dLg_0 :) ?_
    refine LW.bipush C (dcN_13 dLg_0 :) (by decide) (by decide) ?_
    refine LW.isub C (dcN_14 dLg_0 :) ?_
    refine LW.icmp_gt (tgt := 1920) C (dcN_15 dLg_0 :) (by decide) (fun _ => LW.fin C) (fun q => ?_)
    rw [e1, e2] at q
    have hi : i + 6 ≤ L := by omega
    have next : ∀ g9, Inv g9 → LW p l e s m below meth c b z 1914 [(3, iv i), (2, rv z 117), (1, rv z 0), (0, .ref b)] [] g9 := by
      intro g9 hI9
      refine LW.iinc (lv1 := [(3, iv (i + 6)), (2, rv z 117), (1, rv z 0), (0, .ref b)]) C 0 (dcN_18 dLg_55 :) rfl (by decide) rfl ?_
      refine LW.goto (tgt := 18) C (dcN_19 dLg_55 :) (by decide) ?_
      exact ih (i + 6) g9 (by omega) hi (by omega) hI9
    refine LW.aload_n C 3 (dcN_16 dLg_0 :) rfl ?_
    refine LW.iload_n C 0 (dcN_17 dLg_0 :) rfl ?_
    refine LW.sld C (by rw [e2]; omega) (dcN_18 dLg_0 :) ?_
    refine LW.bipush C (dcN_19 dLg_0 :) (by decide) (by decide) ?_
    refine LW.iand C (dcN_0 dLg_1 :) ?_
    generalize andI (xs (ix i)).toInt 63 = w
    by_cases hw : nw w < 0 ∨ 41 < nw w
    · exact LW.tsOut (tgt := 1914) C dL_law_33 hw (by decide) (next g hI)
    have h : nw w = 0 ∨ nw w = 1 ∨ nw w = 2 ∨ nw w = 3 ∨ nw w = 4 ∨ nw w = 5 ∨ nw w = 6 ∨ nw w = 7 ∨ nw w = 8 ∨ nw w = 9 ∨ nw w = 10 ∨ nw w = 11 ∨ nw w = 12 ∨ nw w = 13 ∨ nw w = 14 ∨ nw w = 15 ∨ nw w = 16 ∨ nw w = 17 ∨ nw w = 18 ∨ nw w = 19 ∨ nw w = 20 ∨ nw w = 21 ∨ nw w = 22 ∨ nw w = 23 ∨ nw w = 24 ∨ nw w = 25 ∨ nw w = 26 ∨ nw w = 27 ∨ nw w = 28 ∨ nw w = 29 ∨ nw w = 30 ∨ nw w = 31 ∨ nw w = 32 ∨ nw w = 33 ∨ nw w = 34 ∨ nw w = 35 ∨ nw w = 36 ∨ nw w = 37 ∨ nw w = 38 ∨ nw w = 39 ∨ nw w = 40 ∨ nw w = 41 := by omega
    rcases h with h | h | h | h | h | h | h | h | h | h | h | h | h | h | h | h | h | h | h | h | h | h | h | h | h | h | h | h | h | h | h | h | h | h | h | h | h | h | h | h | h | h
    · refine LW.tsIn (tgt := 216) C 0 dL_law_33 h (by decide) (by decide) (by rfl) (by decide) ?_
      exact lwc_stretch hs.1 C hL h0 hi hI next
    · refine LW.tsIn (tgt := 269) C 1 dL_law_33 h (by decide) (by decide) (by rfl) (by decide) ?_
      exact lwc_water hs.2.1 C hL h0 hi hI next
    · refine LW.tsIn (tgt := 292) C 2 dL_law_33 h (by decide) (by decide) (by rfl) (by decide) ?_
      exact lwc_stoppage hs.2.2.1 C hL h0 hi hI next
    · refine LW.tsIn (tgt := 335) C 3 dL_law_33 h (by decide) (by decide) (by rfl) (by decide) ?_
      exact lwc_boat hs.2.2.2.1 C hL h0 hi hI next
    · refine LW.tsIn (tgt := 388) C 4 dL_law_33 h (by decide) (by decide) (by rfl) (by decide) ?_
      exact lwc_feed hs.2.2.2.2.1 C hL h0 hi hI next
    · refine LW.tsIn (tgt := 451) C 5 dL_law_33 h (by decide) (by decide) (by rfl) (by decide) ?_
      exact lwc_end hs.2.2.2.2.2.1 C hL h0 hi hI next
    · refine LW.tsIn (tgt := 474) C 6 dL_law_33 h (by decide) (by decide) (by rfl) (by decide) ?_
      exact lwc_rules hs.2.2.2.2.2.2.1 C hL h0 hi hI next
    · refine LW.tsIn (tgt := 487) C 7 dL_law_33 h (by decide) (by decide) (by rfl) (by decide) ?_
      exact lwc_fault hs.2.2.2.2.2.2.2.1 C hL h0 hi hI next
    · refine LW.tsIn (tgt := 510) C 8 dL_law_33 h (by decide) (by decide) (by rfl) (by decide) ?_
      exact lwc_open hs.2.2.2.2.2.2.2.2.1 C hL h0 hi hI next
    · refine LW.tsIn (tgt := 543) C 9 dL_law_33 h (by decide) (by decide) (by rfl) (by decide) ?_
      exact lwc_comes hs.2.2.2.2.2.2.2.2.2.1 C hL h0 hi hI next
    · refine LW.tsIn (tgt := 596) C 10 dL_law_33 h (by decide) (by decide) (by rfl) (by decide) ?_
      exact lwc_maybe hs.2.2.2.2.2.2.2.2.2.2.1 C hL h0 hi hI next
    · refine LW.tsIn (tgt := 649) C 11 dL_law_33 h (by decide) (by decide) (by rfl) (by decide) ?_
      exact lwc_harm hs.2.2.2.2.2.2.2.2.2.2.2.1 C hL h0 hi hI next
    · refine LW.tsIn (tgt := 702) C 12 dL_law_33 h (by decide) (by decide) (by rfl) (by decide) ?_
      exact lwc_back hs.2.2.2.2.2.2.2.2.2.2.2.2.1 C hL h0 hi hI next
    · refine LW.tsIn (tgt := 735) C 13 dL_law_33 h (by decide) (by decide) (by rfl) (by decide) ?_
      exact lwc_rung hs.2.2.2.2.2.2.2.2.2.2.2.2.2.1 C hL h0 hi hI next
    · refine LW.tsIn (tgt := 748) C 14 dL_law_33 h (by decide) (by decide) (by rfl) (by decide) ?_
      exact lwc_pump hs.2.2.2.2.2.2.2.2.2.2.2.2.2.2.1 C hL h0 hi hI next
    · refine LW.tsIn (tgt := 797) C 15 dL_law_33 h (by decide) (by decide) (by rfl) (by decide) ?_
      exact lwc_pumped hs.2.2.2.2.2.2.2.2.2.2.2.2.2.2.2.1 C hL h0 hi hI next
    · refine LW.tsIn (tgt := 860) C 16 dL_law_33 h (by decide) (by decide) (by rfl) (by decide) ?_
      exact lwc_enough hs.2.2.2.2.2.2.2.2.2.2.2.2.2.2.2.2.1 C hL h0 hi hI next
    · refine LW.tsIn (tgt := 923) C 17 dL_law_33 h (by decide) (by decide) (by rfl) (by decide) ?_
      exact lwc_trip hs.2.2.2.2.2.2.2.2.2.2.2.2.2.2.2.2.2.1 C hL h0 hi hI next
    · refine LW.tsIn (tgt := 986) C 18 dL_law_33 h (by decide) (by decide) (by rfl) (by decide) ?_
      exact lwc_late hs.2.2.2.2.2.2.2.2.2.2.2.2.2.2.2.2.2.2.1 C hL h0 hi hI next
    · refine LW.tsIn (tgt := 1009) C 19 dL_law_33 h (by decide) (by decide) (by rfl) (by decide) ?_
      exact lwc_log hs.2.2.2.2.2.2.2.2.2.2.2.2.2.2.2.2.2.2.2.1 C hL h0 hi hI next
    · refine LW.tsIn (tgt := 1052) C 20 dL_law_33 h (by decide) (by decide) (by rfl) (by decide) ?_
      exact lwc_could hs.2.2.2.2.2.2.2.2.2.2.2.2.2.2.2.2.2.2.2.2.1 C hL h0 hi hI next
    · refine LW.tsIn (tgt := 1105) C 21 dL_law_33 h (by decide) (by decide) (by rfl) (by decide) ?_
      exact lwc_whose hs.2.2.2.2.2.2.2.2.2.2.2.2.2.2.2.2.2.2.2.2.2.1 C hL h0 hi hI next
    · refine LW.tsIn (tgt := 1158) C 22 dL_law_33 h (by decide) (by decide) (by rfl) (by decide) ?_
      exact lwc_tonight hs.2.2.2.2.2.2.2.2.2.2.2.2.2.2.2.2.2.2.2.2.2.2.1 C hL h0 hi hI next
    · refine LW.tsIn (tgt := 1191) C 23 dL_law_33 h (by decide) (by decide) (by rfl) (by decide) ?_
      exact lwc_queue hs.2.2.2.2.2.2.2.2.2.2.2.2.2.2.2.2.2.2.2.2.2.2.2.1 C hL h0 hi hI next
    · refine LW.tsIn (tgt := 1224) C 24 dL_law_33 h (by decide) (by decide) (by rfl) (by decide) ?_
      exact lwc_lock hs.2.2.2.2.2.2.2.2.2.2.2.2.2.2.2.2.2.2.2.2.2.2.2.2.1 C hL h0 hi hI next
    · refine LW.tsIn (tgt := 1247) C 25 dL_law_33 h (by decide) (by decide) (by rfl) (by decide) ?_
      exact lwc_booking hs.2.2.2.2.2.2.2.2.2.2.2.2.2.2.2.2.2.2.2.2.2.2.2.2.2.1 C hL h0 hi hI next
    · refine LW.tsIn (tgt := 1300) C 26 dL_law_33 h (by decide) (by decide) (by rfl) (by decide) ?_
      exact lwc_given hs.2.2.2.2.2.2.2.2.2.2.2.2.2.2.2.2.2.2.2.2.2.2.2.2.2.2.1 C hL h0 hi hI next
    · refine LW.tsIn (tgt := 1333) C 27 dL_law_33 h (by decide) (by decide) (by rfl) (by decide) ?_
      exact lwc_more hs.2.2.2.2.2.2.2.2.2.2.2.2.2.2.2.2.2.2.2.2.2.2.2.2.2.2.2.1 C hL h0 hi hI next
    · refine LW.tsIn (tgt := 1376) C 28 dL_law_33 h (by decide) (by decide) (by rfl) (by decide) ?_
      exact lwc_gas hs.2.2.2.2.2.2.2.2.2.2.2.2.2.2.2.2.2.2.2.2.2.2.2.2.2.2.2.2.1 C hL h0 hi hI next
    · refine LW.tsIn (tgt := 1419) C 29 dL_law_33 h (by decide) (by decide) (by rfl) (by decide) ?_
      exact lwc_dock hs.2.2.2.2.2.2.2.2.2.2.2.2.2.2.2.2.2.2.2.2.2.2.2.2.2.2.2.2.2.1 C hL h0 hi hI next
    · refine LW.tsIn (tgt := 1442) C 30 dL_law_33 h (by decide) (by decide) (by rfl) (by decide) ?_
      exact lwc_job hs.2.2.2.2.2.2.2.2.2.2.2.2.2.2.2.2.2.2.2.2.2.2.2.2.2.2.2.2.2.2.1 C hL h0 hi hI next
    · refine LW.tsIn (tgt := 1465) C 31 dL_law_33 h (by decide) (by decide) (by rfl) (by decide) ?_
      exact lwc_turned hs.2.2.2.2.2.2.2.2.2.2.2.2.2.2.2.2.2.2.2.2.2.2.2.2.2.2.2.2.2.2.2.1 C hL h0 hi hI next
    · refine LW.tsIn (tgt := 1498) C 32 dL_law_33 h (by decide) (by decide) (by rfl) (by decide) ?_
      exact lwc_weight hs.2.2.2.2.2.2.2.2.2.2.2.2.2.2.2.2.2.2.2.2.2.2.2.2.2.2.2.2.2.2.2.2.1 C hL h0 hi hI next
    · refine LW.tsIn (tgt := 1531) C 33 dL_law_33 h (by decide) (by decide) (by rfl) (by decide) ?_
      exact lwc_van hs.2.2.2.2.2.2.2.2.2.2.2.2.2.2.2.2.2.2.2.2.2.2.2.2.2.2.2.2.2.2.2.2.2.1 C hL h0 hi hI next
    · refine LW.tsIn (tgt := 1554) C 34 dL_law_33 h (by decide) (by decide) (by rfl) (by decide) ?_
      exact lwc_vans hs.2.2.2.2.2.2.2.2.2.2.2.2.2.2.2.2.2.2.2.2.2.2.2.2.2.2.2.2.2.2.2.2.2.2.1 C hL h0 hi hI next
    · refine LW.tsIn (tgt := 1577) C 35 dL_law_33 h (by decide) (by decide) (by rfl) (by decide) ?_
      exact lwc_call hs.2.2.2.2.2.2.2.2.2.2.2.2.2.2.2.2.2.2.2.2.2.2.2.2.2.2.2.2.2.2.2.2.2.2.2.1 C hL h0 hi hI next
    · refine LW.tsIn (tgt := 1620) C 36 dL_law_33 h (by decide) (by decide) (by rfl) (by decide) ?_
      exact lwc_taken hs.2.2.2.2.2.2.2.2.2.2.2.2.2.2.2.2.2.2.2.2.2.2.2.2.2.2.2.2.2.2.2.2.2.2.2.2.1 C hL h0 hi hI next
    · refine LW.tsIn (tgt := 1663) C 37 dL_law_33 h (by decide) (by decide) (by rfl) (by decide) ?_
      exact lwc_left hs.2.2.2.2.2.2.2.2.2.2.2.2.2.2.2.2.2.2.2.2.2.2.2.2.2.2.2.2.2.2.2.2.2.2.2.2.2.1 C hL h0 hi hI next
    · refine LW.tsIn (tgt := 1726) C 38 dL_law_33 h (by decide) (by decide) (by rfl) (by decide) ?_
      exact lwc_shuts hs.2.2.2.2.2.2.2.2.2.2.2.2.2.2.2.2.2.2.2.2.2.2.2.2.2.2.2.2.2.2.2.2.2.2.2.2.2.2.1 C hL h0 hi hI next
    · refine LW.tsIn (tgt := 1779) C 39 dL_law_33 h (by decide) (by decide) (by rfl) (by decide) ?_
      exact lwc_price hs.2.2.2.2.2.2.2.2.2.2.2.2.2.2.2.2.2.2.2.2.2.2.2.2.2.2.2.2.2.2.2.2.2.2.2.2.2.2.2.1 C hL h0 hi hI next
    · refine LW.tsIn (tgt := 1838) C 40 dL_law_33 h (by decide) (by decide) (by rfl) (by decide) ?_
      exact lwc_held hs.2.2.2.2.2.2.2.2.2.2.2.2.2.2.2.2.2.2.2.2.2.2.2.2.2.2.2.2.2.2.2.2.2.2.2.2.2.2.2.2.1 C hL h0 hi hI next
    · refine LW.tsIn (tgt := 1891) C 41 dL_law_33 h (by decide) (by decide) (by rfl) (by decide) ?_
      exact lwc_look hs.2.2.2.2.2.2.2.2.2.2.2.2.2.2.2.2.2.2.2.2.2.2.2.2.2.2.2.2.2.2.2.2.2.2.2.2.2.2.2.2.2 C hL h0 hi hI next
end LAWW
end
