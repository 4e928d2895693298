section LAWW
variable {p : Program} {l : Launch} {e : Env} {s : State} {m : MethodId} {below : List Frame} {meth : Method} {c : Code} {b L : Nat} {xs : Nat → Int32} {z : AZ} {pc : Nat} {lv : List (Nat × Value)} {st : List Value} {g : AG}
theorem lwc_gas {Inv0 Inv : AG → Prop} (hsim : Sim_gas Inv0 Inv) (C : LC p s m meth c b L xs z) (hL : L ≤ 3072) {i : Int} (h0 : 0 ≤ i) (h1 : i + 6 ≤ L) (hI : Inv0 g) (kk : ∀ g9, Inv g9 → LW p l e s m below meth c b z 1914 [(3, iv i), (2, rv z 117), (1, rv z 0), (0, .ref b)] [] g9) : LW p l e s m below meth c b z 1376 [(3, iv i), (2, rv z 117), (1, rv z 0), (0, .ref b)] [] g := by
  obtain ⟨r1, r2, e1, e2, hI2⟩ := hsim ((xs (ix (i + 1))).toInt) ((xs (ix (i + 2))).toInt) ((xs (ix (i + 3))).toInt) g (I32_of _) (I32_of _) (I32_of _) hI
  refine LW.aload_n C 2 (dcN_0 dLg_39 :) rfl ?_
  refine LW.aload_n C 3 (dcN_1 dLg_39 :) rfl ?_
  refine LW.iload_n C 0 (dcN_2 dLg_39 :) rfl ?_
  refine LW.iconst C (dcN_3 dLg_39 :) ?_
  refine LW.iadd C (dcN_4 dLg_39 :) ?_
  refine LW.sld C (lw_in hL h0 h1 (by decide) (by decide)) (dcN_5 dLg_39 :) ?_
  refine LW.aload_n C 3 (dcN_6 dLg_39 :) rfl ?_
  refine LW.iload_n C 0 (dcN_7 dLg_39 :) rfl ?_
  refine LW.iconst C (dcN_8 dLg_39 :) ?_
  refine LW.iadd C (dcN_9 dLg_39 :) ?_
  refine LW.sld C (lw_in hL h0 h1 (by decide) (by decide)) (dcN_10 dLg_39 :) ?_
  refine LW.aload_n C 3 (dcN_11 dLg_39 :) rfl ?_
  refine LW.iload_n C 0 (dcN_12 dLg_39 :) rfl ?_
  refine LW.iconst C (dcN_13 dLg_39 :) ?_
  refine LW.iadd C (dcN_14 dLg_39 :) ?_
  refine LW.sld C (lw_in hL h0 h1 (by decide) (by decide)) (dcN_15 dLg_39 :) ?_
  refine LW.callV C (As := [iv (xs (ix (i + 1))).toInt, iv (xs (ix (i + 2))).toInt, iv (xs (ix (i + 3))).toInt]) (st := []) (X_gas_ok e1) cqL_134 crL_134 (by decide) rfl (dcN_16 dLg_39 :) rfl (Nat.le_of_ble_eq_true rfl) ?_
  refine LW.pop C (dcN_17 dLg_39 :) ?_
  refine LW.aload_n C 1 (dcN_18 dLg_39 :) rfl ?_
  refine LW.aload_n C 3 (dcN_19 dLg_39 :) rfl ?_
  refine LW.iload_n C 0 (dcN_20 dLg_39 :) rfl ?_
  refine LW.iconst C (dcN_21 dLg_39 :) ?_
  refine LW.iadd C (dcN_22 dLg_39 :) ?_
  refine LW.sld C (lw_in hL h0 h1 (by decide) (by decide)) (dcN_23 dLg_39 :) ?_
  refine LW.aload_n C 3 (dcN_24 dLg_39 :) rfl ?_
  refine LW.iload_n C 0 (dcN_25 dLg_39 :) rfl ?_
  refine LW.iconst C (dcN_26 dLg_39 :) ?_
  refine LW.iadd C (dcN_27 dLg_39 :) ?_
  refine LW.sld C (lw_in hL h0 h1 (by decide) (by decide)) (dcN_28 dLg_39 :) ?_
  refine LW.aload_n C 3 (dcN_29 dLg_39 :) rfl ?_
  refine LW.iload_n C 0 (dcN_0 dLg_40 :) rfl ?_
  refine LW.iconst C (dcN_1 dLg_40 :) ?_
  refine LW.iadd C (dcN_2 dLg_40 :) ?_
  refine LW.sld C (lw_in hL h0 h1 (by decide) (by decide)) (dcN_3 dLg_40 :) ?_
  refine LW.callV C (As := [iv (xs (ix (i + 1))).toInt, iv (xs (ix (i + 2))).toInt, iv (xs (ix (i + 3))).toInt]) (st := []) (M_gas_ok e2) cqL_138 crL_138 (by decide) rfl (dcN_4 dLg_40 :) rfl (Nat.le_of_ble_eq_true rfl) ?_
  refine LW.pop C (dcN_5 dLg_40 :) ?_
  refine LW.goto (tgt := 1914) C (dcN_6 dLg_40 :) (by decide) ?_
  exact kk _ hI2
theorem lwc_dock {Inv0 Inv : AG → Prop} (hsim : Sim_dock Inv0 Inv) (C : LC p s m meth c b L xs z) (hL : L ≤ 3072) {i : Int} (h0 : 0 ≤ i) (h1 : i + 6 ≤ L) (hI : Inv0 g) (kk : ∀ g9, Inv g9 → LW p l e s m below meth c b z 1914 [(3, iv i), (2, rv z 117), (1, rv z 0), (0, .ref b)] [] g9) : LW p l e s m below meth c b z 1419 [(3, iv i), (2, rv z 117), (1, rv z 0), (0, .ref b)] [] g := by
  obtain ⟨r1, r2, e1, e2, hv, hI2⟩ := hsim ((xs (ix (i + 1))).toInt) g (I32_of _) hI
  refine LW.aload_n C 2 (dcN_7 dLg_40 :) rfl ?_
  refine LW.aload_n C 3 (dcN_8 dLg_40 :) rfl ?_
  refine LW.iload_n C 0 (dcN_9 dLg_40 :) rfl ?_
  refine LW.iconst C (dcN_10 dLg_40 :) ?_
  refine LW.iadd C (dcN_11 dLg_40 :) ?_
  refine LW.sld C (lw_in hL h0 h1 (by decide) (by decide)) (dcN_12 dLg_40 :) ?_
  refine LW.callV C (As := [iv (xs (ix (i + 1))).toInt]) (st := []) (X_dock_ok e1) cqL_139 crL_139 (by decide) rfl (dcN_13 dLg_40 :) rfl (Nat.le_of_ble_eq_true rfl) ?_
  refine LW.pop C (dcN_14 dLg_40 :) ?_
  refine LW.aload_n C 1 (dcN_15 dLg_40 :) rfl ?_
  refine LW.aload_n C 3 (dcN_16 dLg_40 :) rfl ?_
  refine LW.iload_n C 0 (dcN_17 dLg_40 :) rfl ?_
  refine LW.iconst C (dcN_18 dLg_40 :) ?_
  refine LW.iadd C (dcN_19 dLg_40 :) ?_
  refine LW.sld C (lw_in hL h0 h1 (by decide) (by decide)) (dcN_20 dLg_40 :) ?_
  refine LW.callV C (As := [iv (xs (ix (i + 1))).toInt]) (st := []) (M_dock_ok e2) cqL_142 crL_142 (by decide) rfl (dcN_21 dLg_40 :) rfl (Nat.le_of_ble_eq_true rfl) ?_
  refine LW.pop C (dcN_22 dLg_40 :) ?_
  refine LW.goto (tgt := 1914) C (dcN_23 dLg_40 :) (by decide) ?_
  exact kk _ hI2
theorem lwc_job {Inv0 Inv : AG → Prop} (hsim : Sim_job Inv0 Inv) (C : LC p s m meth c b L xs z) (hL : L ≤ 3072) {i : Int} (h0 : 0 ≤ i) (h1 : i + 6 ≤ L) (hI : Inv0 g) (kk : ∀ g9, Inv g9 → LW p l e s m below meth c b z 1914 [(3, iv i), (2, rv z 117), (1, rv z 0), (0, .ref b)] [] g9) : LW p l e s m below meth c b z 1442 [(3, iv i), (2, rv z 117), (1, rv z 0), (0, .ref b)] [] g := by
  obtain ⟨r1, r2, e1, e2, hv, hI2⟩ := hsim ((xs (ix (i + 1))).toInt) g (I32_of _) hI
  refine LW.aload_n C 2 (dcN_0 dLg_41 :) rfl ?_
  refine LW.aload_n C 3 (dcN_1 dLg_41 :) rfl ?_
  refine LW.iload_n C 0 (dcN_2 dLg_41 :) rfl ?_
  refine LW.iconst C (dcN_3 dLg_41 :) ?_
  refine LW.iadd C (dcN_4 dLg_41 :) ?_
  refine LW.sld C (lw_in hL h0 h1 (by decide) (by decide)) (dcN_5 dLg_41 :) ?_
  refine LW.callV C (As := [iv (xs (ix (i + 1))).toInt]) (st := []) (X_job_ok e1) cqL_143 crL_143 (by decide) rfl (dcN_6 dLg_41 :) rfl (Nat.le_of_ble_eq_true rfl) ?_
  refine LW.pop C (dcN_7 dLg_41 :) ?_
  refine LW.aload_n C 1 (dcN_8 dLg_41 :) rfl ?_
  refine LW.aload_n C 3 (dcN_9 dLg_41 :) rfl ?_
  refine LW.iload_n C 0 (dcN_10 dLg_41 :) rfl ?_
  refine LW.iconst C (dcN_11 dLg_41 :) ?_
  refine LW.iadd C (dcN_12 dLg_41 :) ?_
  refine LW.sld C (lw_in hL h0 h1 (by decide) (by decide)) (dcN_13 dLg_41 :) ?_
  refine LW.callV C (As := [iv (xs (ix (i + 1))).toInt]) (st := []) (M_job_ok e2) cqL_146 crL_146 (by decide) rfl (dcN_14 dLg_41 :) rfl (Nat.le_of_ble_eq_true rfl) ?_
  refine LW.pop C (dcN_15 dLg_41 :) ?_
  refine LW.goto (tgt := 1914) C (dcN_16 dLg_41 :) (by decide) ?_
  exact kk _ hI2
theorem lwc_turned {Inv0 Inv : AG → Prop} (hsim : Sim_turned Inv0 Inv) (C : LC p s m meth c b L xs z) (hL : L ≤ 3072) {i : Int} (h0 : 0 ≤ i) (h1 : i + 6 ≤ L) (hI : Inv0 g) (kk : ∀ g9, Inv g9 → LW p l e s m below meth c b z 1914 [(3, iv i), (2, rv z 117), (1, rv z 0), (0, .ref b)] [] g9) : LW p l e s m below meth c b z 1465 [(3, iv i), (2, rv z 117), (1, rv z 0), (0, .ref b)] [] g := by
  obtain ⟨r1, r2, e1, e2, hv, hI2⟩ := hsim ((xs (ix (i + 1))).toInt) ((xs (ix (i + 2))).toInt) g (I32_of _) (I32_of _) hI
  refine LW.aload_n C 2 (dcN_17 dLg_41 :) rfl ?_
  refine LW.aload_n C 3 (dcN_18 dLg_41 :) rfl ?_
  refine LW.iload_n C 0 (dcN_19 dLg_41 :) rfl ?_
  refine LW.iconst C (dcN_20 dLg_41 :) ?_
  refine LW.iadd C (dcN_21 dLg_41 :) ?_
  refine LW.sld C (lw_in hL h0 h1 (by decide) (by decide)) (dcN_22 dLg_41 :) ?_
  refine LW.aload_n C 3 (dcN_23 dLg_41 :) rfl ?_
  refine LW.iload_n C 0 (dcN_0 dLg_42 :) rfl ?_
  refine LW.iconst C (dcN_1 dLg_42 :) ?_
  refine LW.iadd C (dcN_2 dLg_42 :) ?_
  refine LW.sld C (lw_in hL h0 h1 (by decide) (by decide)) (dcN_3 dLg_42 :) ?_
  refine LW.callV C (As := [iv (xs (ix (i + 1))).toInt, iv (xs (ix (i + 2))).toInt]) (st := []) (X_turned_ok e1) cqL_147 crL_147 (by decide) rfl (dcN_4 dLg_42 :) rfl (Nat.le_of_ble_eq_true rfl) ?_
  refine LW.pop C (dcN_5 dLg_42 :) ?_
  refine LW.aload_n C 1 (dcN_6 dLg_42 :) rfl ?_
  refine LW.aload_n C 3 (dcN_7 dLg_42 :) rfl ?_
  refine LW.iload_n C 0 (dcN_8 dLg_42 :) rfl ?_
  refine LW.iconst C (dcN_9 dLg_42 :) ?_
  refine LW.iadd C (dcN_10 dLg_42 :) ?_
  refine LW.sld C (lw_in hL h0 h1 (by decide) (by decide)) (dcN_11 dLg_42 :) ?_
  refine LW.aload_n C 3 (dcN_12 dLg_42 :) rfl ?_
  refine LW.iload_n C 0 (dcN_13 dLg_42 :) rfl ?_
  refine LW.iconst C (dcN_14 dLg_42 :) ?_
  refine LW.iadd C (dcN_15 dLg_42 :) ?_
  refine LW.sld C (lw_in hL h0 h1 (by decide) (by decide)) (dcN_16 dLg_42 :) ?_
  refine LW.callV C (As := [iv (xs (ix (i + 1))).toInt, iv (xs (ix (i + 2))).toInt]) (st := []) (M_turned_ok e2) cqL_150 crL_150 (by decide) rfl (dcN_17 dLg_42 :) rfl (Nat.le_of_ble_eq_true rfl) ?_
  refine LW.pop C (dcN_18 dLg_42 :) ?_
  refine LW.goto (tgt := 1914) C (dcN_19 dLg_42 :) (by decide) ?_
  exact kk _ hI2
theorem lwc_weight {Inv0 Inv : AG → Prop} (hsim : Sim_weight Inv0 Inv) (C : LC p s m meth c b L xs z) (hL : L ≤ 3072) {i : Int} (h0 : 0 ≤ i) (h1 : i + 6 ≤ L) (hI : Inv0 g) (kk : ∀ g9, Inv g9 → LW p l e s m below meth c b z 1914 [(3, iv i), (2, rv z 117), (1, rv z 0), (0, .ref b)] [] g9) : LW p l e s m below meth c b z 1498 [(3, iv i), (2, rv z 117), (1, rv z 0), (0, .ref b)] [] g := by
  obtain ⟨r1, r2, e1, e2, hv, hI2⟩ := hsim ((xs (ix (i + 1))).toInt) ((xs (ix (i + 2))).toInt) g (I32_of _) (I32_of _) hI
  refine LW.aload_n C 2 (dcN_20 dLg_42 :) rfl ?_
  refine LW.aload_n C 3 (dcN_21 dLg_42 :) rfl ?_
  refine LW.iload_n C 0 (dcN_22 dLg_42 :) rfl ?_
  refine LW.iconst C (dcN_23 dLg_42 :) ?_
  refine LW.iadd C (dcN_24 dLg_42 :) ?_
  refine LW.sld C (lw_in hL h0 h1 (by decide) (by decide)) (dcN_25 dLg_42 :) ?_
  refine LW.aload_n C 3 (dcN_0 dLg_43 :) rfl ?_
  refine LW.iload_n C 0 (dcN_1 dLg_43 :) rfl ?_
  refine LW.iconst C (dcN_2 dLg_43 :) ?_
  refine LW.iadd C (dcN_3 dLg_43 :) ?_
  refine LW.sld C (lw_in hL h0 h1 (by decide) (by decide)) (dcN_4 dLg_43 :) ?_
  refine LW.callV C (As := [iv (xs (ix (i + 1))).toInt, iv (xs (ix (i + 2))).toInt]) (st := []) (X_weight_ok e1) cqL_151 crL_151 (by decide) rfl (dcN_5 dLg_43 :) rfl (Nat.le_of_ble_eq_true rfl) ?_
  refine LW.pop C (dcN_6 dLg_43 :) ?_
  refine LW.aload_n C 1 (dcN_7 dLg_43 :) rfl ?_
  refine LW.aload_n C 3 (dcN_8 dLg_43 :) rfl ?_
  refine LW.iload_n C 0 (dcN_9 dLg_43 :) rfl ?_
  refine LW.iconst C (dcN_10 dLg_43 :) ?_
  refine LW.iadd C (dcN_11 dLg_43 :) ?_
  refine LW.sld C (lw_in hL h0 h1 (by decide) (by decide)) (dcN_12 dLg_43 :) ?_
  refine LW.aload_n C 3 (dcN_13 dLg_43 :) rfl ?_
  refine LW.iload_n C 0 (dcN_14 dLg_43 :) rfl ?_
  refine LW.iconst C (dcN_15 dLg_43 :) ?_
  refine LW.iadd C (dcN_16 dLg_43 :) ?_
  refine LW.sld C (lw_in hL h0 h1 (by decide) (by decide)) (dcN_17 dLg_43 :) ?_
  refine LW.callV C (As := [iv (xs (ix (i + 1))).toInt, iv (xs (ix (i + 2))).toInt]) (st := []) (M_weight_ok e2) cqL_155 crL_155 (by decide) rfl (dcN_18 dLg_43 :) rfl (Nat.le_of_ble_eq_true rfl) ?_
  refine LW.pop C (dcN_19 dLg_43 :) ?_
  refine LW.goto (tgt := 1914) C (dcN_20 dLg_43 :) (by decide) ?_
  exact kk _ hI2
theorem lwc_van {Inv0 Inv : AG → Prop} (hsim : Sim_van Inv0 Inv) (C : LC p s m meth c b L xs z) (hL : L ≤ 3072) {i : Int} (h0 : 0 ≤ i) (h1 : i + 6 ≤ L) (hI : Inv0 g) (kk : ∀ g9, Inv g9 → LW p l e s m below meth c b z 1914 [(3, iv i), (2, rv z 117), (1, rv z 0), (0, .ref b)] [] g9) : LW p l e s m below meth c b z 1531 [(3, iv i), (2, rv z 117), (1, rv z 0), (0, .ref b)] [] g := by
  obtain ⟨r1, v2, e1, e2, hv, hI2⟩ := hsim ((xs (ix (i + 1))).toInt) g (I32_of _) hI
  refine LW.aload_n C 2 (dcN_21 dLg_43 :) rfl ?_
  refine LW.aload_n C 3 (dcN_22 dLg_43 :) rfl ?_
  refine LW.iload_n C 0 (dcN_23 dLg_43 :) rfl ?_
  refine LW.iconst C (dcN_24 dLg_43 :) ?_
  refine LW.iadd C (dcN_25 dLg_43 :) ?_
  refine LW.sld C (lw_in hL h0 h1 (by decide) (by decide)) (dcN_0 dLg_44 :) ?_
  refine LW.callV C (As := [iv (xs (ix (i + 1))).toInt]) (st := []) (X_van_ok e1) cqL_156 crL_156 (by decide) rfl (dcN_1 dLg_44 :) rfl (Nat.le_of_ble_eq_true rfl) ?_
  refine LW.pop C (dcN_2 dLg_44 :) ?_
  refine LW.aload_n C 1 (dcN_3 dLg_44 :) rfl ?_
  refine LW.aload_n C 3 (dcN_4 dLg_44 :) rfl ?_
  refine LW.iload_n C 0 (dcN_5 dLg_44 :) rfl ?_
  refine LW.iconst C (dcN_6 dLg_44 :) ?_
  refine LW.iadd C (dcN_7 dLg_44 :) ?_
  refine LW.sld C (lw_in hL h0 h1 (by decide) (by decide)) (dcN_8 dLg_44 :) ?_
  refine LW.callV C (As := [iv (xs (ix (i + 1))).toInt]) (st := []) (M_van_ok e2) cqL_159 crL_159 (by decide) rfl (dcN_9 dLg_44 :) rfl (Nat.le_of_ble_eq_true rfl) ?_
  refine LW.pop C (dcN_10 dLg_44 :) ?_
  refine LW.goto (tgt := 1914) C (dcN_11 dLg_44 :) (by decide) ?_
  exact kk _ hI2
theorem lwc_vans {Inv0 Inv : AG → Prop} (hsim : Sim_vans Inv0 Inv) (C : LC p s m meth c b L xs z) (hL : L ≤ 3072) {i : Int} (h0 : 0 ≤ i) (h1 : i + 6 ≤ L) (hI : Inv0 g) (kk : ∀ g9, Inv g9 → LW p l e s m below meth c b z 1914 [(3, iv i), (2, rv z 117), (1, rv z 0), (0, .ref b)] [] g9) : LW p l e s m below meth c b z 1554 [(3, iv i), (2, rv z 117), (1, rv z 0), (0, .ref b)] [] g := by
  obtain ⟨r1, v2, e1, e2, hv, hI2⟩ := hsim ((xs (ix (i + 1))).toInt) g (I32_of _) hI
  refine LW.aload_n C 2 (dcN_12 dLg_44 :) rfl ?_
  refine LW.aload_n C 3 (dcN_13 dLg_44 :) rfl ?_
  refine LW.iload_n C 0 (dcN_14 dLg_44 :) rfl ?_
  refine LW.iconst C (dcN_15 dLg_44 :) ?_
  refine LW.iadd C (dcN_16 dLg_44 :) ?_
  refine LW.sld C (lw_in hL h0 h1 (by decide) (by decide)) (dcN_17 dLg_44 :) ?_
  refine LW.callV C (As := [iv (xs (ix (i + 1))).toInt]) (st := []) (X_vans_ok e1) cqL_160 crL_160 (by decide) rfl (dcN_18 dLg_44 :) rfl (Nat.le_of_ble_eq_true rfl) ?_
  refine LW.pop C (dcN_19 dLg_44 :) ?_
  refine LW.aload_n C 1 (dcN_20 dLg_44 :) rfl ?_
  refine LW.aload_n C 3 (dcN_21 dLg_44 :) rfl ?_
  refine LW.iload_n C 0 (dcN_22 dLg_44 :) rfl ?_
  refine LW.iconst C (dcN_23 dLg_44 :) ?_
  refine LW.iadd C (dcN_0 dLg_45 :) ?_
  refine LW.sld C (lw_in hL h0 h1 (by decide) (by decide)) (dcN_1 dLg_45 :) ?_
  refine LW.callV C (As := [iv (xs (ix (i + 1))).toInt]) (st := []) (M_vans_ok e2) cqL_163 crL_163 (by decide) rfl (dcN_2 dLg_45 :) rfl (Nat.le_of_ble_eq_true rfl) ?_
  refine LW.pop C (dcN_3 dLg_45 :) ?_
  refine LW.goto (tgt := 1914) C (dcN_4 dLg_45 :) (by decide) ?_
  exact kk _ hI2
theorem lwc_call {Inv0 Inv : AG → Prop} (hsim : Sim_call Inv0 Inv) (C : LC p s m meth c b L xs z) (hL : L ≤ 3072) {i : Int} (h0 : 0 ≤ i) (h1 : i + 6 ≤ L) (hI : Inv0 g) (kk : ∀ g9, Inv g9 → LW p l e s m below meth c b z 1914 [(3, iv i), (2, rv z 117), (1, rv z 0), (0, .ref b)] [] g9) : LW p l e s m below meth c b z 1577 [(3, iv i), (2, rv z 117), (1, rv z 0), (0, .ref b)] [] g := by
  obtain ⟨r1, r2, e1, e2, hv, hI2⟩ := hsim ((xs (ix (i + 1))).toInt) ((xs (ix (i + 2))).toInt) ((xs (ix (i + 3))).toInt) g (I32_of _) (I32_of _) (I32_of _) hI
  refine LW.aload_n C 2 (dcN_5 dLg_45 :) rfl ?_
  refine LW.aload_n C 3 (dcN_6 dLg_45 :) rfl ?_
  refine LW.iload_n C 0 (dcN_7 dLg_45 :) rfl ?_
  refine LW.iconst C (dcN_8 dLg_45 :) ?_
  refine LW.iadd C (dcN_9 dLg_45 :) ?_
  refine LW.sld C (lw_in hL h0 h1 (by decide) (by decide)) (dcN_10 dLg_45 :) ?_
  refine LW.aload_n C 3 (dcN_11 dLg_45 :) rfl ?_
  refine LW.iload_n C 0 (dcN_12 dLg_45 :) rfl ?_
  refine LW.iconst C (dcN_13 dLg_45 :) ?_
  refine LW.iadd C (dcN_14 dLg_45 :) ?_
  refine LW.sld C (lw_in hL h0 h1 (by decide) (by decide)) (dcN_15 dLg_45 :) ?_
  refine LW.aload_n C 3 (dcN_16 dLg_45 :) rfl ?_
  refine LW.iload_n C 0 (dcN_17 dLg_45 :) rfl ?_
  refine LW.iconst C (dcN_18 dLg_45 :) ?_
  refine LW.iadd C (dcN_19 dLg_45 :) ?_
  refine LW.sld C (lw_in hL h0 h1 (by decide) (by decide)) (dcN_20 dLg_45 :) ?_
  refine LW.callV C (As := [iv (xs (ix (i + 1))).toInt, iv (xs (ix (i + 2))).toInt, iv (xs (ix (i + 3))).toInt]) (st := []) (X_call_ok e1) cqL_164 crL_164 (by decide) rfl (dcN_21 dLg_45 :) rfl (Nat.le_of_ble_eq_true rfl) ?_
  refine LW.pop C (dcN_22 dLg_45 :) ?_
  refine LW.aload_n C 1 (dcN_23 dLg_45 :) rfl ?_
  refine LW.aload_n C 3 (dcN_24 dLg_45 :) rfl ?_
  refine LW.iload_n C 0 (dcN_25 dLg_45 :) rfl ?_
  refine LW.iconst C (dcN_0 dLg_46 :) ?_
  refine LW.iadd C (dcN_1 dLg_46 :) ?_
  refine LW.sld C (lw_in hL h0 h1 (by decide) (by decide)) (dcN_2 dLg_46 :) ?_
  refine LW.aload_n C 3 (dcN_3 dLg_46 :) rfl ?_
  refine LW.iload_n C 0 (dcN_4 dLg_46 :) rfl ?_
  refine LW.iconst C (dcN_5 dLg_46 :) ?_
  refine LW.iadd C (dcN_6 dLg_46 :) ?_
  refine LW.sld C (lw_in hL h0 h1 (by decide) (by decide)) (dcN_7 dLg_46 :) ?_
  refine LW.aload_n C 3 (dcN_8 dLg_46 :) rfl ?_
  refine LW.iload_n C 0 (dcN_9 dLg_46 :) rfl ?_
  refine LW.iconst C (dcN_10 dLg_46 :) ?_
  refine LW.iadd C (dcN_11 dLg_46 :) ?_
  refine LW.sld C (lw_in hL h0 h1 (by decide) (by decide)) (dcN_12 dLg_46 :) ?_
  refine LW.callV C (As := [iv (xs (ix (i + 1))).toInt, iv (xs (ix (i + 2))).toInt, iv (xs (ix (i + 3))).toInt]) (st := []) (M_call_ok e2) cqL_167 crL_167 (by decide) rfl (dcN_13 dLg_46 :) rfl (Nat.le_of_ble_eq_true rfl) ?_
  refine LW.pop C (dcN_14 dLg_46 :) ?_
  refine LW.goto (tgt := 1914) C (dcN_15 dLg_46 :) (by decide) ?_
  exact kk _ hI2
theorem lwc_taken {Inv0 Inv : AG → Prop} (hsim : Sim_taken Inv0 Inv) (C : LC p s m meth c b L xs z) (hL : L ≤ 3072) {i : Int} (h0 : 0 ≤ i) (h1 : i + 6 ≤ L) (hI : Inv0 g) (kk : ∀ g9, Inv g9 → LW p l e s m below meth c b z 1914 [(3, iv i), (2, rv z 117), (1, rv z 0), (0, .ref b)] [] g9) : LW p l e s m below meth c b z 1620 [(3, iv i), (2, rv z 117), (1, rv z 0), (0, .ref b)] [] g := by
  obtain ⟨r1, r2, e1, e2, hv, hI2⟩ := hsim ((xs (ix (i + 1))).toInt) ((xs (ix (i + 2))).toInt) ((xs (ix (i + 3))).toInt) g (I32_of _) (I32_of _) (I32_of _) hI
  refine LW.aload_n C 2 (dcN_16 dLg_46 :) rfl ?_
  refine LW.aload_n C 3 (dcN_17 dLg_46 :) rfl ?_
  refine LW.iload_n C 0 (dcN_18 dLg_46 :) rfl ?_
  refine LW.iconst C (dcN_19 dLg_46 :) ?_
  refine LW.iadd C (dcN_20 dLg_46 :) ?_
  refine LW.sld C (lw_in hL h0 h1 (by decide) (by decide)) (dcN_21 dLg_46 :) ?_
  refine LW.aload_n C 3 (dcN_22 dLg_46 :) rfl ?_
  refine LW.iload_n C 0 (dcN_23 dLg_46 :) rfl ?_
  refine LW.iconst C (dcN_24 dLg_46 :) ?_
  refine LW.iadd C (dcN_25 dLg_46 :) ?_
  refine LW.sld C (lw_in hL h0 h1 (by decide) (by decide)) (dcN_26 dLg_46 :) ?_
  refine LW.aload_n C 3 (dcN_27 dLg_46 :) rfl ?_
  refine LW.iload_n C 0 (dcN_0 dLg_47 :) rfl ?_
  refine LW.iconst C (dcN_1 dLg_47 :) ?_
  refine LW.iadd C (dcN_2 dLg_47 :) ?_
  refine LW.sld C (lw_in hL h0 h1 (by decide) (by decide)) (dcN_3 dLg_47 :) ?_
  refine LW.callV C (As := [iv (xs (ix (i + 1))).toInt, iv (xs (ix (i + 2))).toInt, iv (xs (ix (i + 3))).toInt]) (st := []) (X_taken_ok e1) cqL_168 crL_168 (by decide) rfl (dcN_4 dLg_47 :) rfl (Nat.le_of_ble_eq_true rfl) ?_
  refine LW.pop C (dcN_5 dLg_47 :) ?_
  refine LW.aload_n C 1 (dcN_6 dLg_47 :) rfl ?_
  refine LW.aload_n C 3 (dcN_7 dLg_47 :) rfl ?_
  refine LW.iload_n C 0 (dcN_8 dLg_47 :) rfl ?_
  refine LW.iconst C (dcN_9 dLg_47 :) ?_
  refine LW.iadd C (dcN_10 dLg_47 :) ?_
  refine LW.sld C (lw_in hL h0 h1 (by decide) (by decide)) (dcN_11 dLg_47 :) ?_
  refine LW.aload_n C 3 (dcN_12 dLg_47 :) rfl ?_
  refine LW.iload_n C 0 (dcN_13 dLg_47 :) rfl ?_
  refine LW.iconst C (dcN_14 dLg_47 :) ?_
  refine LW.iadd C (dcN_15 dLg_47 :) ?_
  refine LW.sld C (lw_in hL h0 h1 (by decide) (by decide)) (dcN_16 dLg_47 :) ?_
  refine LW.aload_n C 3 (dcN_17 dLg_47 :) rfl ?_
  refine LW.iload_n C 0 (dcN_18 dLg_47 :) rfl ?_
  refine LW.iconst C (dcN_19 dLg_47 :) ?_
  refine LW.iadd C (dcN_20 dLg_47 :) ?_
  refine LW.sld C (lw_in hL h0 h1 (by decide) (by decide)) (dcN_21 dLg_47 :) ?_
  refine LW.callV C (As := [iv (xs (ix (i + 1))).toInt, iv (xs (ix (i + 2))).toInt, iv (xs (ix (i + 3))).toInt]) (st := []) (M_taken_ok e2) cqL_171 crL_171 (by decide) rfl (dcN_22 dLg_47 :) rfl (Nat.le_of_ble_eq_true rfl) ?_
  refine LW.pop C (dcN_23 dLg_47 :) ?_
  refine LW.goto (tgt := 1914) C (dcN_24 dLg_47 :) (by decide) ?_
  exact kk _ hI2
theorem lwc_left {Inv0 Inv : AG → Prop} (hsim : Sim_left Inv0 Inv) (C : LC p s m meth c b L xs z) (hL : L ≤ 3072) {i : Int} (h0 : 0 ≤ i) (h1 : i + 6 ≤ L) (hI : Inv0 g) (kk : ∀ g9, Inv g9 → LW p l e s m below meth c b z 1914 [(3, iv i), (2, rv z 117), (1, rv z 0), (0, .ref b)] [] g9) : LW p l e s m below meth c b z 1663 [(3, iv i), (2, rv z 117), (1, rv z 0), (0, .ref b)] [] g := by
  obtain ⟨r1, r2, e1, e2, hv, hI2⟩ := hsim ((xs (ix (i + 1))).toInt) ((xs (ix (i + 2))).toInt) ((xs (ix (i + 3))).toInt) ((xs (ix (i + 4))).toInt) ((xs (ix (i + 5))).toInt) g (I32_of _) (I32_of _) (I32_of _) (I32_of _) (I32_of _) hI
  refine LW.aload_n C 2 (dcN_25 dLg_47 :) rfl ?_
  refine LW.aload_n C 3 (dcN_0 dLg_48 :) rfl ?_
  refine LW.iload_n C 0 (dcN_1 dLg_48 :) rfl ?_
  refine LW.iconst C (dcN_2 dLg_48 :) ?_
  refine LW.iadd C (dcN_3 dLg_48 :) ?_
  refine LW.sld C (lw_in hL h0 h1 (by decide) (by decide)) (dcN_4 dLg_48 :) ?_
  refine LW.aload_n C 3 (dcN_5 dLg_48 :) rfl ?_
  refine LW.iload_n C 0 (dcN_6 dLg_48 :) rfl ?_
  refine LW.iconst C (dcN_7 dLg_48 :) ?_
  refine LW.iadd C (dcN_8 dLg_48 :) ?_
  refine LW.sld C (lw_in hL h0 h1 (by decide) (by decide)) (dcN_9 dLg_48 :) ?_
  refine LW.aload_n C 3 (dcN_10 dLg_48 :) rfl ?_
  refine LW.iload_n C 0 (dcN_11 dLg_48 :) rfl ?_
  refine LW.iconst C (dcN_12 dLg_48 :) ?_
  refine LW.iadd C (dcN_13 dLg_48 :) ?_
  refine LW.sld C (lw_in hL h0 h1 (by decide) (by decide)) (dcN_14 dLg_48 :) ?_
  refine LW.aload_n C 3 (dcN_15 dLg_48 :) rfl ?_
  refine LW.iload_n C 0 (dcN_16 dLg_48 :) rfl ?_
  refine LW.iconst C (dcN_17 dLg_48 :) ?_
  refine LW.iadd C (dcN_18 dLg_48 :) ?_
  refine LW.sld C (lw_in hL h0 h1 (by decide) (by decide)) (dcN_19 dLg_48 :) ?_
  refine LW.aload_n C 3 (dcN_20 dLg_48 :) rfl ?_
  refine LW.iload_n C 0 (dcN_21 dLg_48 :) rfl ?_
  refine LW.iconst C (dcN_22 dLg_48 :) ?_
  refine LW.iadd C (dcN_23 dLg_48 :) ?_
  refine LW.sld C (lw_in hL h0 h1 (by decide) (by decide)) (dcN_24 dLg_48 :) ?_
  refine LW.callV C (As := [iv (xs (ix (i + 1))).toInt, iv (xs (ix (i + 2))).toInt, iv (xs (ix (i + 3))).toInt, iv (xs (ix (i + 4))).toInt, iv (xs (ix (i + 5))).toInt]) (st := []) (X_left_ok e1) cqL_172 crL_172 (by decide) rfl (dcN_25 dLg_48 :) rfl (Nat.le_of_ble_eq_true rfl) ?_
  refine LW.pop C (dcN_26 dLg_48 :) ?_
  refine LW.aload_n C 1 (dcN_27 dLg_48 :) rfl ?_
  refine LW.aload_n C 3 (dcN_28 dLg_48 :) rfl ?_
  refine LW.iload_n C 0 (dcN_29 dLg_48 :) rfl ?_
  refine LW.iconst C (dcN_0 dLg_49 :) ?_
  refine LW.iadd C (dcN_1 dLg_49 :) ?_
  refine LW.sld C (lw_in hL h0 h1 (by decide) (by decide)) (dcN_2 dLg_49 :) ?_
  refine LW.aload_n C 3 (dcN_3 dLg_49 :) rfl ?_
  refine LW.iload_n C 0 (dcN_4 dLg_49 :) rfl ?_
  refine LW.iconst C (dcN_5 dLg_49 :) ?_
  refine LW.iadd C (dcN_6 dLg_49 :) ?_
  refine LW.sld C (lw_in hL h0 h1 (by decide) (by decide)) (dcN_7 dLg_49 :) ?_
  refine LW.aload_n C 3 (dcN_8 dLg_49 :) rfl ?_
  refine LW.iload_n C 0 (dcN_9 dLg_49 :) rfl ?_
  refine LW.iconst C (dcN_10 dLg_49 :) ?_
  refine LW.iadd C (dcN_11 dLg_49 :) ?_
  refine LW.sld C (lw_in hL h0 h1 (by decide) (by decide)) (dcN_12 dLg_49 :) ?_
  refine LW.aload_n C 3 (dcN_13 dLg_49 :) rfl ?_
  refine LW.iload_n C 0 (dcN_14 dLg_49 :) rfl ?_
  refine LW.iconst C (dcN_15 dLg_49 :) ?_
  refine LW.iadd C (dcN_16 dLg_49 :) ?_
  refine LW.sld C (lw_in hL h0 h1 (by decide) (by decide)) (dcN_17 dLg_49 :) ?_
  refine LW.aload_n C 3 (dcN_18 dLg_49 :) rfl ?_
  refine LW.iload_n C 0 (dcN_19 dLg_49 :) rfl ?_
  refine LW.iconst C (dcN_20 dLg_49 :) ?_
  refine LW.iadd C (dcN_21 dLg_49 :) ?_
  refine LW.sld C (lw_in hL h0 h1 (by decide) (by decide)) (dcN_22 dLg_49 :) ?_
  refine LW.callV C (As := [iv (xs (ix (i + 1))).toInt, iv (xs (ix (i + 2))).toInt, iv (xs (ix (i + 3))).toInt, iv (xs (ix (i + 4))).toInt, iv (xs (ix (i + 5))).toInt]) (st := []) (M_left_ok e2) cqL_175 crL_175 (by decide) rfl (dcN_23 dLg_49 :) rfl (Nat.le_of_ble_eq_true rfl) ?_
  refine LW.pop C (dcN_24 dLg_49 :) ?_
  refine LW.goto (tgt := 1914) C (dcN_25 dLg_49 :) (by decide) ?_
  exact kk _ hI2
theorem lwc_shuts {Inv0 Inv : AG → Prop} (hsim : Sim_shuts Inv0 Inv) (C : LC p s m meth c b L xs z) (hL : L ≤ 3072) {i : Int} (h0 : 0 ≤ i) (h1 : i + 6 ≤ L) (hI : Inv0 g) (kk : ∀ g9, Inv g9 → LW p l e s m below meth c b z 1914 [(3, iv i), (2, rv z 117), (1, rv z 0), (0, .ref b)] [] g9) : LW p l e s m below meth c b z 1726 [(3, iv i), (2, rv z 117), (1, rv z 0), (0, .ref b)] [] g := by
  obtain ⟨r1, r2, e1, e2, hv, hI2⟩ := hsim ((xs (ix (i + 1))).toInt) ((xs (ix (i + 2))).toInt) ((xs (ix (i + 3))).toInt) ((xs (ix (i + 4))).toInt) g (I32_of _) (I32_of _) (I32_of _) (I32_of _) hI
  refine LW.aload_n C 2 (dcN_26 dLg_49 :) rfl ?_
  refine LW.aload_n C 3 (dcN_27 dLg_49 :) rfl ?_
  refine LW.iload_n C 0 (dcN_0 dLg_50 :) rfl ?_
  refine LW.iconst C (dcN_1 dLg_50 :) ?_
  refine LW.iadd C (dcN_2 dLg_50 :) ?_
  refine LW.sld C (lw_in hL h0 h1 (by decide) (by decide)) (dcN_3 dLg_50 :) ?_
  refine LW.aload_n C 3 (dcN_4 dLg_50 :) rfl ?_
  refine LW.iload_n C 0 (dcN_5 dLg_50 :) rfl ?_
  refine LW.iconst C (dcN_6 dLg_50 :) ?_
  refine LW.iadd C (dcN_7 dLg_50 :) ?_
  refine LW.sld C (lw_in hL h0 h1 (by decide) (by decide)) (dcN_8 dLg_50 :) ?_
  refine LW.aload_n C 3 (dcN_9 dLg_50 :) rfl ?_
  refine LW.iload_n C 0 (dcN_10 dLg_50 :) rfl ?_
  refine LW.iconst C (dcN_11 dLg_50 :) ?_
  refine LW.iadd C (dcN_12 dLg_50 :) ?_
  refine LW.sld C (lw_in hL h0 h1 (by decide) (by decide)) (dcN_13 dLg_50 :) ?_
  refine LW.aload_n C 3 (dcN_14 dLg_50 :) rfl ?_
  refine LW.iload_n C 0 (dcN_15 dLg_50 :) rfl ?_
  refine LW.iconst C (dcN_16 dLg_50 :) ?_
  refine LW.iadd C (dcN_17 dLg_50 :) ?_
  refine LW.sld C (lw_in hL h0 h1 (by decide) (by decide)) (dcN_18 dLg_50 :) ?_
  refine LW.callV C (As := [iv (xs (ix (i + 1))).toInt, iv (xs (ix (i + 2))).toInt, iv (xs (ix (i + 3))).toInt, iv (xs (ix (i + 4))).toInt]) (st := []) (X_shuts_ok e1) cqL_176 crL_176 (by decide) rfl (dcN_19 dLg_50 :) rfl (Nat.le_of_ble_eq_true rfl) ?_
  refine LW.pop C (dcN_20 dLg_50 :) ?_
  refine LW.aload_n C 1 (dcN_21 dLg_50 :) rfl ?_
  refine LW.aload_n C 3 (dcN_22 dLg_50 :) rfl ?_
  refine LW.iload_n C 0 (dcN_23 dLg_50 :) rfl ?_
  refine LW.iconst C (dcN_24 dLg_50 :) ?_
  refine LW.iadd C (dcN_25 dLg_50 :) ?_
  refine LW.sld C (lw_in hL h0 h1 (by decide) (by decide)) (dcN_26 dLg_50 :) ?_
  refine LW.aload_n C 3 (dcN_27 dLg_50 :) rfl ?_
  refine LW.iload_n C 0 (dcN_28 dLg_50 :) rfl ?_
  refine LW.iconst C (dcN_29 dLg_50 :) ?_
  refine LW.iadd C (dcN_0 dLg_51 :) ?_
  refine LW.sld C (lw_in hL h0 h1 (by decide) (by decide)) (dcN_1 dLg_51 :) ?_
  refine LW.aload_n C 3 (dcN_2 dLg_51 :) rfl ?_
  refine LW.iload_n C 0 (dcN_3 dLg_51 :) rfl ?_
  refine LW.iconst C (dcN_4 dLg_51 :) ?_
  refine LW.iadd C (dcN_5 dLg_51 :) ?_
  refine LW.sld C (lw_in hL h0 h1 (by decide) (by decide)) (dcN_6 dLg_51 :) ?_
  refine LW.aload_n C 3 (dcN_7 dLg_51 :) rfl ?_
  refine LW.iload_n C 0 (dcN_8 dLg_51 :) rfl ?_
  refine LW.iconst C (dcN_9 dLg_51 :) ?_
  refine LW.iadd C (dcN_10 dLg_51 :) ?_
  refine LW.sld C (lw_in hL h0 h1 (by decide) (by decide)) (dcN_11 dLg_51 :) ?_
  refine LW.callV C (As := [iv (xs (ix (i + 1))).toInt, iv (xs (ix (i + 2))).toInt, iv (xs (ix (i + 3))).toInt, iv (xs (ix (i + 4))).toInt]) (st := []) (M_shuts_ok e2) cqL_179 crL_179 (by decide) rfl (dcN_12 dLg_51 :) rfl (Nat.le_of_ble_eq_true rfl) ?_
  refine LW.pop C (dcN_13 dLg_51 :) ?_
  refine LW.goto (tgt := 1914) C (dcN_14 dLg_51 :) (by decide) ?_
  exact kk _ hI2
theorem lwc_price {Inv0 Inv : AG → Prop} (hsim : Sim_price Inv0 Inv) (C : LC p s m meth c b L xs z) (hL : L ≤ 3072) {i : Int} (h0 : 0 ≤ i) (h1 : i + 6 ≤ L) (hI : Inv0 g) (kk : ∀ g9, Inv g9 → LW p l e s m below meth c b z 1914 [(3, iv i), (2, rv z 117), (1, rv z 0), (0, .ref b)] [] g9) : LW p l e s m below meth c b z 1779 [(3, iv i), (2, rv z 117), (1, rv z 0), (0, .ref b)] [] g := by
  by_cases hb : nw (xs (ix (i + 3))).toInt = 0
  · obtain ⟨r1, r2, e1, e2, hv, hI2⟩ := hsim ((xs (ix (i + 1))).toInt) ((xs (ix (i + 2))).toInt) (0) g (I32_of _) (I32_of _) (Or.inl rfl) hI
    refine LW.aload_n C 2 (dcN_15 dLg_51 :) rfl ?_
    refine LW.aload_n C 3 (dcN_16 dLg_51 :) rfl ?_
    refine LW.iload_n C 0 (dcN_17 dLg_51 :) rfl ?_
    refine LW.iconst C (dcN_18 dLg_51 :) ?_
    refine LW.iadd C (dcN_19 dLg_51 :) ?_
    refine LW.sld C (lw_in hL h0 h1 (by decide) (by decide)) (dcN_20 dLg_51 :) ?_
    refine LW.aload_n C 3 (dcN_21 dLg_51 :) rfl ?_
    refine LW.iload_n C 0 (dcN_22 dLg_51 :) rfl ?_
    refine LW.iconst C (dcN_23 dLg_51 :) ?_
    refine LW.iadd C (dcN_24 dLg_51 :) ?_
    refine LW.sld C (lw_in hL h0 h1 (by decide) (by decide)) (dcN_25 dLg_51 :) ?_
    refine LW.aload_n C 3 (dcN_26 dLg_51 :) rfl ?_
    refine LW.iload_n C 0 (dcN_27 dLg_51 :) rfl ?_
    refine LW.iconst C (dcN_0 dLg_52 :) ?_
    refine LW.iadd C (dcN_1 dLg_52 :) ?_
    refine LW.sld C (lw_in hL h0 h1 (by decide) (by decide)) (dcN_2 dLg_52 :) ?_
    refine LW.if_eq (tgt := 1802) C (dcN_3 dLg_52 :) (by decide) (fun _ => ?_) (fun q => absurd hb q)
    refine LW.iconst C (dcN_6 dLg_52 :) ?_
    refine LW.callV C (As := [iv (xs (ix (i + 1))).toInt, iv (xs (ix (i + 2))).toInt, iv 0]) (st := []) (X_price_ok e1) cqL_180 crL_180 (by decide) rfl (dcN_7 dLg_52 :) rfl (Nat.le_of_ble_eq_true rfl) ?_
    refine LW.pop C (dcN_8 dLg_52 :) ?_
    refine LW.aload_n C 1 (dcN_9 dLg_52 :) rfl ?_
    refine LW.aload_n C 3 (dcN_10 dLg_52 :) rfl ?_
    refine LW.iload_n C 0 (dcN_11 dLg_52 :) rfl ?_
    refine LW.iconst C (dcN_12 dLg_52 :) ?_
    refine LW.iadd C (dcN_13 dLg_52 :) ?_
    refine LW.sld C (lw_in hL h0 h1 (by decide) (by decide)) (dcN_14 dLg_52 :) ?_
    refine LW.aload_n C 3 (dcN_15 dLg_52 :) rfl ?_
    refine LW.iload_n C 0 (dcN_16 dLg_52 :) rfl ?_
    refine LW.iconst C (dcN_17 dLg_52 :) ?_
    refine LW.iadd C (dcN_18 dLg_52 :) ?_
    refine LW.sld C (lw_in hL h0 h1 (by decide) (by decide)) (dcN_19 dLg_52 :) ?_
    refine LW.aload_n C 3 (dcN_20 dLg_52 :) rfl ?_
    refine LW.iload_n C 0 (dcN_21 dLg_52 :) rfl ?_
    refine LW.iconst C (dcN_22 dLg_52 :) ?_
    refine LW.iadd C (dcN_23 dLg_52 :) ?_
    refine LW.sld C (lw_in hL h0 h1 (by decide) (by decide)) (dcN_24 dLg_52 :) ?_
    refine LW.if_eq (tgt := 1830) C (dcN_25 dLg_52 :) (by decide) (fun _ => ?_) (fun q => absurd hb q)
    refine LW.iconst C (dcN_2 dLg_53 :) ?_
    refine LW.callV C (As := [iv (xs (ix (i + 1))).toInt, iv (xs (ix (i + 2))).toInt, iv 0]) (st := []) (M_price_ok e2) cqL_184 crL_184 (by decide) rfl (dcN_3 dLg_53 :) rfl (Nat.le_of_ble_eq_true rfl) ?_
    refine LW.pop C (dcN_4 dLg_53 :) ?_
    refine LW.goto (tgt := 1914) C (dcN_5 dLg_53 :) (by decide) ?_
    exact kk _ hI2
  · obtain ⟨r1, r2, e1, e2, hv, hI2⟩ := hsim ((xs (ix (i + 1))).toInt) ((xs (ix (i + 2))).toInt) (1) g (I32_of _) (I32_of _) (Or.inr rfl) hI
    refine LW.aload_n C 2 (dcN_15 dLg_51 :) rfl ?_
    refine LW.aload_n C 3 (dcN_16 dLg_51 :) rfl ?_
    refine LW.iload_n C 0 (dcN_17 dLg_51 :) rfl ?_
    refine LW.iconst C (dcN_18 dLg_51 :) ?_
    refine LW.iadd C (dcN_19 dLg_51 :) ?_
    refine LW.sld C (lw_in hL h0 h1 (by decide) (by decide)) (dcN_20 dLg_51 :) ?_
    refine LW.aload_n C 3 (dcN_21 dLg_51 :) rfl ?_
    refine LW.iload_n C 0 (dcN_22 dLg_51 :) rfl ?_
    refine LW.iconst C (dcN_23 dLg_51 :) ?_
    refine LW.iadd C (dcN_24 dLg_51 :) ?_
    refine LW.sld C (lw_in hL h0 h1 (by decide) (by decide)) (dcN_25 dLg_51 :) ?_
    refine LW.aload_n C 3 (dcN_26 dLg_51 :) rfl ?_
    refine LW.iload_n C 0 (dcN_27 dLg_51 :) rfl ?_
    refine LW.iconst C (dcN_0 dLg_52 :) ?_
    refine LW.iadd C (dcN_1 dLg_52 :) ?_
    refine LW.sld C (lw_in hL h0 h1 (by decide) (by decide)) (dcN_2 dLg_52 :) ?_
    refine LW.if_eq (tgt := 1802) C (dcN_3 dLg_52 :) (by decide) (fun q => absurd q hb) (fun _ => ?_)
    refine LW.iconst C (dcN_4 dLg_52 :) ?_
    refine LW.goto (tgt := 1803) C (dcN_5 dLg_52 :) (by decide) ?_
    refine LW.callV C (As := [iv (xs (ix (i + 1))).toInt, iv (xs (ix (i + 2))).toInt, iv 1]) (st := []) (X_price_ok e1) cqL_180 crL_180 (by decide) rfl (dcN_7 dLg_52 :) rfl (Nat.le_of_ble_eq_true rfl) ?_
    refine LW.pop C (dcN_8 dLg_52 :) ?_
    refine LW.aload_n C 1 (dcN_9 dLg_52 :) rfl ?_
    refine LW.aload_n C 3 (dcN_10 dLg_52 :) rfl ?_
    refine LW.iload_n C 0 (dcN_11 dLg_52 :) rfl ?_
    refine LW.iconst C (dcN_12 dLg_52 :) ?_
    refine LW.iadd C (dcN_13 dLg_52 :) ?_
    refine LW.sld C (lw_in hL h0 h1 (by decide) (by decide)) (dcN_14 dLg_52 :) ?_
    refine LW.aload_n C 3 (dcN_15 dLg_52 :) rfl ?_
    refine LW.iload_n C 0 (dcN_16 dLg_52 :) rfl ?_
    refine LW.iconst C (dcN_17 dLg_52 :) ?_
    refine LW.iadd C (dcN_18 dLg_52 :) ?_
    refine LW.sld C (lw_in hL h0 h1 (by decide) (by decide)) (dcN_19 dLg_52 :) ?_
    refine LW.aload_n C 3 (dcN_20 dLg_52 :) rfl ?_
    refine LW.iload_n C 0 (dcN_21 dLg_52 :) rfl ?_
    refine LW.iconst C (dcN_22 dLg_52 :) ?_
    refine LW.iadd C (dcN_23 dLg_52 :) ?_
    refine LW.sld C (lw_in hL h0 h1 (by decide) (by decide)) (dcN_24 dLg_52 :) ?_
    refine LW.if_eq (tgt := 1830) C (dcN_25 dLg_52 :) (by decide) (fun q => absurd q hb) (fun _ => ?_)
    refine LW.iconst C (dcN_0 dLg_53 :) ?_
    refine LW.goto (tgt := 1831) C (dcN_1 dLg_53 :) (by decide) ?_
    refine LW.callV C (As := [iv (xs (ix (i + 1))).toInt, iv (xs (ix (i + 2))).toInt, iv 1]) (st := []) (M_price_ok e2) cqL_184 crL_184 (by decide) rfl (dcN_3 dLg_53 :) rfl (Nat.le_of_ble_eq_true rfl) ?_
    refine LW.pop C (dcN_4 dLg_53 :) ?_
    refine LW.goto (tgt := 1914) C (dcN_5 dLg_53 :) (by decide) ?_
    exact kk _ hI2
theorem lwc_held {Inv0 Inv : AG → Prop} (hsim : Sim_held Inv0 Inv) (C : LC p s m meth c b L xs z) (hL : L ≤ 3072) {i : Int} (h0 : 0 ≤ i) (h1 : i + 6 ≤ L) (hI : Inv0 g) (kk : ∀ g9, Inv g9 → LW p l e s m below meth c b z 1914 [(3, iv i), (2, rv z 117), (1, rv z 0), (0, .ref b)] [] g9) : LW p l e s m below meth c b z 1838 [(3, iv i), (2, rv z 117), (1, rv z 0), (0, .ref b)] [] g := by
  obtain ⟨r1, r2, e1, e2, hv, hI2⟩ := hsim ((xs (ix (i + 1))).toInt) ((xs (ix (i + 2))).toInt) ((xs (ix (i + 3))).toInt) ((xs (ix (i + 4))).toInt) g (I32_of _) (I32_of _) (I32_of _) (I32_of _) hI
  refine LW.aload_n C 2 (dcN_6 dLg_53 :) rfl ?_
  refine LW.aload_n C 3 (dcN_7 dLg_53 :) rfl ?_
  refine LW.iload_n C 0 (dcN_8 dLg_53 :) rfl ?_
  refine LW.iconst C (dcN_9 dLg_53 :) ?_
  refine LW.iadd C (dcN_10 dLg_53 :) ?_
  refine LW.sld C (lw_in hL h0 h1 (by decide) (by decide)) (dcN_11 dLg_53 :) ?_
  refine LW.aload_n C 3 (dcN_12 dLg_53 :) rfl ?_
  refine LW.iload_n C 0 (dcN_13 dLg_53 :) rfl ?_
  refine LW.iconst C (dcN_14 dLg_53 :) ?_
  refine LW.iadd C (dcN_15 dLg_53 :) ?_
  refine LW.sld C (lw_in hL h0 h1 (by decide) (by decide)) (dcN_16 dLg_53 :) ?_
  refine LW.aload_n C 3 (dcN_17 dLg_53 :) rfl ?_
  refine LW.iload_n C 0 (dcN_18 dLg_53 :) rfl ?_
  refine LW.iconst C (dcN_19 dLg_53 :) ?_
  refine LW.iadd C (dcN_20 dLg_53 :) ?_
  refine LW.sld C (lw_in hL h0 h1 (by decide) (by decide)) (dcN_21 dLg_53 :) ?_
  refine LW.aload_n C 3 (dcN_22 dLg_53 :) rfl ?_
  refine LW.iload_n C 0 (dcN_23 dLg_53 :) rfl ?_
  refine LW.iconst C (dcN_0 dLg_54 :) ?_
  refine LW.iadd C (dcN_1 dLg_54 :) ?_
  refine LW.sld C (lw_in hL h0 h1 (by decide) (by decide)) (dcN_2 dLg_54 :) ?_
  refine LW.callV C (As := [iv (xs (ix (i + 1))).toInt, iv (xs (ix (i + 2))).toInt, iv (xs (ix (i + 3))).toInt, iv (xs (ix (i + 4))).toInt]) (st := []) (X_held_ok e1) cqL_185 crL_185 (by decide) rfl (dcN_3 dLg_54 :) rfl (Nat.le_of_ble_eq_true rfl) ?_
  refine LW.pop C (dcN_4 dLg_54 :) ?_
  refine LW.aload_n C 1 (dcN_5 dLg_54 :) rfl ?_
  refine LW.aload_n C 3 (dcN_6 dLg_54 :) rfl ?_
  refine LW.iload_n C 0 (dcN_7 dLg_54 :) rfl ?_
  refine LW.iconst C (dcN_8 dLg_54 :) ?_
  refine LW.iadd C (dcN_9 dLg_54 :) ?_
  refine LW.sld C (lw_in hL h0 h1 (by decide) (by decide)) (dcN_10 dLg_54 :) ?_
  refine LW.aload_n C 3 (dcN_11 dLg_54 :) rfl ?_
  refine LW.iload_n C 0 (dcN_12 dLg_54 :) rfl ?_
  refine LW.iconst C (dcN_13 dLg_54 :) ?_
  refine LW.iadd C (dcN_14 dLg_54 :) ?_
  refine LW.sld C (lw_in hL h0 h1 (by decide) (by decide)) (dcN_15 dLg_54 :) ?_
  refine LW.aload_n C 3 (dcN_16 dLg_54 :) rfl ?_
  refine LW.iload_n C 0 (dcN_17 dLg_54 :) rfl ?_
  refine LW.iconst C (dcN_18 dLg_54 :) ?_
  refine LW.iadd C (dcN_19 dLg_54 :) ?_
  refine LW.sld C (lw_in hL h0 h1 (by decide) (by decide)) (dcN_20 dLg_54 :) ?_
  refine LW.aload_n C 3 (dcN_21 dLg_54 :) rfl ?_
  refine LW.iload_n C 0 (dcN_22 dLg_54 :) rfl ?_
  refine LW.iconst C (dcN_23 dLg_54 :) ?_
  refine LW.iadd C (dcN_24 dLg_54 :) ?_
  refine LW.sld C (lw_in hL h0 h1 (by decide) (by decide)) (dcN_25 dLg_54 :) ?_
  refine LW.callV C (As := [iv (xs (ix (i + 1))).toInt, iv (xs (ix (i + 2))).toInt, iv (xs (ix (i + 3))).toInt, iv (xs (ix (i + 4))).toInt]) (st := []) (M_held_ok e2) cqL_188 crL_188 (by decide) rfl (dcN_26 dLg_54 :) rfl (Nat.le_of_ble_eq_true rfl) ?_
  refine LW.pop C (dcN_27 dLg_54 :) ?_
  refine LW.goto (tgt := 1914) C (dcN_0 dLg_55 :) (by decide) ?_
  exact kk _ hI2
theorem lwc_look {Inv0 Inv : AG → Prop} (hsim : Sim_look Inv0 Inv) (C : LC p s m meth c b L xs z) (hL : L ≤ 3072) {i : Int} (h0 : 0 ≤ i) (h1 : i + 6 ≤ L) (hI : Inv0 g) (kk : ∀ g9, Inv g9 → LW p l e s m below meth c b z 1914 [(3, iv i), (2, rv z 117), (1, rv z 0), (0, .ref b)] [] g9) : LW p l e s m below meth c b z 1891 [(3, iv i), (2, rv z 117), (1, rv z 0), (0, .ref b)] [] g := by
  obtain ⟨hv, hI2⟩ := hsim ((xs (ix (i + 1))).toInt) g (I32_of _) hI
  refine LW.aload_n C 2 (dcN_1 dLg_55 :) rfl ?_
  refine LW.aload_n C 3 (dcN_2 dLg_55 :) rfl ?_
  refine LW.iload_n C 0 (dcN_3 dLg_55 :) rfl ?_
  refine LW.iconst C (dcN_4 dLg_55 :) ?_
  refine LW.iadd C (dcN_5 dLg_55 :) ?_
  refine LW.sld C (lw_in hL h0 h1 (by decide) (by decide)) (dcN_6 dLg_55 :) ?_
  refine LW.callV C (As := [iv (xs (ix (i + 1))).toInt]) (st := []) (X_look_ok) cqL_189 crL_189 (by decide) rfl (dcN_7 dLg_55 :) rfl (Nat.le_of_ble_eq_true rfl) ?_
  refine LW.aload_n C 1 (dcN_8 dLg_55 :) rfl ?_
  refine LW.aload_n C 3 (dcN_9 dLg_55 :) rfl ?_
  refine LW.iload_n C 0 (dcN_10 dLg_55 :) rfl ?_
  refine LW.iconst C (dcN_11 dLg_55 :) ?_
  refine LW.iadd C (dcN_12 dLg_55 :) ?_
  refine LW.sld C (lw_in hL h0 h1 (by decide) (by decide)) (dcN_13 dLg_55 :) ?_
  refine LW.callV C (As := [iv (xs (ix (i + 1))).toInt]) (st := [iv (X_look (xs (ix (i + 1))).toInt g)]) (M_look_ok) cqL_192 crL_192 (by decide) rfl (dcN_14 dLg_55 :) rfl (Nat.le_of_ble_eq_true rfl) ?_
  refine LW.icmp_eq (tgt := 1914) C (dcN_15 dLg_55 :) (by decide) hv ?_
  exact kk _ hI2
end LAWW
