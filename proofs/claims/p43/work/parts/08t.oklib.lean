theorem Integer_bitCount_ok {z : AZ} {x0 : Int} {g : AG} {r : Int} (h : Integer_bitCount x0 g = some r) : AMf z yJ6_bitCount_0f7a4 cJ6_bitCount_0f7a4 1 (some .int) 0 [iv x0] g (r, g) := by
  intro d hdd
  refine AM.of (by decide +kernel) (Nat.le_of_ble_eq_true rfl) ?_
  show AW z (RJ6, cJ6_bitCount_0f7a4, 1, (some .int)) d (QD (some .int) (r, g)) 0 [(0, iv x0)] [] g
  unfold Integer_bitCount at h
  refine AW.iload_n 0 dJ6_bitCount_0f7a4_0 rfl ?_
  refine AW.iload_n 0 dJ6_bitCount_0f7a4_1 rfl ?_
  refine AW.iconst dJ6_bitCount_0f7a4_2 ?_
  refine AW.iushr dJ6_bitCount_0f7a4_3 ?_
  refine AW.ldcw dJ6_bitCount_0f7a4_4 cw_J6_265 ?_
  refine AW.iand dJ6_bitCount_0f7a4_7 ?_
  refine AW.isub dJ6_bitCount_0f7a4_8 ?_
  refine AW.istore_n (lv1 := [(0, iv (x0 - (andI (ushrI x0 1) 1431655765)))]) dJ6_bitCount_0f7a4_9 (by decide) rfl ?_
  refine AW.iload_n 0 dJ6_bitCount_0f7a4_10 rfl ?_
  refine AW.ldcw dJ6_bitCount_0f7a4_11 cw_J6_266 ?_
  refine AW.iand dJ6_bitCount_0f7a4_14 ?_
  refine AW.iload_n 0 dJ6_bitCount_0f7a4_15 rfl ?_
  refine AW.iconst dJ6_bitCount_0f7a4_16 ?_
  refine AW.iushr dJ6_bitCount_0f7a4_17 ?_
  refine AW.ldcw dJ6_bitCount_0f7a4_18 cw_J6_266 ?_
  refine AW.iand dJ6_bitCount_0f7a4_21 ?_
  refine AW.iadd dJ6_bitCount_0f7a4_22 ?_
  obtain ⟨t1, e2, h⟩ := hBe h
  refine AW.val e2 ?_
  refine AW.istore_n (lv1 := [(0, iv t1)]) dJ6_bitCount_0f7a4_23 (by decide) rfl ?_
  refine AW.iload_n 0 dJ6_bitCount_0f7a4_24 rfl ?_
  refine AW.iload_n 0 dJ6_bitCount_0f7a4_25 rfl ?_
  refine AW.iconst dJ6_bitCount_0f7a4_26 ?_
  refine AW.iushr dJ6_bitCount_0f7a4_27 ?_
  refine AW.iadd dJ6_bitCount_0f7a4_28 ?_
  refine AW.ldcw dJ6_bitCount_0f7a4_29 cw_J6_267 ?_
  refine AW.iand dJ6_bitCount_0f7a4_32 ?_
  refine AW.istore_n (lv1 := [(0, iv (andI (t1 + (ushrI t1 4)) 252645135))]) dJ6_bitCount_0f7a4_33 (by decide) rfl ?_
  refine AW.iload_n 0 dJ6_bitCount_0f7a4_34 rfl ?_
  refine AW.iload_n 0 dJ6_bitCount_0f7a4_35 rfl ?_
  refine AW.bipush dJ6_bitCount_0f7a4_36 (by decide) (by decide) ?_
  refine AW.iushr dJ6_bitCount_0f7a4_38 ?_
  refine AW.iadd dJ6_bitCount_0f7a4_39 ?_
  obtain ⟨t3, e4, h⟩ := hBe h
  refine AW.val e4 ?_
  refine AW.istore_n (lv1 := [(0, iv t3)]) dJ6_bitCount_0f7a4_40 (by decide) rfl ?_
  refine AW.iload_n 0 dJ6_bitCount_0f7a4_41 rfl ?_
  refine AW.iload_n 0 dJ6_bitCount_0f7a4_42 rfl ?_
  refine AW.bipush dJ6_bitCount_0f7a4_43 (by decide) (by decide) ?_
  refine AW.iushr dJ6_bitCount_0f7a4_45 ?_
  refine AW.iadd dJ6_bitCount_0f7a4_46 ?_
  refine AW.istore_n (lv1 := [(0, iv (t3 + (ushrI t3 16)))]) dJ6_bitCount_0f7a4_47 (by decide) rfl ?_
  refine AW.iload_n 0 dJ6_bitCount_0f7a4_48 rfl ?_
  refine AW.bipush dJ6_bitCount_0f7a4_49 (by decide) (by decide) ?_
  refine AW.iand dJ6_bitCount_0f7a4_51 ?_
  exact AW.iret2 rfl dJ6_bitCount_0f7a4_52 h rfl
