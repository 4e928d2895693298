theorem Integer_bitCount_ok {z : AZ} {x0 : Int} {g : AG} {r : Int} (h : Integer_bitCount x0 g = some r) : AMf z yJ6_bitCount_0f7a4 cJ6_bitCount_0f7a4 1 (some .int) 0 [iv x0] g (r, g) := by
  intro d hdd
  refine AM.of (by decide +kernel) (Nat.le_of_ble_eq_true rfl) ?_
  show AW z (RJ6, cJ6_bitCount_0f7a4, 1, (some .int)) d (QD (some .int) (r, g)) 0 [(0, iv x0)] [] g
  unfold Integer_bitCount at h
  refine AW.iload_n 0 (dcN_0 dcg_849) rfl ?_
  refine AW.iload_n 0 (dcN_1 dcg_849) rfl ?_
  refine AW.iconst (dcN_2 dcg_849) ?_
  refine AW.iushr (dcN_3 dcg_849) ?_
  refine AW.ldcw (dcN_4 dcg_849) cw_J6_265 ?_
  refine AW.iand (dcN_5 dcg_849) ?_
  refine AW.isub (dcN_6 dcg_849) ?_
  refine AW.istore_n (lv1 := [(0, iv (x0 - (andI (ushrI x0 1) 1431655765)))]) (dcN_7 dcg_849) (by decide) rfl ?_
  refine AW.iload_n 0 (dcN_8 dcg_849) rfl ?_
  refine AW.ldcw (dcN_9 dcg_849) cw_J6_266 ?_
  refine AW.iand (dcN_10 dcg_849) ?_
  refine AW.iload_n 0 (dcN_11 dcg_849) rfl ?_
  refine AW.iconst (dcN_12 dcg_849) ?_
  refine AW.iushr (dcN_13 dcg_849) ?_
  refine AW.ldcw (dcN_14 dcg_849) cw_J6_266 ?_
  refine AW.iand (dcN_15 dcg_849) ?_
  refine AW.iadd (dcN_16 dcg_849) ?_
  obtain ⟨t1, e2, h⟩ := hBe h
  refine AW.val e2 ?_
  refine AW.istore_n (lv1 := [(0, iv t1)]) (dcN_17 dcg_849) (by decide) rfl ?_
  refine AW.iload_n 0 (dcN_18 dcg_849) rfl ?_
  refine AW.iload_n 0 (dcN_19 dcg_849) rfl ?_
  refine AW.iconst (dcN_20 dcg_849) ?_
  refine AW.iushr (dcN_21 dcg_849) ?_
  refine AW.iadd (dcN_22 dcg_849) ?_
  refine AW.ldcw (dcN_23 dcg_849) cw_J6_267 ?_
  refine AW.iand (dcN_0 dcg_850) ?_
  refine AW.istore_n (lv1 := [(0, iv (andI (t1 + (ushrI t1 4)) 252645135))]) (dcN_1 dcg_850) (by decide) rfl ?_
  refine AW.iload_n 0 (dcN_2 dcg_850) rfl ?_
  refine AW.iload_n 0 (dcN_3 dcg_850) rfl ?_
  refine AW.bipush (dcN_4 dcg_850) (by decide) (by decide) ?_
  refine AW.iushr (dcN_5 dcg_850) ?_
  refine AW.iadd (dcN_6 dcg_850) ?_
  obtain ⟨t3, e4, h⟩ := hBe h
  refine AW.val e4 ?_
  refine AW.istore_n (lv1 := [(0, iv t3)]) (dcN_7 dcg_850) (by decide) rfl ?_
  refine AW.iload_n 0 (dcN_8 dcg_850) rfl ?_
  refine AW.iload_n 0 (dcN_9 dcg_850) rfl ?_
  refine AW.bipush (dcN_10 dcg_850) (by decide) (by decide) ?_
  refine AW.iushr (dcN_11 dcg_850) ?_
  refine AW.iadd (dcN_12 dcg_850) ?_
  refine AW.istore_n (lv1 := [(0, iv (t3 + (ushrI t3 16)))]) (dcN_13 dcg_850) (by decide) rfl ?_
  refine AW.iload_n 0 (dcN_14 dcg_850) rfl ?_
  refine AW.bipush (dcN_15 dcg_850) (by decide) (by decide) ?_
  refine AW.iand (dcN_16 dcg_850) ?_
  exact AW.iret2 rfl (dcN_17 dcg_850) h rfl
