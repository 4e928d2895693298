section
set_option synthInstance.maxHeartbeats 2000000 in
theorem M_tonight_b_ok {z : AZ} {d : Nat} (hdd : 8 ≤ d) {x1 : Int} {x2 : Int} : ∀ (tag : Nat) (p : Int × Int × Int × Int × Int × Int × Int) (g : AG) (r : Int × AG), M_tonight_b x1 x2 tag p g = some r → (tag = 1 → AW z (RX12, cX12_tonight, 11, (some .int)) d (QD (some .int) r) 27 [(0, rv z 117), (1, iv x1), (2, iv x2), (3, iv p.1), (4, iv p.2.1), (5, iv p.2.2.1)] [] g) ∧ (tag = 2 → AW z (RX12, cX12_tonight, 11, (some .int)) d (QD (some .int) r) 43 [(0, rv z 117), (1, iv x1), (2, iv x2), (3, iv p.1), (4, iv p.2.1), (5, iv p.2.2.1), (6, iv p.2.2.2.1), (7, iv p.2.2.2.2.1), (8, iv p.2.2.2.2.2.1)] [] g) ∧ (tag = 3 → AW z (RX12, cX12_tonight, 11, (some .int)) d (QD (some .int) r) 55 [(0, rv z 117), (1, iv x1), (2, iv x2), (3, iv p.1), (4, iv p.2.1), (5, iv p.2.2.1), (6, iv p.2.2.2.1), (7, iv p.2.2.2.2.1), (8, iv p.2.2.2.2.2.1), (9, iv p.2.2.2.2.2.2)] [] g) ∧ (tag = 4 → AW z (RX12, cX12_tonight, 11, (some .int)) d (QD (some .int) r) 94 [(0, rv z 117), (1, iv x1), (2, iv x2), (3, iv p.1), (4, iv p.2.1), (5, iv p.2.2.1), (6, iv p.2.2.2.1), (7, iv p.2.2.2.2.1), (8, iv p.2.2.2.2.2.1), (9, iv p.2.2.2.2.2.2)] [] g) := by
  refine M_tonight_b.partial_correctness x1 x2 (fun tag p g r => (tag = 1 → AW z (RX12, cX12_tonight, 11, (some .int)) d (QD (some .int) r) 27 [(0, rv z 117), (1, iv x1), (2, iv x2), (3, iv p.1), (4, iv p.2.1), (5, iv p.2.2.1)] [] g) ∧ (tag = 2 → AW z (RX12, cX12_tonight, 11, (some .int)) d (QD (some .int) r) 43 [(0, rv z 117), (1, iv x1), (2, iv x2), (3, iv p.1), (4, iv p.2.1), (5, iv p.2.2.1), (6, iv p.2.2.2.1), (7, iv p.2.2.2.2.1), (8, iv p.2.2.2.2.2.1)] [] g) ∧ (tag = 3 → AW z (RX12, cX12_tonight, 11, (some .int)) d (QD (some .int) r) 55 [(0, rv z 117), (1, iv x1), (2, iv x2), (3, iv p.1), (4, iv p.2.1), (5, iv p.2.2.1), (6, iv p.2.2.2.1), (7, iv p.2.2.2.2.1), (8, iv p.2.2.2.2.2.1), (9, iv p.2.2.2.2.2.2)] [] g) ∧ (tag = 4 → AW z (RX12, cX12_tonight, 11, (some .int)) d (QD (some .int) r) 94 [(0, rv z 117), (1, iv x1), (2, iv x2), (3, iv p.1), (4, iv p.2.1), (5, iv p.2.2.1), (6, iv p.2.2.2.1), (7, iv p.2.2.2.2.1), (8, iv p.2.2.2.2.2.1), (9, iv p.2.2.2.2.2.2)] [] g)) ?_
  intro fb9 ih tag p g r h
  refine ⟨fun h9 => ?_, fun h9 => ?_, fun h9 => ?_, fun h9 => ?_⟩
  · subst h9
    replace h := hT h rfl
    refine AW.iload 5 (dcN_16 dcg_692 :) rfl ?_
    refine AW.bipush (dcN_17 dcg_692 :) (by decide) (by decide) ?_
    refine AW.icmp_ge (tgt := 233) (dcN_18 dcg_692 :) (by decide) (fun c1 => ?_) (fun c1 => ?_)
    · replace h := hT h c1
      refine AW.iload_n 2 (dcN_3 dcg_699 :) rfl ?_
      refine AW.bipush (dcN_4 dcg_699 :) (by decide) (by decide) ?_
      obtain ⟨t2, e3, h⟩ := hBe h
      refine AW.join (tgt := 245) (lv1 := [(0, rv z 117), (1, iv x1), (2, iv x2), (3, iv p.1), (4, iv p.2.1), (5, iv p.2.2.1)]) (st1 := [iv t2]) (g1 := g) ?_ (fun J236 => ?_)
      · exact AW.iret1 rfl (dcN_9 dcg_699 :) h rfl
      refine AW.icmp_ne (tgt := 243) (dcN_5 dcg_699 :) (by decide) (fun c4 => ?_) (fun c4 => ?_)
      · refine AW.iload 4 (dcN_8 dcg_699 :) rfl ?_
        exact AW.val (e3.trans (if_neg c4)) J236
      · refine AW.iload_n 3 (dcN_6 dcg_699 :) rfl ?_
        refine AW.goto (tgt := 245) (dcN_7 dcg_699 :) (by decide) ?_
        exact AW.val (e3.trans (if_pos c4)) J236
    · replace h := hF h c1
      refine AW.iconst (dcN_0 dcg_693 :) ?_
      refine AW.istore (lv1 := [(6, iv 0), (0, rv z 117), (1, iv x1), (2, iv x2), (3, iv p.1), (4, iv p.2.1), (5, iv p.2.2.1)]) (dcN_1 dcg_693 :) (by decide) rfl ?_
      refine AW.iconst (dcN_2 dcg_693 :) ?_
      refine AW.istore (lv1 := [(7, iv 0), (6, iv 0), (0, rv z 117), (1, iv x1), (2, iv x2), (3, iv p.1), (4, iv p.2.1), (5, iv p.2.2.1)]) (dcN_3 dcg_693 :) (by decide) rfl ?_
      refine AW.iconst (dcN_4 dcg_693 :) ?_
      refine AW.istore (lv1 := [(8, iv 0), (7, iv 0), (6, iv 0), (0, rv z 117), (1, iv x1), (2, iv x2), (3, iv p.1), (4, iv p.2.1), (5, iv p.2.2.1)]) (dcN_5 dcg_693 :) (by decide) rfl ?_
      refine AW.sub (lv1 := [(0, rv z 117), (1, iv x1), (2, iv x2), (3, iv p.1), (4, iv p.2.1), (5, iv p.2.2.1), (6, iv 0), (7, iv 0), (8, iv 0)]) [3, 4, 5, 6, 7, 8, 2, 1, 0] rfl ?_
      exact (ih _ _ _ _ h).2.1 rfl
  · subst h9
    replace h := hF h (by decide)
    replace h := hT h rfl
    refine AW.iload 8 (dcN_6 dcg_693 :) rfl ?_
    refine AW.aloadr_n 0 (dcN_7 dcg_693 :) rfl ?_
    refine AW.getI af_X12_235_117 sr_117_12 (dcN_8 dcg_693 :) ?_
    refine AW.icmp_ge (tgt := 188) (dcN_9 dcg_693 :) (by decide) (fun c1 => ?_) (fun c1 => ?_)
    · replace h := hT h c1
      refine AW.iload 5 (dcN_13 dcg_697 :) rfl ?_
      refine AW.iload_n 2 (dcN_14 dcg_697 :) rfl ?_
      refine AW.icmp_ne (tgt := 197) (dcN_15 dcg_697 :) (by decide) (fun c2 => ?_) (fun c2 => ?_)
      · replace h := hF h c2
        refine AW.iload 7 (dcN_2 dcg_698 :) rfl ?_
        refine AW.iload 4 (dcN_3 dcg_698 :) rfl ?_
        obtain ⟨t3, e4, h⟩ := hBe h
        refine AW.join (tgt := 210) (lv1 := [(0, rv z 117), (1, iv x1), (2, iv x2), (3, iv p.1), (4, iv p.2.1), (5, iv p.2.2.1), (6, iv p.2.2.2.1), (7, iv p.2.2.2.2.1), (8, iv p.2.2.2.2.2.1)]) (st1 := [iv t3]) (g1 := g) ?_ (fun J201 => ?_)
        · refine AW.istore_n (lv1 := [(3, iv t3), (0, rv z 117), (1, iv x1), (2, iv x2), (4, iv p.2.1), (5, iv p.2.2.1), (6, iv p.2.2.2.1), (7, iv p.2.2.2.2.1), (8, iv p.2.2.2.2.2.1)]) (dcN_8 dcg_698 :) (by decide) rfl ?_
          refine AW.iload 7 (dcN_9 dcg_698 :) rfl ?_
          refine AW.iload 4 (dcN_10 dcg_698 :) rfl ?_
          obtain ⟨t5, e6, h⟩ := hBe h
          refine AW.join (tgt := 225) (lv1 := [(3, iv t3), (0, rv z 117), (1, iv x1), (2, iv x2), (4, iv p.2.1), (5, iv p.2.2.1), (6, iv p.2.2.2.1), (7, iv p.2.2.2.2.1), (8, iv p.2.2.2.2.2.1)]) (st1 := [iv t5]) (g1 := g) ?_ (fun J215 => ?_)
          · refine AW.istore (lv1 := [(4, iv t5), (3, iv t3), (0, rv z 117), (1, iv x1), (2, iv x2), (5, iv p.2.2.1), (6, iv p.2.2.2.1), (7, iv p.2.2.2.2.1), (8, iv p.2.2.2.2.2.1)]) (dcN_0 dcg_699 :) (by decide) rfl ?_
            refine AW.iinc (lv1 := [(5, iv (p.2.2.1 + 1)), (4, iv t5), (3, iv t3), (0, rv z 117), (1, iv x1), (2, iv x2), (6, iv p.2.2.2.1), (7, iv p.2.2.2.2.1), (8, iv p.2.2.2.2.2.1)]) 5 (dcN_1 dcg_699 :) rfl (by decide) rfl ?_
            refine AW.goto (tgt := 27) (dcN_2 dcg_699 :) (by decide) ?_
            refine AW.sub (lv1 := [(0, rv z 117), (1, iv x1), (2, iv x2), (3, iv t3), (4, iv t5), (5, iv (p.2.2.1 + 1))]) [3, 4, 5, 2, 1, 0] rfl ?_
            exact (ih _ _ _ _ h).1 rfl
          refine AW.icmp_le (tgt := 223) (dcN_11 dcg_698 :) (by decide) (fun c7 => ?_) (fun c7 => ?_)
          · refine AW.iload 4 (dcN_14 dcg_698 :) rfl ?_
            exact AW.val (e6.trans (if_pos c7)) J215
          · refine AW.iload 7 (dcN_12 dcg_698 :) rfl ?_
            refine AW.goto (tgt := 225) (dcN_13 dcg_698 :) (by decide) ?_
            exact AW.val (e6.trans (if_neg c7)) J215
        refine AW.icmp_le (tgt := 209) (dcN_4 dcg_698 :) (by decide) (fun c8 => ?_) (fun c8 => ?_)
        · refine AW.iload_n 3 (dcN_7 dcg_698 :) rfl ?_
          exact AW.val (e4.trans (if_pos c8)) J201
        · refine AW.iload 5 (dcN_5 dcg_698 :) rfl ?_
          refine AW.goto (tgt := 210) (dcN_6 dcg_698 :) (by decide) ?_
          exact AW.val (e4.trans (if_neg c8)) J201
      · replace h := hT h c2
        refine AW.iload 6 (dcN_0 dcg_698 :) rfl ?_
        exact AW.iret1 rfl (dcN_1 dcg_698 :) h rfl
    · replace h := hF h c1
      refine AW.iconst (dcN_10 dcg_693 :) ?_
      refine AW.istore (lv1 := [(9, iv (-1)), (0, rv z 117), (1, iv x1), (2, iv x2), (3, iv p.1), (4, iv p.2.1), (5, iv p.2.2.1), (6, iv p.2.2.2.1), (7, iv p.2.2.2.2.1), (8, iv p.2.2.2.2.2.1)]) (dcN_11 dcg_693 :) (by decide) rfl ?_
      refine AW.sub (lv1 := [(0, rv z 117), (1, iv x1), (2, iv x2), (3, iv p.1), (4, iv p.2.1), (5, iv p.2.2.1), (6, iv p.2.2.2.1), (7, iv p.2.2.2.2.1), (8, iv p.2.2.2.2.2.1), (9, iv (-1))]) [1, 2, 3, 4, 5, 6, 7, 8, 9, 0] rfl ?_
      exact (ih _ _ _ _ h).2.2.1 rfl
  · subst h9
    replace h := hF h (by decide)
    replace h := hF h (by decide)
    replace h := hT h rfl
    refine AW.iload 9 (dcN_12 dcg_693 :) rfl ?_
    refine AW.iconst (dcN_13 dcg_693 :) ?_
    refine AW.iadd (dcN_14 dcg_693 :) ?_
    refine AW.aloadr_n 0 (dcN_15 dcg_693 :) rfl ?_
    refine AW.getR af_X12_133_117 sr_117_56 (dcN_16 dcg_693 :) ?_
    refine AW.iload 8 (dcN_17 dcg_693 :) rfl ?_
    obtain ⟨k1, h⟩ := hK h
    refine AW.iald kc_155 sk_155 k1 (dcN_0 dcg_694 :) ?_
    refine AW.icmp_ge (tgt := 94) (dcN_1 dcg_694 :) (by decide) (fun c2 => ?_) (fun c2 => ?_)
    · replace h := hT h c2
      exact (ih _ _ _ _ h).2.2.2 rfl
    · replace h := hF h c2
      refine AW.aloadr_n 0 (dcN_2 dcg_694 :) rfl ?_
      refine AW.getR af_X12_139_117 sr_117_58 (dcN_3 dcg_694 :) ?_
      refine AW.bipush (dcN_4 dcg_694 :) (by decide) (by decide) ?_
      refine AW.iload 8 (dcN_5 dcg_694 :) rfl ?_
      refine AW.imul (dcN_6 dcg_694 :) ?_
      refine AW.iload 9 (dcN_7 dcg_694 :) rfl ?_
      refine AW.iadd (dcN_8 dcg_694 :) ?_
      refine AW.iconst (dcN_9 dcg_694 :) ?_
      refine AW.iadd (dcN_10 dcg_694 :) ?_
      obtain ⟨k3, h⟩ := hK h
      refine AW.iald kc_157 sk_157 k3 (dcN_11 dcg_694 :) ?_
      refine AW.iload_n 1 (dcN_12 dcg_694 :) rfl ?_
      refine AW.icmp_gt (tgt := 94) (dcN_13 dcg_694 :) (by decide) (fun c4 => ?_) (fun c4 => ?_)
      · replace h := hT h c4
        exact (ih _ _ _ _ h).2.2.2 rfl
      · replace h := hF h c4
        refine AW.iinc (lv1 := [(9, iv (p.2.2.2.2.2.2 + 1)), (0, rv z 117), (1, iv x1), (2, iv x2), (3, iv p.1), (4, iv p.2.1), (5, iv p.2.2.1), (6, iv p.2.2.2.1), (7, iv p.2.2.2.2.1), (8, iv p.2.2.2.2.2.1)]) 9 (dcN_14 dcg_694 :) rfl (by decide) rfl ?_
        refine AW.goto (tgt := 55) (dcN_15 dcg_694 :) (by decide) ?_
        refine AW.sub (lv1 := [(0, rv z 117), (1, iv x1), (2, iv x2), (3, iv p.1), (4, iv p.2.1), (5, iv p.2.2.1), (6, iv p.2.2.2.1), (7, iv p.2.2.2.2.1), (8, iv p.2.2.2.2.2.1), (9, iv (p.2.2.2.2.2.2 + 1))]) [1, 2, 3, 4, 5, 6, 7, 8, 9, 0] rfl ?_
        exact (ih _ _ _ _ h).2.2.1 rfl
  · subst h9
    replace h := hF h (by decide)
    replace h := hF h (by decide)
    replace h := hF h (by decide)
    replace h := hT h rfl
    refine AW.iload 9 (dcN_16 dcg_694 :) rfl ?_
    refine AW.iconst (dcN_0 dcg_695 :) ?_
    obtain ⟨r8, e9, h⟩ := hC h
    refine AW.join (tgt := 153) (lv1 := [(0, rv z 117), (1, iv x1), (2, iv x2), (3, iv p.1), (4, iv p.2.1), (5, iv p.2.2.1), (6, iv p.2.2.2.1), (7, iv p.2.2.2.2.1), (8, iv p.2.2.2.2.2.1)]) (st1 := [iv r8.1]) (g1 := r8.2) ?_ (fun J97 => ?_)
    · refine AW.istore (lv1 := [(10, iv r8.1), (0, rv z 117), (1, iv x1), (2, iv x2), (3, iv p.1), (4, iv p.2.1), (5, iv p.2.2.1), (6, iv p.2.2.2.1), (7, iv p.2.2.2.2.1), (8, iv p.2.2.2.2.2.1)]) (dcN_15 dcg_696 :) (by decide) rfl ?_
      refine AW.iload 0 (dcN_16 dcg_696 :) rfl ?_
      refine AW.iconst (dcN_17 dcg_696 :) ?_
      obtain ⟨r12, e13, h⟩ := hC h
      refine AW.join (tgt := 182) (lv1 := [(0, rv z 117), (1, iv x1), (2, iv x2), (3, iv p.1), (4, iv p.2.1), (5, iv p.2.2.1), (6, iv r12.1), (7, iv r12.2.1), (8, iv p.2.2.2.2.2.1)]) (st1 := []) (g1 := r12.2.2) ?_ (fun J158 => ?_)
      · refine AW.iinc (lv1 := [(8, iv (p.2.2.2.2.2.1 + 1)), (0, rv z 117), (1, iv x1), (2, iv x2), (3, iv p.1), (4, iv p.2.1), (5, iv p.2.2.1), (6, iv r12.1), (7, iv r12.2.1)]) 8 (dcN_11 dcg_697 :) rfl (by decide) rfl ?_
        refine AW.goto (tgt := 43) (dcN_12 dcg_697 :) (by decide) ?_
        refine AW.sub (lv1 := [(0, rv z 117), (1, iv x1), (2, iv x2), (3, iv p.1), (4, iv p.2.1), (5, iv p.2.2.1), (6, iv r12.1), (7, iv r12.2.1), (8, iv (p.2.2.2.2.2.1 + 1))]) [1, 2, 3, 4, 5, 6, 7, 8, 0] rfl ?_
        exact (ih _ _ _ _ h).2.1 rfl
      replace h := e13
      refine AW.icmp_eq (tgt := 182) (dcN_18 dcg_696 :) (by decide) (fun c10 => ?_) (fun c10 => ?_)
      · replace h := hT h c10
        refine AW.sub (lv1 := [(0, rv z 117), (1, iv x1), (2, iv x2), (3, iv p.1), (4, iv p.2.1), (5, iv p.2.2.1), (6, iv p.2.2.2.1), (7, iv p.2.2.2.2.1), (8, iv p.2.2.2.2.2.1)]) [1, 2, 3, 4, 5, 6, 7, 8, 9] rfl ?_
        cases h
        exact J158
      · replace h := hF h c10
        refine AW.iload 0 (dcN_0 dcg_697 :) rfl ?_
        refine AW.iload_n 2 (dcN_1 dcg_697 :) rfl ?_
        refine AW.icmp_le (tgt := 170) (dcN_2 dcg_697 :) (by decide) (fun c11 => ?_) (fun c11 => ?_)
        · replace h := hT h c11
          refine AW.iload 7 (dcN_4 dcg_697 :) rfl ?_
          refine AW.iconst (dcN_5 dcg_697 :) ?_
          refine AW.iload 9 (dcN_6 dcg_697 :) rfl ?_
          refine AW.ishl (dcN_7 dcg_697 :) ?_
          refine AW.ior (dcN_8 dcg_697 :) ?_
          refine AW.istore (lv1 := [(6, iv (orI p.2.2.2.1 (shlI 1 p.2.2.2.2.2.1))), (10, iv r8.1), (0, rv z 117), (1, iv x1), (2, iv x2), (3, iv p.1), (4, iv p.2.1), (5, iv p.2.2.1), (7, iv p.2.2.2.2.1), (8, iv p.2.2.2.2.2.1)]) (dcN_9 dcg_697 :) (by decide) rfl ?_
          refine AW.iinc (lv1 := [(7, iv (p.2.2.2.2.1 + 1)), (6, iv (orI p.2.2.2.1 (shlI 1 p.2.2.2.2.2.1))), (10, iv r8.1), (0, rv z 117), (1, iv x1), (2, iv x2), (3, iv p.1), (4, iv p.2.1), (5, iv p.2.2.1), (8, iv p.2.2.2.2.2.1)]) 8 (dcN_10 dcg_697 :) rfl (by decide) rfl ?_
          refine AW.sub (lv1 := [(0, rv z 117), (1, iv x1), (2, iv x2), (3, iv p.1), (4, iv p.2.1), (5, iv p.2.2.1), (6, iv (orI p.2.2.2.1 (shlI 1 p.2.2.2.2.2.1))), (7, iv (p.2.2.2.2.1 + 1)), (8, iv p.2.2.2.2.2.1)]) [3, 4, 5, 6, 7, 8, 1, 0, 9] rfl ?_
          cases h
          exact J158
        · replace h := hF h c11
          refine AW.goto (tgt := 182) (dcN_3 dcg_697 :) (by decide) ?_
          refine AW.sub (lv1 := [(0, rv z 117), (1, iv x1), (2, iv x2), (3, iv p.1), (4, iv p.2.1), (5, iv p.2.2.1), (6, iv p.2.2.2.1), (7, iv p.2.2.2.2.1), (8, iv p.2.2.2.2.2.1)]) [1, 2, 3, 4, 5, 6, 7, 8, 9] rfl ?_
          cases h
          exact J158
    replace h := e9
    refine AW.icmp_ne (tgt := 119) (dcN_1 dcg_695 :) (by decide) (fun c1 => ?_) (fun c1 => ?_)
    · replace h := hF h c1
      refine AW.aloadr_n 0 (dcN_12 dcg_695 :) rfl ?_
      refine AW.iload 8 (dcN_13 dcg_695 :) rfl ?_
      refine AW.aloadr_n 0 (dcN_14 dcg_695 :) rfl ?_
      refine AW.getR af_X12_136_117 sr_117_57 (dcN_15 dcg_695 :) ?_
      refine AW.bipush (dcN_16 dcg_695 :) (by decide) (by decide) ?_
      refine AW.iload 8 (dcN_0 dcg_696 :) rfl ?_
      refine AW.imul (dcN_1 dcg_696 :) ?_
      refine AW.iload 9 (dcN_2 dcg_696 :) rfl ?_
      refine AW.iadd (dcN_3 dcg_696 :) ?_
      obtain ⟨k2, h⟩ := hK h
      refine AW.iald kc_156 sk_156 k2 (dcN_4 dcg_696 :) ?_
      refine AW.iload 5 (dcN_5 dcg_696 :) rfl ?_
      refine AW.aloadr_n 0 (dcN_6 dcg_696 :) rfl ?_
      refine AW.getR af_X12_139_117 sr_117_58 (dcN_7 dcg_696 :) ?_
      refine AW.bipush (dcN_8 dcg_696 :) (by decide) (by decide) ?_
      refine AW.iload 8 (dcN_9 dcg_696 :) rfl ?_
      refine AW.imul (dcN_10 dcg_696 :) ?_
      refine AW.iload 9 (dcN_11 dcg_696 :) rfl ?_
      refine AW.iadd (dcN_12 dcg_696 :) ?_
      refine AW.iald kc_157 sk_157 k2 (dcN_13 dcg_696 :) ?_
      obtain ⟨r3, e4, h⟩ := hC h
      refine AW.callVi (As := [iv p.2.2.2.2.2.1, iv (g 156 (ix ((10 * p.2.2.2.2.2.1) + p.2.2.2.2.2.2))), iv p.2.2.1, iv (g 157 (ix ((10 * p.2.2.2.2.2.1) + p.2.2.2.2.2.2)))]) (st := []) (M_led_ok e4) cq_X12_441 cr_117_X12_led (Nat.le_trans (by decide) hdd) rfl (dcN_14 dcg_696 :) rfl (Nat.le_of_ble_eq_true rfl) ?_
      refine AW.sub (lv1 := [(0, rv z 117), (1, iv x1), (2, iv x2), (3, iv p.1), (4, iv p.2.1), (5, iv p.2.2.1), (6, iv p.2.2.2.1), (7, iv p.2.2.2.2.1), (8, iv p.2.2.2.2.2.1)]) [0, 1, 2, 3, 4, 5, 6, 7, 8] rfl ?_
      cases h
      exact J97
    · replace h := hT h c1
      refine AW.aloadr_n 0 (dcN_2 dcg_695 :) rfl ?_
      refine AW.iload 8 (dcN_3 dcg_695 :) rfl ?_
      refine AW.aloadr_n 0 (dcN_4 dcg_695 :) rfl ?_
      refine AW.getR af_X12_38_117 sr_117_8 (dcN_5 dcg_695 :) ?_
      refine AW.iload 8 (dcN_6 dcg_695 :) rfl ?_
      obtain ⟨k5, h⟩ := hK h
      refine AW.iald kc_126 sk_126 k5 (dcN_7 dcg_695 :) ?_
      refine AW.iload 5 (dcN_8 dcg_695 :) rfl ?_
      refine AW.iconst (dcN_9 dcg_695 :) ?_
      obtain ⟨r6, e7, h⟩ := hC h
      refine AW.callVi (As := [iv p.2.2.2.2.2.1, iv (g 126 (ix p.2.2.2.2.2.1)), iv p.2.2.1, iv 0]) (st := []) (M_led_ok e7) cq_X12_441 cr_117_X12_led (Nat.le_trans (by decide) hdd) rfl (dcN_10 dcg_695 :) rfl (Nat.le_of_ble_eq_true rfl) ?_
      refine AW.goto (tgt := 153) (dcN_11 dcg_695 :) (by decide) ?_
      refine AW.sub (lv1 := [(0, rv z 117), (1, iv x1), (2, iv x2), (3, iv p.1), (4, iv p.2.1), (5, iv p.2.2.1), (6, iv p.2.2.2.1), (7, iv p.2.2.2.2.1), (8, iv p.2.2.2.2.2.1)]) [0, 1, 2, 3, 4, 5, 6, 7, 8] rfl ?_
      cases h
      exact J97
theorem M_tonight_ok {z : AZ} {x1 : Int} {x2 : Int} {g : AG} {r : Int × AG} (h : M_tonight x1 x2 g = some r) : AMf z yX12_tonight cX12_tonight 11 (some .int) 8 [rv z 117, iv x1, iv x2] g r := by
  intro d hdd
  refine AM.of (by decide +kernel) (Nat.le_of_ble_eq_true rfl) ?_
  show AW z (RX12, cX12_tonight, 11, (some .int)) d (QD (some .int) r) 0 [(0, rv z 117), (1, iv x1), (2, iv x2)] [] g
  unfold M_tonight at h
  refine AW.iload_n 1 (dcN_0 dcg_692 :) rfl ?_
  refine AW.callSi (As := [iv x1]) (st := []) M_isTime_ok cq_X12_438 st_X12_isTime (Nat.le_trans (by decide) hdd) rfl (dcN_1 dcg_692 :) rfl (Nat.le_of_ble_eq_true rfl) ?_
  refine AW.if_eq (tgt := 17) (dcN_2 dcg_692 :) (by decide) (fun c1 => ?_) (fun c1 => ?_)
  · replace h := hT h c1
    refine AW.iconst (dcN_8 dcg_692 :) ?_
    exact AW.iret1 rfl (dcN_9 dcg_692 :) h rfl
  · replace h := hF h c1
    refine AW.iload_n 2 (dcN_3 dcg_692 :) rfl ?_
    refine AW.iconst (dcN_4 dcg_692 :) ?_
    refine AW.bipush (dcN_5 dcg_692 :) (by decide) (by decide) ?_
    refine AW.callSi (As := [iv x2, iv 0, iv 17]) (st := []) M_isIn_ok cq_X12_3 st_X12_isIn (Nat.le_trans (by decide) hdd) rfl (dcN_6 dcg_692 :) rfl (Nat.le_of_ble_eq_true rfl) ?_
    refine AW.if_ne (tgt := 19) (dcN_7 dcg_692 :) (by decide) (fun c2 => ?_) (fun c2 => ?_)
    · replace h := hF h c2
      refine AW.iconst (dcN_10 dcg_692 :) ?_
      refine AW.istore_n (lv1 := [(3, iv 0), (0, rv z 117), (1, iv x1), (2, iv x2)]) (dcN_11 dcg_692 :) (by decide) rfl ?_
      refine AW.iconst (dcN_12 dcg_692 :) ?_
      refine AW.istore (lv1 := [(4, iv 0), (3, iv 0), (0, rv z 117), (1, iv x1), (2, iv x2)]) (dcN_13 dcg_692 :) (by decide) rfl ?_
      refine AW.iconst (dcN_14 dcg_692 :) ?_
      refine AW.istore (lv1 := [(5, iv 0), (4, iv 0), (3, iv 0), (0, rv z 117), (1, iv x1), (2, iv x2)]) (dcN_15 dcg_692 :) (by decide) rfl ?_
      refine AW.sub (lv1 := [(0, rv z 117), (1, iv x1), (2, iv x2), (3, iv 0), (4, iv 0), (5, iv 0)]) [3, 4, 5, 2, 1, 0] rfl ?_
      exact (M_tonight_b_ok hdd _ _ _ _ h).1 rfl
    · replace h := hT h c2
      refine AW.iconst (dcN_8 dcg_692 :) ?_
      exact AW.iret1 rfl (dcN_9 dcg_692 :) h rfl
set_option synthInstance.maxHeartbeats 2000000 in
theorem M_queue_b_ok {z : AZ} {d : Nat} (hdd : 1 ≤ d) {x1 : Int} {x2 : Int} {g : AG} : ∀ (r : Int × AG), M_queue_b x1 x2 g = some r → AW z (RX12, cX12_queue, 3, (some .int)) d (QD (some .int) r) 65 [(0, rv z 117), (1, iv x1), (2, iv x2)] [] g := by
  intro r h
  unfold M_queue_b at h
  refine AW.aloadr_n 0 (dcN_1 dcg_702 :) rfl ?_
  refine AW.getR af_X12_142_117 sr_117_60 (dcN_2 dcg_702 :) ?_
  refine AW.aloadr_n 0 (dcN_3 dcg_702 :) rfl ?_
  refine AW.getI af_X12_475_117 sr_117_59 (dcN_4 dcg_702 :) ?_
  refine AW.iload_n 1 (dcN_5 dcg_702 :) rfl ?_
  obtain ⟨k1, h⟩ := hK h
  obtain ⟨g2, e3, h⟩ := hBe h
  refine AW.iast kc_158 sk_158 k1 (dcN_6 dcg_702 :) e3 ?_
  refine AW.aloadr_n 0 (dcN_7 dcg_702 :) rfl ?_
  refine AW.getR af_X12_145_117 sr_117_61 (dcN_8 dcg_702 :) ?_
  refine AW.aloadr_n 0 (dcN_9 dcg_702 :) rfl ?_
  refine AW.getI af_X12_475_117 sr_117_59 (dcN_10 dcg_702 :) ?_
  refine AW.iload_n 2 (dcN_11 dcg_702 :) rfl ?_
  obtain ⟨k4, h⟩ := hK h
  obtain ⟨g5, e6, h⟩ := hBe h
  refine AW.iast kc_159 sk_159 k4 (dcN_12 dcg_702 :) e6 ?_
  refine AW.aloadr_n 0 (dcN_13 dcg_702 :) rfl ?_
  refine AW.duprr (dcN_14 dcg_702 :) ?_
  refine AW.getI af_X12_475_117 sr_117_59 (dcN_15 dcg_702 :) ?_
  refine AW.iconst (dcN_16 dcg_702 :) ?_
  refine AW.iadd (dcN_17 dcg_702 :) ?_
  obtain ⟨g7, e8, h⟩ := hBe h
  refine AW.putI ap_X12_475_117 sr_117_59 (dcN_18 dcg_702 :) e8 ?_
  refine AW.aloadr_n 0 (dcN_19 dcg_702 :) rfl ?_
  refine AW.getI af_X12_475_117 sr_117_59 (dcN_0 dcg_703 :) ?_
  exact AW.iret1 rfl (dcN_1 dcg_703 :) h rfl
theorem M_queue_ok {z : AZ} {x1 : Int} {x2 : Int} {g : AG} {r : Int × AG} (h : M_queue x1 x2 g = some r) : AMf z yX12_queue cX12_queue 3 (some .int) 1 [rv z 117, iv x1, iv x2] g r := by
  intro d hdd
  refine AM.of (by decide +kernel) (Nat.le_of_ble_eq_true rfl) ?_
  show AW z (RX12, cX12_queue, 3, (some .int)) d (QD (some .int) r) 0 [(0, rv z 117), (1, iv x1), (2, iv x2)] [] g
  unfold M_queue at h
  refine AW.iload_n 2 (dcN_0 dcg_700 :) rfl ?_
  refine AW.iconst (dcN_1 dcg_700 :) ?_
  refine AW.icmp_ne (tgt := 12) (dcN_2 dcg_700 :) (by decide) (fun c1 => ?_) (fun c1 => ?_)
  · replace h := hF h c1
    refine AW.iload_n 1 (dcN_8 dcg_700 :) rfl ?_
    refine AW.iconst (dcN_9 dcg_700 :) ?_
    refine AW.sipush (dcN_10 dcg_700 :) (by decide) (by decide) ?_
    refine AW.callSi (As := [iv x1, iv 0, iv 9999]) (st := []) M_isIn_ok cq_X12_3 st_X12_isIn (Nat.le_trans (by decide) hdd) rfl (dcN_11 dcg_700 :) rfl (Nat.le_of_ble_eq_true rfl) ?_
    refine AW.if_eq (tgt := 63) (dcN_12 dcg_700 :) (by decide) (fun c2 => ?_) (fun c2 => ?_)
    · replace h := hT h c2
      refine AW.iconst (dcN_16 dcg_701 :) ?_
      exact AW.iret1 rfl (dcN_0 dcg_702 :) h rfl
    · replace h := hF h c2
      refine AW.iload_n 2 (dcN_13 dcg_700 :) rfl ?_
      refine AW.iconst (dcN_14 dcg_700 :) ?_
      refine AW.iconst (dcN_15 dcg_700 :) ?_
      refine AW.callSi (As := [iv x2, iv 0, iv 1]) (st := []) M_isIn_ok cq_X12_3 st_X12_isIn (Nat.le_trans (by decide) hdd) rfl (dcN_16 dcg_700 :) rfl (Nat.le_of_ble_eq_true rfl) ?_
      refine AW.if_eq (tgt := 63) (dcN_17 dcg_700 :) (by decide) (fun c3 => ?_) (fun c3 => ?_)
      · replace h := hT h c3
        refine AW.iconst (dcN_16 dcg_701 :) ?_
        exact AW.iret1 rfl (dcN_0 dcg_702 :) h rfl
      · replace h := hF h c3
        refine AW.aloadr_n 0 (dcN_0 dcg_701 :) rfl ?_
        refine AW.getI af_X12_475_117 sr_117_59 (dcN_1 dcg_701 :) ?_
        refine AW.bipush (dcN_2 dcg_701 :) (by decide) (by decide) ?_
        refine AW.icmp_eq (tgt := 63) (dcN_3 dcg_701 :) (by decide) (fun c4 => ?_) (fun c4 => ?_)
        · replace h := hT h c4
          refine AW.iconst (dcN_16 dcg_701 :) ?_
          exact AW.iret1 rfl (dcN_0 dcg_702 :) h rfl
        · replace h := hF h c4
          refine AW.aloadr_n 0 (dcN_4 dcg_701 :) rfl ?_
          refine AW.getI af_X12_475_117 sr_117_59 (dcN_5 dcg_701 :) ?_
          refine AW.if_le (tgt := 65) (dcN_6 dcg_701 :) (by decide) (fun c5 => ?_) (fun c5 => ?_)
          · replace h := hT h c5
            exact M_queue_b_ok hdd _ h
          · replace h := hF h c5
            refine AW.iload_n 1 (dcN_7 dcg_701 :) rfl ?_
            refine AW.aloadr_n 0 (dcN_8 dcg_701 :) rfl ?_
            refine AW.getR af_X12_142_117 sr_117_60 (dcN_9 dcg_701 :) ?_
            refine AW.aloadr_n 0 (dcN_10 dcg_701 :) rfl ?_
            refine AW.getI af_X12_475_117 sr_117_59 (dcN_11 dcg_701 :) ?_
            refine AW.iconst (dcN_12 dcg_701 :) ?_
            refine AW.isub (dcN_13 dcg_701 :) ?_
            obtain ⟨k6, h⟩ := hK h
            refine AW.iald kc_158 sk_158 k6 (dcN_14 dcg_701 :) ?_
            refine AW.icmp_ge (tgt := 65) (dcN_15 dcg_701 :) (by decide) (fun c7 => ?_) (fun c7 => ?_)
            · replace h := hT h c7
              exact M_queue_b_ok hdd _ h
            · replace h := hF h c7
              refine AW.iconst (dcN_16 dcg_701 :) ?_
              exact AW.iret1 rfl (dcN_0 dcg_702 :) h rfl
  · replace h := hT h c1
    refine AW.aloadr_n 0 (dcN_3 dcg_700 :) rfl ?_
    refine AW.iconst (dcN_4 dcg_700 :) ?_
    obtain ⟨g8, e9, h⟩ := hBe h
    refine AW.putI ap_X12_475_117 sr_117_59 (dcN_5 dcg_700 :) e9 ?_
    refine AW.iconst (dcN_6 dcg_700 :) ?_
    exact AW.iret1 rfl (dcN_7 dcg_700 :) h rfl
set_option synthInstance.maxHeartbeats 2000000 in
theorem M_waits_b_ok {z : AZ} {d : Nat} (hdd : 0 ≤ d) {g : AG} : ∀ (x1 : Int) (x2 : Int) (x3 : Int) (r : Int), M_waits_b g x1 x2 x3 = some r → AW z (RX12, cX12_waits, 6, (some .int)) d (QD (some .int) (r, g)) 6 [(0, rv z 117), (1, iv x1), (2, iv x2), (3, iv x3)] [] g := by
  refine M_waits_b.partial_correctness g (fun x1 x2 x3 r => AW z (RX12, cX12_waits, 6, (some .int)) d (QD (some .int) (r, g)) 6 [(0, rv z 117), (1, iv x1), (2, iv x2), (3, iv x3)] [] g) ?_
  intro fb9 ih x1 x2 x3 r h
  refine AW.iload_n 3 (dcN_6 dcg_704 :) rfl ?_
  refine AW.aloadr_n 0 (dcN_7 dcg_704 :) rfl ?_
  refine AW.getI af_X12_475_117 sr_117_59 (dcN_8 dcg_704 :) ?_
  refine AW.icmp_ge (tgt := 104) (dcN_9 dcg_704 :) (by decide) (fun c1 => ?_) (fun c1 => ?_)
  · replace h := hT h c1
    refine AW.iload_n 2 (dcN_4 dcg_707 :) rfl ?_
    exact AW.iret2 rfl (dcN_5 dcg_707 :) h rfl
  · replace h := hF h c1
    refine AW.aloadr_n 0 (dcN_10 dcg_704 :) rfl ?_
    refine AW.getR af_X12_148_117 sr_117_62 (dcN_11 dcg_704 :) ?_
    refine AW.iload_n 3 (dcN_12 dcg_704 :) rfl ?_
    obtain ⟨k2, h⟩ := hK h
    refine AW.iald kc_160 sk_160 k2 (dcN_13 dcg_704 :) ?_
    refine AW.istore (lv1 := [(4, iv (g 160 (ix x3))), (0, rv z 117), (1, iv x1), (2, iv x2), (3, iv x3)]) (dcN_14 dcg_704 :) (by decide) rfl ?_
    refine AW.aloadr_n 1 (dcN_15 dcg_704 :) rfl ?_
    refine AW.getR af_X12_142_117 sr_117_60 (dcN_16 dcg_704 :) ?_
    refine AW.iload 0 (dcN_17 dcg_704 :) rfl ?_
    obtain ⟨k3, h⟩ := hK h
    refine AW.iald kc_158 sk_158 k3 (dcN_18 dcg_704 :) ?_
    refine AW.iload_n 2 (dcN_19 dcg_704 :) rfl ?_
    obtain ⟨r5, e6, h⟩ := hC h
    refine AW.join (tgt := 44) (lv1 := [(0, rv z 117), (2, iv x2), (3, iv x3), (4, iv (g 160 (ix x3)))]) (st1 := [iv r5]) (g1 := g) ?_ (fun J30 => ?_)
    · refine AW.istore (lv1 := [(5, iv r5), (0, rv z 117), (2, iv x2), (3, iv x3), (4, iv (g 160 (ix x3)))]) (dcN_6 dcg_705 :) (by decide) rfl ?_
      refine AW.iload_n 2 (dcN_7 dcg_705 :) rfl ?_
      refine AW.iload 0 (dcN_8 dcg_705 :) rfl ?_
      refine AW.aloadr_n 1 (dcN_9 dcg_705 :) rfl ?_
      refine AW.getR af_X12_142_117 sr_117_60 (dcN_10 dcg_705 :) ?_
      refine AW.iload 4 (dcN_11 dcg_705 :) rfl ?_
      refine AW.iald kc_158 sk_158 k3 (dcN_12 dcg_705 :) ?_
      refine AW.isub (dcN_13 dcg_705 :) ?_
      refine AW.iadd (dcN_14 dcg_705 :) ?_
      refine AW.istore_n (lv1 := [(2, iv (x2 + (r5 - (g 158 (ix (g 160 (ix x3))))))), (5, iv r5), (0, rv z 117), (3, iv x3), (4, iv (g 160 (ix x3)))]) (dcN_15 dcg_705 :) (by decide) rfl ?_
      refine AW.iload 1 (dcN_16 dcg_705 :) rfl ?_
      refine AW.bipush (dcN_17 dcg_705 :) (by decide) (by decide) ?_
      refine AW.iadd (dcN_18 dcg_705 :) ?_
      refine AW.iload_n 3 (dcN_0 dcg_706 :) rfl ?_
      obtain ⟨r13, e14, h⟩ := hC h
      refine AW.join (tgt := 96) (lv1 := [(0, rv z 117), (2, iv (x2 + (r5 - (g 158 (ix (g 160 (ix x3))))))), (3, iv x3)]) (st1 := [iv r13, iv (r5 + 15)]) (g1 := g) ?_ (fun J65 => ?_)
      · refine AW.iadd (dcN_0 dcg_707 :) ?_
        refine AW.istore_n (lv1 := [(1, iv ((r5 + 15) + r13)), (0, rv z 117), (2, iv (x2 + (r5 - (g 158 (ix (g 160 (ix x3))))))), (3, iv x3)]) (dcN_1 dcg_707 :) (by decide) rfl ?_
        refine AW.iinc (lv1 := [(3, iv (x3 + 1)), (1, iv ((r5 + 15) + r13)), (0, rv z 117), (2, iv (x2 + (r5 - (g 158 (ix (g 160 (ix x3)))))))]) 3 (dcN_2 dcg_707 :) rfl (by decide) rfl ?_
        refine AW.goto (tgt := 6) (dcN_3 dcg_707 :) (by decide) ?_
        refine AW.sub (lv1 := [(0, rv z 117), (1, iv ((r5 + 15) + r13)), (2, iv (x2 + (r5 - (g 158 (ix (g 160 (ix x3))))))), (3, iv (x3 + 1))]) [2, 1, 3, 0] rfl ?_
        exact ih _ _ _ _ h
      replace h := e14
      refine AW.if_le (tgt := 95) (dcN_1 dcg_706 :) (by decide) (fun c7 => ?_) (fun c7 => ?_)
      · replace h := hT h c7
        refine AW.iconst (dcN_18 dcg_706 :) ?_
        refine AW.sub (lv1 := [(0, rv z 117), (2, iv (x2 + (r5 - (g 158 (ix (g 160 (ix x3))))))), (3, iv x3)]) [2, 0, 3] rfl ?_
        cases h
        exact J65
      · replace h := hF h c7
        refine AW.aloadr_n 2 (dcN_2 dcg_706 :) rfl ?_
        refine AW.getR af_X12_145_117 sr_117_61 (dcN_3 dcg_706 :) ?_
        refine AW.aloadr_n 2 (dcN_4 dcg_706 :) rfl ?_
        refine AW.getR af_X12_148_117 sr_117_62 (dcN_5 dcg_706 :) ?_
        refine AW.iload_n 3 (dcN_6 dcg_706 :) rfl ?_
        refine AW.iconst (dcN_7 dcg_706 :) ?_
        refine AW.isub (dcN_8 dcg_706 :) ?_
        obtain ⟨k8, h⟩ := hK h
        refine AW.iald kc_160 sk_160 k8 (dcN_9 dcg_706 :) ?_
        obtain ⟨k9, h⟩ := hK h
        refine AW.iald kc_159 sk_159 k9 (dcN_10 dcg_706 :) ?_
        refine AW.aloadr_n 2 (dcN_11 dcg_706 :) rfl ?_
        refine AW.getR af_X12_145_117 sr_117_61 (dcN_12 dcg_706 :) ?_
        refine AW.iload 4 (dcN_13 dcg_706 :) rfl ?_
        refine AW.iald kc_159 sk_159 k3 (dcN_14 dcg_706 :) ?_
        obtain ⟨t10, e11, h⟩ := hBe h
        refine AW.join (tgt := 96) (lv1 := [(2, iv (x2 + (r5 - (g 158 (ix (g 160 (ix x3))))))), (5, iv r5), (0, rv z 117), (3, iv x3), (4, iv (g 160 (ix x3)))]) (st1 := [iv t10, iv (r5 + 15)]) (g1 := g) ?_ (fun J88 => ?_)
        · refine AW.sub (lv1 := [(0, rv z 117), (2, iv (x2 + (r5 - (g 158 (ix (g 160 (ix x3))))))), (3, iv x3)]) [2, 0, 3] rfl ?_
          cases h
          exact J65
        refine AW.icmp_ne (tgt := 95) (dcN_15 dcg_706 :) (by decide) (fun c12 => ?_) (fun c12 => ?_)
        · refine AW.iconst (dcN_18 dcg_706 :) ?_
          exact AW.val (e11.trans (if_neg c12)) J88
        · refine AW.iconst (dcN_16 dcg_706 :) ?_
          refine AW.goto (tgt := 96) (dcN_17 dcg_706 :) (by decide) ?_
          exact AW.val (e11.trans (if_pos c12)) J88
    replace h := e6
    refine AW.icmp_le (tgt := 43) (dcN_20 dcg_704 :) (by decide) (fun c4 => ?_) (fun c4 => ?_)
    · replace h := hT h c4
      refine AW.iload_n 2 (dcN_5 dcg_705 :) rfl ?_
      refine AW.sub (lv1 := [(0, rv z 117), (2, iv x2), (3, iv x3), (4, iv (g 160 (ix x3)))]) [1, 3, 4, 0] rfl ?_
      cases h
      exact J30
    · replace h := hF h c4
      refine AW.aloadr_n 1 (dcN_0 dcg_705 :) rfl ?_
      refine AW.getR af_X12_142_117 sr_117_60 (dcN_1 dcg_705 :) ?_
      refine AW.iload 0 (dcN_2 dcg_705 :) rfl ?_
      refine AW.iald kc_158 sk_158 k3 (dcN_3 dcg_705 :) ?_
      refine AW.goto (tgt := 44) (dcN_4 dcg_705 :) (by decide) ?_
      refine AW.sub (lv1 := [(0, rv z 117), (2, iv x2), (3, iv x3), (4, iv (g 160 (ix x3)))]) [1, 3, 4, 0] rfl ?_
      cases h
      exact J30
theorem M_waits_ok {z : AZ} {g : AG} {r : Int} (h : M_waits g = some r) : AMf z yX12_waits cX12_waits 6 (some .int) 0 [rv z 117] g (r, g) := by
  intro d hdd
  refine AM.of (by decide +kernel) (Nat.le_of_ble_eq_true rfl) ?_
  show AW z (RX12, cX12_waits, 6, (some .int)) d (QD (some .int) (r, g)) 0 [(0, rv z 117)] [] g
  unfold M_waits at h
  refine AW.iconst (dcN_0 dcg_704 :) ?_
  refine AW.istore_n (lv1 := [(1, iv 0), (0, rv z 117)]) (dcN_1 dcg_704 :) (by decide) rfl ?_
  refine AW.iconst (dcN_2 dcg_704 :) ?_
  refine AW.istore_n (lv1 := [(2, iv 0), (1, iv 0), (0, rv z 117)]) (dcN_3 dcg_704 :) (by decide) rfl ?_
  refine AW.iconst (dcN_4 dcg_704 :) ?_
  refine AW.istore_n (lv1 := [(3, iv 0), (2, iv 0), (1, iv 0), (0, rv z 117)]) (dcN_5 dcg_704 :) (by decide) rfl ?_
  refine AW.sub (lv1 := [(0, rv z 117), (1, iv 0), (2, iv 0), (3, iv 0)]) [3, 2, 1, 0] rfl ?_
  exact M_waits_b_ok hdd _ _ _ _ h
set_option synthInstance.maxHeartbeats 2000000 in
theorem M_orders_b_ok {z : AZ} {rec : Int → Int → AG → Option (Int × AG)} {Dr : Nat} (hC9 : 1 ≤ Dr) (hrec : ∀ (x1 : Int) (x2 : Int) (g : AG) (r : Int × AG), rec x1 x2 g = some r → AMf z yX12_orders cX12_orders 5 none Dr [rv z 117, iv x1, iv x2] g r) {d : Nat} (hdd : Dr + 1 ≤ d) {x1 : Int} {x2 : Int} : ∀ (tag : Nat) (x3 : Int) (x4 : Int) (g : AG) (r : Int × AG), M_orders_b rec x1 x2 tag x3 x4 g = some r → (tag = 1 → AW z (RX12, cX12_orders, 5, none) d (QD none r) 30 [(0, rv z 117), (3, iv x3)] [] g) ∧ (tag = 2 → AW z (RX12, cX12_orders, 5, none) d (QD none r) 38 [(0, rv z 117), (4, iv x4)] [] g) ∧ (tag = 3 → AW z (RX12, cX12_orders, 5, none) d (QD none r) 70 [(0, rv z 117), (1, iv x1), (2, iv x2), (3, iv x3)] [] g) := by
  refine M_orders_b.partial_correctness rec x1 x2 (fun tag x3 x4 g r => (tag = 1 → AW z (RX12, cX12_orders, 5, none) d (QD none r) 30 [(0, rv z 117), (3, iv x3)] [] g) ∧ (tag = 2 → AW z (RX12, cX12_orders, 5, none) d (QD none r) 38 [(0, rv z 117), (4, iv x4)] [] g) ∧ (tag = 3 → AW z (RX12, cX12_orders, 5, none) d (QD none r) 70 [(0, rv z 117), (1, iv x1), (2, iv x2), (3, iv x3)] [] g)) ?_
  intro fb9 ih tag x3 x4 g r h
  refine ⟨fun h9 => ?_, fun h9 => ?_, fun h9 => ?_⟩
  · subst h9
    replace h := hT h rfl
    refine AW.aloadr_n 0 (dcN_16 dcg_710 :) rfl ?_
    refine AW.iload_n 1 (dcN_17 dcg_710 :) rfl ?_
    obtain ⟨g1, e2, h⟩ := hBe h
    refine AW.putI ap_X12_481_117 sr_117_64 (dcN_0 dcg_711 :) e2 ?_
    refine AW.iconst (dcN_1 dcg_711 :) ?_
    refine AW.istore (lv1 := [(4, iv 0), (0, rv z 117), (3, iv x3)]) (dcN_2 dcg_711 :) (by decide) rfl ?_
    refine AW.sub (lv1 := [(0, rv z 117), (4, iv 0)]) [1, 0] rfl ?_
    exact (ih _ _ _ _ _ h).2.1 rfl
  · subst h9
    replace h := hF h (by decide)
    replace h := hT h rfl
    refine AW.iload 1 (dcN_3 dcg_711 :) rfl ?_
    refine AW.aloadr_n 0 (dcN_4 dcg_711 :) rfl ?_
    refine AW.getI af_X12_475_117 sr_117_59 (dcN_5 dcg_711 :) ?_
    refine AW.icmp_ge (tgt := 67) (dcN_6 dcg_711 :) (by decide) (fun c1 => ?_) (fun c1 => ?_)
    · replace h := hT h c1
      exact AW.vret1 rfl (dcN_1 dcg_712 :) h rfl
    · replace h := hF h c1
      refine AW.aloadr_n 0 (dcN_7 dcg_711 :) rfl ?_
      refine AW.getR af_X12_151_117 sr_117_63 (dcN_8 dcg_711 :) ?_
      refine AW.iload 1 (dcN_9 dcg_711 :) rfl ?_
      refine AW.aloadr_n 0 (dcN_10 dcg_711 :) rfl ?_
      refine AW.getR af_X12_148_117 sr_117_62 (dcN_11 dcg_711 :) ?_
      refine AW.iload 1 (dcN_12 dcg_711 :) rfl ?_
      obtain ⟨k2, h⟩ := hK h
      refine AW.iald kc_160 sk_160 k2 (dcN_13 dcg_711 :) ?_
      obtain ⟨g3, e4, h⟩ := hBe h
      refine AW.iast kc_161 sk_161 k2 (dcN_14 dcg_711 :) e4 ?_
      refine AW.iinc (lv1 := [(4, iv (x4 + 1)), (0, rv z 117)]) 1 (dcN_15 dcg_711 :) rfl (by decide) rfl ?_
      refine AW.goto (tgt := 38) (dcN_0 dcg_712 :) (by decide) ?_
      refine AW.sub (lv1 := [(0, rv z 117), (4, iv (x4 + 1))]) [1, 0] rfl ?_
      exact (ih _ _ _ _ _ h).2.1 rfl
  · subst h9
    replace h := hF h (by decide)
    replace h := hF h (by decide)
    replace h := hT h rfl
    refine AW.iload_n 3 (dcN_4 dcg_712 :) rfl ?_
    refine AW.aloadr_n 0 (dcN_5 dcg_712 :) rfl ?_
    refine AW.getI af_X12_475_117 sr_117_59 (dcN_6 dcg_712 :) ?_
    refine AW.icmp_ge (tgt := 115) (dcN_7 dcg_712 :) (by decide) (fun c1 => ?_) (fun c1 => ?_)
    · replace h := hT h c1
      exact AW.vret1 rfl (dcN_13 dcg_713 :) h rfl
    · replace h := hF h c1
      refine AW.iload_n 2 (dcN_8 dcg_712 :) rfl ?_
      refine AW.iload_n 3 (dcN_9 dcg_712 :) rfl ?_
      refine AW.ishr (dcN_10 dcg_712 :) ?_
      refine AW.iconst (dcN_11 dcg_712 :) ?_
      refine AW.iand (dcN_12 dcg_712 :) ?_
      refine AW.iconst (dcN_13 dcg_712 :) ?_
      obtain ⟨r8, e9, h⟩ := hC h
      refine AW.join (tgt := 109) (lv1 := [(0, rv z 117), (1, iv x1), (2, iv x2), (3, iv x3)]) (st1 := []) (g1 := r8) ?_ (fun J84 => ?_)
      · refine AW.iinc (lv1 := [(3, iv (x3 + 1)), (0, rv z 117), (1, iv x1), (2, iv x2)]) 3 (dcN_11 dcg_713 :) rfl (by decide) rfl ?_
        refine AW.goto (tgt := 70) (dcN_12 dcg_713 :) (by decide) ?_
        refine AW.sub (lv1 := [(0, rv z 117), (1, iv x1), (2, iv x2), (3, iv (x3 + 1))]) [1, 2, 3, 0] rfl ?_
        exact (ih _ _ _ _ _ h).2.2 rfl
      replace h := e9
      refine AW.icmp_ne (tgt := 90) (dcN_14 dcg_712 :) (by decide) (fun c2 => ?_) (fun c2 => ?_)
      · replace h := hF h c2
        refine AW.aloadr_n 0 (dcN_16 dcg_712 :) rfl ?_
        refine AW.getR af_X12_148_117 sr_117_62 (dcN_17 dcg_712 :) ?_
        refine AW.iload_n 1 (dcN_18 dcg_712 :) rfl ?_
        refine AW.iload_n 3 (dcN_19 dcg_712 :) rfl ?_
        obtain ⟨k3, h⟩ := hK h
        obtain ⟨g4, e5, h⟩ := hBe h
        refine AW.iast kc_160 sk_160 k3 (dcN_0 dcg_713 :) e5 ?_
        refine AW.aloadr_n 0 (dcN_1 dcg_713 :) rfl ?_
        refine AW.iload_n 1 (dcN_2 dcg_713 :) rfl ?_
        refine AW.iconst (dcN_3 dcg_713 :) ?_
        refine AW.iadd (dcN_4 dcg_713 :) ?_
        refine AW.iload_n 2 (dcN_5 dcg_713 :) rfl ?_
        refine AW.iconst (dcN_6 dcg_713 :) ?_
        refine AW.iload_n 3 (dcN_7 dcg_713 :) rfl ?_
        refine AW.ishl (dcN_8 dcg_713 :) ?_
        refine AW.ior (dcN_9 dcg_713 :) ?_
        obtain ⟨r6, e7, h⟩ := hC h
        refine AW.callVv (As := [iv (x1 + 1), iv (orI x2 (shlI 1 x3))]) (st := []) (hrec _ _ _ _ e7) cq_X12_484 cr_117_X12_orders (by omega) rfl (dcN_10 dcg_713 :) rfl (Nat.le_of_ble_eq_true rfl) ?_
        cases h
        exact J84
      · replace h := hT h c2
        refine AW.goto (tgt := 109) (dcN_15 dcg_712 :) (by decide) ?_
        cases h
        exact J84
theorem M_orders_s_ok {z : AZ} {rec : Int → Int → AG → Option (Int × AG)} {Dr : Nat} (hC9 : 1 ≤ Dr) (hrec : ∀ (x1 : Int) (x2 : Int) (g : AG) (r : Int × AG), rec x1 x2 g = some r → AMf z yX12_orders cX12_orders 5 none Dr [rv z 117, iv x1, iv x2] g r) {x1 : Int} {x2 : Int} {g : AG} {r : Int × AG} (h : M_orders_s rec x1 x2 g = some r) : AMf z yX12_orders cX12_orders 5 none (Dr + 1) [rv z 117, iv x1, iv x2] g r := by
  intro d hdd
  refine AM.of (by decide +kernel) (Nat.le_of_ble_eq_true rfl) ?_
  show AW z (RX12, cX12_orders, 5, none) d (QD none r) 0 [(0, rv z 117), (1, iv x1), (2, iv x2)] [] g
  unfold M_orders_s at h
  refine AW.iload_n 1 (dcN_0 dcg_710 :) rfl ?_
  refine AW.aloadr_n 0 (dcN_1 dcg_710 :) rfl ?_
  refine AW.getI af_X12_475_117 sr_117_59 (dcN_2 dcg_710 :) ?_
  refine AW.icmp_ne (tgt := 68) (dcN_3 dcg_710 :) (by decide) (fun c1 => ?_) (fun c1 => ?_)
  · replace h := hF h c1
    refine AW.iconst (dcN_2 dcg_712 :) ?_
    refine AW.istore_n (lv1 := [(3, iv 0), (0, rv z 117), (1, iv x1), (2, iv x2)]) (dcN_3 dcg_712 :) (by decide) rfl ?_
    refine AW.sub (lv1 := [(0, rv z 117), (1, iv x1), (2, iv x2), (3, iv 0)]) [1, 2, 3, 0] rfl ?_
    exact (M_orders_b_ok hC9 hrec hdd _ _ _ _ _ h).2.2 rfl
  · replace h := hT h c1
    refine AW.aloadr_n 0 (dcN_4 dcg_710 :) rfl ?_
    obtain ⟨r2, e3, h⟩ := hC h
    refine AW.callVi (As := []) (st := []) (M_waits_ok e3) cq_X12_478 cr_117_X12_waits (by omega) rfl (dcN_5 dcg_710 :) rfl (Nat.le_of_ble_eq_true rfl) ?_
    refine AW.istore_n (lv1 := [(3, iv r2), (0, rv z 117), (1, iv x1), (2, iv x2)]) (dcN_6 dcg_710 :) (by decide) rfl ?_
    refine AW.aloadr_n 1 (dcN_7 dcg_710 :) rfl ?_
    refine AW.getI af_X12_481_117 sr_117_64 (dcN_8 dcg_710 :) ?_
    refine AW.iconst (dcN_9 dcg_710 :) ?_
    refine AW.icmp_eq (tgt := 30) (dcN_10 dcg_710 :) (by decide) (fun c4 => ?_) (fun c4 => ?_)
    · replace h := hT h c4
      refine AW.sub (lv1 := [(0, rv z 117), (3, iv r2)]) [1, 0] rfl ?_
      exact (M_orders_b_ok hC9 hrec hdd _ _ _ _ _ h).1 rfl
    · replace h := hF h c4
      refine AW.iload_n 0 (dcN_11 dcg_710 :) rfl ?_
      refine AW.aloadr_n 1 (dcN_12 dcg_710 :) rfl ?_
      refine AW.getI af_X12_481_117 sr_117_64 (dcN_13 dcg_710 :) ?_
      refine AW.icmp_lt (tgt := 30) (dcN_14 dcg_710 :) (by decide) (fun c5 => ?_) (fun c5 => ?_)
      · replace h := hT h c5
        refine AW.sub (lv1 := [(0, rv z 117), (3, iv r2)]) [1, 0] rfl ?_
        exact (M_orders_b_ok hC9 hrec hdd _ _ _ _ _ h).1 rfl
      · replace h := hF h c5
        exact AW.vret1 rfl (dcN_15 dcg_710 :) h rfl
theorem M_orders_ok {z : AZ} {n : Nat} {x1 : Int} {x2 : Int} {g : AG} {r : Int × AG} (h : M_orders n x1 x2 g = some r) : AMf z yX12_orders cX12_orders 5 none (1 + n * 1) [rv z 117, iv x1, iv x2] g r := by
  induction n generalizing x1 x2 g r with
  | zero => cases h
  | succ n ih =>
    have q := M_orders_s_ok (z := z) (Dr := 1 + n * 1) (Nat.le_add_right _ _) (fun x1 x2 g r h9 => ih h9) h
    rw [show 1 + (n + 1) * 1 = 1 + n * 1 + 1 by rw [Nat.add_mul]; omega]
    exact q
set_option synthInstance.maxHeartbeats 2000000 in
theorem M_asTheyCome_b_ok {z : AZ} {d : Nat} (hdd : 0 ≤ d) : ∀ (x1 : Int) (g : AG) (r : Int × AG), M_asTheyCome_b x1 g = some r → AW z (RX12, cX12_asTheyCome, 2, none) d (QD none r) 2 [(0, rv z 117), (1, iv x1)] [] g := by
  refine M_asTheyCome_b.partial_correctness (fun x1 g r => AW z (RX12, cX12_asTheyCome, 2, none) d (QD none r) 2 [(0, rv z 117), (1, iv x1)] [] g) ?_
  intro fb9 ih x1 g r h
  refine AW.iload_n 1 (dcN_2 dcg_714 :) rfl ?_
  refine AW.aloadr_n 0 (dcN_3 dcg_714 :) rfl ?_
  refine AW.getI af_X12_475_117 sr_117_59 (dcN_4 dcg_714 :) ?_
  refine AW.icmp_ge (tgt := 23) (dcN_5 dcg_714 :) (by decide) (fun c1 => ?_) (fun c1 => ?_)
  · replace h := hT h c1
    exact AW.vret1 rfl (dcN_1 dcg_715 :) h rfl
  · replace h := hF h c1
    refine AW.aloadr_n 0 (dcN_6 dcg_714 :) rfl ?_
    refine AW.getR af_X12_148_117 sr_117_62 (dcN_7 dcg_714 :) ?_
    refine AW.iload_n 1 (dcN_8 dcg_714 :) rfl ?_
    refine AW.iload_n 1 (dcN_9 dcg_714 :) rfl ?_
    obtain ⟨k2, h⟩ := hK h
    obtain ⟨g3, e4, h⟩ := hBe h
    refine AW.iast kc_160 sk_160 k2 (dcN_10 dcg_714 :) e4 ?_
    refine AW.iinc (lv1 := [(1, iv (x1 + 1)), (0, rv z 117)]) 1 (dcN_11 dcg_714 :) rfl (by decide) rfl ?_
    refine AW.goto (tgt := 2) (dcN_0 dcg_715 :) (by decide) ?_
    refine AW.sub (lv1 := [(0, rv z 117), (1, iv (x1 + 1))]) [1, 0] rfl ?_
    exact ih _ _ _ h
theorem M_asTheyCome_ok {z : AZ} {g : AG} {r : Int × AG} (h : M_asTheyCome g = some r) : AMf z yX12_asTheyCome cX12_asTheyCome 2 none 0 [rv z 117] g r := by
  intro d hdd
  refine AM.of (by decide +kernel) (Nat.le_of_ble_eq_true rfl) ?_
  show AW z (RX12, cX12_asTheyCome, 2, none) d (QD none r) 0 [(0, rv z 117)] [] g
  unfold M_asTheyCome at h
  refine AW.iconst (dcN_0 dcg_714 :) ?_
  refine AW.istore_n (lv1 := [(1, iv 0), (0, rv z 117)]) (dcN_1 dcg_714 :) (by decide) rfl ?_
  refine AW.sub (lv1 := [(0, rv z 117), (1, iv 0)]) [1, 0] rfl ?_
  exact M_asTheyCome_b_ok hdd _ _ _ h
set_option synthInstance.maxHeartbeats 2000000 in
theorem M_lockfuls_b_ok {z : AZ} {d : Nat} (hdd : 0 ≤ d) {g : AG} : ∀ (x1 : Int) (x2 : Int) (r : Int), M_lockfuls_b g x1 x2 = some r → AW z (RX12, cX12_lockfuls, 3, (some .int)) d (QD (some .int) (r, g)) 7 [(0, rv z 117), (1, iv x1), (2, iv x2)] [] g := by
  refine M_lockfuls_b.partial_correctness g (fun x1 x2 r => AW z (RX12, cX12_lockfuls, 3, (some .int)) d (QD (some .int) (r, g)) 7 [(0, rv z 117), (1, iv x1), (2, iv x2)] [] g) ?_
  intro fb9 ih x1 x2 r h
  refine AW.iload_n 2 (dcN_5 dcg_708 :) rfl ?_
  refine AW.aloadr_n 0 (dcN_6 dcg_708 :) rfl ?_
  refine AW.getI af_X12_475_117 sr_117_59 (dcN_7 dcg_708 :) ?_
  refine AW.icmp_ge (tgt := 56) (dcN_8 dcg_708 :) (by decide) (fun c1 => ?_) (fun c1 => ?_)
  · replace h := hT h c1
    refine AW.iload_n 1 (dcN_14 dcg_709 :) rfl ?_
    exact AW.iret2 rfl (dcN_15 dcg_709 :) h rfl
  · replace h := hF h c1
    refine AW.iload_n 1 (dcN_9 dcg_708 :) rfl ?_
    refine AW.aloadr_n 0 (dcN_10 dcg_708 :) rfl ?_
    refine AW.getR af_X12_145_117 sr_117_61 (dcN_11 dcg_708 :) ?_
    refine AW.aloadr_n 0 (dcN_12 dcg_708 :) rfl ?_
    refine AW.getR af_X12_148_117 sr_117_62 (dcN_13 dcg_708 :) ?_
    refine AW.iload_n 2 (dcN_14 dcg_708 :) rfl ?_
    obtain ⟨k2, h⟩ := hK h
    refine AW.iald kc_160 sk_160 k2 (dcN_15 dcg_708 :) ?_
    obtain ⟨k3, h⟩ := hK h
    refine AW.iald kc_159 sk_159 k3 (dcN_16 dcg_708 :) ?_
    refine AW.aloadr_n 0 (dcN_17 dcg_708 :) rfl ?_
    refine AW.getR af_X12_145_117 sr_117_61 (dcN_18 dcg_708 :) ?_
    refine AW.aloadr_n 0 (dcN_19 dcg_708 :) rfl ?_
    refine AW.getR af_X12_148_117 sr_117_62 (dcN_0 dcg_709 :) ?_
    refine AW.iload_n 2 (dcN_1 dcg_709 :) rfl ?_
    refine AW.iconst (dcN_2 dcg_709 :) ?_
    refine AW.isub (dcN_3 dcg_709 :) ?_
    obtain ⟨k4, h⟩ := hK h
    refine AW.iald kc_160 sk_160 k4 (dcN_4 dcg_709 :) ?_
    obtain ⟨k5, h⟩ := hK h
    refine AW.iald kc_159 sk_159 k5 (dcN_5 dcg_709 :) ?_
    obtain ⟨t6, e7, h⟩ := hBe h
    refine AW.join (tgt := 48) (lv1 := [(0, rv z 117), (1, iv x1), (2, iv x2)]) (st1 := [iv t6, iv x1]) (g1 := g) ?_ (fun J40 => ?_)
    · refine AW.isub (dcN_10 dcg_709 :) ?_
      refine AW.istore_n (lv1 := [(1, iv (x1 - t6)), (0, rv z 117), (2, iv x2)]) (dcN_11 dcg_709 :) (by decide) rfl ?_
      refine AW.iinc (lv1 := [(2, iv (x2 + 1)), (1, iv (x1 - t6)), (0, rv z 117)]) 2 (dcN_12 dcg_709 :) rfl (by decide) rfl ?_
      refine AW.goto (tgt := 7) (dcN_13 dcg_709 :) (by decide) ?_
      refine AW.sub (lv1 := [(0, rv z 117), (1, iv (x1 - t6)), (2, iv (x2 + 1))]) [2, 1, 0] rfl ?_
      exact ih _ _ _ h
    refine AW.icmp_eq (tgt := 47) (dcN_6 dcg_709 :) (by decide) (fun c8 => ?_) (fun c8 => ?_)
    · refine AW.iconst (dcN_9 dcg_709 :) ?_
      exact AW.val (e7.trans (if_pos c8)) J40
    · refine AW.iconst (dcN_7 dcg_709 :) ?_
      refine AW.goto (tgt := 48) (dcN_8 dcg_709 :) (by decide) ?_
      exact AW.val (e7.trans (if_neg c8)) J40
theorem M_lockfuls_ok {z : AZ} {g : AG} {r : Int} (h : M_lockfuls g = some r) : AMf z yX12_lockfuls cX12_lockfuls 3 (some .int) 0 [rv z 117] g (r, g) := by
  intro d hdd
  refine AM.of (by decide +kernel) (Nat.le_of_ble_eq_true rfl) ?_
  show AW z (RX12, cX12_lockfuls, 3, (some .int)) d (QD (some .int) (r, g)) 0 [(0, rv z 117)] [] g
  unfold M_lockfuls at h
  refine AW.aloadr_n 0 (dcN_0 dcg_708 :) rfl ?_
  refine AW.getI af_X12_475_117 sr_117_59 (dcN_1 dcg_708 :) ?_
  refine AW.istore_n (lv1 := [(1, iv (g 117 59)), (0, rv z 117)]) (dcN_2 dcg_708 :) (by decide) rfl ?_
  refine AW.iconst (dcN_3 dcg_708 :) ?_
  refine AW.istore_n (lv1 := [(2, iv 1), (1, iv (g 117 59)), (0, rv z 117)]) (dcN_4 dcg_708 :) (by decide) rfl ?_
  refine AW.sub (lv1 := [(0, rv z 117), (1, iv (g 117 59)), (2, iv 1)]) [2, 1, 0] rfl ?_
  exact M_lockfuls_b_ok hdd _ _ _ h
set_option synthInstance.maxHeartbeats 2000000 in
theorem M_lock_b_ok {z : AZ} {d : Nat} (hdd : 11 ≤ d) {x1 : Int} : ∀ (tag : Nat) (x2 : Int) (g : AG) (r : Int × AG), M_lock_b x1 tag x2 g = some r → (tag = 1 → AW z (RX12, cX12_lock, 3, (some .int)) d (QD (some .int) r) 27 [(0, rv z 117), (1, iv x1)] [] g) ∧ (tag = 2 → AW z (RX12, cX12_lock, 3, (some .int)) d (QD (some .int) r) 68 [(0, rv z 117), (1, iv x1)] [] g) ∧ (tag = 3 → AW z (RX12, cX12_lock, 3, (some .int)) d (QD (some .int) r) 70 [(0, rv z 117), (1, iv x1), (2, iv x2)] [] g) ∧ (tag = 4 → AW z (RX12, cX12_lock, 3, (some .int)) d (QD (some .int) r) 96 [(0, rv z 117), (1, iv x1)] [] g) := by
  refine M_lock_b.partial_correctness x1 (fun tag x2 g r => (tag = 1 → AW z (RX12, cX12_lock, 3, (some .int)) d (QD (some .int) r) 27 [(0, rv z 117), (1, iv x1)] [] g) ∧ (tag = 2 → AW z (RX12, cX12_lock, 3, (some .int)) d (QD (some .int) r) 68 [(0, rv z 117), (1, iv x1)] [] g) ∧ (tag = 3 → AW z (RX12, cX12_lock, 3, (some .int)) d (QD (some .int) r) 70 [(0, rv z 117), (1, iv x1), (2, iv x2)] [] g) ∧ (tag = 4 → AW z (RX12, cX12_lock, 3, (some .int)) d (QD (some .int) r) 96 [(0, rv z 117), (1, iv x1)] [] g)) ?_
  intro fb9 ih tag x2 g r h
  refine ⟨fun h9 => ?_, fun h9 => ?_, fun h9 => ?_, fun h9 => ?_⟩
  · subst h9
    replace h := hT h rfl
    refine AW.aloadr_n 0 (dcN_15 dcg_716 :) rfl ?_
    refine AW.iconst (dcN_16 dcg_716 :) ?_
    obtain ⟨g1, e2, h⟩ := hBe h
    refine AW.putI ap_X12_481_117 sr_117_64 (dcN_17 dcg_716 :) e2 ?_
    refine AW.aloadr_n 0 (dcN_0 dcg_717 :) rfl ?_
    refine AW.iconst (dcN_1 dcg_717 :) ?_
    refine AW.iconst (dcN_2 dcg_717 :) ?_
    obtain ⟨r3, e4, h⟩ := hC h
    refine AW.callVv (As := [iv 0, iv 0]) (st := []) ((M_orders_ok (n := 9)) e4) cq_X12_484 cr_117_X12_orders (Nat.le_trans (by decide) hdd) rfl (dcN_3 dcg_717 :) rfl (Nat.le_of_ble_eq_true rfl) ?_
    refine AW.iload_n 1 (dcN_4 dcg_717 :) rfl ?_
    refine AW.bipush (dcN_5 dcg_717 :) (by decide) (by decide) ?_
    refine AW.icmp_lt (tgt := 54) (dcN_6 dcg_717 :) (by decide) (fun c5 => ?_) (fun c5 => ?_)
    · replace h := hT h c5
      refine AW.aloadr_n 0 (dcN_14 dcg_717 :) rfl ?_
      obtain ⟨r6, e7, h⟩ := hC h
      refine AW.callVv (As := []) (st := []) (M_asTheyCome_ok e7) cq_X12_487 cr_117_X12_asTheyCome (Nat.le_trans (by decide) hdd) rfl (dcN_15 dcg_717 :) rfl (Nat.le_of_ble_eq_true rfl) ?_
      refine AW.iload_n 1 (dcN_16 dcg_717 :) rfl ?_
      refine AW.iconst (dcN_17 dcg_717 :) ?_
      refine AW.icmp_eq (tgt := 68) (dcN_18 dcg_717 :) (by decide) (fun c8 => ?_) (fun c8 => ?_)
      · replace h := hT h c8
        exact (ih _ _ _ _ h).2.1 rfl
      · replace h := hF h c8
        refine AW.iload_n 1 (dcN_19 dcg_717 :) rfl ?_
        refine AW.iconst (dcN_0 dcg_718 :) ?_
        refine AW.icmp_ne (tgt := 96) (dcN_1 dcg_718 :) (by decide) (fun c9 => ?_) (fun c9 => ?_)
        · replace h := hF h c9
          exact (ih _ _ _ _ h).2.2.2 rfl
        · replace h := hT h c9
          exact (ih _ _ _ _ h).2.1 rfl
    · replace h := hF h c5
      refine AW.aloadr_n 0 (dcN_7 dcg_717 :) rfl ?_
      refine AW.getR af_X12_151_117 sr_117_63 (dcN_8 dcg_717 :) ?_
      refine AW.iload_n 1 (dcN_9 dcg_717 :) rfl ?_
      refine AW.bipush (dcN_10 dcg_717 :) (by decide) (by decide) ?_
      refine AW.isub (dcN_11 dcg_717 :) ?_
      obtain ⟨k10, h⟩ := hK h
      refine AW.iald kc_161 sk_161 k10 (dcN_12 dcg_717 :) ?_
      exact AW.iret1 rfl (dcN_13 dcg_717 :) h rfl
  · subst h9
    replace h := hF h (by decide)
    replace h := hT h rfl
    refine AW.iconst (dcN_2 dcg_718 :) ?_
    refine AW.istore_n (lv1 := [(2, iv 0), (0, rv z 117), (1, iv x1)]) (dcN_3 dcg_718 :) (by decide) rfl ?_
    refine AW.sub (lv1 := [(0, rv z 117), (1, iv x1), (2, iv 0)]) [1, 2, 0] rfl ?_
    exact (ih _ _ _ _ h).2.2.1 rfl
  · subst h9
    replace h := hF h (by decide)
    replace h := hF h (by decide)
    replace h := hT h rfl
    refine AW.iload_n 2 (dcN_4 dcg_718 :) rfl ?_
    refine AW.aloadr_n 0 (dcN_5 dcg_718 :) rfl ?_
    refine AW.getI af_X12_475_117 sr_117_59 (dcN_6 dcg_718 :) ?_
    refine AW.icmp_ge (tgt := 96) (dcN_7 dcg_718 :) (by decide) (fun c1 => ?_) (fun c1 => ?_)
    · replace h := hT h c1
      refine AW.sub (lv1 := [(0, rv z 117), (1, iv x1)]) [0, 1] rfl ?_
      exact (ih _ _ _ _ h).2.2.2 rfl
    · replace h := hF h c1
      refine AW.aloadr_n 0 (dcN_8 dcg_718 :) rfl ?_
      refine AW.getR af_X12_148_117 sr_117_62 (dcN_9 dcg_718 :) ?_
      refine AW.iload_n 2 (dcN_10 dcg_718 :) rfl ?_
      refine AW.aloadr_n 0 (dcN_11 dcg_718 :) rfl ?_
      refine AW.getR af_X12_151_117 sr_117_63 (dcN_12 dcg_718 :) ?_
      refine AW.iload_n 2 (dcN_13 dcg_718 :) rfl ?_
      obtain ⟨k2, h⟩ := hK h
      refine AW.iald kc_161 sk_161 k2 (dcN_14 dcg_718 :) ?_
      obtain ⟨g3, e4, h⟩ := hBe h
      refine AW.iast kc_160 sk_160 k2 (dcN_15 dcg_718 :) e4 ?_
      refine AW.iinc (lv1 := [(2, iv (x2 + 1)), (0, rv z 117), (1, iv x1)]) 2 (dcN_16 dcg_718 :) rfl (by decide) rfl ?_
      refine AW.goto (tgt := 70) (dcN_17 dcg_718 :) (by decide) ?_
      refine AW.sub (lv1 := [(0, rv z 117), (1, iv x1), (2, iv (x2 + 1))]) [1, 2, 0] rfl ?_
      exact (ih _ _ _ _ h).2.2.1 rfl
  · subst h9
    replace h := hF h (by decide)
    replace h := hF h (by decide)
    replace h := hF h (by decide)
    replace h := hT h rfl
    refine AW.iload_n 1 (dcN_0 dcg_719 :) rfl ?_
    refine AW.iconst (dcN_1 dcg_719 :) ?_
    obtain ⟨r6, e7, h⟩ := hC h
    refine AW.join (tgt := 112) (lv1 := []) (st1 := [iv r6.1]) (g1 := r6.2) ?_ (fun J98 => ?_)
    · exact AW.iret1 rfl (dcN_8 dcg_719 :) h rfl
    replace h := e7
    refine AW.icmp_ge (tgt := 108) (dcN_2 dcg_719 :) (by decide) (fun c1 => ?_) (fun c1 => ?_)
    · replace h := hT h c1
      refine AW.aloadr_n 0 (dcN_6 dcg_719 :) rfl ?_
      obtain ⟨r2, e3, h⟩ := hC h
      refine AW.callVi (As := []) (st := []) (M_lockfuls_ok e3) cq_X12_490 cr_117_X12_lockfuls (Nat.le_trans (by decide) hdd) rfl (dcN_7 dcg_719 :) rfl (Nat.le_of_ble_eq_true rfl) ?_
      refine AW.sub (lv1 := []) [] rfl ?_
      cases h
      exact J98
    · replace h := hF h c1
      refine AW.aloadr_n 0 (dcN_3 dcg_719 :) rfl ?_
      obtain ⟨r4, e5, h⟩ := hC h
      refine AW.callVi (As := []) (st := []) (M_waits_ok e5) cq_X12_478 cr_117_X12_waits (Nat.le_trans (by decide) hdd) rfl (dcN_4 dcg_719 :) rfl (Nat.le_of_ble_eq_true rfl) ?_
      refine AW.goto (tgt := 112) (dcN_5 dcg_719 :) (by decide) ?_
      refine AW.sub (lv1 := []) [] rfl ?_
      cases h
      exact J98
theorem M_lock_ok {z : AZ} {x1 : Int} {g : AG} {r : Int × AG} (h : M_lock x1 g = some r) : AMf z yX12_lock cX12_lock 3 (some .int) 11 [rv z 117, iv x1] g r := by
  intro d hdd
  refine AM.of (by decide +kernel) (Nat.le_of_ble_eq_true rfl) ?_
  show AW z (RX12, cX12_lock, 3, (some .int)) d (QD (some .int) r) 0 [(0, rv z 117), (1, iv x1)] [] g
  unfold M_lock at h
  refine AW.iload_n 1 (dcN_0 dcg_716 :) rfl ?_
  refine AW.iconst (dcN_1 dcg_716 :) ?_
  refine AW.iconst (dcN_2 dcg_716 :) ?_
  refine AW.callSi (As := [iv x1, iv 0, iv 3]) (st := []) M_isIn_ok cq_X12_3 st_X12_isIn (Nat.le_trans (by decide) hdd) rfl (dcN_3 dcg_716 :) rfl (Nat.le_of_ble_eq_true rfl) ?_
  refine AW.if_ne (tgt := 27) (dcN_4 dcg_716 :) (by decide) (fun c1 => ?_) (fun c1 => ?_)
  · replace h := hF h c1
    exact (M_lock_b_ok hdd _ _ _ _ h).1 rfl
  · replace h := hT h c1
    refine AW.iload_n 1 (dcN_5 dcg_716 :) rfl ?_
    refine AW.bipush (dcN_6 dcg_716 :) (by decide) (by decide) ?_
    refine AW.bipush (dcN_7 dcg_716 :) (by decide) (by decide) ?_
    refine AW.aloadr_n 0 (dcN_8 dcg_716 :) rfl ?_
    refine AW.getI af_X12_475_117 sr_117_59 (dcN_9 dcg_716 :) ?_
    refine AW.iadd (dcN_10 dcg_716 :) ?_
    refine AW.callSi (As := [iv x1, iv 10, iv (9 + (g 117 59))]) (st := []) M_isIn_ok cq_X12_3 st_X12_isIn (Nat.le_trans (by decide) hdd) rfl (dcN_11 dcg_716 :) rfl (Nat.le_of_ble_eq_true rfl) ?_
    refine AW.if_ne (tgt := 27) (dcN_12 dcg_716 :) (by decide) (fun c2 => ?_) (fun c2 => ?_)
    · replace h := hF h c2
      exact (M_lock_b_ok hdd _ _ _ _ h).1 rfl
    · replace h := hT h c2
      refine AW.iconst (dcN_13 dcg_716 :) ?_
      exact AW.iret1 rfl (dcN_14 dcg_716 :) h rfl
theorem M_booking_ok {z : AZ} {x1 : Int} {x2 : Int} {x3 : Int} {x4 : Int} {g : AG} {r : Int × AG} (h : M_booking x1 x2 x3 x4 g = some r) : AMf z yX12_booking cX12_booking 5 (some .int) 2 [rv z 117, iv x1, iv x2, iv x3, iv x4] g r := by
  intro d hdd
  refine AM.of (by decide +kernel) (Nat.le_of_ble_eq_true rfl) ?_
  show AW z (RX12, cX12_booking, 5, (some .int)) d (QD (some .int) r) 0 [(0, rv z 117), (1, iv x1), (2, iv x2), (3, iv x3), (4, iv x4)] [] g
  unfold M_booking at h
  refine AW.iload_n 1 (dcN_0 dcg_720 :) rfl ?_
  refine AW.callSi (As := [iv x1]) (st := []) M_isPoint_ok cq_X12_238 st_X12_isPoint (Nat.le_trans (by decide) hdd) rfl (dcN_1 dcg_720 :) rfl (Nat.le_of_ble_eq_true rfl) ?_
  refine AW.if_eq (tgt := 44) (dcN_2 dcg_720 :) (by decide) (fun c1 => ?_) (fun c1 => ?_)
  · replace h := hT h c1
    refine AW.iconst (dcN_5 dcg_721 :) ?_
    exact AW.iret1 rfl (dcN_6 dcg_721 :) h rfl
  · replace h := hF h c1
    refine AW.iload_n 2 (dcN_3 dcg_720 :) rfl ?_
    refine AW.callSi (As := [iv x2]) (st := []) M_isPoint_ok cq_X12_238 st_X12_isPoint (Nat.le_trans (by decide) hdd) rfl (dcN_4 dcg_720 :) rfl (Nat.le_of_ble_eq_true rfl) ?_
    refine AW.if_eq (tgt := 44) (dcN_5 dcg_720 :) (by decide) (fun c2 => ?_) (fun c2 => ?_)
    · replace h := hT h c2
      refine AW.iconst (dcN_5 dcg_721 :) ?_
      exact AW.iret1 rfl (dcN_6 dcg_721 :) h rfl
    · replace h := hF h c2
      refine AW.iload_n 3 (dcN_6 dcg_720 :) rfl ?_
      refine AW.iconst (dcN_7 dcg_720 :) ?_
      refine AW.bipush (dcN_8 dcg_720 :) (by decide) (by decide) ?_
      refine AW.callSi (As := [iv x3, iv 0, iv 9]) (st := []) M_isIn_ok cq_X12_3 st_X12_isIn (Nat.le_trans (by decide) hdd) rfl (dcN_9 dcg_720 :) rfl (Nat.le_of_ble_eq_true rfl) ?_
      refine AW.if_eq (tgt := 44) (dcN_10 dcg_720 :) (by decide) (fun c3 => ?_) (fun c3 => ?_)
      · replace h := hT h c3
        refine AW.iconst (dcN_5 dcg_721 :) ?_
        exact AW.iret1 rfl (dcN_6 dcg_721 :) h rfl
      · replace h := hF h c3
        refine AW.iload 4 (dcN_11 dcg_720 :) rfl ?_
        refine AW.iconst (dcN_12 dcg_720 :) ?_
        refine AW.bipush (dcN_13 dcg_720 :) (by decide) (by decide) ?_
        refine AW.callSi (As := [iv x4, iv 2, iv 12]) (st := []) M_isIn_ok cq_X12_3 st_X12_isIn (Nat.le_trans (by decide) hdd) rfl (dcN_14 dcg_720 :) rfl (Nat.le_of_ble_eq_true rfl) ?_
        refine AW.if_eq (tgt := 44) (dcN_0 dcg_721 :) (by decide) (fun c4 => ?_) (fun c4 => ?_)
        · replace h := hT h c4
          refine AW.iconst (dcN_5 dcg_721 :) ?_
          exact AW.iret1 rfl (dcN_6 dcg_721 :) h rfl
        · replace h := hF h c4
          refine AW.aloadr_n 0 (dcN_1 dcg_721 :) rfl ?_
          refine AW.getI af_X12_493_117 sr_117_65 (dcN_2 dcg_721 :) ?_
          refine AW.bipush (dcN_3 dcg_721 :) (by decide) (by decide) ?_
          refine AW.icmp_ne (tgt := 46) (dcN_4 dcg_721 :) (by decide) (fun c5 => ?_) (fun c5 => ?_)
          · replace h := hF h c5
            refine AW.aloadr_n 0 (dcN_7 dcg_721 :) rfl ?_
            refine AW.getR af_X12_154_117 sr_117_68 (dcN_8 dcg_721 :) ?_
            refine AW.aloadr_n 0 (dcN_9 dcg_721 :) rfl ?_
            refine AW.getI af_X12_493_117 sr_117_65 (dcN_10 dcg_721 :) ?_
            refine AW.iload_n 1 (dcN_11 dcg_721 :) rfl ?_
            obtain ⟨k6, h⟩ := hK h
            obtain ⟨g7, e8, h⟩ := hBe h
            refine AW.iast kc_162 sk_162 k6 (dcN_12 dcg_721 :) e8 ?_
            refine AW.aloadr_n 0 (dcN_13 dcg_721 :) rfl ?_
            refine AW.getR af_X12_157_117 sr_117_69 (dcN_14 dcg_721 :) ?_
            refine AW.aloadr_n 0 (dcN_15 dcg_721 :) rfl ?_
            refine AW.getI af_X12_493_117 sr_117_65 (dcN_16 dcg_721 :) ?_
            refine AW.iload_n 2 (dcN_0 dcg_722 :) rfl ?_
            obtain ⟨k9, h⟩ := hK h
            obtain ⟨g10, e11, h⟩ := hBe h
            refine AW.iast kc_163 sk_163 k9 (dcN_1 dcg_722 :) e11 ?_
            refine AW.aloadr_n 0 (dcN_2 dcg_722 :) rfl ?_
            refine AW.getR af_X12_160_117 sr_117_70 (dcN_3 dcg_722 :) ?_
            refine AW.aloadr_n 0 (dcN_4 dcg_722 :) rfl ?_
            refine AW.getI af_X12_493_117 sr_117_65 (dcN_5 dcg_722 :) ?_
            refine AW.iload_n 3 (dcN_6 dcg_722 :) rfl ?_
            obtain ⟨k12, h⟩ := hK h
            obtain ⟨g13, e14, h⟩ := hBe h
            refine AW.iast kc_164 sk_164 k12 (dcN_7 dcg_722 :) e14 ?_
            refine AW.aloadr_n 0 (dcN_8 dcg_722 :) rfl ?_
            refine AW.getR af_X12_163_117 sr_117_71 (dcN_9 dcg_722 :) ?_
            refine AW.aloadr_n 0 (dcN_10 dcg_722 :) rfl ?_
            refine AW.getI af_X12_493_117 sr_117_65 (dcN_11 dcg_722 :) ?_
            refine AW.iload 4 (dcN_12 dcg_722 :) rfl ?_
            obtain ⟨k15, h⟩ := hK h
            obtain ⟨g16, e17, h⟩ := hBe h
            refine AW.iast kc_165 sk_165 k15 (dcN_13 dcg_722 :) e17 ?_
            refine AW.aloadr_n 0 (dcN_14 dcg_722 :) rfl ?_
            refine AW.duprr (dcN_15 dcg_722 :) ?_
            refine AW.getI af_X12_493_117 sr_117_65 (dcN_16 dcg_722 :) ?_
            refine AW.iconst (dcN_17 dcg_722 :) ?_
            refine AW.iadd (dcN_18 dcg_722 :) ?_
            obtain ⟨g18, e19, h⟩ := hBe h
            refine AW.putI ap_X12_493_117 sr_117_65 (dcN_19 dcg_722 :) e19 ?_
            refine AW.aloadr_n 0 (dcN_0 dcg_723 :) rfl ?_
            refine AW.getI af_X12_493_117 sr_117_65 (dcN_1 dcg_723 :) ?_
            refine AW.iconst (dcN_2 dcg_723 :) ?_
            refine AW.isub (dcN_3 dcg_723 :) ?_
            exact AW.iret1 rfl (dcN_4 dcg_723 :) h rfl
          · replace h := hT h c5
            refine AW.iconst (dcN_5 dcg_721 :) ?_
            exact AW.iret1 rfl (dcN_6 dcg_721 :) h rfl
set_option synthInstance.maxHeartbeats 2000000 in
theorem M_asks_b_ok {z : AZ} {d : Nat} (hdd : 0 ≤ d) {x1 : Int} : ∀ (x2 : Int) (g : AG) (r : Int × AG), M_asks_b x1 x2 g = some r → AW z (RX12, cX12_asks, 3, none) d (QD none r) 2 [(0, rv z 117), (1, iv x1), (2, iv x2)] [] g := by
  refine M_asks_b.partial_correctness x1 (fun x2 g r => AW z (RX12, cX12_asks, 3, none) d (QD none r) 2 [(0, rv z 117), (1, iv x1), (2, iv x2)] [] g) ?_
  intro fb9 ih x2 g r h
  refine AW.iload_n 2 (dcN_2 dcg_740 :) rfl ?_
  refine AW.iload_n 1 (dcN_3 dcg_740 :) rfl ?_
  refine AW.icmp_ge (tgt := 37) (dcN_4 dcg_740 :) (by decide) (fun c1 => ?_) (fun c1 => ?_)
  · replace h := hT h c1
    exact AW.vret1 rfl (dcN_11 dcg_741 :) h rfl
  · replace h := hF h c1
    refine AW.aloadr_n 0 (dcN_5 dcg_740 :) rfl ?_
    refine AW.getR af_X12_181_117 sr_117_77 (dcN_6 dcg_740 :) ?_
    refine AW.iload_n 2 (dcN_7 dcg_740 :) rfl ?_
    refine AW.aloadr_n 0 (dcN_8 dcg_740 :) rfl ?_
    refine AW.getR af_X12_32_117 sr_117_6 (dcN_9 dcg_740 :) ?_
    refine AW.iload_n 2 (dcN_10 dcg_740 :) rfl ?_
    obtain ⟨k2, h⟩ := hK h
    refine AW.iald kc_124 sk_124 k2 (dcN_11 dcg_740 :) ?_
    obtain ⟨k3, h⟩ := hK h
    obtain ⟨g4, e5, h⟩ := hBe h
    refine AW.iast kc_171 sk_171 k3 (dcN_0 dcg_741 :) e5 ?_
    refine AW.aloadr_n 0 (dcN_1 dcg_741 :) rfl ?_
    refine AW.getR af_X12_184_117 sr_117_78 (dcN_2 dcg_741 :) ?_
    refine AW.iload_n 2 (dcN_3 dcg_741 :) rfl ?_
    refine AW.aloadr_n 0 (dcN_4 dcg_741 :) rfl ?_
    refine AW.getR af_X12_38_117 sr_117_8 (dcN_5 dcg_741 :) ?_
    refine AW.iload_n 2 (dcN_6 dcg_741 :) rfl ?_
    refine AW.iald kc_126 sk_126 k2 (dcN_7 dcg_741 :) ?_
    obtain ⟨g6, e7, h⟩ := hBe h
    refine AW.iast kc_172 sk_172 k3 (dcN_8 dcg_741 :) e7 ?_
    refine AW.iinc (lv1 := [(2, iv (x2 + 1)), (0, rv z 117), (1, iv x1)]) 2 (dcN_9 dcg_741 :) rfl (by decide) rfl ?_
    refine AW.goto (tgt := 2) (dcN_10 dcg_741 :) (by decide) ?_
    refine AW.sub (lv1 := [(0, rv z 117), (1, iv x1), (2, iv (x2 + 1))]) [1, 2, 0] rfl ?_
    exact ih _ _ _ h
theorem M_asks_ok {z : AZ} {x1 : Int} {g : AG} {r : Int × AG} (h : M_asks x1 g = some r) : AMf z yX12_asks cX12_asks 3 none 0 [rv z 117, iv x1] g r := by
  intro d hdd
  refine AM.of (by decide +kernel) (Nat.le_of_ble_eq_true rfl) ?_
  show AW z (RX12, cX12_asks, 3, none) d (QD none r) 0 [(0, rv z 117), (1, iv x1)] [] g
  unfold M_asks at h
  refine AW.iconst (dcN_0 dcg_740 :) ?_
  refine AW.istore_n (lv1 := [(2, iv 0), (0, rv z 117), (1, iv x1)]) (dcN_1 dcg_740 :) (by decide) rfl ?_
  refine AW.sub (lv1 := [(0, rv z 117), (1, iv x1), (2, iv 0)]) [1, 2, 0] rfl ?_
  exact M_asks_b_ok hdd _ _ _ h
set_option synthInstance.maxHeartbeats 2000000 in
theorem M_sorts_b_ok {z : AZ} {d : Nat} (hdd : 0 ≤ d) : ∀ (tag : Nat) (x1 : Int) (x2 : Int) (g : AG) (r : Int × AG), M_sorts_b tag x1 x2 g = some r → (tag = 1 → AW z (RX12, cX12_sorts, 3, none) d (QD none r) 2 [(0, rv z 117), (1, iv x1)] [] g) ∧ (tag = 2 → AW z (RX12, cX12_sorts, 3, none) d (QD none r) 12 [(0, rv z 117), (1, iv x1), (2, iv x2)] [] g) ∧ (tag = 3 → AW z (RX12, cX12_sorts, 3, none) d (QD none r) 58 [(0, rv z 117), (1, iv x1), (2, iv x2)] [] g) := by
  refine M_sorts_b.partial_correctness (fun tag x1 x2 g r => (tag = 1 → AW z (RX12, cX12_sorts, 3, none) d (QD none r) 2 [(0, rv z 117), (1, iv x1)] [] g) ∧ (tag = 2 → AW z (RX12, cX12_sorts, 3, none) d (QD none r) 12 [(0, rv z 117), (1, iv x1), (2, iv x2)] [] g) ∧ (tag = 3 → AW z (RX12, cX12_sorts, 3, none) d (QD none r) 58 [(0, rv z 117), (1, iv x1), (2, iv x2)] [] g)) ?_
  intro fb9 ih tag x1 x2 g r h
  refine ⟨fun h9 => ?_, fun h9 => ?_, fun h9 => ?_⟩
  · subst h9
    replace h := hT h rfl
    refine AW.iload_n 1 (dcN_2 dcg_724 :) rfl ?_
    refine AW.aloadr_n 0 (dcN_3 dcg_724 :) rfl ?_
    refine AW.getI af_X12_493_117 sr_117_65 (dcN_4 dcg_724 :) ?_
    refine AW.icmp_ge (tgt := 71) (dcN_5 dcg_724 :) (by decide) (fun c1 => ?_) (fun c1 => ?_)
    · replace h := hT h c1
      exact AW.vret1 rfl (dcN_3 dcg_726 :) h rfl
    · replace h := hF h c1
      refine AW.iload_n 1 (dcN_6 dcg_724 :) rfl ?_
      refine AW.istore_n (lv1 := [(2, iv x1), (0, rv z 117), (1, iv x1)]) (dcN_7 dcg_724 :) (by decide) rfl ?_
      refine AW.sub (lv1 := [(0, rv z 117), (1, iv x1), (2, iv x1)]) [1, 2, 0] rfl ?_
      exact (ih _ _ _ _ _ h).2.1 rfl
  · subst h9
    replace h := hF h (by decide)
    replace h := hT h rfl
    refine AW.iload_n 2 (dcN_8 dcg_724 :) rfl ?_
    refine AW.if_le (tgt := 58) (dcN_9 dcg_724 :) (by decide) (fun c1 => ?_) (fun c1 => ?_)
    · replace h := hT h c1
      exact (ih _ _ _ _ _ h).2.2 rfl
    · replace h := hF h c1
      refine AW.aloadr_n 0 (dcN_10 dcg_724 :) rfl ?_
      refine AW.getR af_X12_160_117 sr_117_70 (dcN_11 dcg_724 :) ?_
      refine AW.aloadr_n 0 (dcN_12 dcg_724 :) rfl ?_
      refine AW.getR af_X12_166_117 sr_117_72 (dcN_13 dcg_724 :) ?_
      refine AW.iload_n 2 (dcN_14 dcg_724 :) rfl ?_
      refine AW.iconst (dcN_15 dcg_724 :) ?_
      refine AW.isub (dcN_16 dcg_724 :) ?_
      obtain ⟨k2, h⟩ := hK h
      refine AW.iald kc_166 sk_166 k2 (dcN_17 dcg_724 :) ?_
      obtain ⟨k3, h⟩ := hK h
      refine AW.iald kc_164 sk_164 k3 (dcN_18 dcg_724 :) ?_
      refine AW.aloadr_n 0 (dcN_19 dcg_724 :) rfl ?_
      refine AW.getR af_X12_160_117 sr_117_70 (dcN_20 dcg_724 :) ?_
      refine AW.iload_n 1 (dcN_0 dcg_725 :) rfl ?_
      obtain ⟨k4, h⟩ := hK h
      refine AW.iald kc_164 sk_164 k4 (dcN_1 dcg_725 :) ?_
      refine AW.icmp_le (tgt := 58) (dcN_2 dcg_725 :) (by decide) (fun c5 => ?_) (fun c5 => ?_)
      · replace h := hT h c5
        exact (ih _ _ _ _ _ h).2.2 rfl
      · replace h := hF h c5
        refine AW.aloadr_n 0 (dcN_3 dcg_725 :) rfl ?_
        refine AW.getR af_X12_166_117 sr_117_72 (dcN_4 dcg_725 :) ?_
        refine AW.iload_n 2 (dcN_5 dcg_725 :) rfl ?_
        refine AW.aloadr_n 0 (dcN_6 dcg_725 :) rfl ?_
        refine AW.getR af_X12_166_117 sr_117_72 (dcN_7 dcg_725 :) ?_
        refine AW.iload_n 2 (dcN_8 dcg_725 :) rfl ?_
        refine AW.iconst (dcN_9 dcg_725 :) ?_
        refine AW.isub (dcN_10 dcg_725 :) ?_
        refine AW.iald kc_166 sk_166 k2 (dcN_11 dcg_725 :) ?_
        obtain ⟨k6, h⟩ := hK h
        obtain ⟨g7, e8, h⟩ := hBe h
        refine AW.iast kc_166 sk_166 k6 (dcN_12 dcg_725 :) e8 ?_
        refine AW.iinc (lv1 := [(2, iv (x2 + (-1))), (0, rv z 117), (1, iv x1)]) 2 (dcN_13 dcg_725 :) rfl (by decide) rfl ?_
        refine AW.goto (tgt := 12) (dcN_14 dcg_725 :) (by decide) ?_
        refine AW.sub (lv1 := [(0, rv z 117), (1, iv x1), (2, iv (x2 + (-1)))]) [1, 2, 0] rfl ?_
        exact (ih _ _ _ _ _ h).2.1 rfl
  · subst h9
    replace h := hF h (by decide)
    replace h := hF h (by decide)
    replace h := hT h rfl
    refine AW.aloadr_n 0 (dcN_15 dcg_725 :) rfl ?_
    refine AW.getR af_X12_166_117 sr_117_72 (dcN_16 dcg_725 :) ?_
    refine AW.iload_n 2 (dcN_17 dcg_725 :) rfl ?_
    refine AW.iload_n 1 (dcN_18 dcg_725 :) rfl ?_
    obtain ⟨k1, h⟩ := hK h
    obtain ⟨g2, e3, h⟩ := hBe h
    refine AW.iast kc_166 sk_166 k1 (dcN_0 dcg_726 :) e3 ?_
    refine AW.iinc (lv1 := [(1, iv (x1 + 1)), (0, rv z 117), (2, iv x2)]) 1 (dcN_1 dcg_726 :) rfl (by decide) rfl ?_
    refine AW.goto (tgt := 2) (dcN_2 dcg_726 :) (by decide) ?_
    refine AW.sub (lv1 := [(0, rv z 117), (1, iv (x1 + 1))]) [1, 0] rfl ?_
    exact (ih _ _ _ _ _ h).1 rfl
theorem M_sorts_ok {z : AZ} {g : AG} {r : Int × AG} (h : M_sorts g = some r) : AMf z yX12_sorts cX12_sorts 3 none 0 [rv z 117] g r := by
  intro d hdd
  refine AM.of (by decide +kernel) (Nat.le_of_ble_eq_true rfl) ?_
  show AW z (RX12, cX12_sorts, 3, none) d (QD none r) 0 [(0, rv z 117)] [] g
  unfold M_sorts at h
  refine AW.iconst (dcN_0 dcg_724 :) ?_
  refine AW.istore_n (lv1 := [(1, iv 0), (0, rv z 117)]) (dcN_1 dcg_724 :) (by decide) rfl ?_
  refine AW.sub (lv1 := [(0, rv z 117), (1, iv 0)]) [1, 0] rfl ?_
  exact (M_sorts_b_ok hdd _ _ _ _ _ h).1 rfl
set_option synthInstance.maxHeartbeats 2000000 in
theorem M_gives_b_ok {z : AZ} {rec : Int → Int → Int → AG → Option (Int × AG)} {Dr : Nat} (hC9 : 0 ≤ Dr) (hrec : ∀ (x1 : Int) (x2 : Int) (x3 : Int) (g : AG) (r : Int × AG), rec x1 x2 x3 g = some r → AMf z yX12_gives cX12_gives 8 none Dr [rv z 117, iv x1, iv x2, iv x3] g r) {d : Nat} (hdd : Dr + 1 ≤ d) {x1 : Int} {x2 : Int} {x3 : Int} : ∀ (tag : Nat) (x4 : Int) (x5 : Int) (g : AG) (r : Int × AG), M_gives_b rec x1 x2 x3 tag x4 x5 g = some r → (tag = 1 → AW z (RX12, cX12_gives, 8, none) d (QD none r) 14 [(0, rv z 117), (2, iv x2), (3, iv x3), (4, iv x4), (5, iv x5)] [] g) ∧ (tag = 2 → AW z (RX12, cX12_gives, 8, none) d (QD none r) 79 [(0, rv z 117), (3, iv x3), (4, iv x4)] [] g) ∧ (tag = 3 → AW z (RX12, cX12_gives, 8, none) d (QD none r) 93 [(0, rv z 117), (5, iv x5)] [] g) ∧ (tag = 4 → AW z (RX12, cX12_gives, 8, none) d (QD none r) 134 [(0, rv z 117), (1, iv x1), (2, iv x2), (3, iv x3), (4, iv x4), (5, iv x5)] [] g) := by
  refine M_gives_b.partial_correctness rec x1 x2 x3 (fun tag x4 x5 g r => (tag = 1 → AW z (RX12, cX12_gives, 8, none) d (QD none r) 14 [(0, rv z 117), (2, iv x2), (3, iv x3), (4, iv x4), (5, iv x5)] [] g) ∧ (tag = 2 → AW z (RX12, cX12_gives, 8, none) d (QD none r) 79 [(0, rv z 117), (3, iv x3), (4, iv x4)] [] g) ∧ (tag = 3 → AW z (RX12, cX12_gives, 8, none) d (QD none r) 93 [(0, rv z 117), (5, iv x5)] [] g) ∧ (tag = 4 → AW z (RX12, cX12_gives, 8, none) d (QD none r) 134 [(0, rv z 117), (1, iv x1), (2, iv x2), (3, iv x3), (4, iv x4), (5, iv x5)] [] g)) ?_
  intro fb9 ih tag x4 x5 g r h
  refine ⟨fun h9 => ?_, fun h9 => ?_, fun h9 => ?_, fun h9 => ?_⟩
  · subst h9
    replace h := hT h rfl
    refine AW.iload 4 (dcN_8 dcg_727 :) rfl ?_
    refine AW.iload_n 1 (dcN_9 dcg_727 :) rfl ?_
    refine AW.icmp_ge (tgt := 53) (dcN_10 dcg_727 :) (by decide) (fun c1 => ?_) (fun c1 => ?_)
    · replace h := hT h c1
      refine AW.iload_n 2 (dcN_10 dcg_728 :) rfl ?_
      refine AW.aloadr_n 0 (dcN_11 dcg_728 :) rfl ?_
      refine AW.getI af_X12_496_117 sr_117_66 (dcN_12 dcg_728 :) ?_
      refine AW.icmp_lt (tgt := 78) (dcN_13 dcg_728 :) (by decide) (fun c2 => ?_) (fun c2 => ?_)
      · replace h := hT h c2
        exact AW.vret1 rfl (dcN_5 dcg_729 :) h rfl
      · replace h := hF h c2
        refine AW.iload_n 2 (dcN_14 dcg_728 :) rfl ?_
        refine AW.aloadr_n 0 (dcN_15 dcg_728 :) rfl ?_
        refine AW.getI af_X12_496_117 sr_117_66 (dcN_16 dcg_728 :) ?_
        refine AW.icmp_ne (tgt := 79) (dcN_0 dcg_729 :) (by decide) (fun c3 => ?_) (fun c3 => ?_)
        · replace h := hF h c3
          refine AW.sub (lv1 := [(0, rv z 117), (3, iv x3), (4, iv x4)]) [0, 2, 3] rfl ?_
          exact (ih _ _ _ _ _ h).2.1 rfl
        · replace h := hT h c3
          refine AW.iload 3 (dcN_1 dcg_729 :) rfl ?_
          refine AW.aloadr_n 0 (dcN_2 dcg_729 :) rfl ?_
          refine AW.getI af_X12_499_117 sr_117_67 (dcN_3 dcg_729 :) ?_
          refine AW.icmp_gt (tgt := 79) (dcN_4 dcg_729 :) (by decide) (fun c4 => ?_) (fun c4 => ?_)
          · replace h := hT h c4
            refine AW.sub (lv1 := [(0, rv z 117), (3, iv x3), (4, iv x4)]) [0, 2, 3] rfl ?_
            exact (ih _ _ _ _ _ h).2.1 rfl
          · replace h := hF h c4
            exact AW.vret1 rfl (dcN_5 dcg_729 :) h rfl
    · replace h := hF h c1
      refine AW.iload 3 (dcN_11 dcg_727 :) rfl ?_
      refine AW.aloadr_n 0 (dcN_12 dcg_727 :) rfl ?_
      refine AW.getR af_X12_175_117 sr_117_75 (dcN_13 dcg_727 :) ?_
      refine AW.iload 4 (dcN_14 dcg_727 :) rfl ?_
      obtain ⟨k5, h⟩ := hK h
      refine AW.iald kc_169 sk_169 k5 (dcN_15 dcg_727 :) ?_
      refine AW.aloadr_n 0 (dcN_16 dcg_727 :) rfl ?_
      refine AW.getR af_X12_184_117 sr_117_78 (dcN_17 dcg_727 :) ?_
      refine AW.iload 4 (dcN_0 dcg_728 :) rfl ?_
      refine AW.iald kc_172 sk_172 k5 (dcN_1 dcg_728 :) ?_
      obtain ⟨t6, e7, h⟩ := hBe h
      refine AW.join (tgt := 44) (lv1 := [(0, rv z 117), (2, iv x2), (3, iv x3), (4, iv x4), (5, iv x5)]) (st1 := [iv t6, iv x4]) (g1 := g) ?_ (fun J36 => ?_)
      · refine AW.iadd (dcN_6 dcg_728 :) ?_
        refine AW.istore (lv1 := [(4, iv (x4 + t6)), (0, rv z 117), (2, iv x2), (3, iv x3), (5, iv x5)]) (dcN_7 dcg_728 :) (by decide) rfl ?_
        refine AW.iinc (lv1 := [(5, iv (x5 + 1)), (4, iv (x4 + t6)), (0, rv z 117), (2, iv x2), (3, iv x3)]) 4 (dcN_8 dcg_728 :) rfl (by decide) rfl ?_
        refine AW.goto (tgt := 14) (dcN_9 dcg_728 :) (by decide) ?_
        refine AW.sub (lv1 := [(0, rv z 117), (2, iv x2), (3, iv x3), (4, iv (x4 + t6)), (5, iv (x5 + 1))]) [2, 3, 4, 1, 0] rfl ?_
        exact (ih _ _ _ _ _ h).1 rfl
      refine AW.icmp_ne (tgt := 43) (dcN_2 dcg_728 :) (by decide) (fun c8 => ?_) (fun c8 => ?_)
      · refine AW.iconst (dcN_5 dcg_728 :) ?_
        exact AW.val (e7.trans (if_neg c8)) J36
      · refine AW.iconst (dcN_3 dcg_728 :) ?_
        refine AW.goto (tgt := 44) (dcN_4 dcg_728 :) (by decide) ?_
        exact AW.val (e7.trans (if_pos c8)) J36
  · subst h9
    replace h := hF h (by decide)
    replace h := hT h rfl
    refine AW.aloadr_n 0 (dcN_6 dcg_729 :) rfl ?_
    refine AW.iload_n 1 (dcN_7 dcg_729 :) rfl ?_
    obtain ⟨g1, e2, h⟩ := hBe h
    refine AW.putI ap_X12_496_117 sr_117_66 (dcN_8 dcg_729 :) e2 ?_
    refine AW.aloadr_n 0 (dcN_9 dcg_729 :) rfl ?_
    refine AW.iload 2 (dcN_10 dcg_729 :) rfl ?_
    obtain ⟨g3, e4, h⟩ := hBe h
    refine AW.putI ap_X12_499_117 sr_117_67 (dcN_11 dcg_729 :) e4 ?_
    refine AW.iconst (dcN_12 dcg_729 :) ?_
    refine AW.istore (lv1 := [(5, iv 0), (0, rv z 117), (3, iv x3), (4, iv x4)]) (dcN_13 dcg_729 :) (by decide) rfl ?_
    refine AW.sub (lv1 := [(0, rv z 117), (5, iv 0)]) [1, 0] rfl ?_
    exact (ih _ _ _ _ _ h).2.2.1 rfl
  · subst h9
    replace h := hF h (by decide)
    replace h := hF h (by decide)
    replace h := hT h rfl
    refine AW.iload 1 (dcN_14 dcg_729 :) rfl ?_
    refine AW.aloadr_n 0 (dcN_15 dcg_729 :) rfl ?_
    refine AW.getI af_X12_493_117 sr_117_65 (dcN_0 dcg_730 :) ?_
    refine AW.icmp_ge (tgt := 122) (dcN_1 dcg_730 :) (by decide) (fun c1 => ?_) (fun c1 => ?_)
    · replace h := hT h c1
      exact AW.vret1 rfl (dcN_12 dcg_730 :) h rfl
    · replace h := hF h c1
      refine AW.aloadr_n 0 (dcN_2 dcg_730 :) rfl ?_
      refine AW.getR af_X12_172_117 sr_117_74 (dcN_3 dcg_730 :) ?_
      refine AW.iload 1 (dcN_4 dcg_730 :) rfl ?_
      refine AW.aloadr_n 0 (dcN_5 dcg_730 :) rfl ?_
      refine AW.getR af_X12_169_117 sr_117_73 (dcN_6 dcg_730 :) ?_
      refine AW.iload 1 (dcN_7 dcg_730 :) rfl ?_
      obtain ⟨k2, h⟩ := hK h
      refine AW.iald kc_167 sk_167 k2 (dcN_8 dcg_730 :) ?_
      obtain ⟨g3, e4, h⟩ := hBe h
      refine AW.iast kc_168 sk_168 k2 (dcN_9 dcg_730 :) e4 ?_
      refine AW.iinc (lv1 := [(5, iv (x5 + 1)), (0, rv z 117)]) 1 (dcN_10 dcg_730 :) rfl (by decide) rfl ?_
      refine AW.goto (tgt := 93) (dcN_11 dcg_730 :) (by decide) ?_
      refine AW.sub (lv1 := [(0, rv z 117), (5, iv (x5 + 1))]) [1, 0] rfl ?_
      exact (ih _ _ _ _ _ h).2.2.1 rfl
  · subst h9
    replace h := hF h (by decide)
    replace h := hF h (by decide)
    replace h := hF h (by decide)
    replace h := hT h rfl
    refine AW.iload 5 (dcN_4 dcg_731 :) rfl ?_
    refine AW.iload_n 2 (dcN_5 dcg_731 :) rfl ?_
    refine AW.icmp_ge (tgt := 284) (dcN_6 dcg_731 :) (by decide) (fun c1 => ?_) (fun c1 => ?_)
    · replace h := hT h c1
      refine AW.aloadr_n 0 (dcN_14 dcg_735 :) rfl ?_
      refine AW.getR af_X12_169_117 sr_117_73 (dcN_15 dcg_735 :) ?_
      refine AW.iload 4 (dcN_0 dcg_736 :) rfl ?_
      refine AW.iconst (dcN_1 dcg_736 :) ?_
      obtain ⟨k2, h⟩ := hK h
      obtain ⟨g3, e4, h⟩ := hBe h
      refine AW.iast kc_167 sk_167 k2 (dcN_2 dcg_736 :) e4 ?_
      refine AW.aloadr_n 0 (dcN_3 dcg_736 :) rfl ?_
      refine AW.iload_n 1 (dcN_4 dcg_736 :) rfl ?_
      refine AW.iconst (dcN_5 dcg_736 :) ?_
      refine AW.iadd (dcN_6 dcg_736 :) ?_
      refine AW.iload_n 2 (dcN_7 dcg_736 :) rfl ?_
      refine AW.iload_n 3 (dcN_8 dcg_736 :) rfl ?_
      obtain ⟨r5, e6, h⟩ := hC h
      refine AW.callVv (As := [iv (x1 + 1), iv x2, iv x3]) (st := []) (hrec _ _ _ _ _ e6) cq_X12_502 cr_117_X12_gives (by omega) rfl (dcN_9 dcg_736 :) rfl (Nat.le_of_ble_eq_true rfl) ?_
      exact AW.vret1 rfl (dcN_10 dcg_736 :) h rfl
    · replace h := hF h c1
      refine AW.aloadr_n 0 (dcN_7 dcg_731 :) rfl ?_
      refine AW.getR af_X12_181_117 sr_117_77 (dcN_8 dcg_731 :) ?_
      refine AW.iload 5 (dcN_9 dcg_731 :) rfl ?_
      obtain ⟨k7, h⟩ := hK h
      refine AW.iald kc_171 sk_171 k7 (dcN_10 dcg_731 :) ?_
      refine AW.aloadr_n 0 (dcN_11 dcg_731 :) rfl ?_
      refine AW.getR af_X12_163_117 sr_117_71 (dcN_12 dcg_731 :) ?_
      refine AW.iload 4 (dcN_13 dcg_731 :) rfl ?_
      obtain ⟨k8, h⟩ := hK h
      refine AW.iald kc_165 sk_165 k8 (dcN_14 dcg_731 :) ?_
      obtain ⟨r24, e25, h⟩ := hC h
      refine AW.join (tgt := 278) (lv1 := [(0, rv z 117), (1, iv x1), (2, iv x2), (3, iv x3), (4, iv x4), (5, iv x5)]) (st1 := []) (g1 := r24) ?_ (fun J154 => ?_)
      · refine AW.iinc (lv1 := [(5, iv (x5 + 1)), (0, rv z 117), (1, iv x1), (2, iv x2), (3, iv x3), (4, iv x4)]) 5 (dcN_12 dcg_735 :) rfl (by decide) rfl ?_
        refine AW.goto (tgt := 134) (dcN_13 dcg_735 :) (by decide) ?_
        refine AW.sub (lv1 := [(0, rv z 117), (1, iv x1), (2, iv x2), (3, iv x3), (4, iv x4), (5, iv (x5 + 1))]) [1, 2, 3, 4, 5, 0] rfl ?_
        exact (ih _ _ _ _ _ h).2.2.2 rfl
      replace h := e25
      refine AW.icmp_lt (tgt := 278) (dcN_15 dcg_731 :) (by decide) (fun c9 => ?_) (fun c9 => ?_)
      · replace h := hT h c9
        cases h
        exact J154
      · replace h := hF h c9
        refine AW.aloadr_n 0 (dcN_16 dcg_731 :) rfl ?_
        refine AW.getR af_X12_175_117 sr_117_75 (dcN_17 dcg_731 :) ?_
        refine AW.iload 5 (dcN_0 dcg_732 :) rfl ?_
        refine AW.iald kc_169 sk_169 k7 (dcN_1 dcg_732 :) ?_
        refine AW.aloadr_n 0 (dcN_2 dcg_732 :) rfl ?_
        refine AW.getR af_X12_154_117 sr_117_68 (dcN_3 dcg_732 :) ?_
        refine AW.iload 4 (dcN_4 dcg_732 :) rfl ?_
        refine AW.iald kc_162 sk_162 k8 (dcN_5 dcg_732 :) ?_
        refine AW.icmp_ne (tgt := 278) (dcN_6 dcg_732 :) (by decide) (fun c10 => ?_) (fun c10 => ?_)
        · replace h := hF h c10
          cases h
          exact J154
        · replace h := hT h c10
          refine AW.aloadr_n 0 (dcN_7 dcg_732 :) rfl ?_
          refine AW.getR af_X12_178_117 sr_117_76 (dcN_8 dcg_732 :) ?_
          refine AW.iload 5 (dcN_9 dcg_732 :) rfl ?_
          refine AW.iald kc_170 sk_170 k7 (dcN_10 dcg_732 :) ?_
          refine AW.aloadr_n 0 (dcN_11 dcg_732 :) rfl ?_
          refine AW.getR af_X12_160_117 sr_117_70 (dcN_12 dcg_732 :) ?_
          refine AW.iload 4 (dcN_13 dcg_732 :) rfl ?_
          refine AW.iald kc_164 sk_164 k8 (dcN_14 dcg_732 :) ?_
          refine AW.icmp_ne (tgt := 194) (dcN_15 dcg_732 :) (by decide) (fun c11 => ?_) (fun c11 => ?_)
          · replace h := hF h c11
            refine AW.aloadr_n 0 (dcN_0 dcg_733 :) rfl ?_
            refine AW.getR af_X12_175_117 sr_117_75 (dcN_1 dcg_733 :) ?_
            refine AW.iload 5 (dcN_2 dcg_733 :) rfl ?_
            refine AW.iald kc_169 sk_169 k7 (dcN_3 dcg_733 :) ?_
            refine AW.istore (lv1 := [(6, iv (g 169 (ix x5))), (0, rv z 117), (1, iv x1), (2, iv x2), (3, iv x3), (4, iv x4), (5, iv x5)]) (dcN_4 dcg_733 :) (by decide) rfl ?_
            refine AW.aloadr_n 1 (dcN_5 dcg_733 :) rfl ?_
            refine AW.getR af_X12_178_117 sr_117_76 (dcN_6 dcg_733 :) ?_
            refine AW.iload 6 (dcN_7 dcg_733 :) rfl ?_
            refine AW.iald kc_170 sk_170 k7 (dcN_8 dcg_733 :) ?_
            refine AW.istore (lv1 := [(7, iv (g 170 (ix x5))), (6, iv (g 169 (ix x5))), (0, rv z 117), (1, iv x1), (2, iv x2), (3, iv x3), (4, iv x4), (5, iv x5)]) (dcN_9 dcg_733 :) (by decide) rfl ?_
            refine AW.aloadr_n 2 (dcN_10 dcg_733 :) rfl ?_
            refine AW.getR af_X12_175_117 sr_117_75 (dcN_11 dcg_733 :) ?_
            refine AW.iload 7 (dcN_12 dcg_733 :) rfl ?_
            refine AW.aloadr_n 2 (dcN_13 dcg_733 :) rfl ?_
            refine AW.getR af_X12_157_117 sr_117_69 (dcN_14 dcg_733 :) ?_
            refine AW.iload 6 (dcN_15 dcg_733 :) rfl ?_
            refine AW.iald kc_163 sk_163 k8 (dcN_0 dcg_734 :) ?_
            obtain ⟨g12, e13, h⟩ := hBe h
            refine AW.iast kc_169 sk_169 k7 (dcN_1 dcg_734 :) e13 ?_
            refine AW.aloadr_n 2 (dcN_2 dcg_734 :) rfl ?_
            refine AW.getR af_X12_178_117 sr_117_76 (dcN_3 dcg_734 :) ?_
            refine AW.iload 7 (dcN_4 dcg_734 :) rfl ?_
            refine AW.aloadr_n 2 (dcN_5 dcg_734 :) rfl ?_
            refine AW.getR af_X12_160_117 sr_117_70 (dcN_6 dcg_734 :) ?_
            refine AW.iload 6 (dcN_7 dcg_734 :) rfl ?_
            refine AW.iald kc_164 sk_164 k8 (dcN_8 dcg_734 :) ?_
            obtain ⟨g14, e15, h⟩ := hBe h
            refine AW.iast kc_170 sk_170 k7 (dcN_9 dcg_734 :) e15 ?_
            refine AW.aloadr_n 2 (dcN_10 dcg_734 :) rfl ?_
            refine AW.getR af_X12_169_117 sr_117_73 (dcN_11 dcg_734 :) ?_
            refine AW.iload 6 (dcN_12 dcg_734 :) rfl ?_
            refine AW.iload 7 (dcN_13 dcg_734 :) rfl ?_
            obtain ⟨g16, e17, h⟩ := hBe h
            refine AW.iast kc_167 sk_167 k8 (dcN_14 dcg_734 :) e17 ?_
            refine AW.aloadr_n 2 (dcN_15 dcg_734 :) rfl ?_
            refine AW.iload_n 3 (dcN_16 dcg_734 :) rfl ?_
            refine AW.iconst (dcN_17 dcg_734 :) ?_
            refine AW.iadd (dcN_18 dcg_734 :) ?_
            refine AW.iload_n 4 (dcN_19 dcg_734 :) rfl ?_
            refine AW.iload_n 5 (dcN_20 dcg_734 :) rfl ?_
            refine AW.iconst (dcN_21 dcg_734 :) ?_
            refine AW.iadd (dcN_0 dcg_735 :) ?_
            obtain ⟨r18, e19, h⟩ := hC h
            refine AW.callVv (As := [iv (x1 + 1), iv x2, iv (x3 + 1)]) (st := []) (hrec _ _ _ _ _ e19) cq_X12_502 cr_117_X12_gives (by omega) rfl (dcN_1 dcg_735 :) rfl (Nat.le_of_ble_eq_true rfl) ?_
            refine AW.aloadr_n 2 (dcN_2 dcg_735 :) rfl ?_
            refine AW.getR af_X12_175_117 sr_117_75 (dcN_3 dcg_735 :) ?_
            refine AW.iload 7 (dcN_4 dcg_735 :) rfl ?_
            refine AW.iload 1 (dcN_5 dcg_735 :) rfl ?_
            obtain ⟨g20, e21, h⟩ := hBe h
            refine AW.iast kc_169 sk_169 k7 (dcN_6 dcg_735 :) e21 ?_
            refine AW.aloadr_n 2 (dcN_7 dcg_735 :) rfl ?_
            refine AW.getR af_X12_178_117 sr_117_76 (dcN_8 dcg_735 :) ?_
            refine AW.iload 7 (dcN_9 dcg_735 :) rfl ?_
            refine AW.iload 0 (dcN_10 dcg_735 :) rfl ?_
            obtain ⟨g22, e23, h⟩ := hBe h
            refine AW.iast kc_170 sk_170 k7 (dcN_11 dcg_735 :) e23 ?_
            refine AW.sub (lv1 := [(0, rv z 117), (1, iv x1), (2, iv x2), (3, iv x3), (4, iv x4), (5, iv x5)]) [2, 3, 4, 5, 6, 7] rfl ?_
            cases h
            exact J154
          · replace h := hT h c11
            refine AW.goto (tgt := 278) (dcN_16 dcg_732 :) (by decide) ?_
            cases h
            exact J154
theorem M_gives_s_ok {z : AZ} {rec : Int → Int → Int → AG → Option (Int × AG)} {Dr : Nat} (hC9 : 0 ≤ Dr) (hrec : ∀ (x1 : Int) (x2 : Int) (x3 : Int) (g : AG) (r : Int × AG), rec x1 x2 x3 g = some r → AMf z yX12_gives cX12_gives 8 none Dr [rv z 117, iv x1, iv x2, iv x3] g r) {x1 : Int} {x2 : Int} {x3 : Int} {g : AG} {r : Int × AG} (h : M_gives_s rec x1 x2 x3 g = some r) : AMf z yX12_gives cX12_gives 8 none (Dr + 1) [rv z 117, iv x1, iv x2, iv x3] g r := by
  intro d hdd
  refine AM.of (by decide +kernel) (Nat.le_of_ble_eq_true rfl) ?_
  show AW z (RX12, cX12_gives, 8, none) d (QD none r) 0 [(0, rv z 117), (1, iv x1), (2, iv x2), (3, iv x3)] [] g
  unfold M_gives_s at h
  refine AW.iload_n 1 (dcN_0 dcg_727 :) rfl ?_
  refine AW.aloadr_n 0 (dcN_1 dcg_727 :) rfl ?_
  refine AW.getI af_X12_493_117 sr_117_65 (dcN_2 dcg_727 :) ?_
  refine AW.icmp_ne (tgt := 123) (dcN_3 dcg_727 :) (by decide) (fun c1 => ?_) (fun c1 => ?_)
  · replace h := hF h c1
    refine AW.aloadr_n 0 (dcN_13 dcg_730 :) rfl ?_
    refine AW.getR af_X12_166_117 sr_117_72 (dcN_14 dcg_730 :) ?_
    refine AW.iload_n 1 (dcN_15 dcg_730 :) rfl ?_
    obtain ⟨k2, h⟩ := hK h
    refine AW.iald kc_166 sk_166 k2 (dcN_0 dcg_731 :) ?_
    refine AW.istore (lv1 := [(4, iv (g 166 (ix x1))), (0, rv z 117), (1, iv x1), (2, iv x2), (3, iv x3)]) (dcN_1 dcg_731 :) (by decide) rfl ?_
    refine AW.iconst (dcN_2 dcg_731 :) ?_
    refine AW.istore (lv1 := [(5, iv 0), (4, iv (g 166 (ix x1))), (0, rv z 117), (1, iv x1), (2, iv x2), (3, iv x3)]) (dcN_3 dcg_731 :) (by decide) rfl ?_
    refine AW.sub (lv1 := [(0, rv z 117), (1, iv x1), (2, iv x2), (3, iv x3), (4, iv (g 166 (ix x1))), (5, iv 0)]) [2, 3, 4, 5, 1, 0] rfl ?_
    exact (M_gives_b_ok hC9 hrec hdd _ _ _ _ _ h).2.2.2 rfl
  · replace h := hT h c1
    refine AW.iconst (dcN_4 dcg_727 :) ?_
    refine AW.istore (lv1 := [(4, iv 0), (0, rv z 117), (1, iv x1), (2, iv x2), (3, iv x3)]) (dcN_5 dcg_727 :) (by decide) rfl ?_
    refine AW.iconst (dcN_6 dcg_727 :) ?_
    refine AW.istore (lv1 := [(5, iv 0), (4, iv 0), (0, rv z 117), (1, iv x1), (2, iv x2), (3, iv x3)]) (dcN_7 dcg_727 :) (by decide) rfl ?_
    refine AW.sub (lv1 := [(0, rv z 117), (2, iv x2), (3, iv x3), (4, iv 0), (5, iv 0)]) [2, 4, 5, 1, 0] rfl ?_
    exact (M_gives_b_ok hC9 hrec hdd _ _ _ _ _ h).1 rfl
theorem M_gives_ok {z : AZ} {n : Nat} {x1 : Int} {x2 : Int} {x3 : Int} {g : AG} {r : Int × AG} (h : M_gives n x1 x2 x3 g = some r) : AMf z yX12_gives cX12_gives 8 none (0 + n * 1) [rv z 117, iv x1, iv x2, iv x3] g r := by
  induction n generalizing x1 x2 x3 g r with
  | zero => cases h
  | succ n ih =>
    have q := M_gives_s_ok (z := z) (Dr := 0 + n * 1) (Nat.le_add_right _ _) (fun x1 x2 x3 g r h9 => ih h9) h
    rw [show 0 + (n + 1) * 1 = 0 + n * 1 + 1 by rw [Nat.add_mul]; omega]
    exact q
set_option synthInstance.maxHeartbeats 2000000 in
theorem M_givesBest_b_ok {z : AZ} {d : Nat} (hdd : 11 ≤ d) {x1 : Int} : ∀ (x2 : Int) (g : AG) (r : Int × AG), M_givesBest_b x1 x2 g = some r → AW z (RX12, cX12_givesBest, 3, none) d (QD none r) 6 [(0, rv z 117), (1, iv x1), (2, iv x2)] [] g := by
  refine M_givesBest_b.partial_correctness x1 (fun x2 g r => AW z (RX12, cX12_givesBest, 3, none) d (QD none r) 6 [(0, rv z 117), (1, iv x1), (2, iv x2)] [] g) ?_
  intro fb9 ih x2 g r h
  refine AW.iload_n 2 (dcN_4 dcg_742 :) rfl ?_
  refine AW.iload_n 1 (dcN_5 dcg_742 :) rfl ?_
  refine AW.icmp_ge (tgt := 36) (dcN_6 dcg_742 :) (by decide) (fun c1 => ?_) (fun c1 => ?_)
  · replace h := hT h c1
    refine AW.aloadr_n 0 (dcN_1 dcg_743 :) rfl ?_
    refine AW.iconst (dcN_2 dcg_743 :) ?_
    obtain ⟨g2, e3, h⟩ := hBe h
    refine AW.putI ap_X12_496_117 sr_117_66 (dcN_3 dcg_743 :) e3 ?_
    refine AW.aloadr_n 0 (dcN_4 dcg_743 :) rfl ?_
    refine AW.iconst (dcN_5 dcg_743 :) ?_
    obtain ⟨g4, e5, h⟩ := hBe h
    refine AW.putI ap_X12_499_117 sr_117_67 (dcN_6 dcg_743 :) e5 ?_
    refine AW.aloadr_n 0 (dcN_7 dcg_743 :) rfl ?_
    refine AW.iconst (dcN_8 dcg_743 :) ?_
    refine AW.iload_n 1 (dcN_9 dcg_743 :) rfl ?_
    refine AW.iconst (dcN_10 dcg_743 :) ?_
    obtain ⟨r6, e7, h⟩ := hC h
    refine AW.callVv (As := [iv 0, iv x1, iv 0]) (st := []) ((M_gives_ok (n := 10)) e7) cq_X12_502 cr_117_X12_gives (Nat.le_trans (by decide) hdd) rfl (dcN_11 dcg_743 :) rfl (Nat.le_of_ble_eq_true rfl) ?_
    exact AW.vret1 rfl (dcN_12 dcg_743 :) h rfl
  · replace h := hF h c1
    refine AW.aloadr_n 0 (dcN_7 dcg_742 :) rfl ?_
    refine AW.getR af_X12_175_117 sr_117_75 (dcN_8 dcg_742 :) ?_
    refine AW.iload_n 2 (dcN_9 dcg_742 :) rfl ?_
    refine AW.aloadr_n 0 (dcN_10 dcg_742 :) rfl ?_
    refine AW.getR af_X12_184_117 sr_117_78 (dcN_11 dcg_742 :) ?_
    refine AW.iload_n 2 (dcN_12 dcg_742 :) rfl ?_
    obtain ⟨k8, h⟩ := hK h
    refine AW.iald kc_172 sk_172 k8 (dcN_13 dcg_742 :) ?_
    obtain ⟨g9, e10, h⟩ := hBe h
    refine AW.iast kc_169 sk_169 k8 (dcN_14 dcg_742 :) e10 ?_
    refine AW.aloadr_n 0 (dcN_15 dcg_742 :) rfl ?_
    refine AW.getR af_X12_178_117 sr_117_76 (dcN_16 dcg_742 :) ?_
    refine AW.iload_n 2 (dcN_17 dcg_742 :) rfl ?_
    refine AW.iconst (dcN_18 dcg_742 :) ?_
    obtain ⟨g11, e12, h⟩ := hBe h
    refine AW.iast kc_170 sk_170 k8 (dcN_19 dcg_742 :) e12 ?_
    refine AW.iinc (lv1 := [(2, iv (x2 + 1)), (0, rv z 117), (1, iv x1)]) 2 (dcN_20 dcg_742 :) rfl (by decide) rfl ?_
    refine AW.goto (tgt := 6) (dcN_0 dcg_743 :) (by decide) ?_
    refine AW.sub (lv1 := [(0, rv z 117), (1, iv x1), (2, iv (x2 + 1))]) [1, 2, 0] rfl ?_
    exact ih _ _ _ h
theorem M_givesBest_ok {z : AZ} {x1 : Int} {g : AG} {r : Int × AG} (h : M_givesBest x1 g = some r) : AMf z yX12_givesBest cX12_givesBest 3 none 11 [rv z 117, iv x1] g r := by
  intro d hdd
  refine AM.of (by decide +kernel) (Nat.le_of_ble_eq_true rfl) ?_
  show AW z (RX12, cX12_givesBest, 3, none) d (QD none r) 0 [(0, rv z 117), (1, iv x1)] [] g
  unfold M_givesBest at h
  refine AW.aloadr_n 0 (dcN_0 dcg_742 :) rfl ?_
  obtain ⟨r1, e2, h⟩ := hC h
  refine AW.callVv (As := []) (st := []) (M_sorts_ok e2) cq_X12_512 cr_117_X12_sorts (Nat.le_trans (by decide) hdd) rfl (dcN_1 dcg_742 :) rfl (Nat.le_of_ble_eq_true rfl) ?_
  refine AW.iconst (dcN_2 dcg_742 :) ?_
  refine AW.istore_n (lv1 := [(2, iv 0), (0, rv z 117), (1, iv x1)]) (dcN_3 dcg_742 :) (by decide) rfl ?_
  refine AW.sub (lv1 := [(0, rv z 117), (1, iv x1), (2, iv 0)]) [1, 2, 0] rfl ?_
  exact M_givesBest_b_ok hdd _ _ _ h
end
section
set_option synthInstance.maxHeartbeats 2000000 in
theorem M_given_b_ok {z : AZ} {d : Nat} (hdd : 12 ≤ d) {x1 : Int} {x2 : Int} {g : AG} : ∀ (r : Int × AG), M_given_b x1 x2 g = some r → AW z (RX12, cX12_given, 3, (some .int)) d (QD (some .int) r) 44 [(0, rv z 117), (1, iv x1), (2, iv x2)] [] g := by
  intro r h
  unfold M_given_b at h
  refine AW.aloadr_n 0 (dcN_6 dcg_738 :) rfl ?_
  refine AW.iload_n 1 (dcN_7 dcg_738 :) rfl ?_
  obtain ⟨r1, e2, h⟩ := hC h
  refine AW.callVv (As := [iv x1]) (st := []) (M_asks_ok e2) cq_X12_505 cr_117_X12_asks (Nat.le_trans (by decide) hdd) rfl (dcN_8 dcg_738 :) rfl (Nat.le_of_ble_eq_true rfl) ?_
  refine AW.aloadr_n 0 (dcN_9 dcg_738 :) rfl ?_
  refine AW.iload_n 1 (dcN_10 dcg_738 :) rfl ?_
  obtain ⟨r3, e4, h⟩ := hC h
  refine AW.callVv (As := [iv x1]) (st := []) (M_givesBest_ok e4) cq_X12_509 cr_117_X12_givesBest (Nat.le_trans (by decide) hdd) rfl (dcN_11 dcg_738 :) rfl (Nat.le_of_ble_eq_true rfl) ?_
  refine AW.iload_n 2 (dcN_12 dcg_738 :) rfl ?_
  obtain ⟨r8, e9, h⟩ := hC h
  refine AW.join (tgt := 86) (lv1 := []) (st1 := [iv r8.1]) (g1 := r8.2) ?_ (fun J55 => ?_)
  · exact AW.iret1 rfl (dcN_12 dcg_739 :) h rfl
  replace h := e9
  refine AW.if_ne (tgt := 65) (dcN_13 dcg_738 :) (by decide) (fun c5 => ?_) (fun c5 => ?_)
  · replace h := hF h c5
    refine AW.iload_n 2 (dcN_0 dcg_739 :) rfl ?_
    refine AW.iconst (dcN_1 dcg_739 :) ?_
    refine AW.icmp_ne (tgt := 77) (dcN_2 dcg_739 :) (by decide) (fun c6 => ?_) (fun c6 => ?_)
    · replace h := hF h c6
      refine AW.aloadr_n 0 (dcN_6 dcg_739 :) rfl ?_
      refine AW.getR af_X12_172_117 sr_117_74 (dcN_7 dcg_739 :) ?_
      refine AW.iload_n 2 (dcN_8 dcg_739 :) rfl ?_
      refine AW.bipush (dcN_9 dcg_739 :) (by decide) (by decide) ?_
      refine AW.isub (dcN_10 dcg_739 :) ?_
      obtain ⟨k7, h⟩ := hK h
      refine AW.iald kc_168 sk_168 k7 (dcN_11 dcg_739 :) ?_
      refine AW.sub (lv1 := []) [] rfl ?_
      cases h
      exact J55
    · replace h := hT h c6
      refine AW.aloadr_n 0 (dcN_3 dcg_739 :) rfl ?_
      refine AW.getI af_X12_499_117 sr_117_67 (dcN_4 dcg_739 :) ?_
      refine AW.goto (tgt := 86) (dcN_5 dcg_739 :) (by decide) ?_
      refine AW.sub (lv1 := []) [] rfl ?_
      cases h
      exact J55
  · replace h := hT h c5
    refine AW.aloadr_n 0 (dcN_14 dcg_738 :) rfl ?_
    refine AW.getI af_X12_496_117 sr_117_66 (dcN_15 dcg_738 :) ?_
    refine AW.goto (tgt := 86) (dcN_16 dcg_738 :) (by decide) ?_
    refine AW.sub (lv1 := []) [] rfl ?_
    cases h
    exact J55
theorem M_given_ok {z : AZ} {x1 : Int} {x2 : Int} {g : AG} {r : Int × AG} (h : M_given x1 x2 g = some r) : AMf z yX12_given cX12_given 3 (some .int) 12 [rv z 117, iv x1, iv x2] g r := by
  intro d hdd
  refine AM.of (by decide +kernel) (Nat.le_of_ble_eq_true rfl) ?_
  show AW z (RX12, cX12_given, 3, (some .int)) d (QD (some .int) r) 0 [(0, rv z 117), (1, iv x1), (2, iv x2)] [] g
  unfold M_given at h
  refine AW.iload_n 1 (dcN_0 dcg_737 :) rfl ?_
  refine AW.iconst (dcN_1 dcg_737 :) ?_
  refine AW.iconst (dcN_2 dcg_737 :) ?_
  refine AW.callSi (As := [iv x1, iv 1, iv 4]) (st := []) M_isIn_ok cq_X12_3 st_X12_isIn (Nat.le_trans (by decide) hdd) rfl (dcN_3 dcg_737 :) rfl (Nat.le_of_ble_eq_true rfl) ?_
  refine AW.if_eq (tgt := 42) (dcN_4 dcg_737 :) (by decide) (fun c1 => ?_) (fun c1 => ?_)
  · replace h := hT h c1
    refine AW.iconst (dcN_4 dcg_738 :) ?_
    exact AW.iret1 rfl (dcN_5 dcg_738 :) h rfl
  · replace h := hF h c1
    refine AW.iload_n 1 (dcN_5 dcg_737 :) rfl ?_
    refine AW.aloadr_n 0 (dcN_6 dcg_737 :) rfl ?_
    refine AW.getI af_X12_235_117 sr_117_12 (dcN_7 dcg_737 :) ?_
    refine AW.icmp_gt (tgt := 42) (dcN_8 dcg_737 :) (by decide) (fun c2 => ?_) (fun c2 => ?_)
    · replace h := hT h c2
      refine AW.iconst (dcN_4 dcg_738 :) ?_
      exact AW.iret1 rfl (dcN_5 dcg_738 :) h rfl
    · replace h := hF h c2
      refine AW.iload_n 2 (dcN_9 dcg_737 :) rfl ?_
      refine AW.iconst (dcN_10 dcg_737 :) ?_
      refine AW.iconst (dcN_11 dcg_737 :) ?_
      refine AW.callSi (As := [iv x2, iv 0, iv 1]) (st := []) M_isIn_ok cq_X12_3 st_X12_isIn (Nat.le_trans (by decide) hdd) rfl (dcN_12 dcg_737 :) rfl (Nat.le_of_ble_eq_true rfl) ?_
      refine AW.if_ne (tgt := 44) (dcN_13 dcg_737 :) (by decide) (fun c3 => ?_) (fun c3 => ?_)
      · replace h := hF h c3
        exact M_given_b_ok hdd _ h
      · replace h := hT h c3
        refine AW.iload_n 2 (dcN_14 dcg_737 :) rfl ?_
        refine AW.bipush (dcN_15 dcg_737 :) (by decide) (by decide) ?_
        refine AW.bipush (dcN_16 dcg_737 :) (by decide) (by decide) ?_
        refine AW.aloadr_n 0 (dcN_17 dcg_737 :) rfl ?_
        refine AW.getI af_X12_493_117 sr_117_65 (dcN_0 dcg_738 :) ?_
        refine AW.iadd (dcN_1 dcg_738 :) ?_
        refine AW.callSi (As := [iv x2, iv 10, iv (9 + (g 117 65))]) (st := []) M_isIn_ok cq_X12_3 st_X12_isIn (Nat.le_trans (by decide) hdd) rfl (dcN_2 dcg_738 :) rfl (Nat.le_of_ble_eq_true rfl) ?_
        refine AW.if_ne (tgt := 44) (dcN_3 dcg_738 :) (by decide) (fun c4 => ?_) (fun c4 => ?_)
        · replace h := hF h c4
          exact M_given_b_ok hdd _ h
        · replace h := hT h c4
          refine AW.iconst (dcN_4 dcg_738 :) ?_
          exact AW.iret1 rfl (dcN_5 dcg_738 :) h rfl
theorem M_more_ok {z : AZ} {x1 : Int} {x2 : Int} {x3 : Int} {g : AG} {r : Int × AG} (h : M_more x1 x2 x3 g = some r) : AMf z yX12_more cX12_more 5 (some .int) 12 [rv z 117, iv x1, iv x2, iv x3] g r := by
  intro d hdd
  refine AM.of (by decide +kernel) (Nat.le_of_ble_eq_true rfl) ?_
  show AW z (RX12, cX12_more, 5, (some .int)) d (QD (some .int) r) 0 [(0, rv z 117), (1, iv x1), (2, iv x2), (3, iv x3)] [] g
  unfold M_more at h
  refine AW.iload_n 1 (dcN_0 dcg_744 :) rfl ?_
  refine AW.iconst (dcN_1 dcg_744 :) ?_
  refine AW.iconst (dcN_2 dcg_744 :) ?_
  refine AW.callSi (As := [iv x1, iv 1, iv 3]) (st := []) M_isIn_ok cq_X12_3 st_X12_isIn (Nat.le_trans (by decide) hdd) rfl (dcN_3 dcg_744 :) rfl (Nat.le_of_ble_eq_true rfl) ?_
  refine AW.if_eq (tgt := 34) (dcN_4 dcg_744 :) (by decide) (fun c1 => ?_) (fun c1 => ?_)
  · replace h := hT h c1
    refine AW.iconst (dcN_0 dcg_745 :) ?_
    exact AW.iret1 rfl (dcN_1 dcg_745 :) h rfl
  · replace h := hF h c1
    refine AW.iload_n 1 (dcN_5 dcg_744 :) rfl ?_
    refine AW.aloadr_n 0 (dcN_6 dcg_744 :) rfl ?_
    refine AW.getI af_X12_235_117 sr_117_12 (dcN_7 dcg_744 :) ?_
    refine AW.icmp_gt (tgt := 34) (dcN_8 dcg_744 :) (by decide) (fun c2 => ?_) (fun c2 => ?_)
    · replace h := hT h c2
      refine AW.iconst (dcN_0 dcg_745 :) ?_
      exact AW.iret1 rfl (dcN_1 dcg_745 :) h rfl
    · replace h := hF h c2
      refine AW.iload_n 2 (dcN_9 dcg_744 :) rfl ?_
      refine AW.iconst (dcN_10 dcg_744 :) ?_
      refine AW.bipush (dcN_11 dcg_744 :) (by decide) (by decide) ?_
      refine AW.callSi (As := [iv x2, iv 2, iv 12]) (st := []) M_isIn_ok cq_X12_3 st_X12_isIn (Nat.le_trans (by decide) hdd) rfl (dcN_12 dcg_744 :) rfl (Nat.le_of_ble_eq_true rfl) ?_
      refine AW.if_eq (tgt := 34) (dcN_13 dcg_744 :) (by decide) (fun c3 => ?_) (fun c3 => ?_)
      · replace h := hT h c3
        refine AW.iconst (dcN_0 dcg_745 :) ?_
        exact AW.iret1 rfl (dcN_1 dcg_745 :) h rfl
      · replace h := hF h c3
        refine AW.iload_n 3 (dcN_14 dcg_744 :) rfl ?_
        refine AW.callSi (As := [iv x3]) (st := []) M_isPoint_ok cq_X12_238 st_X12_isPoint (Nat.le_trans (by decide) hdd) rfl (dcN_15 dcg_744 :) rfl (Nat.le_of_ble_eq_true rfl) ?_
        refine AW.if_ne (tgt := 36) (dcN_16 dcg_744 :) (by decide) (fun c4 => ?_) (fun c4 => ?_)
        · replace h := hF h c4
          refine AW.aloadr_n 0 (dcN_2 dcg_745 :) rfl ?_
          refine AW.iload_n 1 (dcN_3 dcg_745 :) rfl ?_
          obtain ⟨r5, e6, h⟩ := hC h
          refine AW.callVv (As := [iv x1]) (st := []) (M_asks_ok e6) cq_X12_505 cr_117_X12_asks (Nat.le_trans (by decide) hdd) rfl (dcN_4 dcg_745 :) rfl (Nat.le_of_ble_eq_true rfl) ?_
          refine AW.aloadr_n 0 (dcN_5 dcg_745 :) rfl ?_
          refine AW.iload_n 1 (dcN_6 dcg_745 :) rfl ?_
          obtain ⟨r7, e8, h⟩ := hC h
          refine AW.callVv (As := [iv x1]) (st := []) (M_givesBest_ok e8) cq_X12_509 cr_117_X12_givesBest (Nat.le_trans (by decide) hdd) rfl (dcN_7 dcg_745 :) rfl (Nat.le_of_ble_eq_true rfl) ?_
          refine AW.aloadr_n 0 (dcN_8 dcg_745 :) rfl ?_
          refine AW.getI af_X12_496_117 sr_117_66 (dcN_9 dcg_745 :) ?_
          refine AW.istore (lv1 := [(4, iv (r7.2 117 66)), (0, rv z 117), (1, iv x1), (2, iv x2), (3, iv x3)]) (dcN_10 dcg_745 :) (by decide) rfl ?_
          refine AW.aloadr_n 1 (dcN_11 dcg_745 :) rfl ?_
          refine AW.getR af_X12_181_117 sr_117_77 (dcN_12 dcg_745 :) ?_
          refine AW.iload_n 2 (dcN_13 dcg_745 :) rfl ?_
          refine AW.iload_n 3 (dcN_14 dcg_745 :) rfl ?_
          obtain ⟨k9, h⟩ := hK h
          obtain ⟨g10, e11, h⟩ := hBe h
          refine AW.iast kc_171 sk_171 k9 (dcN_15 dcg_745 :) e11 ?_
          refine AW.aloadr_n 1 (dcN_16 dcg_745 :) rfl ?_
          refine AW.getR af_X12_184_117 sr_117_78 (dcN_17 dcg_745 :) ?_
          refine AW.iload_n 2 (dcN_18 dcg_745 :) rfl ?_
          refine AW.iload_n 4 (dcN_0 dcg_746 :) rfl ?_
          obtain ⟨g12, e13, h⟩ := hBe h
          refine AW.iast kc_172 sk_172 k9 (dcN_1 dcg_746 :) e13 ?_
          refine AW.aloadr_n 1 (dcN_2 dcg_746 :) rfl ?_
          refine AW.iload_n 2 (dcN_3 dcg_746 :) rfl ?_
          refine AW.iconst (dcN_4 dcg_746 :) ?_
          refine AW.iadd (dcN_5 dcg_746 :) ?_
          obtain ⟨r14, e15, h⟩ := hC h
          refine AW.callVv (As := [iv (x1 + 1)]) (st := []) (M_givesBest_ok e15) cq_X12_509 cr_117_X12_givesBest (Nat.le_trans (by decide) hdd) rfl (dcN_6 dcg_746 :) rfl (Nat.le_of_ble_eq_true rfl) ?_
          refine AW.aloadr_n 1 (dcN_7 dcg_746 :) rfl ?_
          refine AW.getI af_X12_496_117 sr_117_66 (dcN_8 dcg_746 :) ?_
          refine AW.iload 0 (dcN_9 dcg_746 :) rfl ?_
          refine AW.isub (dcN_10 dcg_746 :) ?_
          exact AW.iret1 rfl (dcN_11 dcg_746 :) h rfl
        · replace h := hT h c4
          refine AW.iconst (dcN_0 dcg_745 :) ?_
          exact AW.iret1 rfl (dcN_1 dcg_745 :) h rfl
set_option synthInstance.maxHeartbeats 2000000 in
theorem M_gas_b_ok {z : AZ} {d : Nat} (hdd : 2 ≤ d) {x1 : Int} {x2 : Int} {x3 : Int} : ∀ (tag : Nat) (x4 : Int) (x5 : Int) (g : AG) (r : Int × AG), M_gas_b x1 x2 x3 tag x4 x5 g = some r → (tag = 1 → AW z (RX12, cX12_gas, 6, (some .boolean)) d (QD (some .boolean) r) 37 [(0, rv z 117), (1, iv x1), (2, iv x2), (3, iv x3), (4, iv x4), (5, iv x5)] [] g) ∧ (tag = 2 → AW z (RX12, cX12_gas, 6, (some .boolean)) d (QD (some .boolean) r) 91 [(0, rv z 117), (1, iv x1), (2, iv x2), (3, iv x3)] [] g) := by
  refine M_gas_b.partial_correctness x1 x2 x3 (fun tag x4 x5 g r => (tag = 1 → AW z (RX12, cX12_gas, 6, (some .boolean)) d (QD (some .boolean) r) 37 [(0, rv z 117), (1, iv x1), (2, iv x2), (3, iv x3), (4, iv x4), (5, iv x5)] [] g) ∧ (tag = 2 → AW z (RX12, cX12_gas, 6, (some .boolean)) d (QD (some .boolean) r) 91 [(0, rv z 117), (1, iv x1), (2, iv x2), (3, iv x3)] [] g)) ?_
  intro fb9 ih tag x4 x5 g r h
  refine ⟨fun h9 => ?_, fun h9 => ?_⟩
  · subst h9
    replace h := hT h rfl
    refine AW.iload 5 (dcN_3 dcg_748 :) rfl ?_
    refine AW.aloadr_n 0 (dcN_4 dcg_748 :) rfl ?_
    refine AW.getI af_X12_235_117 sr_117_12 (dcN_5 dcg_748 :) ?_
    refine AW.icmp_ge (tgt := 78) (dcN_6 dcg_748 :) (by decide) (fun c1 => ?_) (fun c1 => ?_)
    · replace h := hT h c1
      refine AW.iload_n 3 (dcN_7 dcg_749 :) rfl ?_
      refine AW.if_eq (tgt := 91) (dcN_8 dcg_749 :) (by decide) (fun c2 => ?_) (fun c2 => ?_)
      · replace h := hT h c2
        refine AW.sub (lv1 := [(0, rv z 117), (1, iv x1), (2, iv x2), (3, iv x3)]) [0, 1, 2, 3] rfl ?_
        exact (ih _ _ _ _ _ h).2 rfl
      · replace h := hF h c2
        refine AW.iload 4 (dcN_9 dcg_749 :) rfl ?_
        refine AW.bipush (dcN_10 dcg_749 :) (by decide) (by decide) ?_
        refine AW.icmp_ne (tgt := 91) (dcN_11 dcg_749 :) (by decide) (fun c3 => ?_) (fun c3 => ?_)
        · replace h := hF h c3
          refine AW.sub (lv1 := [(0, rv z 117), (1, iv x1), (2, iv x2), (3, iv x3)]) [0, 1, 2, 3] rfl ?_
          exact (ih _ _ _ _ _ h).2 rfl
        · replace h := hT h c3
          refine AW.iconst (dcN_12 dcg_749 :) ?_
          exact AW.zret1 rfl (Or.inl rfl) (dcN_13 dcg_749 :) h rfl
    · replace h := hF h c1
      refine AW.iload 4 (dcN_7 dcg_748 :) rfl ?_
      refine AW.iload 5 (dcN_8 dcg_748 :) rfl ?_
      refine AW.iload_n 1 (dcN_9 dcg_748 :) rfl ?_
      obtain ⟨r9, e10, h⟩ := hC h
      refine AW.join (tgt := 69) (lv1 := [(0, rv z 117), (1, iv x1), (2, iv x2), (3, iv x3), (5, iv x5)]) (st1 := [iv r9.1, iv x4]) (g1 := r9.2) ?_ (fun J51 => ?_)
      · refine AW.iadd (dcN_3 dcg_749 :) ?_
        refine AW.istore (lv1 := [(4, iv (x4 + r9.1)), (0, rv z 117), (1, iv x1), (2, iv x2), (3, iv x3), (5, iv x5)]) (dcN_4 dcg_749 :) (by decide) rfl ?_
        refine AW.iinc (lv1 := [(5, iv (x5 + 1)), (4, iv (x4 + r9.1)), (0, rv z 117), (1, iv x1), (2, iv x2), (3, iv x3)]) 5 (dcN_5 dcg_749 :) rfl (by decide) rfl ?_
        refine AW.goto (tgt := 37) (dcN_6 dcg_749 :) (by decide) ?_
        refine AW.sub (lv1 := [(0, rv z 117), (1, iv x1), (2, iv x2), (3, iv x3), (4, iv (x4 + r9.1)), (5, iv (x5 + 1))]) [2, 3, 4, 5, 1, 0] rfl ?_
        exact (ih _ _ _ _ _ h).1 rfl
      replace h := e10
      refine AW.icmp_eq (tgt := 68) (dcN_10 dcg_748 :) (by decide) (fun c4 => ?_) (fun c4 => ?_)
      · replace h := hT h c4
        refine AW.iconst (dcN_2 dcg_749 :) ?_
        refine AW.sub (lv1 := [(0, rv z 117), (1, iv x1), (2, iv x2), (3, iv x3), (5, iv x5)]) [0, 1, 2, 3, 5] rfl ?_
        cases h
        exact J51
      · replace h := hF h c4
        refine AW.aloadr_n 0 (dcN_11 dcg_748 :) rfl ?_
        refine AW.getR af_X12_190_117 sr_117_80 (dcN_12 dcg_748 :) ?_
        refine AW.iload 5 (dcN_13 dcg_748 :) rfl ?_
        obtain ⟨k5, h⟩ := hK h
        refine AW.iald kc_174 sk_174 k5 (dcN_14 dcg_748 :) ?_
        obtain ⟨t6, e7, h⟩ := hBe h
        refine AW.join (tgt := 69) (lv1 := [(0, rv z 117), (1, iv x1), (2, iv x2), (3, iv x3), (4, iv x4), (5, iv x5)]) (st1 := [iv t6, iv x4]) (g1 := g) ?_ (fun J61 => ?_)
        · refine AW.sub (lv1 := [(0, rv z 117), (1, iv x1), (2, iv x2), (3, iv x3), (5, iv x5)]) [0, 1, 2, 3, 5] rfl ?_
          cases h
          exact J51
        refine AW.if_le (tgt := 68) (dcN_15 dcg_748 :) (by decide) (fun c8 => ?_) (fun c8 => ?_)
        · refine AW.iconst (dcN_2 dcg_749 :) ?_
          exact AW.val (e7.trans (if_pos c8)) J61
        · refine AW.iconst (dcN_0 dcg_749 :) ?_
          refine AW.goto (tgt := 69) (dcN_1 dcg_749 :) (by decide) ?_
          exact AW.val (e7.trans (if_neg c8)) J61
  · subst h9
    replace h := hF h (by decide)
    replace h := hT h rfl
    refine AW.aloadr_n 0 (dcN_14 dcg_749 :) rfl ?_
    refine AW.getR af_X12_187_117 sr_117_79 (dcN_15 dcg_749 :) ?_
    refine AW.iload_n 1 (dcN_16 dcg_749 :) rfl ?_
    refine AW.iload_n 2 (dcN_0 dcg_750 :) rfl ?_
    obtain ⟨k1, h⟩ := hK h
    obtain ⟨g2, e3, h⟩ := hBe h
    refine AW.iast kc_173 sk_173 k1 (dcN_1 dcg_750 :) e3 ?_
    refine AW.aloadr_n 0 (dcN_2 dcg_750 :) rfl ?_
    refine AW.getR af_X12_190_117 sr_117_80 (dcN_3 dcg_750 :) ?_
    refine AW.iload_n 1 (dcN_4 dcg_750 :) rfl ?_
    refine AW.iload_n 3 (dcN_5 dcg_750 :) rfl ?_
    obtain ⟨g4, e5, h⟩ := hBe h
    refine AW.iast kc_174 sk_174 k1 (dcN_6 dcg_750 :) e5 ?_
    refine AW.iconst (dcN_7 dcg_750 :) ?_
    exact AW.zret1 rfl (Or.inr rfl) (dcN_8 dcg_750 :) h rfl
theorem M_gas_ok {z : AZ} {x1 : Int} {x2 : Int} {x3 : Int} {g : AG} {r : Int × AG} (h : M_gas x1 x2 x3 g = some r) : AMf z yX12_gas cX12_gas 6 (some .boolean) 2 [rv z 117, iv x1, iv x2, iv x3] g r := by
  intro d hdd
  refine AM.of (by decide +kernel) (Nat.le_of_ble_eq_true rfl) ?_
  show AW z (RX12, cX12_gas, 6, (some .boolean)) d (QD (some .boolean) r) 0 [(0, rv z 117), (1, iv x1), (2, iv x2), (3, iv x3)] [] g
  unfold M_gas at h
  refine AW.aloadr_n 0 (dcN_0 dcg_747 :) rfl ?_
  refine AW.iload_n 1 (dcN_1 dcg_747 :) rfl ?_
  refine AW.callVi (As := [iv x1]) (st := []) M_isBoat_ok cq_X12_435 cr_117_X12_isBoat (Nat.le_trans (by decide) hdd) rfl (dcN_2 dcg_747 :) rfl (Nat.le_of_ble_eq_true rfl) ?_
  refine AW.if_eq (tgt := 29) (dcN_3 dcg_747 :) (by decide) (fun c1 => ?_) (fun c1 => ?_)
  · replace h := hT h c1
    refine AW.iconst (dcN_14 dcg_747 :) ?_
    exact AW.zret1 rfl (Or.inl rfl) (dcN_15 dcg_747 :) h rfl
  · replace h := hF h c1
    refine AW.iload_n 2 (dcN_4 dcg_747 :) rfl ?_
    refine AW.iconst (dcN_5 dcg_747 :) ?_
    refine AW.sipush (dcN_6 dcg_747 :) (by decide) (by decide) ?_
    refine AW.callSi (As := [iv x2, iv 0, iv 999]) (st := []) M_isIn_ok cq_X12_3 st_X12_isIn (Nat.le_trans (by decide) hdd) rfl (dcN_7 dcg_747 :) rfl (Nat.le_of_ble_eq_true rfl) ?_
    refine AW.if_eq (tgt := 29) (dcN_8 dcg_747 :) (by decide) (fun c2 => ?_) (fun c2 => ?_)
    · replace h := hT h c2
      refine AW.iconst (dcN_14 dcg_747 :) ?_
      exact AW.zret1 rfl (Or.inl rfl) (dcN_15 dcg_747 :) h rfl
    · replace h := hF h c2
      refine AW.iload_n 3 (dcN_9 dcg_747 :) rfl ?_
      refine AW.iconst (dcN_10 dcg_747 :) ?_
      refine AW.bipush (dcN_11 dcg_747 :) (by decide) (by decide) ?_
      refine AW.callSi (As := [iv x3, iv 0, iv 60]) (st := []) M_isIn_ok cq_X12_3 st_X12_isIn (Nat.le_trans (by decide) hdd) rfl (dcN_12 dcg_747 :) rfl (Nat.le_of_ble_eq_true rfl) ?_
      refine AW.if_ne (tgt := 31) (dcN_13 dcg_747 :) (by decide) (fun c3 => ?_) (fun c3 => ?_)
      · replace h := hF h c3
        refine AW.iconst (dcN_16 dcg_747 :) ?_
        refine AW.istore (lv1 := [(4, iv 0), (0, rv z 117), (1, iv x1), (2, iv x2), (3, iv x3)]) (dcN_0 dcg_748 :) (by decide) rfl ?_
        refine AW.iconst (dcN_1 dcg_748 :) ?_
        refine AW.istore (lv1 := [(5, iv 0), (4, iv 0), (0, rv z 117), (1, iv x1), (2, iv x2), (3, iv x3)]) (dcN_2 dcg_748 :) (by decide) rfl ?_
        refine AW.sub (lv1 := [(0, rv z 117), (1, iv x1), (2, iv x2), (3, iv x3), (4, iv 0), (5, iv 0)]) [2, 3, 4, 5, 1, 0] rfl ?_
        exact (M_gas_b_ok hdd _ _ _ _ _ h).1 rfl
      · replace h := hT h c3
        refine AW.iconst (dcN_14 dcg_747 :) ?_
        exact AW.zret1 rfl (Or.inl rfl) (dcN_15 dcg_747 :) h rfl
set_option synthInstance.maxHeartbeats 2000000 in
theorem M_docksOn_b_ok {z : AZ} {rec : Int → Int → Int → Int → Int → AG → Option (Int × AG)} {Dr : Nat} (hC9 : 0 ≤ Dr) (hrec : ∀ (x1 : Int) (x2 : Int) (x3 : Int) (x4 : Int) (x5 : Int) (g : AG) (r : Int × AG), rec x1 x2 x3 x4 x5 g = some r → AMf z yX12_docksOn cX12_docksOn 9 none Dr [rv z 117, iv x1, iv x2, iv x3, iv x4, iv x5] g r) {d : Nat} (hdd : Dr + 1 ≤ d) {x1 : Int} {x2 : Int} {x3 : Int} {x4 : Int} {x5 : Int} : ∀ (tag : Nat) (x6 : Int) (g : AG) (r : Int × AG), M_docksOn_b rec x1 x2 x3 x4 x5 tag x6 g = some r → (tag = 1 → AW z (RX12, cX12_docksOn, 9, none) d (QD none r) 44 [(0, rv z 117), (4, iv x4), (5, iv x5)] [] g) ∧ (tag = 2 → AW z (RX12, cX12_docksOn, 9, none) d (QD none r) 59 [(0, rv z 117), (6, iv x6)] [] g) ∧ (tag = 3 → AW z (RX12, cX12_docksOn, 9, none) d (QD none r) 92 [(0, rv z 117), (1, iv x1), (2, iv x2), (3, iv x3), (4, iv x4), (5, iv x5), (6, iv x6)] [] g) := by
  refine M_docksOn_b.partial_correctness rec x1 x2 x3 x4 x5 (fun tag x6 g r => (tag = 1 → AW z (RX12, cX12_docksOn, 9, none) d (QD none r) 44 [(0, rv z 117), (4, iv x4), (5, iv x5)] [] g) ∧ (tag = 2 → AW z (RX12, cX12_docksOn, 9, none) d (QD none r) 59 [(0, rv z 117), (6, iv x6)] [] g) ∧ (tag = 3 → AW z (RX12, cX12_docksOn, 9, none) d (QD none r) 92 [(0, rv z 117), (1, iv x1), (2, iv x2), (3, iv x3), (4, iv x4), (5, iv x5), (6, iv x6)] [] g)) ?_
  intro fb9 ih tag x6 g r h
  refine ⟨fun h9 => ?_, fun h9 => ?_, fun h9 => ?_⟩
  · subst h9
    replace h := hT h rfl
    refine AW.aloadr_n 0 (dcN_5 dcg_752 :) rfl ?_
    refine AW.iload 1 (dcN_6 dcg_752 :) rfl ?_
    obtain ⟨g1, e2, h⟩ := hBe h
    refine AW.putI ap_X12_518_117 sr_117_85 (dcN_7 dcg_752 :) e2 ?_
    refine AW.aloadr_n 0 (dcN_8 dcg_752 :) rfl ?_
    refine AW.iload 2 (dcN_9 dcg_752 :) rfl ?_
    obtain ⟨g3, e4, h⟩ := hBe h
    refine AW.putI ap_X12_521_117 sr_117_86 (dcN_10 dcg_752 :) e4 ?_
    refine AW.iconst (dcN_11 dcg_752 :) ?_
    refine AW.istore (lv1 := [(6, iv 0), (0, rv z 117), (4, iv x4), (5, iv x5)]) (dcN_12 dcg_752 :) (by decide) rfl ?_
    refine AW.sub (lv1 := [(0, rv z 117), (6, iv 0)]) [1, 0] rfl ?_
    exact (ih _ _ _ _ h).2.1 rfl
  · subst h9
    replace h := hF h (by decide)
    replace h := hT h rfl
    refine AW.iload 1 (dcN_13 dcg_752 :) rfl ?_
    refine AW.aloadr_n 0 (dcN_14 dcg_752 :) rfl ?_
    refine AW.getI af_X12_515_117 sr_117_84 (dcN_15 dcg_752 :) ?_
    refine AW.icmp_ge (tgt := 88) (dcN_0 dcg_753 :) (by decide) (fun c1 => ?_) (fun c1 => ?_)
    · replace h := hT h c1
      exact AW.vret1 rfl (dcN_11 dcg_753 :) h rfl
    · replace h := hF h c1
      refine AW.aloadr_n 0 (dcN_1 dcg_753 :) rfl ?_
      refine AW.getR af_X12_199_117 sr_117_83 (dcN_2 dcg_753 :) ?_
      refine AW.iload 1 (dcN_3 dcg_753 :) rfl ?_
      refine AW.aloadr_n 0 (dcN_4 dcg_753 :) rfl ?_
      refine AW.getR af_X12_196_117 sr_117_82 (dcN_5 dcg_753 :) ?_
      refine AW.iload 1 (dcN_6 dcg_753 :) rfl ?_
      obtain ⟨k2, h⟩ := hK h
      refine AW.iald kc_176 sk_176 k2 (dcN_7 dcg_753 :) ?_
      obtain ⟨g3, e4, h⟩ := hBe h
      refine AW.iast kc_177 sk_177 k2 (dcN_8 dcg_753 :) e4 ?_
      refine AW.iinc (lv1 := [(6, iv (x6 + 1)), (0, rv z 117)]) 1 (dcN_9 dcg_753 :) rfl (by decide) rfl ?_
      refine AW.goto (tgt := 59) (dcN_10 dcg_753 :) (by decide) ?_
      refine AW.sub (lv1 := [(0, rv z 117), (6, iv (x6 + 1))]) [1, 0] rfl ?_
      exact (ih _ _ _ _ h).2.1 rfl
  · subst h9
    replace h := hF h (by decide)
    replace h := hF h (by decide)
    replace h := hT h rfl
    refine AW.iload 6 (dcN_14 dcg_753 :) rfl ?_
    refine AW.aloadr_n 0 (dcN_15 dcg_753 :) rfl ?_
    refine AW.getI af_X12_515_117 sr_117_84 (dcN_16 dcg_753 :) ?_
    refine AW.icmp_ge (tgt := 188) (dcN_0 dcg_754 :) (by decide) (fun c1 => ?_) (fun c1 => ?_)
    · replace h := hT h c1
      exact AW.vret1 rfl (dcN_13 dcg_756 :) h rfl
    · replace h := hF h c1
      refine AW.iload_n 2 (dcN_1 dcg_754 :) rfl ?_
      refine AW.iload 6 (dcN_2 dcg_754 :) rfl ?_
      refine AW.ishr (dcN_3 dcg_754 :) ?_
      refine AW.iconst (dcN_4 dcg_754 :) ?_
      refine AW.iand (dcN_5 dcg_754 :) ?_
      refine AW.iconst (dcN_6 dcg_754 :) ?_
      obtain ⟨r13, e14, h⟩ := hC h
      refine AW.join (tgt := 182) (lv1 := [(0, rv z 117), (1, iv x1), (2, iv x2), (3, iv x3), (4, iv x4), (5, iv x5), (6, iv x6)]) (st1 := []) (g1 := r13) ?_ (fun J108 => ?_)
      · refine AW.iinc (lv1 := [(6, iv (x6 + 1)), (0, rv z 117), (1, iv x1), (2, iv x2), (3, iv x3), (4, iv x4), (5, iv x5)]) 6 (dcN_11 dcg_756 :) rfl (by decide) rfl ?_
        refine AW.goto (tgt := 92) (dcN_12 dcg_756 :) (by decide) ?_
        refine AW.sub (lv1 := [(0, rv z 117), (1, iv x1), (2, iv x2), (3, iv x3), (4, iv x4), (5, iv x5), (6, iv (x6 + 1))]) [1, 2, 3, 4, 5, 6, 0] rfl ?_
        exact (ih _ _ _ _ h).2.2 rfl
      replace h := e14
      refine AW.icmp_ne (tgt := 114) (dcN_7 dcg_754 :) (by decide) (fun c2 => ?_) (fun c2 => ?_)
      · replace h := hF h c2
        refine AW.aloadr_n 0 (dcN_9 dcg_754 :) rfl ?_
        refine AW.getR af_X12_193_117 sr_117_81 (dcN_10 dcg_754 :) ?_
        refine AW.iload 6 (dcN_11 dcg_754 :) rfl ?_
        obtain ⟨k3, h⟩ := hK h
        refine AW.iald kc_175 sk_175 k3 (dcN_12 dcg_754 :) ?_
        refine AW.istore (lv1 := [(7, iv (g 175 (ix x6))), (0, rv z 117), (1, iv x1), (2, iv x2), (3, iv x3), (4, iv x4), (5, iv x5), (6, iv x6)]) (dcN_13 dcg_754 :) (by decide) rfl ?_
        refine AW.iload_n 4 (dcN_14 dcg_754 :) rfl ?_
        refine AW.aloadr_n 1 (dcN_15 dcg_754 :) rfl ?_
        refine AW.getR af_X12_190_117 sr_117_80 (dcN_16 dcg_754 :) ?_
        refine AW.iload 0 (dcN_0 dcg_755 :) rfl ?_
        obtain ⟨k4, h⟩ := hK h
        refine AW.iald kc_174 sk_174 k4 (dcN_1 dcg_755 :) ?_
        refine AW.iadd (dcN_2 dcg_755 :) ?_
        refine AW.istore (lv1 := [(8, iv (x3 + (g 174 (ix (g 175 (ix x6)))))), (7, iv (g 175 (ix x6))), (0, rv z 117), (1, iv x1), (2, iv x2), (3, iv x3), (4, iv x4), (5, iv x5), (6, iv x6)]) (dcN_3 dcg_755 :) (by decide) rfl ?_
        refine AW.aloadr_n 2 (dcN_4 dcg_755 :) rfl ?_
        refine AW.getR af_X12_196_117 sr_117_82 (dcN_5 dcg_755 :) ?_
        refine AW.iload_n 3 (dcN_6 dcg_755 :) rfl ?_
        refine AW.iload 1 (dcN_7 dcg_755 :) rfl ?_
        obtain ⟨k5, h⟩ := hK h
        obtain ⟨g6, e7, h⟩ := hBe h
        refine AW.iast kc_176 sk_176 k5 (dcN_8 dcg_755 :) e7 ?_
        refine AW.aloadr_n 2 (dcN_9 dcg_755 :) rfl ?_
        refine AW.iload_n 3 (dcN_10 dcg_755 :) rfl ?_
        refine AW.iconst (dcN_11 dcg_755 :) ?_
        refine AW.iadd (dcN_12 dcg_755 :) ?_
        refine AW.iload_n 4 (dcN_13 dcg_755 :) rfl ?_
        refine AW.iconst (dcN_14 dcg_755 :) ?_
        refine AW.iload 8 (dcN_15 dcg_755 :) rfl ?_
        refine AW.ishl (dcN_16 dcg_755 :) ?_
        refine AW.ior (dcN_17 dcg_755 :) ?_
        refine AW.iload 0 (dcN_18 dcg_755 :) rfl ?_
        refine AW.iload 6 (dcN_19 dcg_755 :) rfl ?_
        refine AW.iload 0 (dcN_20 dcg_755 :) rfl ?_
        refine AW.aloadr_n 2 (dcN_21 dcg_755 :) rfl ?_
        refine AW.getR af_X12_187_117 sr_117_79 (dcN_22 dcg_755 :) ?_
        refine AW.iload 1 (dcN_0 dcg_756 :) rfl ?_
        refine AW.iald kc_173 sk_173 k4 (dcN_1 dcg_756 :) ?_
        obtain ⟨t8, e9, h⟩ := hBe h
        refine AW.join (tgt := 173) (lv1 := [(8, iv (x3 + (g 174 (ix (g 175 (ix x6)))))), (7, iv (g 175 (ix x6))), (0, rv z 117), (1, iv x1), (2, iv x2), (3, iv x3), (4, iv x4), (5, iv x5), (6, iv x6)]) (st1 := [iv t8, iv x4, iv (x3 + (g 174 (ix (g 175 (ix x6))))), iv (orI x2 (shlI 1 x6)), iv (x1 + 1), rv z 117]) (g1 := g6) ?_ (fun J165 => ?_)
        · refine AW.iadd (dcN_6 dcg_756 :) ?_
          refine AW.iload 7 (dcN_7 dcg_756 :) rfl ?_
          refine AW.iload 0 (dcN_8 dcg_756 :) rfl ?_
          refine AW.iadd (dcN_9 dcg_756 :) ?_
          obtain ⟨r10, e11, h⟩ := hC h
          refine AW.callVv (As := [iv (x1 + 1), iv (orI x2 (shlI 1 x6)), iv (x3 + (g 174 (ix (g 175 (ix x6))))), iv (x4 + t8), iv (x5 + (x3 + (g 174 (ix (g 175 (ix x6))))))]) (st := []) (hrec _ _ _ _ _ _ _ e11) cq_X12_524 cr_117_X12_docksOn (by omega) rfl (dcN_10 dcg_756 :) rfl (Nat.le_of_ble_eq_true rfl) ?_
          refine AW.sub (lv1 := [(0, rv z 117), (1, iv x1), (2, iv x2), (3, iv x3), (4, iv x4), (5, iv x5), (6, iv x6)]) [2, 3, 4, 5, 6, 7, 8] rfl ?_
          cases h
          exact J108
        refine AW.icmp_le (tgt := 172) (dcN_2 dcg_756 :) (by decide) (fun c12 => ?_) (fun c12 => ?_)
        · refine AW.iconst (dcN_5 dcg_756 :) ?_
          exact AW.val (e9.trans (if_pos c12)) J165
        · refine AW.iconst (dcN_3 dcg_756 :) ?_
          refine AW.goto (tgt := 173) (dcN_4 dcg_756 :) (by decide) ?_
          exact AW.val (e9.trans (if_neg c12)) J165
      · replace h := hT h c2
        refine AW.goto (tgt := 182) (dcN_8 dcg_754 :) (by decide) ?_
        cases h
        exact J108
theorem M_docksOn_s_ok {z : AZ} {rec : Int → Int → Int → Int → Int → AG → Option (Int × AG)} {Dr : Nat} (hC9 : 0 ≤ Dr) (hrec : ∀ (x1 : Int) (x2 : Int) (x3 : Int) (x4 : Int) (x5 : Int) (g : AG) (r : Int × AG), rec x1 x2 x3 x4 x5 g = some r → AMf z yX12_docksOn cX12_docksOn 9 none Dr [rv z 117, iv x1, iv x2, iv x3, iv x4, iv x5] g r) {x1 : Int} {x2 : Int} {x3 : Int} {x4 : Int} {x5 : Int} {g : AG} {r : Int × AG} (h : M_docksOn_s rec x1 x2 x3 x4 x5 g = some r) : AMf z yX12_docksOn cX12_docksOn 9 none (Dr + 1) [rv z 117, iv x1, iv x2, iv x3, iv x4, iv x5] g r := by
  intro d hdd
  refine AM.of (by decide +kernel) (Nat.le_of_ble_eq_true rfl) ?_
  show AW z (RX12, cX12_docksOn, 9, none) d (QD none r) 0 [(0, rv z 117), (1, iv x1), (2, iv x2), (3, iv x3), (4, iv x4), (5, iv x5)] [] g
  unfold M_docksOn_s at h
  refine AW.iload_n 1 (dcN_0 dcg_751 :) rfl ?_
  refine AW.aloadr_n 0 (dcN_1 dcg_751 :) rfl ?_
  refine AW.getI af_X12_515_117 sr_117_84 (dcN_2 dcg_751 :) ?_
  refine AW.icmp_ne (tgt := 89) (dcN_3 dcg_751 :) (by decide) (fun c1 => ?_) (fun c1 => ?_)
  · replace h := hF h c1
    refine AW.iconst (dcN_12 dcg_753 :) ?_
    refine AW.istore (lv1 := [(6, iv 0), (0, rv z 117), (1, iv x1), (2, iv x2), (3, iv x3), (4, iv x4), (5, iv x5)]) (dcN_13 dcg_753 :) (by decide) rfl ?_
    refine AW.sub (lv1 := [(0, rv z 117), (1, iv x1), (2, iv x2), (3, iv x3), (4, iv x4), (5, iv x5), (6, iv 0)]) [1, 2, 3, 4, 5, 6, 0] rfl ?_
    exact (M_docksOn_b_ok hC9 hrec hdd _ _ _ _ h).2.2 rfl
  · replace h := hT h c1
    refine AW.aloadr_n 0 (dcN_4 dcg_751 :) rfl ?_
    refine AW.getI af_X12_518_117 sr_117_85 (dcN_5 dcg_751 :) ?_
    refine AW.iconst (dcN_6 dcg_751 :) ?_
    refine AW.icmp_eq (tgt := 44) (dcN_7 dcg_751 :) (by decide) (fun c2 => ?_) (fun c2 => ?_)
    · replace h := hT h c2
      refine AW.sub (lv1 := [(0, rv z 117), (4, iv x4), (5, iv x5)]) [0, 4, 5] rfl ?_
      exact (M_docksOn_b_ok hC9 hrec hdd _ _ _ _ h).1 rfl
    · replace h := hF h c2
      refine AW.iload 4 (dcN_8 dcg_751 :) rfl ?_
      refine AW.aloadr_n 0 (dcN_9 dcg_751 :) rfl ?_
      refine AW.getI af_X12_518_117 sr_117_85 (dcN_10 dcg_751 :) ?_
      refine AW.icmp_gt (tgt := 43) (dcN_11 dcg_751 :) (by decide) (fun c3 => ?_) (fun c3 => ?_)
      · replace h := hT h c3
        exact AW.vret1 rfl (dcN_4 dcg_752 :) h rfl
      · replace h := hF h c3
        refine AW.iload 4 (dcN_12 dcg_751 :) rfl ?_
        refine AW.aloadr_n 0 (dcN_13 dcg_751 :) rfl ?_
        refine AW.getI af_X12_518_117 sr_117_85 (dcN_14 dcg_751 :) ?_
        refine AW.icmp_ne (tgt := 44) (dcN_15 dcg_751 :) (by decide) (fun c4 => ?_) (fun c4 => ?_)
        · replace h := hF h c4
          refine AW.sub (lv1 := [(0, rv z 117), (4, iv x4), (5, iv x5)]) [0, 4, 5] rfl ?_
          exact (M_docksOn_b_ok hC9 hrec hdd _ _ _ _ h).1 rfl
        · replace h := hT h c4
          refine AW.iload 5 (dcN_0 dcg_752 :) rfl ?_
          refine AW.aloadr_n 0 (dcN_1 dcg_752 :) rfl ?_
          refine AW.getI af_X12_521_117 sr_117_86 (dcN_2 dcg_752 :) ?_
          refine AW.icmp_lt (tgt := 44) (dcN_3 dcg_752 :) (by decide) (fun c5 => ?_) (fun c5 => ?_)
          · replace h := hT h c5
            refine AW.sub (lv1 := [(0, rv z 117), (4, iv x4), (5, iv x5)]) [0, 4, 5] rfl ?_
            exact (M_docksOn_b_ok hC9 hrec hdd _ _ _ _ h).1 rfl
          · replace h := hF h c5
            exact AW.vret1 rfl (dcN_4 dcg_752 :) h rfl
theorem M_docksOn_ok {z : AZ} {n : Nat} {x1 : Int} {x2 : Int} {x3 : Int} {x4 : Int} {x5 : Int} {g : AG} {r : Int × AG} (h : M_docksOn n x1 x2 x3 x4 x5 g = some r) : AMf z yX12_docksOn cX12_docksOn 9 none (0 + n * 1) [rv z 117, iv x1, iv x2, iv x3, iv x4, iv x5] g r := by
  induction n generalizing x1 x2 x3 x4 x5 g r with
  | zero => cases h
  | succ n ih =>
    have q := M_docksOn_s_ok (z := z) (Dr := 0 + n * 1) (Nat.le_add_right _ _) (fun x1 x2 x3 x4 x5 g r h9 => ih h9) h
    rw [show 0 + (n + 1) * 1 = 0 + n * 1 + 1 by rw [Nat.add_mul]; omega]
    exact q
set_option synthInstance.maxHeartbeats 2000000 in
theorem M_dock_b_ok {z : AZ} {d : Nat} (hdd : 10 ≤ d) {x1 : Int} : ∀ (x2 : Int) (g : AG) (r : Int × AG), M_dock_b x1 x2 g = some r → AW z (RX12, cX12_dock, 3, (some .int)) d (QD (some .int) r) 7 [(0, rv z 117), (1, iv x1), (2, iv x2)] [] g := by
  refine M_dock_b.partial_correctness x1 (fun x2 g r => AW z (RX12, cX12_dock, 3, (some .int)) d (QD (some .int) r) 7 [(0, rv z 117), (1, iv x1), (2, iv x2)] [] g) ?_
  intro fb9 ih x2 g r h
  refine AW.iload_n 2 (dcN_5 dcg_757 :) rfl ?_
  refine AW.aloadr_n 0 (dcN_6 dcg_757 :) rfl ?_
  refine AW.getI af_X12_235_117 sr_117_12 (dcN_7 dcg_757 :) ?_
  refine AW.icmp_ge (tgt := 53) (dcN_8 dcg_757 :) (by decide) (fun c1 => ?_) (fun c1 => ?_)
  · replace h := hT h c1
    refine AW.aloadr_n 0 (dcN_11 dcg_758 :) rfl ?_
    refine AW.iconst (dcN_12 dcg_758 :) ?_
    obtain ⟨g2, e3, h⟩ := hBe h
    refine AW.putI ap_X12_518_117 sr_117_85 (dcN_13 dcg_758 :) e3 ?_
    refine AW.aloadr_n 0 (dcN_14 dcg_758 :) rfl ?_
    refine AW.iconst (dcN_15 dcg_758 :) ?_
    refine AW.iconst (dcN_16 dcg_758 :) ?_
    refine AW.iconst (dcN_17 dcg_758 :) ?_
    refine AW.iconst (dcN_18 dcg_758 :) ?_
    refine AW.iconst (dcN_19 dcg_758 :) ?_
    obtain ⟨r4, e5, h⟩ := hC h
    refine AW.callVv (As := [iv 0, iv 0, iv 0, iv 0, iv 0]) (st := []) ((M_docksOn_ok (n := 9)) e5) cq_X12_524 cr_117_X12_docksOn (Nat.le_trans (by decide) hdd) rfl (dcN_0 dcg_759 :) rfl (Nat.le_of_ble_eq_true rfl) ?_
    refine AW.iload_n 1 (dcN_1 dcg_759 :) rfl ?_
    refine AW.bipush (dcN_2 dcg_759 :) (by decide) (by decide) ?_
    refine AW.bipush (dcN_3 dcg_759 :) (by decide) (by decide) ?_
    refine AW.aloadr_n 0 (dcN_4 dcg_759 :) rfl ?_
    refine AW.getI af_X12_515_117 sr_117_84 (dcN_5 dcg_759 :) ?_
    refine AW.iadd (dcN_6 dcg_759 :) ?_
    refine AW.callSi (As := [iv x1, iv 10, iv (9 + (r4.2 117 84))]) (st := []) M_isIn_ok cq_X12_3 st_X12_isIn (Nat.le_trans (by decide) hdd) rfl (dcN_7 dcg_759 :) rfl (Nat.le_of_ble_eq_true rfl) ?_
    refine AW.if_eq (tgt := 93) (dcN_8 dcg_759 :) (by decide) (fun c6 => ?_) (fun c6 => ?_)
    · replace h := hT h c6
      refine AW.iload_n 1 (dcN_16 dcg_759 :) rfl ?_
      obtain ⟨t7, e8, h⟩ := hBe h
      refine AW.join (tgt := 129) (lv1 := [(0, rv z 117), (1, iv x1), (2, iv x2)]) (st1 := [iv t7]) (g1 := r4.2) ?_ (fun J94 => ?_)
      · exact AW.iret1 rfl (dcN_1 dcg_761 :) h rfl
      refine AW.if_ne (tgt := 104) (dcN_17 dcg_759 :) (by decide) (fun c9 => ?_) (fun c9 => ?_)
      · refine AW.iload_n 1 (dcN_3 dcg_760 :) rfl ?_
        refine AW.iconst (dcN_4 dcg_760 :) ?_
        refine AW.icmp_ne (tgt := 116) (dcN_5 dcg_760 :) (by decide) (fun c10 => ?_) (fun c10 => ?_)
        · refine AW.iload_n 1 (dcN_9 dcg_760 :) rfl ?_
          refine AW.iconst (dcN_10 dcg_760 :) ?_
          refine AW.icmp_ne (tgt := 128) (dcN_11 dcg_760 :) (by decide) (fun c11 => ?_) (fun c11 => ?_)
          · refine AW.iconst (dcN_0 dcg_761 :) ?_
            exact AW.val (e8.trans ((if_neg c9).trans ((if_neg c10).trans (if_neg c11)))) J94
          · refine AW.aloadr_n 0 (dcN_12 dcg_760 :) rfl ?_
            refine AW.getI af_X12_515_117 sr_117_84 (dcN_13 dcg_760 :) ?_
            refine AW.goto (tgt := 129) (dcN_14 dcg_760 :) (by decide) ?_
            exact AW.val (e8.trans ((if_neg c9).trans ((if_neg c10).trans (if_pos c11)))) J94
        · refine AW.aloadr_n 0 (dcN_6 dcg_760 :) rfl ?_
          refine AW.getI af_X12_521_117 sr_117_86 (dcN_7 dcg_760 :) ?_
          refine AW.goto (tgt := 129) (dcN_8 dcg_760 :) (by decide) ?_
          exact AW.val (e8.trans ((if_neg c9).trans (if_pos c10))) J94
      · refine AW.aloadr_n 0 (dcN_0 dcg_760 :) rfl ?_
        refine AW.getI af_X12_518_117 sr_117_85 (dcN_1 dcg_760 :) ?_
        refine AW.goto (tgt := 129) (dcN_2 dcg_760 :) (by decide) ?_
        exact AW.val (e8.trans (if_pos c9)) J94
    · replace h := hF h c6
      refine AW.aloadr_n 0 (dcN_9 dcg_759 :) rfl ?_
      refine AW.getR af_X12_199_117 sr_117_83 (dcN_10 dcg_759 :) ?_
      refine AW.iload_n 1 (dcN_11 dcg_759 :) rfl ?_
      refine AW.bipush (dcN_12 dcg_759 :) (by decide) (by decide) ?_
      refine AW.isub (dcN_13 dcg_759 :) ?_
      obtain ⟨k12, h⟩ := hK h
      refine AW.iald kc_177 sk_177 k12 (dcN_14 dcg_759 :) ?_
      exact AW.iret1 rfl (dcN_15 dcg_759 :) h rfl
  · replace h := hF h c1
    refine AW.aloadr_n 0 (dcN_9 dcg_757 :) rfl ?_
    refine AW.getR af_X12_190_117 sr_117_80 (dcN_10 dcg_757 :) ?_
    refine AW.iload_n 2 (dcN_11 dcg_757 :) rfl ?_
    obtain ⟨k13, h⟩ := hK h
    refine AW.iald kc_174 sk_174 k13 (dcN_12 dcg_757 :) ?_
    obtain ⟨r20, e21, h⟩ := hC h
    refine AW.join (tgt := 47) (lv1 := [(0, rv z 117), (1, iv x1), (2, iv x2)]) (st1 := []) (g1 := r20) ?_ (fun J21 => ?_)
    · refine AW.iinc (lv1 := [(2, iv (x2 + 1)), (0, rv z 117), (1, iv x1)]) 2 (dcN_9 dcg_758 :) rfl (by decide) rfl ?_
      refine AW.goto (tgt := 7) (dcN_10 dcg_758 :) (by decide) ?_
      refine AW.sub (lv1 := [(0, rv z 117), (1, iv x1), (2, iv (x2 + 1))]) [1, 2, 0] rfl ?_
      exact ih _ _ _ h
    replace h := e21
    refine AW.if_ne (tgt := 27) (dcN_13 dcg_757 :) (by decide) (fun c14 => ?_) (fun c14 => ?_)
    · replace h := hF h c14
      refine AW.aloadr_n 0 (dcN_15 dcg_757 :) rfl ?_
      refine AW.getR af_X12_193_117 sr_117_81 (dcN_16 dcg_757 :) ?_
      refine AW.aloadr_n 0 (dcN_17 dcg_757 :) rfl ?_
      refine AW.getI af_X12_515_117 sr_117_84 (dcN_0 dcg_758 :) ?_
      refine AW.iload_n 2 (dcN_1 dcg_758 :) rfl ?_
      obtain ⟨k15, h⟩ := hK h
      obtain ⟨g16, e17, h⟩ := hBe h
      refine AW.iast kc_175 sk_175 k15 (dcN_2 dcg_758 :) e17 ?_
      refine AW.aloadr_n 0 (dcN_3 dcg_758 :) rfl ?_
      refine AW.duprr (dcN_4 dcg_758 :) ?_
      refine AW.getI af_X12_515_117 sr_117_84 (dcN_5 dcg_758 :) ?_
      refine AW.iconst (dcN_6 dcg_758 :) ?_
      refine AW.iadd (dcN_7 dcg_758 :) ?_
      obtain ⟨g18, e19, h⟩ := hBe h
      refine AW.putI ap_X12_515_117 sr_117_84 (dcN_8 dcg_758 :) e19 ?_
      cases h
      exact J21
    · replace h := hT h c14
      refine AW.goto (tgt := 47) (dcN_14 dcg_757 :) (by decide) ?_
      cases h
      exact J21
theorem M_dock_ok {z : AZ} {x1 : Int} {g : AG} {r : Int × AG} (h : M_dock x1 g = some r) : AMf z yX12_dock cX12_dock 3 (some .int) 10 [rv z 117, iv x1] g r := by
  intro d hdd
  refine AM.of (by decide +kernel) (Nat.le_of_ble_eq_true rfl) ?_
  show AW z (RX12, cX12_dock, 3, (some .int)) d (QD (some .int) r) 0 [(0, rv z 117), (1, iv x1)] [] g
  unfold M_dock at h
  refine AW.aloadr_n 0 (dcN_0 dcg_757 :) rfl ?_
  refine AW.iconst (dcN_1 dcg_757 :) ?_
  obtain ⟨g1, e2, h⟩ := hBe h
  refine AW.putI ap_X12_515_117 sr_117_84 (dcN_2 dcg_757 :) e2 ?_
  refine AW.iconst (dcN_3 dcg_757 :) ?_
  refine AW.istore_n (lv1 := [(2, iv 0), (0, rv z 117), (1, iv x1)]) (dcN_4 dcg_757 :) (by decide) rfl ?_
  refine AW.sub (lv1 := [(0, rv z 117), (1, iv x1), (2, iv 0)]) [1, 2, 0] rfl ?_
  exact M_dock_b_ok hdd _ _ _ h
theorem M_job_ok {z : AZ} {x1 : Int} {g : AG} {r : Int × AG} (h : M_job x1 g = some r) : AMf z yX12_job cX12_job 2 (some .int) 1 [rv z 117, iv x1] g r := by
  intro d hdd
  refine AM.of (by decide +kernel) (Nat.le_of_ble_eq_true rfl) ?_
  show AW z (RX12, cX12_job, 2, (some .int)) d (QD (some .int) r) 0 [(0, rv z 117), (1, iv x1)] [] g
  unfold M_job at h
  refine AW.iload_n 1 (dcN_0 dcg_762 :) rfl ?_
  refine AW.if_ne (tgt := 11) (dcN_1 dcg_762 :) (by decide) (fun c1 => ?_) (fun c1 => ?_)
  · replace h := hF h c1
    refine AW.iload_n 1 (dcN_7 dcg_762 :) rfl ?_
    refine AW.iconst (dcN_8 dcg_762 :) ?_
    refine AW.sipush (dcN_9 dcg_762 :) (by decide) (by decide) ?_
    refine AW.callSi (As := [iv x1, iv 1, iv 300]) (st := []) M_isIn_ok cq_X12_3 st_X12_isIn (Nat.le_trans (by decide) hdd) rfl (dcN_10 dcg_762 :) rfl (Nat.le_of_ble_eq_true rfl) ?_
    refine AW.if_eq (tgt := 31) (dcN_11 dcg_762 :) (by decide) (fun c2 => ?_) (fun c2 => ?_)
    · replace h := hT h c2
      refine AW.iconst (dcN_16 dcg_762 :) ?_
      exact AW.iret1 rfl (dcN_0 dcg_763 :) h rfl
    · replace h := hF h c2
      refine AW.aloadr_n 0 (dcN_12 dcg_762 :) rfl ?_
      refine AW.getI af_X12_528_117 sr_117_87 (dcN_13 dcg_762 :) ?_
      refine AW.bipush (dcN_14 dcg_762 :) (by decide) (by decide) ?_
      refine AW.icmp_ne (tgt := 33) (dcN_15 dcg_762 :) (by decide) (fun c3 => ?_) (fun c3 => ?_)
      · replace h := hF h c3
        refine AW.aloadr_n 0 (dcN_1 dcg_763 :) rfl ?_
        refine AW.getR af_X12_202_117 sr_117_88 (dcN_2 dcg_763 :) ?_
        refine AW.aloadr_n 0 (dcN_3 dcg_763 :) rfl ?_
        refine AW.getI af_X12_528_117 sr_117_87 (dcN_4 dcg_763 :) ?_
        refine AW.iload_n 1 (dcN_5 dcg_763 :) rfl ?_
        obtain ⟨k4, h⟩ := hK h
        obtain ⟨g5, e6, h⟩ := hBe h
        refine AW.iast kc_178 sk_178 k4 (dcN_6 dcg_763 :) e6 ?_
        refine AW.aloadr_n 0 (dcN_7 dcg_763 :) rfl ?_
        refine AW.duprr (dcN_8 dcg_763 :) ?_
        refine AW.getI af_X12_528_117 sr_117_87 (dcN_9 dcg_763 :) ?_
        refine AW.iconst (dcN_10 dcg_763 :) ?_
        refine AW.iadd (dcN_11 dcg_763 :) ?_
        obtain ⟨g7, e8, h⟩ := hBe h
        refine AW.putI ap_X12_528_117 sr_117_87 (dcN_12 dcg_763 :) e8 ?_
        refine AW.aloadr_n 0 (dcN_13 dcg_763 :) rfl ?_
        refine AW.getI af_X12_528_117 sr_117_87 (dcN_14 dcg_763 :) ?_
        exact AW.iret1 rfl (dcN_15 dcg_763 :) h rfl
      · replace h := hT h c3
        refine AW.iconst (dcN_16 dcg_762 :) ?_
        exact AW.iret1 rfl (dcN_0 dcg_763 :) h rfl
  · replace h := hT h c1
    refine AW.aloadr_n 0 (dcN_2 dcg_762 :) rfl ?_
    refine AW.iconst (dcN_3 dcg_762 :) ?_
    obtain ⟨g9, e10, h⟩ := hBe h
    refine AW.putI ap_X12_528_117 sr_117_87 (dcN_4 dcg_762 :) e10 ?_
    refine AW.iconst (dcN_5 dcg_762 :) ?_
    exact AW.iret1 rfl (dcN_6 dcg_762 :) h rfl
set_option synthInstance.maxHeartbeats 2000000 in
theorem M_lastEnd_b_ok {z : AZ} {d : Nat} (hdd : 0 ≤ d) {x1 : Int} {g : AG} : ∀ (x2 : Int) (x3 : Int) (r : Int), M_lastEnd_b x1 g x2 x3 = some r → AW z (RX12, cX12_lastEnd, 4, (some .int)) d (QD (some .int) (r, g)) 6 [(0, rv z 117), (1, iv x1), (2, iv x2), (3, iv x3)] [] g := by
  refine M_lastEnd_b.partial_correctness x1 g (fun x2 x3 r => AW z (RX12, cX12_lastEnd, 4, (some .int)) d (QD (some .int) (r, g)) 6 [(0, rv z 117), (1, iv x1), (2, iv x2), (3, iv x3)] [] g) ?_
  intro fb9 ih x2 x3 r h
  refine AW.iload_n 3 (dcN_4 dcg_769 :) rfl ?_
  refine AW.iload_n 1 (dcN_5 dcg_769 :) rfl ?_
  refine AW.icmp_ge (tgt := 38) (dcN_6 dcg_769 :) (by decide) (fun c1 => ?_) (fun c1 => ?_)
  · replace h := hT h c1
    refine AW.iload_n 2 (dcN_10 dcg_770 :) rfl ?_
    exact AW.iret2 rfl (dcN_11 dcg_770 :) h rfl
  · replace h := hF h c1
    refine AW.aloadr_n 0 (dcN_7 dcg_769 :) rfl ?_
    refine AW.getR af_X12_205_117 sr_117_89 (dcN_8 dcg_769 :) ?_
    refine AW.iload_n 3 (dcN_9 dcg_769 :) rfl ?_
    obtain ⟨k2, h⟩ := hK h
    refine AW.iald kc_179 sk_179 k2 (dcN_10 dcg_769 :) ?_
    refine AW.iload_n 2 (dcN_11 dcg_769 :) rfl ?_
    obtain ⟨r4, e5, h⟩ := hC h
    refine AW.join (tgt := 31) (lv1 := [(0, rv z 117), (1, iv x1), (3, iv x3)]) (st1 := [iv r4]) (g1 := g) ?_ (fun J18 => ?_)
    · refine AW.istore_n (lv1 := [(2, iv r4), (0, rv z 117), (1, iv x1), (3, iv x3)]) (dcN_7 dcg_770 :) (by decide) rfl ?_
      refine AW.iinc (lv1 := [(3, iv (x3 + 1)), (2, iv r4), (0, rv z 117), (1, iv x1)]) 3 (dcN_8 dcg_770 :) rfl (by decide) rfl ?_
      refine AW.goto (tgt := 6) (dcN_9 dcg_770 :) (by decide) ?_
      refine AW.sub (lv1 := [(0, rv z 117), (1, iv x1), (2, iv r4), (3, iv (x3 + 1))]) [2, 3, 1, 0] rfl ?_
      exact ih _ _ _ h
    replace h := e5
    refine AW.icmp_le (tgt := 30) (dcN_0 dcg_770 :) (by decide) (fun c3 => ?_) (fun c3 => ?_)
    · replace h := hT h c3
      refine AW.iload_n 2 (dcN_6 dcg_770 :) rfl ?_
      refine AW.sub (lv1 := [(0, rv z 117), (1, iv x1), (3, iv x3)]) [0, 1, 3] rfl ?_
      cases h
      exact J18
    · replace h := hF h c3
      refine AW.aloadr_n 0 (dcN_1 dcg_770 :) rfl ?_
      refine AW.getR af_X12_205_117 sr_117_89 (dcN_2 dcg_770 :) ?_
      refine AW.iload_n 3 (dcN_3 dcg_770 :) rfl ?_
      refine AW.iald kc_179 sk_179 k2 (dcN_4 dcg_770 :) ?_
      refine AW.goto (tgt := 31) (dcN_5 dcg_770 :) (by decide) ?_
      refine AW.sub (lv1 := [(0, rv z 117), (1, iv x1), (3, iv x3)]) [0, 1, 3] rfl ?_
      cases h
      exact J18
theorem M_lastEnd_ok {z : AZ} {x1 : Int} {g : AG} {r : Int} (h : M_lastEnd x1 g = some r) : AMf z yX12_lastEnd cX12_lastEnd 4 (some .int) 0 [rv z 117, iv x1] g (r, g) := by
  intro d hdd
  refine AM.of (by decide +kernel) (Nat.le_of_ble_eq_true rfl) ?_
  show AW z (RX12, cX12_lastEnd, 4, (some .int)) d (QD (some .int) (r, g)) 0 [(0, rv z 117), (1, iv x1)] [] g
  unfold M_lastEnd at h
  refine AW.sipush (dcN_0 dcg_769 :) (by decide) (by decide) ?_
  refine AW.istore_n (lv1 := [(2, iv 600), (0, rv z 117), (1, iv x1)]) (dcN_1 dcg_769 :) (by decide) rfl ?_
  refine AW.iconst (dcN_2 dcg_769 :) ?_
  refine AW.istore_n (lv1 := [(3, iv 0), (2, iv 600), (0, rv z 117), (1, iv x1)]) (dcN_3 dcg_769 :) (by decide) rfl ?_
  refine AW.sub (lv1 := [(0, rv z 117), (1, iv x1), (2, iv 600), (3, iv 0)]) [2, 3, 1, 0] rfl ?_
  exact M_lastEnd_b_ok hdd _ _ _ h
set_option synthInstance.maxHeartbeats 2000000 in
theorem M_worked_b_ok {z : AZ} {d : Nat} (hdd : 1 ≤ d) {x1 : Int} : ∀ (tag : Nat) (x2 : Int) (x3 : Int) (x4 : Int) (g : AG) (r : Int × AG), M_worked_b x1 tag x2 x3 x4 g = some r → (tag = 1 → AW z (RX12, cX12_worked, 5, (some .int)) d (QD (some .int) r) 7 [(0, rv z 117), (1, iv x1), (2, iv x2)] [] g) ∧ (tag = 2 → AW z (RX12, cX12_worked, 5, (some .int)) d (QD (some .int) r) 29 [(0, rv z 117), (1, iv x1), (2, iv x2)] [] g) ∧ (tag = 3 → AW z (RX12, cX12_worked, 5, (some .int)) d (QD (some .int) r) 42 [(0, rv z 117), (1, iv x1), (2, iv x2), (3, iv x3), (4, iv x4)] [] g) := by
  refine M_worked_b.partial_correctness x1 (fun tag x2 x3 x4 g r => (tag = 1 → AW z (RX12, cX12_worked, 5, (some .int)) d (QD (some .int) r) 7 [(0, rv z 117), (1, iv x1), (2, iv x2)] [] g) ∧ (tag = 2 → AW z (RX12, cX12_worked, 5, (some .int)) d (QD (some .int) r) 29 [(0, rv z 117), (1, iv x1), (2, iv x2)] [] g) ∧ (tag = 3 → AW z (RX12, cX12_worked, 5, (some .int)) d (QD (some .int) r) 42 [(0, rv z 117), (1, iv x1), (2, iv x2), (3, iv x3), (4, iv x4)] [] g)) ?_
  intro fb9 ih tag x2 x3 x4 g r h
  refine ⟨fun h9 => ?_, fun h9 => ?_, fun h9 => ?_⟩
  · subst h9
    replace h := hT h rfl
    refine AW.iload_n 2 (dcN_5 dcg_764 :) rfl ?_
    refine AW.iload_n 1 (dcN_6 dcg_764 :) rfl ?_
    refine AW.icmp_ge (tgt := 27) (dcN_7 dcg_764 :) (by decide) (fun c1 => ?_) (fun c1 => ?_)
    · replace h := hT h c1
      refine AW.iconst (dcN_15 dcg_764 :) ?_
      refine AW.istore_n (lv1 := [(2, iv 0), (0, rv z 117), (1, iv x1)]) (dcN_16 dcg_764 :) (by decide) rfl ?_
      refine AW.sub (lv1 := [(0, rv z 117), (1, iv x1), (2, iv 0)]) [1, 2, 0] rfl ?_
      exact (ih _ _ _ _ _ _ h).2.1 rfl
    · replace h := hF h c1
      refine AW.aloadr_n 0 (dcN_8 dcg_764 :) rfl ?_
      refine AW.getR af_X12_205_117 sr_117_89 (dcN_9 dcg_764 :) ?_
      refine AW.iload_n 2 (dcN_10 dcg_764 :) rfl ?_
      refine AW.sipush (dcN_11 dcg_764 :) (by decide) (by decide) ?_
      obtain ⟨k2, h⟩ := hK h
      obtain ⟨g3, e4, h⟩ := hBe h
      refine AW.iast kc_179 sk_179 k2 (dcN_12 dcg_764 :) e4 ?_
      refine AW.iinc (lv1 := [(2, iv (x2 + 1)), (0, rv z 117), (1, iv x1)]) 2 (dcN_13 dcg_764 :) rfl (by decide) rfl ?_
      refine AW.goto (tgt := 7) (dcN_14 dcg_764 :) (by decide) ?_
      refine AW.sub (lv1 := [(0, rv z 117), (1, iv x1), (2, iv (x2 + 1))]) [1, 2, 0] rfl ?_
      exact (ih _ _ _ _ _ _ h).1 rfl
  · subst h9
    replace h := hF h (by decide)
    replace h := hT h rfl
    refine AW.iload_n 2 (dcN_17 dcg_764 :) rfl ?_
    refine AW.aloadr_n 0 (dcN_18 dcg_764 :) rfl ?_
    refine AW.getI af_X12_528_117 sr_117_87 (dcN_19 dcg_764 :) ?_
    refine AW.icmp_ge (tgt := 124) (dcN_0 dcg_765 :) (by decide) (fun c1 => ?_) (fun c1 => ?_)
    · replace h := hT h c1
      refine AW.aloadr_n 0 (dcN_13 dcg_767 :) rfl ?_
      refine AW.iload_n 1 (dcN_14 dcg_767 :) rfl ?_
      obtain ⟨r2, e3, h⟩ := hC h
      refine AW.callVi (As := [iv x1]) (st := []) (M_lastEnd_ok e3) cq_X12_534 cr_117_X12_lastEnd (Nat.le_trans (by decide) hdd) rfl (dcN_15 dcg_767 :) rfl (Nat.le_of_ble_eq_true rfl) ?_
      exact AW.iret1 rfl (dcN_0 dcg_768 :) h rfl
    · replace h := hF h c1
      refine AW.iconst (dcN_1 dcg_765 :) ?_
      refine AW.istore_n (lv1 := [(3, iv 0), (0, rv z 117), (1, iv x1), (2, iv x2)]) (dcN_2 dcg_765 :) (by decide) rfl ?_
      refine AW.iconst (dcN_3 dcg_765 :) ?_
      refine AW.istore (lv1 := [(4, iv 1), (3, iv 0), (0, rv z 117), (1, iv x1), (2, iv x2)]) (dcN_4 dcg_765 :) (by decide) rfl ?_
      refine AW.sub (lv1 := [(0, rv z 117), (1, iv x1), (2, iv x2), (3, iv 0), (4, iv 1)]) [2, 3, 4, 1, 0] rfl ?_
      exact (ih _ _ _ _ _ _ h).2.2 rfl
  · subst h9
    replace h := hF h (by decide)
    replace h := hF h (by decide)
    replace h := hT h rfl
    refine AW.iload 4 (dcN_5 dcg_765 :) rfl ?_
    refine AW.iload_n 1 (dcN_6 dcg_765 :) rfl ?_
    refine AW.icmp_ge (tgt := 77) (dcN_7 dcg_765 :) (by decide) (fun c1 => ?_) (fun c1 => ?_)
    · replace h := hT h c1
      refine AW.aloadr_n 0 (dcN_6 dcg_766 :) rfl ?_
      refine AW.getR af_X12_205_117 sr_117_89 (dcN_7 dcg_766 :) ?_
      refine AW.iload_n 3 (dcN_8 dcg_766 :) rfl ?_
      refine AW.dup2r (dcN_9 dcg_766 :) ?_
      obtain ⟨k2, h⟩ := hK h
      refine AW.iald kc_179 sk_179 k2 (dcN_10 dcg_766 :) ?_
      refine AW.aloadr_n 0 (dcN_11 dcg_766 :) rfl ?_
      refine AW.getR af_X12_202_117 sr_117_88 (dcN_12 dcg_766 :) ?_
      refine AW.iload_n 2 (dcN_13 dcg_766 :) rfl ?_
      obtain ⟨k3, h⟩ := hK h
      refine AW.iald kc_178 sk_178 k3 (dcN_14 dcg_766 :) ?_
      refine AW.iadd (dcN_15 dcg_766 :) ?_
      obtain ⟨g4, e5, h⟩ := hBe h
      refine AW.iast kc_179 sk_179 k2 (dcN_16 dcg_766 :) e5 ?_
      refine AW.aloadr_n 0 (dcN_17 dcg_766 :) rfl ?_
      refine AW.duprr (dcN_18 dcg_766 :) ?_
      refine AW.getI af_X12_531_117 sr_117_90 (dcN_19 dcg_766 :) ?_
      refine AW.aloadr_n 0 (dcN_0 dcg_767 :) rfl ?_
      refine AW.getR af_X12_205_117 sr_117_89 (dcN_1 dcg_767 :) ?_
      refine AW.iload_n 3 (dcN_2 dcg_767 :) rfl ?_
      refine AW.iald kc_179 sk_179 k2 (dcN_3 dcg_767 :) ?_
      refine AW.sipush (dcN_4 dcg_767 :) (by decide) (by decide) ?_
      obtain ⟨t6, e7, h⟩ := hBe h
      refine AW.join (tgt := 114) (lv1 := [(0, rv z 117), (1, iv x1), (2, iv x2), (3, iv x3), (4, iv x4)]) (st1 := [iv t6, iv (g4 117 90), rv z 117]) (g1 := g4) ?_ (fun J106 => ?_)
      · refine AW.iadd (dcN_9 dcg_767 :) ?_
        obtain ⟨g8, e9, h⟩ := hBe h
        refine AW.putI ap_X12_531_117 sr_117_90 (dcN_10 dcg_767 :) e9 ?_
        refine AW.iinc (lv1 := [(2, iv (x2 + 1)), (0, rv z 117), (1, iv x1), (3, iv x3), (4, iv x4)]) 2 (dcN_11 dcg_767 :) rfl (by decide) rfl ?_
        refine AW.goto (tgt := 29) (dcN_12 dcg_767 :) (by decide) ?_
        refine AW.sub (lv1 := [(0, rv z 117), (1, iv x1), (2, iv (x2 + 1))]) [1, 2, 0] rfl ?_
        exact (ih _ _ _ _ _ _ h).2.1 rfl
      refine AW.icmp_le (tgt := 113) (dcN_5 dcg_767 :) (by decide) (fun c10 => ?_) (fun c10 => ?_)
      · refine AW.iconst (dcN_8 dcg_767 :) ?_
        exact AW.val (e7.trans (if_pos c10)) J106
      · refine AW.iconst (dcN_6 dcg_767 :) ?_
        refine AW.goto (tgt := 114) (dcN_7 dcg_767 :) (by decide) ?_
        exact AW.val (e7.trans (if_neg c10)) J106
    · replace h := hF h c1
      refine AW.aloadr_n 0 (dcN_8 dcg_765 :) rfl ?_
      refine AW.getR af_X12_205_117 sr_117_89 (dcN_9 dcg_765 :) ?_
      refine AW.iload 4 (dcN_10 dcg_765 :) rfl ?_
      obtain ⟨k11, h⟩ := hK h
      refine AW.iald kc_179 sk_179 k11 (dcN_11 dcg_765 :) ?_
      refine AW.aloadr_n 0 (dcN_12 dcg_765 :) rfl ?_
      refine AW.getR af_X12_205_117 sr_117_89 (dcN_13 dcg_765 :) ?_
      refine AW.iload_n 3 (dcN_14 dcg_765 :) rfl ?_
      obtain ⟨k12, h⟩ := hK h
      refine AW.iald kc_179 sk_179 k12 (dcN_15 dcg_765 :) ?_
      obtain ⟨t13, e14, h⟩ := hBe h
      refine AW.join (tgt := 70) (lv1 := [(0, rv z 117), (1, iv x1), (2, iv x2), (3, iv x3), (4, iv x4)]) (st1 := [iv t13]) (g1 := g) ?_ (fun J61 => ?_)
      · refine AW.istore_n (lv1 := [(3, iv t13), (0, rv z 117), (1, iv x1), (2, iv x2), (4, iv x4)]) (dcN_3 dcg_766 :) (by decide) rfl ?_
        refine AW.iinc (lv1 := [(4, iv (x4 + 1)), (3, iv t13), (0, rv z 117), (1, iv x1), (2, iv x2)]) 4 (dcN_4 dcg_766 :) rfl (by decide) rfl ?_
        refine AW.goto (tgt := 42) (dcN_5 dcg_766 :) (by decide) ?_
        refine AW.sub (lv1 := [(0, rv z 117), (1, iv x1), (2, iv x2), (3, iv t13), (4, iv (x4 + 1))]) [2, 3, 4, 1, 0] rfl ?_
        exact (ih _ _ _ _ _ _ h).2.2 rfl
      refine AW.icmp_ge (tgt := 69) (dcN_16 dcg_765 :) (by decide) (fun c15 => ?_) (fun c15 => ?_)
      · refine AW.iload_n 3 (dcN_2 dcg_766 :) rfl ?_
        exact AW.val (e14.trans (if_pos c15)) J61
      · refine AW.iload 4 (dcN_0 dcg_766 :) rfl ?_
        refine AW.goto (tgt := 70) (dcN_1 dcg_766 :) (by decide) ?_
        exact AW.val (e14.trans (if_neg c15)) J61
theorem M_worked_ok {z : AZ} {x1 : Int} {g : AG} {r : Int × AG} (h : M_worked x1 g = some r) : AMf z yX12_worked cX12_worked 5 (some .int) 1 [rv z 117, iv x1] g r := by
  intro d hdd
  refine AM.of (by decide +kernel) (Nat.le_of_ble_eq_true rfl) ?_
  show AW z (RX12, cX12_worked, 5, (some .int)) d (QD (some .int) r) 0 [(0, rv z 117), (1, iv x1)] [] g
  unfold M_worked at h
  refine AW.aloadr_n 0 (dcN_0 dcg_764 :) rfl ?_
  refine AW.iconst (dcN_1 dcg_764 :) ?_
  obtain ⟨g1, e2, h⟩ := hBe h
  refine AW.putI ap_X12_531_117 sr_117_90 (dcN_2 dcg_764 :) e2 ?_
  refine AW.iconst (dcN_3 dcg_764 :) ?_
  refine AW.istore_n (lv1 := [(2, iv 0), (0, rv z 117), (1, iv x1)]) (dcN_4 dcg_764 :) (by decide) rfl ?_
  refine AW.sub (lv1 := [(0, rv z 117), (1, iv x1), (2, iv 0)]) [1, 2, 0] rfl ?_
  exact (M_worked_b_ok hdd _ _ _ _ _ _ h).1 rfl
set_option synthInstance.maxHeartbeats 2000000 in
theorem M_handOf_b_ok {z : AZ} {d : Nat} (hdd : 0 ≤ d) {x2 : Int} {x3 : Int} {g : AG} : ∀ (x4 : Int) (x5 : Int) (r : Int), M_handOf_b x2 x3 g x4 x5 = some r → AW z (RX12, cX12_handOf, 6, (some .int)) d (QD (some .int) (r, g)) 11 [(2, iv x2), (3, iv x3), (4, iv x4), (5, iv x5)] [] g := by
  refine M_handOf_b.partial_correctness x2 x3 g (fun x4 x5 r => AW z (RX12, cX12_handOf, 6, (some .int)) d (QD (some .int) (r, g)) 11 [(2, iv x2), (3, iv x3), (4, iv x4), (5, iv x5)] [] g) ?_
  intro fb9 ih x4 x5 r h
  refine AW.iload 3 (dcN_7 dcg_771 :) rfl ?_
  refine AW.iload_n 0 (dcN_8 dcg_771 :) rfl ?_
  refine AW.icmp_le (tgt := 29) (dcN_9 dcg_771 :) (by decide) (fun c1 => ?_) (fun c1 => ?_)
  · replace h := hT h c1
    refine AW.iload 2 (dcN_4 dcg_772 :) rfl ?_
    refine AW.iload_n 1 (dcN_5 dcg_772 :) rfl ?_
    obtain ⟨k2, h⟩ := hK h
    refine AW.irem (dcN_6 dcg_772 :) k2 ?_
    exact AW.iret2 rfl (dcN_7 dcg_772 :) h rfl
  · replace h := hF h c1
    refine AW.iload 2 (dcN_10 dcg_771 :) rfl ?_
    refine AW.iload_n 1 (dcN_11 dcg_771 :) rfl ?_
    obtain ⟨k3, h⟩ := hK h
    refine AW.idiv (dcN_0 dcg_772 :) k3 ?_
    refine AW.istore (lv1 := [(4, iv ((nw x4).tdiv (nw x3))), (2, iv x2), (3, iv x3), (5, iv x5)]) (dcN_1 dcg_772 :) (by decide) rfl ?_
    refine AW.iinc (lv1 := [(5, iv (x5 + (-1))), (4, iv ((nw x4).tdiv (nw x3))), (2, iv x2), (3, iv x3)]) 3 (dcN_2 dcg_772 :) rfl (by decide) rfl ?_
    refine AW.goto (tgt := 11) (dcN_3 dcg_772 :) (by decide) ?_
    refine AW.sub (lv1 := [(2, iv x2), (3, iv x3), (4, iv ((nw x4).tdiv (nw x3))), (5, iv (x5 + (-1)))]) [2, 3, 1, 0] rfl ?_
    exact ih _ _ _ h
theorem M_handOf_ok {z : AZ} {x1 : Int} {x2 : Int} {x3 : Int} {g : AG} {r : Int} (h : M_handOf x1 x2 x3 g = some r) : AMf z yX12_handOf cX12_handOf 6 (some .int) 0 [rv z 117, iv x1, iv x2, iv x3] g (r, g) := by
  intro d hdd
  refine AM.of (by decide +kernel) (Nat.le_of_ble_eq_true rfl) ?_
  show AW z (RX12, cX12_handOf, 6, (some .int)) d (QD (some .int) (r, g)) 0 [(0, rv z 117), (1, iv x1), (2, iv x2), (3, iv x3)] [] g
  unfold M_handOf at h
  refine AW.iload_n 1 (dcN_0 dcg_771 :) rfl ?_
  refine AW.istore (lv1 := [(4, iv x1), (0, rv z 117), (1, iv x1), (2, iv x2), (3, iv x3)]) (dcN_1 dcg_771 :) (by decide) rfl ?_
  refine AW.aloadr_n 1 (dcN_2 dcg_771 :) rfl ?_
  refine AW.getI af_X12_528_117 sr_117_87 (dcN_3 dcg_771 :) ?_
  refine AW.iconst (dcN_4 dcg_771 :) ?_
  refine AW.isub (dcN_5 dcg_771 :) ?_
  refine AW.istore (lv1 := [(5, iv ((g 117 87) - 1)), (4, iv x1), (0, rv z 117), (1, iv x1), (2, iv x2), (3, iv x3)]) (dcN_6 dcg_771 :) (by decide) rfl ?_
  refine AW.sub (lv1 := [(2, iv x2), (3, iv x3), (4, iv x1), (5, iv ((g 117 87) - 1))]) [4, 5, 1, 0] rfl ?_
  exact M_handOf_b_ok hdd _ _ _ h
set_option synthInstance.maxHeartbeats 2000000 in
theorem M_turned_b_ok {z : AZ} {d : Nat} (hdd : 2 ≤ d) {x1 : Int} {x2 : Int} : ∀ (tag : Nat) (p : Int × Int × Int × Int × Int × Int) (g : AG) (r : Int × AG), M_turned_b x1 x2 tag p g = some r → (tag = 1 → AW z (RX12, cX12_turned, 9, (some .int)) d (QD (some .int) r) 36 [(0, rv z 117), (1, iv x1), (2, iv x2)] [] g) ∧ (tag = 2 → AW z (RX12, cX12_turned, 9, (some .int)) d (QD (some .int) r) 51 [(0, rv z 117), (2, iv x2), (3, iv p.1)] [] g) ∧ (tag = 3 → AW z (RX12, cX12_turned, 9, (some .int)) d (QD (some .int) r) 70 [(0, rv z 117), (1, iv x1), (2, iv x2), (4, iv p.2.1), (5, iv p.2.2.1)] [] g) ∧ (tag = 4 → AW z (RX12, cX12_turned, 9, (some .int)) d (QD (some .int) r) 100 [(0, rv z 117), (1, iv x1), (2, iv x2), (4, iv p.2.1), (5, iv p.2.2.1), (6, iv p.2.2.2.1), (7, iv p.2.2.2.2.1)] [] g) ∧ (tag = 5 → AW z (RX12, cX12_turned, 9, (some .int)) d (QD (some .int) r) 110 [(0, rv z 117), (1, iv x1), (2, iv x2), (4, iv p.2.1), (5, iv p.2.2.1), (6, iv p.2.2.2.1), (7, iv p.2.2.2.2.1), (8, iv p.2.2.2.2.2)] [] g) ∧ (tag = 6 → AW z (RX12, cX12_turned, 9, (some .int)) d (QD (some .int) r) 135 [(0, rv z 117), (1, iv x1), (2, iv x2), (4, iv p.2.1), (5, iv p.2.2.1), (6, iv p.2.2.2.1), (7, iv p.2.2.2.2.1), (8, iv p.2.2.2.2.2)] [] g) := by
  refine M_turned_b.partial_correctness x1 x2 (fun tag p g r => (tag = 1 → AW z (RX12, cX12_turned, 9, (some .int)) d (QD (some .int) r) 36 [(0, rv z 117), (1, iv x1), (2, iv x2)] [] g) ∧ (tag = 2 → AW z (RX12, cX12_turned, 9, (some .int)) d (QD (some .int) r) 51 [(0, rv z 117), (2, iv x2), (3, iv p.1)] [] g) ∧ (tag = 3 → AW z (RX12, cX12_turned, 9, (some .int)) d (QD (some .int) r) 70 [(0, rv z 117), (1, iv x1), (2, iv x2), (4, iv p.2.1), (5, iv p.2.2.1)] [] g) ∧ (tag = 4 → AW z (RX12, cX12_turned, 9, (some .int)) d (QD (some .int) r) 100 [(0, rv z 117), (1, iv x1), (2, iv x2), (4, iv p.2.1), (5, iv p.2.2.1), (6, iv p.2.2.2.1), (7, iv p.2.2.2.2.1)] [] g) ∧ (tag = 5 → AW z (RX12, cX12_turned, 9, (some .int)) d (QD (some .int) r) 110 [(0, rv z 117), (1, iv x1), (2, iv x2), (4, iv p.2.1), (5, iv p.2.2.1), (6, iv p.2.2.2.1), (7, iv p.2.2.2.2.1), (8, iv p.2.2.2.2.2)] [] g) ∧ (tag = 6 → AW z (RX12, cX12_turned, 9, (some .int)) d (QD (some .int) r) 135 [(0, rv z 117), (1, iv x1), (2, iv x2), (4, iv p.2.1), (5, iv p.2.2.1), (6, iv p.2.2.2.1), (7, iv p.2.2.2.2.1), (8, iv p.2.2.2.2.2)] [] g)) ?_
  intro fb9 ih tag p g r h
  refine ⟨fun h9 => ?_, fun h9 => ?_, fun h9 => ?_, fun h9 => ?_, fun h9 => ?_, fun h9 => ?_⟩
  · subst h9
    replace h := hT h rfl
    refine AW.aloadr_n 0 (dcN_2 dcg_774 :) rfl ?_
    refine AW.iload_n 1 (dcN_3 dcg_774 :) rfl ?_
    obtain ⟨r1, e2, h⟩ := hC h
    refine AW.callVi (As := [iv x1]) (st := []) (M_worked_ok e2) cq_X12_537 cr_117_X12_worked (Nat.le_trans (by decide) hdd) rfl (dcN_4 dcg_774 :) rfl (Nat.le_of_ble_eq_true rfl) ?_
    refine AW.istore_n (lv1 := [(3, iv r1.1), (0, rv z 117), (1, iv x1), (2, iv x2)]) (dcN_5 dcg_774 :) (by decide) rfl ?_
    refine AW.iload_n 3 (dcN_6 dcg_774 :) rfl ?_
    refine AW.if_eq (tgt := 51) (dcN_7 dcg_774 :) (by decide) (fun c3 => ?_) (fun c3 => ?_)
    · replace h := hT h c3
      refine AW.sub (lv1 := [(0, rv z 117), (2, iv x2), (3, iv r1.1)]) [1, 3, 0] rfl ?_
      exact (ih _ _ _ _ h).2.1 rfl
    · replace h := hF h c3
      refine AW.iload_n 3 (dcN_8 dcg_774 :) rfl ?_
      refine AW.iconst (dcN_9 dcg_774 :) ?_
      refine AW.icmp_ne (tgt := 64) (dcN_10 dcg_774 :) (by decide) (fun c4 => ?_) (fun c4 => ?_)
      · replace h := hF h c4
        refine AW.iconst (dcN_0 dcg_775 :) ?_
        refine AW.istore (lv1 := [(4, iv 1), (3, iv r1.1), (0, rv z 117), (1, iv x1), (2, iv x2)]) (dcN_1 dcg_775 :) (by decide) rfl ?_
        refine AW.iconst (dcN_2 dcg_775 :) ?_
        refine AW.istore (lv1 := [(5, iv 0), (4, iv 1), (3, iv r1.1), (0, rv z 117), (1, iv x1), (2, iv x2)]) (dcN_3 dcg_775 :) (by decide) rfl ?_
        refine AW.sub (lv1 := [(0, rv z 117), (1, iv x1), (2, iv x2), (4, iv 1), (5, iv 0)]) [3, 4, 5, 1, 0] rfl ?_
        exact (ih _ _ _ _ h).2.2.1 rfl
      · replace h := hT h c4
        refine AW.sub (lv1 := [(0, rv z 117), (2, iv x2), (3, iv r1.1)]) [1, 3, 0] rfl ?_
        exact (ih _ _ _ _ h).2.1 rfl
  · subst h9
    replace h := hF h (by decide)
    replace h := hT h rfl
    refine AW.iload_n 1 (dcN_11 dcg_774 :) rfl ?_
    obtain ⟨t1, e2, h⟩ := hBe h
    refine AW.join (tgt := 63) (lv1 := [(0, rv z 117), (2, iv x2), (3, iv p.1)]) (st1 := [iv t1]) (g1 := g) ?_ (fun J52 => ?_)
    · exact AW.iret1 rfl (dcN_17 dcg_774 :) h rfl
    refine AW.if_ne (tgt := 59) (dcN_12 dcg_774 :) (by decide) (fun c3 => ?_) (fun c3 => ?_)
    · refine AW.aloadr_n 0 (dcN_15 dcg_774 :) rfl ?_
      refine AW.getI af_X12_531_117 sr_117_90 (dcN_16 dcg_774 :) ?_
      exact AW.val (e2.trans (if_neg c3)) J52
    · refine AW.iload_n 2 (dcN_13 dcg_774 :) rfl ?_
      refine AW.goto (tgt := 63) (dcN_14 dcg_774 :) (by decide) ?_
      exact AW.val (e2.trans (if_pos c3)) J52
  · subst h9
    replace h := hF h (by decide)
    replace h := hF h (by decide)
    replace h := hT h rfl
    refine AW.iload 4 (dcN_4 dcg_775 :) rfl ?_
    refine AW.aloadr_n 0 (dcN_5 dcg_775 :) rfl ?_
    refine AW.getI af_X12_528_117 sr_117_87 (dcN_6 dcg_775 :) ?_
    refine AW.icmp_ge (tgt := 91) (dcN_7 dcg_775 :) (by decide) (fun c1 => ?_) (fun c1 => ?_)
    · replace h := hT h c1
      refine AW.iconst (dcN_14 dcg_775 :) ?_
      refine AW.istore (lv1 := [(5, iv (-1)), (0, rv z 117), (1, iv x1), (2, iv x2), (4, iv p.2.1)]) (dcN_15 dcg_775 :) (by decide) rfl ?_
      refine AW.iconst (dcN_16 dcg_775 :) ?_
      refine AW.istore (lv1 := [(6, iv 0), (5, iv (-1)), (0, rv z 117), (1, iv x1), (2, iv x2), (4, iv p.2.1)]) (dcN_17 dcg_775 :) (by decide) rfl ?_
      refine AW.iconst (dcN_0 dcg_776 :) ?_
      refine AW.istore (lv1 := [(7, iv 0), (6, iv 0), (5, iv (-1)), (0, rv z 117), (1, iv x1), (2, iv x2), (4, iv p.2.1)]) (dcN_1 dcg_776 :) (by decide) rfl ?_
      refine AW.sub (lv1 := [(0, rv z 117), (1, iv x1), (2, iv x2), (4, iv p.2.1), (5, iv (-1)), (6, iv 0), (7, iv 0)]) [3, 4, 5, 6, 2, 1, 0] rfl ?_
      exact (ih _ _ _ _ h).2.2.2.1 rfl
    · replace h := hF h c1
      refine AW.iload 3 (dcN_8 dcg_775 :) rfl ?_
      refine AW.iload_n 1 (dcN_9 dcg_775 :) rfl ?_
      refine AW.imul (dcN_10 dcg_775 :) ?_
      refine AW.istore (lv1 := [(4, iv (p.2.1 * x1)), (0, rv z 117), (1, iv x1), (2, iv x2), (5, iv p.2.2.1)]) (dcN_11 dcg_775 :) (by decide) rfl ?_
      refine AW.iinc (lv1 := [(5, iv (p.2.2.1 + 1)), (4, iv (p.2.1 * x1)), (0, rv z 117), (1, iv x1), (2, iv x2)]) 4 (dcN_12 dcg_775 :) rfl (by decide) rfl ?_
      refine AW.goto (tgt := 70) (dcN_13 dcg_775 :) (by decide) ?_
      refine AW.sub (lv1 := [(0, rv z 117), (1, iv x1), (2, iv x2), (4, iv (p.2.1 * x1)), (5, iv (p.2.2.1 + 1))]) [2, 3, 4, 1, 0] rfl ?_
      exact (ih _ _ _ _ h).2.2.1 rfl
  · subst h9
    replace h := hF h (by decide)
    replace h := hF h (by decide)
    replace h := hF h (by decide)
    replace h := hT h rfl
    refine AW.iload 6 (dcN_2 dcg_776 :) rfl ?_
    refine AW.iload 3 (dcN_3 dcg_776 :) rfl ?_
    refine AW.icmp_ge (tgt := 211) (dcN_4 dcg_776 :) (by decide) (fun c1 => ?_) (fun c1 => ?_)
    · replace h := hT h c1
      refine AW.iload_n 2 (dcN_7 dcg_779 :) rfl ?_
      refine AW.iconst (dcN_8 dcg_779 :) ?_
      obtain ⟨r5, e6, h⟩ := hC h
      refine AW.join (tgt := 232) (lv1 := []) (st1 := [iv r5.1]) (g1 := r5.2) ?_ (fun J213 => ?_)
      · exact AW.iret1 rfl (dcN_5 dcg_780 :) h rfl
      replace h := e6
      refine AW.icmp_ne (tgt := 221) (dcN_9 dcg_779 :) (by decide) (fun c2 => ?_) (fun c2 => ?_)
      · replace h := hF h c2
        refine AW.aloadr_n 0 (dcN_12 dcg_779 :) rfl ?_
        refine AW.iload 5 (dcN_13 dcg_779 :) rfl ?_
        refine AW.iload_n 2 (dcN_0 dcg_780 :) rfl ?_
        refine AW.bipush (dcN_1 dcg_780 :) (by decide) (by decide) ?_
        refine AW.isub (dcN_2 dcg_780 :) ?_
        refine AW.iload_n 1 (dcN_3 dcg_780 :) rfl ?_
        obtain ⟨r3, e4, h⟩ := hC h
        refine AW.callVi (As := [iv p.2.2.2.1, iv (x2 - 10), iv x1]) (st := []) (M_handOf_ok e4) cq_X12_540 cr_117_X12_handOf (Nat.le_trans (by decide) hdd) rfl (dcN_4 dcg_780 :) rfl (Nat.le_of_ble_eq_true rfl) ?_
        refine AW.sub (lv1 := []) [] rfl ?_
        cases h
        exact J213
      · replace h := hT h c2
        refine AW.iload 4 (dcN_10 dcg_779 :) rfl ?_
        refine AW.goto (tgt := 232) (dcN_11 dcg_779 :) (by decide) ?_
        refine AW.sub (lv1 := []) [] rfl ?_
        cases h
        exact J213
    · replace h := hF h c1
      refine AW.iconst (dcN_5 dcg_776 :) ?_
      refine AW.istore (lv1 := [(8, iv 0), (0, rv z 117), (1, iv x1), (2, iv x2), (4, iv p.2.1), (5, iv p.2.2.1), (6, iv p.2.2.2.1), (7, iv p.2.2.2.2.1)]) (dcN_6 dcg_776 :) (by decide) rfl ?_
      refine AW.sub (lv1 := [(0, rv z 117), (1, iv x1), (2, iv x2), (4, iv p.2.1), (5, iv p.2.2.1), (6, iv p.2.2.2.1), (7, iv p.2.2.2.2.1), (8, iv 0)]) [1, 2, 3, 4, 5, 6, 7, 0] rfl ?_
      exact (ih _ _ _ _ h).2.2.2.2.1 rfl
  · subst h9
    replace h := hF h (by decide)
    replace h := hF h (by decide)
    replace h := hF h (by decide)
    replace h := hF h (by decide)
    replace h := hT h rfl
    refine AW.iload 7 (dcN_7 dcg_776 :) rfl ?_
    refine AW.iload_n 1 (dcN_8 dcg_776 :) rfl ?_
    refine AW.icmp_ge (tgt := 132) (dcN_9 dcg_776 :) (by decide) (fun c1 => ?_) (fun c1 => ?_)
    · replace h := hT h c1
      refine AW.iconst (dcN_1 dcg_777 :) ?_
      refine AW.istore (lv1 := [(8, iv 0), (0, rv z 117), (1, iv x1), (2, iv x2), (4, iv p.2.1), (5, iv p.2.2.1), (6, iv p.2.2.2.1), (7, iv p.2.2.2.2.1)]) (dcN_2 dcg_777 :) (by decide) rfl ?_
      refine AW.sub (lv1 := [(0, rv z 117), (1, iv x1), (2, iv x2), (4, iv p.2.1), (5, iv p.2.2.1), (6, iv p.2.2.2.1), (7, iv p.2.2.2.2.1), (8, iv 0)]) [1, 2, 3, 4, 5, 6, 7, 0] rfl ?_
      exact (ih _ _ _ _ h).2.2.2.2.2 rfl
    · replace h := hF h c1
      refine AW.aloadr_n 0 (dcN_10 dcg_776 :) rfl ?_
      refine AW.getR af_X12_205_117 sr_117_89 (dcN_11 dcg_776 :) ?_
      refine AW.iload 7 (dcN_12 dcg_776 :) rfl ?_
      refine AW.sipush (dcN_13 dcg_776 :) (by decide) (by decide) ?_
      obtain ⟨k2, h⟩ := hK h
      obtain ⟨g3, e4, h⟩ := hBe h
      refine AW.iast kc_179 sk_179 k2 (dcN_14 dcg_776 :) e4 ?_
      refine AW.iinc (lv1 := [(8, iv (p.2.2.2.2.2 + 1)), (0, rv z 117), (1, iv x1), (2, iv x2), (4, iv p.2.1), (5, iv p.2.2.1), (6, iv p.2.2.2.1), (7, iv p.2.2.2.2.1)]) 7 (dcN_15 dcg_776 :) rfl (by decide) rfl ?_
      refine AW.goto (tgt := 110) (dcN_0 dcg_777 :) (by decide) ?_
      refine AW.sub (lv1 := [(0, rv z 117), (1, iv x1), (2, iv x2), (4, iv p.2.1), (5, iv p.2.2.1), (6, iv p.2.2.2.1), (7, iv p.2.2.2.2.1), (8, iv (p.2.2.2.2.2 + 1))]) [1, 2, 3, 4, 5, 6, 7, 0] rfl ?_
      exact (ih _ _ _ _ h).2.2.2.2.1 rfl
  · subst h9
    replace h := hF h (by decide)
    replace h := hF h (by decide)
    replace h := hF h (by decide)
    replace h := hF h (by decide)
    replace h := hF h (by decide)
    replace h := hT h rfl
    refine AW.iload 7 (dcN_3 dcg_777 :) rfl ?_
    refine AW.aloadr_n 0 (dcN_4 dcg_777 :) rfl ?_
    refine AW.getI af_X12_528_117 sr_117_87 (dcN_5 dcg_777 :) ?_
    refine AW.icmp_ge (tgt := 174) (dcN_6 dcg_777 :) (by decide) (fun c1 => ?_) (fun c1 => ?_)
    · replace h := hT h c1
      refine AW.aloadr_n 0 (dcN_7 dcg_778 :) rfl ?_
      refine AW.iload_n 1 (dcN_8 dcg_778 :) rfl ?_
      obtain ⟨r2, e3, h⟩ := hC h
      refine AW.callVi (As := [iv x1]) (st := []) (M_lastEnd_ok e3) cq_X12_534 cr_117_X12_lastEnd (Nat.le_trans (by decide) hdd) rfl (dcN_9 dcg_778 :) rfl (Nat.le_of_ble_eq_true rfl) ?_
      refine AW.istore (lv1 := [(8, iv r2), (0, rv z 117), (1, iv x1), (2, iv x2), (4, iv p.2.1), (5, iv p.2.2.1), (6, iv p.2.2.2.1), (7, iv p.2.2.2.2.1)]) (dcN_10 dcg_778 :) (by decide) rfl ?_
      refine AW.iload 5 (dcN_11 dcg_778 :) rfl ?_
      refine AW.iconst (dcN_12 dcg_778 :) ?_
      obtain ⟨r6, e7, h⟩ := hC h
      refine AW.join (tgt := 205) (lv1 := [(0, rv z 117), (1, iv x1), (2, iv x2), (4, iv p.2.1), (5, iv r6.1), (6, iv r6.2.1), (7, iv p.2.2.2.2.1)]) (st1 := []) (g1 := r6.2.2) ?_ (fun J184 => ?_)
      · refine AW.iinc (lv1 := [(7, iv (p.2.2.2.2.1 + 1)), (0, rv z 117), (1, iv x1), (2, iv x2), (4, iv p.2.1), (5, iv r6.1), (6, iv r6.2.1)]) 6 (dcN_5 dcg_779 :) rfl (by decide) rfl ?_
        refine AW.goto (tgt := 100) (dcN_6 dcg_779 :) (by decide) ?_
        refine AW.sub (lv1 := [(0, rv z 117), (1, iv x1), (2, iv x2), (4, iv p.2.1), (5, iv r6.1), (6, iv r6.2.1), (7, iv (p.2.2.2.2.1 + 1))]) [1, 2, 3, 4, 5, 6, 0] rfl ?_
        exact (ih _ _ _ _ h).2.2.2.1 rfl
      replace h := e7
      refine AW.icmp_eq (tgt := 197) (dcN_13 dcg_778 :) (by decide) (fun c4 => ?_) (fun c4 => ?_)
      · replace h := hT h c4
        refine AW.iload 0 (dcN_1 dcg_779 :) rfl ?_
        refine AW.istore (lv1 := [(5, iv r2), (8, iv r2), (0, rv z 117), (1, iv x1), (2, iv x2), (4, iv p.2.1), (6, iv p.2.2.2.1), (7, iv p.2.2.2.2.1)]) (dcN_2 dcg_779 :) (by decide) rfl ?_
        refine AW.iload 7 (dcN_3 dcg_779 :) rfl ?_
        refine AW.istore (lv1 := [(6, iv p.2.2.2.2.1), (5, iv r2), (8, iv r2), (0, rv z 117), (1, iv x1), (2, iv x2), (4, iv p.2.1), (7, iv p.2.2.2.2.1)]) (dcN_4 dcg_779 :) (by decide) rfl ?_
        refine AW.sub (lv1 := [(0, rv z 117), (1, iv x1), (2, iv x2), (4, iv p.2.1), (5, iv r2), (6, iv p.2.2.2.2.1), (7, iv p.2.2.2.2.1)]) [3, 4, 5, 6, 1, 0, 7] rfl ?_
        cases h
        exact J184
      · replace h := hF h c4
        refine AW.iload 0 (dcN_14 dcg_778 :) rfl ?_
        refine AW.iload 5 (dcN_15 dcg_778 :) rfl ?_
        refine AW.icmp_lt (tgt := 197) (dcN_16 dcg_778 :) (by decide) (fun c5 => ?_) (fun c5 => ?_)
        · replace h := hT h c5
          refine AW.iload 0 (dcN_1 dcg_779 :) rfl ?_
          refine AW.istore (lv1 := [(5, iv r2), (8, iv r2), (0, rv z 117), (1, iv x1), (2, iv x2), (4, iv p.2.1), (6, iv p.2.2.2.1), (7, iv p.2.2.2.2.1)]) (dcN_2 dcg_779 :) (by decide) rfl ?_
          refine AW.iload 7 (dcN_3 dcg_779 :) rfl ?_
          refine AW.istore (lv1 := [(6, iv p.2.2.2.2.1), (5, iv r2), (8, iv r2), (0, rv z 117), (1, iv x1), (2, iv x2), (4, iv p.2.1), (7, iv p.2.2.2.2.1)]) (dcN_4 dcg_779 :) (by decide) rfl ?_
          refine AW.sub (lv1 := [(0, rv z 117), (1, iv x1), (2, iv x2), (4, iv p.2.1), (5, iv r2), (6, iv p.2.2.2.2.1), (7, iv p.2.2.2.2.1)]) [3, 4, 5, 6, 1, 0, 7] rfl ?_
          cases h
          exact J184
        · replace h := hF h c5
          refine AW.goto (tgt := 205) (dcN_0 dcg_779 :) (by decide) ?_
          refine AW.sub (lv1 := [(0, rv z 117), (1, iv x1), (2, iv x2), (4, iv p.2.1), (5, iv p.2.2.1), (6, iv p.2.2.2.1), (7, iv p.2.2.2.2.1)]) [1, 2, 3, 4, 5, 6, 7] rfl ?_
          cases h
          exact J184
    · replace h := hF h c1
      refine AW.aloadr_n 0 (dcN_7 dcg_777 :) rfl ?_
      refine AW.getR af_X12_205_117 sr_117_89 (dcN_8 dcg_777 :) ?_
      refine AW.aloadr_n 0 (dcN_9 dcg_777 :) rfl ?_
      refine AW.iload 6 (dcN_10 dcg_777 :) rfl ?_
      refine AW.iload 7 (dcN_11 dcg_777 :) rfl ?_
      refine AW.iload_n 1 (dcN_12 dcg_777 :) rfl ?_
      obtain ⟨r8, e9, h⟩ := hC h
      refine AW.callVi (As := [iv p.2.2.2.2.1, iv p.2.2.2.2.2, iv x1]) (st := [rv z 179]) (M_handOf_ok e9) cq_X12_540 cr_117_X12_handOf (Nat.le_trans (by decide) hdd) rfl (dcN_13 dcg_777 :) rfl (Nat.le_of_ble_eq_true rfl) ?_
      refine AW.dup2r (dcN_14 dcg_777 :) ?_
      obtain ⟨k10, h⟩ := hK h
      refine AW.iald kc_179 sk_179 k10 (dcN_15 dcg_777 :) ?_
      refine AW.aloadr_n 0 (dcN_16 dcg_777 :) rfl ?_
      refine AW.getR af_X12_202_117 sr_117_88 (dcN_0 dcg_778 :) ?_
      refine AW.iload 7 (dcN_1 dcg_778 :) rfl ?_
      obtain ⟨k11, h⟩ := hK h
      refine AW.iald kc_178 sk_178 k11 (dcN_2 dcg_778 :) ?_
      refine AW.iadd (dcN_3 dcg_778 :) ?_
      obtain ⟨g12, e13, h⟩ := hBe h
      refine AW.iast kc_179 sk_179 k10 (dcN_4 dcg_778 :) e13 ?_
      refine AW.iinc (lv1 := [(8, iv (p.2.2.2.2.2 + 1)), (0, rv z 117), (1, iv x1), (2, iv x2), (4, iv p.2.1), (5, iv p.2.2.1), (6, iv p.2.2.2.1), (7, iv p.2.2.2.2.1)]) 7 (dcN_5 dcg_778 :) rfl (by decide) rfl ?_
      refine AW.goto (tgt := 135) (dcN_6 dcg_778 :) (by decide) ?_
      refine AW.sub (lv1 := [(0, rv z 117), (1, iv x1), (2, iv x2), (4, iv p.2.1), (5, iv p.2.2.1), (6, iv p.2.2.2.1), (7, iv p.2.2.2.2.1), (8, iv (p.2.2.2.2.2 + 1))]) [1, 2, 3, 4, 5, 6, 7, 0] rfl ?_
      exact (ih _ _ _ _ h).2.2.2.2.2 rfl
theorem M_turned_ok {z : AZ} {x1 : Int} {x2 : Int} {g : AG} {r : Int × AG} (h : M_turned x1 x2 g = some r) : AMf z yX12_turned cX12_turned 9 (some .int) 2 [rv z 117, iv x1, iv x2] g r := by
  intro d hdd
  refine AM.of (by decide +kernel) (Nat.le_of_ble_eq_true rfl) ?_
  show AW z (RX12, cX12_turned, 9, (some .int)) d (QD (some .int) r) 0 [(0, rv z 117), (1, iv x1), (2, iv x2)] [] g
  unfold M_turned at h
  refine AW.iload_n 1 (dcN_0 dcg_773 :) rfl ?_
  refine AW.iconst (dcN_1 dcg_773 :) ?_
  refine AW.iconst (dcN_2 dcg_773 :) ?_
  refine AW.callSi (As := [iv x1, iv 1, iv 3]) (st := []) M_isIn_ok cq_X12_3 st_X12_isIn (Nat.le_trans (by decide) hdd) rfl (dcN_3 dcg_773 :) rfl (Nat.le_of_ble_eq_true rfl) ?_
  refine AW.if_eq (tgt := 34) (dcN_4 dcg_773 :) (by decide) (fun c1 => ?_) (fun c1 => ?_)
  · replace h := hT h c1
    refine AW.iconst (dcN_0 dcg_774 :) ?_
    exact AW.iret1 rfl (dcN_1 dcg_774 :) h rfl
  · replace h := hF h c1
    refine AW.iload_n 2 (dcN_5 dcg_773 :) rfl ?_
    refine AW.iconst (dcN_6 dcg_773 :) ?_
    refine AW.iconst (dcN_7 dcg_773 :) ?_
    refine AW.callSi (As := [iv x2, iv 0, iv 2]) (st := []) M_isIn_ok cq_X12_3 st_X12_isIn (Nat.le_trans (by decide) hdd) rfl (dcN_8 dcg_773 :) rfl (Nat.le_of_ble_eq_true rfl) ?_
    refine AW.if_ne (tgt := 36) (dcN_9 dcg_773 :) (by decide) (fun c2 => ?_) (fun c2 => ?_)
    · replace h := hF h c2
      exact (M_turned_b_ok hdd _ _ _ _ h).1 rfl
    · replace h := hT h c2
      refine AW.iload_n 2 (dcN_10 dcg_773 :) rfl ?_
      refine AW.bipush (dcN_11 dcg_773 :) (by decide) (by decide) ?_
      refine AW.bipush (dcN_12 dcg_773 :) (by decide) (by decide) ?_
      refine AW.aloadr_n 0 (dcN_13 dcg_773 :) rfl ?_
      refine AW.getI af_X12_528_117 sr_117_87 (dcN_14 dcg_773 :) ?_
      refine AW.iadd (dcN_15 dcg_773 :) ?_
      refine AW.callSi (As := [iv x2, iv 10, iv (9 + (g 117 87))]) (st := []) M_isIn_ok cq_X12_3 st_X12_isIn (Nat.le_trans (by decide) hdd) rfl (dcN_16 dcg_773 :) rfl (Nat.le_of_ble_eq_true rfl) ?_
      refine AW.if_ne (tgt := 36) (dcN_17 dcg_773 :) (by decide) (fun c3 => ?_) (fun c3 => ?_)
      · replace h := hF h c3
        exact (M_turned_b_ok hdd _ _ _ _ h).1 rfl
      · replace h := hT h c3
        refine AW.iconst (dcN_0 dcg_774 :) ?_
        exact AW.iret1 rfl (dcN_1 dcg_774 :) h rfl
theorem M_weight_ok {z : AZ} {x1 : Int} {x2 : Int} {g : AG} {r : Int × AG} (h : M_weight x1 x2 g = some r) : AMf z yX12_weight cX12_weight 3 (some .boolean) 2 [rv z 117, iv x1, iv x2] g r := by
  intro d hdd
  refine AM.of (by decide +kernel) (Nat.le_of_ble_eq_true rfl) ?_
  show AW z (RX12, cX12_weight, 3, (some .boolean)) d (QD (some .boolean) r) 0 [(0, rv z 117), (1, iv x1), (2, iv x2)] [] g
  unfold M_weight at h
  refine AW.iload_n 1 (dcN_0 dcg_781 :) rfl ?_
  refine AW.callSi (As := [iv x1]) (st := []) M_isPoint_ok cq_X12_238 st_X12_isPoint (Nat.le_trans (by decide) hdd) rfl (dcN_1 dcg_781 :) rfl (Nat.le_of_ble_eq_true rfl) ?_
  refine AW.if_eq (tgt := 17) (dcN_2 dcg_781 :) (by decide) (fun c1 => ?_) (fun c1 => ?_)
  · replace h := hT h c1
    refine AW.iconst (dcN_8 dcg_781 :) ?_
    exact AW.zret1 rfl (Or.inl rfl) (dcN_9 dcg_781 :) h rfl
  · replace h := hF h c1
    refine AW.iload_n 2 (dcN_3 dcg_781 :) rfl ?_
    refine AW.iconst (dcN_4 dcg_781 :) ?_
    refine AW.bipush (dcN_5 dcg_781 :) (by decide) (by decide) ?_
    refine AW.callSi (As := [iv x2, iv 0, iv 99]) (st := []) M_isIn_ok cq_X12_3 st_X12_isIn (Nat.le_trans (by decide) hdd) rfl (dcN_6 dcg_781 :) rfl (Nat.le_of_ble_eq_true rfl) ?_
    refine AW.if_ne (tgt := 19) (dcN_7 dcg_781 :) (by decide) (fun c2 => ?_) (fun c2 => ?_)
    · replace h := hF h c2
      refine AW.aloadr_n 0 (dcN_10 dcg_781 :) rfl ?_
      refine AW.getR af_X12_208_117 sr_117_91 (dcN_11 dcg_781 :) ?_
      refine AW.iload_n 1 (dcN_0 dcg_782 :) rfl ?_
      refine AW.iload_n 2 (dcN_1 dcg_782 :) rfl ?_
      obtain ⟨k3, h⟩ := hK h
      obtain ⟨g4, e5, h⟩ := hBe h
      refine AW.iast kc_180 sk_180 k3 (dcN_2 dcg_782 :) e5 ?_
      refine AW.iconst (dcN_3 dcg_782 :) ?_
      exact AW.zret1 rfl (Or.inr rfl) (dcN_4 dcg_782 :) h rfl
    · replace h := hT h c2
      refine AW.iconst (dcN_8 dcg_781 :) ?_
      exact AW.zret1 rfl (Or.inl rfl) (dcN_9 dcg_781 :) h rfl
set_option synthInstance.maxHeartbeats 2000000 in
theorem M_drive_b_ok {z : AZ} {d : Nat} (hdd : 0 ≤ d) {x1 : Int} {x2 : Int} {g : AG} : ∀ (x3 : Int) (x4 : Int) (r : Int), M_drive_b x1 x2 g x3 x4 = some r → AW z (RX12, cX12_drive, 5, (some .int)) d (QD (some .int) (r, g)) 14 [(0, rv z 117), (1, iv x1), (2, iv x2), (3, iv x3), (4, iv x4)] [] g := by
  refine M_drive_b.partial_correctness x1 x2 g (fun x3 x4 r => AW z (RX12, cX12_drive, 5, (some .int)) d (QD (some .int) (r, g)) 14 [(0, rv z 117), (1, iv x1), (2, iv x2), (3, iv x3), (4, iv x4)] [] g) ?_
  intro fb9 ih x3 x4 r h
  refine AW.iload 4 (dcN_9 dcg_783 :) rfl ?_
  refine AW.iload_n 1 (dcN_10 dcg_783 :) rfl ?_
  refine AW.iload_n 2 (dcN_11 dcg_783 :) rfl ?_
  obtain ⟨t1, e2, h⟩ := hBe h
  refine AW.join (tgt := 26) (lv1 := [(0, rv z 117), (1, iv x1), (2, iv x2), (3, iv x3), (4, iv x4)]) (st1 := [iv t1, iv x4]) (g1 := g) ?_ (fun J18 => ?_)
  · refine AW.icmp_ge (tgt := 45) (dcN_4 dcg_784 :) (by decide) (fun c3 => ?_) (fun c3 => ?_)
    · replace h := hT h c3
      refine AW.iload_n 3 (dcN_2 dcg_785 :) rfl ?_
      exact AW.iret2 rfl (dcN_3 dcg_785 :) h rfl
    · replace h := hF h c3
      refine AW.iload_n 3 (dcN_5 dcg_784 :) rfl ?_
      refine AW.aloadr_n 0 (dcN_6 dcg_784 :) rfl ?_
      refine AW.getR af_X12_20_117 sr_117_2 (dcN_7 dcg_784 :) ?_
      refine AW.iload 4 (dcN_8 dcg_784 :) rfl ?_
      obtain ⟨k4, h⟩ := hK h
      refine AW.iald kc_120 sk_120 k4 (dcN_9 dcg_784 :) ?_
      refine AW.iadd (dcN_10 dcg_784 :) ?_
      refine AW.istore_n (lv1 := [(3, iv (x3 + (g 120 (ix x4)))), (0, rv z 117), (1, iv x1), (2, iv x2), (4, iv x4)]) (dcN_11 dcg_784 :) (by decide) rfl ?_
      refine AW.iinc (lv1 := [(4, iv (x4 + 1)), (3, iv (x3 + (g 120 (ix x4)))), (0, rv z 117), (1, iv x1), (2, iv x2)]) 4 (dcN_0 dcg_785 :) rfl (by decide) rfl ?_
      refine AW.goto (tgt := 14) (dcN_1 dcg_785 :) (by decide) ?_
      refine AW.sub (lv1 := [(0, rv z 117), (1, iv x1), (2, iv x2), (3, iv (x3 + (g 120 (ix x4)))), (4, iv (x4 + 1))]) [2, 3, 4, 1, 0] rfl ?_
      exact ih _ _ _ h
  refine AW.icmp_ge (tgt := 25) (dcN_0 dcg_784 :) (by decide) (fun c5 => ?_) (fun c5 => ?_)
  · refine AW.iload_n 1 (dcN_3 dcg_784 :) rfl ?_
    exact AW.val (e2.trans (if_pos c5)) J18
  · refine AW.iload_n 2 (dcN_1 dcg_784 :) rfl ?_
    refine AW.goto (tgt := 26) (dcN_2 dcg_784 :) (by decide) ?_
    exact AW.val (e2.trans (if_neg c5)) J18
theorem M_drive_ok {z : AZ} {x1 : Int} {x2 : Int} {g : AG} {r : Int} (h : M_drive x1 x2 g = some r) : AMf z yX12_drive cX12_drive 5 (some .int) 0 [rv z 117, iv x1, iv x2] g (r, g) := by
  intro d hdd
  refine AM.of (by decide +kernel) (Nat.le_of_ble_eq_true rfl) ?_
  show AW z (RX12, cX12_drive, 5, (some .int)) d (QD (some .int) (r, g)) 0 [(0, rv z 117), (1, iv x1), (2, iv x2)] [] g
  unfold M_drive at h
  refine AW.iconst (dcN_0 dcg_783 :) ?_
  refine AW.istore_n (lv1 := [(3, iv 0), (0, rv z 117), (1, iv x1), (2, iv x2)]) (dcN_1 dcg_783 :) (by decide) rfl ?_
  refine AW.iload_n 2 (dcN_2 dcg_783 :) rfl ?_
  refine AW.iload_n 3 (dcN_3 dcg_783 :) rfl ?_
  obtain ⟨t1, e2, h⟩ := hBe h
  refine AW.join (tgt := 12) (lv1 := [(3, iv 0), (0, rv z 117), (1, iv x1), (2, iv x2)]) (st1 := [iv t1]) (g1 := g) ?_ (fun J4 => ?_)
  · refine AW.istore (lv1 := [(4, iv t1), (3, iv 0), (0, rv z 117), (1, iv x1), (2, iv x2)]) (dcN_8 dcg_783 :) (by decide) rfl ?_
    refine AW.sub (lv1 := [(0, rv z 117), (1, iv x1), (2, iv x2), (3, iv 0), (4, iv t1)]) [2, 3, 4, 1, 0] rfl ?_
    exact M_drive_b_ok hdd _ _ _ h
  refine AW.icmp_ge (tgt := 11) (dcN_4 dcg_783 :) (by decide) (fun c3 => ?_) (fun c3 => ?_)
  · refine AW.iload_n 3 (dcN_7 dcg_783 :) rfl ?_
    exact AW.val (e2.trans (if_pos c3)) J4
  · refine AW.iload_n 2 (dcN_5 dcg_783 :) rfl ?_
    refine AW.goto (tgt := 12) (dcN_6 dcg_783 :) (by decide) ?_
    exact AW.val (e2.trans (if_neg c3)) J4
set_option synthInstance.maxHeartbeats 2000000 in
theorem M_worstOf_b_ok {z : AZ} {d : Nat} (hdd : 1 ≤ d) {x1 : Int} {g : AG} : ∀ (x2 : Int) (x3 : Int) (r : Int), M_worstOf_b x1 g x2 x3 = some r → AW z (RX12, cX12_worstOf, 4, (some .int)) d (QD (some .int) (r, g)) 4 [(0, rv z 117), (1, iv x1), (2, iv x2), (3, iv x3)] [] g := by
  refine M_worstOf_b.partial_correctness x1 g (fun x2 x3 r => AW z (RX12, cX12_worstOf, 4, (some .int)) d (QD (some .int) (r, g)) 4 [(0, rv z 117), (1, iv x1), (2, iv x2), (3, iv x3)] [] g) ?_
  intro fb9 ih x2 x3 r h
  refine AW.iload_n 3 (dcN_4 dcg_788 :) rfl ?_
  refine AW.bipush (dcN_5 dcg_788 :) (by decide) (by decide) ?_
  refine AW.icmp_ge (tgt := 46) (dcN_6 dcg_788 :) (by decide) (fun c1 => ?_) (fun c1 => ?_)
  · replace h := hT h c1
    refine AW.iload_n 2 (dcN_3 dcg_790 :) rfl ?_
    exact AW.iret2 rfl (dcN_4 dcg_790 :) h rfl
  · replace h := hF h c1
    refine AW.aloadr_n 0 (dcN_7 dcg_788 :) rfl ?_
    refine AW.getR af_X12_208_117 sr_117_91 (dcN_8 dcg_788 :) ?_
    refine AW.iload_n 3 (dcN_9 dcg_788 :) rfl ?_
    obtain ⟨k2, h⟩ := hK h
    refine AW.iald kc_180 sk_180 k2 (dcN_10 dcg_788 :) ?_
    obtain ⟨r9, e10, h⟩ := hC h
    refine AW.join (tgt := 39) (lv1 := [(0, rv z 117), (1, iv x1), (3, iv x3)]) (st1 := [iv r9]) (g1 := g) ?_ (fun J16 => ?_)
    · refine AW.istore_n (lv1 := [(2, iv r9), (0, rv z 117), (1, iv x1), (3, iv x3)]) (dcN_0 dcg_790 :) (by decide) rfl ?_
      refine AW.iinc (lv1 := [(3, iv (x3 + 1)), (2, iv r9), (0, rv z 117), (1, iv x1)]) 3 (dcN_1 dcg_790 :) rfl (by decide) rfl ?_
      refine AW.goto (tgt := 4) (dcN_2 dcg_790 :) (by decide) ?_
      refine AW.sub (lv1 := [(0, rv z 117), (1, iv x1), (2, iv r9), (3, iv (x3 + 1))]) [2, 3, 1, 0] rfl ?_
      exact ih _ _ _ h
    replace h := e10
    refine AW.if_le (tgt := 38) (dcN_11 dcg_788 :) (by decide) (fun c3 => ?_) (fun c3 => ?_)
    · replace h := hT h c3
      refine AW.iload_n 2 (dcN_11 dcg_789 :) rfl ?_
      refine AW.sub (lv1 := [(0, rv z 117), (1, iv x1), (3, iv x3)]) [0, 1, 3] rfl ?_
      cases h
      exact J16
    · replace h := hF h c3
      refine AW.aloadr_n 0 (dcN_0 dcg_789 :) rfl ?_
      refine AW.iload_n 1 (dcN_1 dcg_789 :) rfl ?_
      refine AW.iload_n 3 (dcN_2 dcg_789 :) rfl ?_
      obtain ⟨r4, e5, h⟩ := hC h
      refine AW.callVi (As := [iv x1, iv x3]) (st := []) (M_drive_ok e5) cq_X12_543 cr_117_X12_drive (Nat.le_trans (by decide) hdd) rfl (dcN_3 dcg_789 :) rfl (Nat.le_of_ble_eq_true rfl) ?_
      refine AW.iload_n 2 (dcN_4 dcg_789 :) rfl ?_
      refine AW.icmp_le (tgt := 38) (dcN_5 dcg_789 :) (by decide) (fun c6 => ?_) (fun c6 => ?_)
      · replace h := hT h c6
        refine AW.iload_n 2 (dcN_11 dcg_789 :) rfl ?_
        refine AW.sub (lv1 := [(0, rv z 117), (1, iv x1), (3, iv x3)]) [0, 1, 3] rfl ?_
        cases h
        exact J16
      · replace h := hF h c6
        refine AW.aloadr_n 0 (dcN_6 dcg_789 :) rfl ?_
        refine AW.iload_n 1 (dcN_7 dcg_789 :) rfl ?_
        refine AW.iload_n 3 (dcN_8 dcg_789 :) rfl ?_
        obtain ⟨r7, e8, h⟩ := hC h
        refine AW.callVi (As := [iv x1, iv x3]) (st := []) (M_drive_ok e8) cq_X12_543 cr_117_X12_drive (Nat.le_trans (by decide) hdd) rfl (dcN_9 dcg_789 :) rfl (Nat.le_of_ble_eq_true rfl) ?_
        refine AW.goto (tgt := 39) (dcN_10 dcg_789 :) (by decide) ?_
        refine AW.sub (lv1 := [(0, rv z 117), (1, iv x1), (3, iv x3)]) [0, 1, 3] rfl ?_
        cases h
        exact J16
theorem M_worstOf_ok {z : AZ} {x1 : Int} {g : AG} {r : Int} (h : M_worstOf x1 g = some r) : AMf z yX12_worstOf cX12_worstOf 4 (some .int) 1 [rv z 117, iv x1] g (r, g) := by
  intro d hdd
  refine AM.of (by decide +kernel) (Nat.le_of_ble_eq_true rfl) ?_
  show AW z (RX12, cX12_worstOf, 4, (some .int)) d (QD (some .int) (r, g)) 0 [(0, rv z 117), (1, iv x1)] [] g
  unfold M_worstOf at h
  refine AW.iconst (dcN_0 dcg_788 :) ?_
  refine AW.istore_n (lv1 := [(2, iv 0), (0, rv z 117), (1, iv x1)]) (dcN_1 dcg_788 :) (by decide) rfl ?_
  refine AW.iconst (dcN_2 dcg_788 :) ?_
  refine AW.istore_n (lv1 := [(3, iv 0), (2, iv 0), (0, rv z 117), (1, iv x1)]) (dcN_3 dcg_788 :) (by decide) rfl ?_
  refine AW.sub (lv1 := [(0, rv z 117), (1, iv x1), (2, iv 0), (3, iv 0)]) [2, 3, 1, 0] rfl ?_
  exact M_worstOf_b_ok hdd _ _ _ h
set_option synthInstance.maxHeartbeats 2000000 in
theorem M_sumOf_b_ok {z : AZ} {d : Nat} (hdd : 1 ≤ d) {x1 : Int} {g : AG} : ∀ (x2 : Int) (x3 : Int) (r : Int), M_sumOf_b x1 g x2 x3 = some r → AW z (RX12, cX12_sumOf, 4, (some .int)) d (QD (some .int) (r, g)) 4 [(0, rv z 117), (1, iv x1), (2, iv x2), (3, iv x3)] [] g := by
  refine M_sumOf_b.partial_correctness x1 g (fun x2 x3 r => AW z (RX12, cX12_sumOf, 4, (some .int)) d (QD (some .int) (r, g)) 4 [(0, rv z 117), (1, iv x1), (2, iv x2), (3, iv x3)] [] g) ?_
  intro fb9 ih x2 x3 r h
  refine AW.iload_n 3 (dcN_4 dcg_786 :) rfl ?_
  refine AW.bipush (dcN_5 dcg_786 :) (by decide) (by decide) ?_
  refine AW.icmp_ge (tgt := 32) (dcN_6 dcg_786 :) (by decide) (fun c1 => ?_) (fun c1 => ?_)
  · replace h := hT h c1
    refine AW.iload_n 2 (dcN_9 dcg_787 :) rfl ?_
    exact AW.iret2 rfl (dcN_10 dcg_787 :) h rfl
  · replace h := hF h c1
    refine AW.iload_n 2 (dcN_7 dcg_786 :) rfl ?_
    refine AW.aloadr_n 0 (dcN_8 dcg_786 :) rfl ?_
    refine AW.getR af_X12_208_117 sr_117_91 (dcN_9 dcg_786 :) ?_
    refine AW.iload_n 3 (dcN_10 dcg_786 :) rfl ?_
    obtain ⟨k2, h⟩ := hK h
    refine AW.iald kc_180 sk_180 k2 (dcN_11 dcg_786 :) ?_
    refine AW.aloadr_n 0 (dcN_0 dcg_787 :) rfl ?_
    refine AW.iload_n 1 (dcN_1 dcg_787 :) rfl ?_
    refine AW.iload_n 3 (dcN_2 dcg_787 :) rfl ?_
    obtain ⟨r3, e4, h⟩ := hC h
    refine AW.callVi (As := [iv x1, iv x3]) (st := [iv (g 180 (ix x3)), iv x2]) (M_drive_ok e4) cq_X12_543 cr_117_X12_drive (Nat.le_trans (by decide) hdd) rfl (dcN_3 dcg_787 :) rfl (Nat.le_of_ble_eq_true rfl) ?_
    refine AW.imul (dcN_4 dcg_787 :) ?_
    refine AW.iadd (dcN_5 dcg_787 :) ?_
    refine AW.istore_n (lv1 := [(2, iv (x2 + ((g 180 (ix x3)) * r3))), (0, rv z 117), (1, iv x1), (3, iv x3)]) (dcN_6 dcg_787 :) (by decide) rfl ?_
    refine AW.iinc (lv1 := [(3, iv (x3 + 1)), (2, iv (x2 + ((g 180 (ix x3)) * r3))), (0, rv z 117), (1, iv x1)]) 3 (dcN_7 dcg_787 :) rfl (by decide) rfl ?_
    refine AW.goto (tgt := 4) (dcN_8 dcg_787 :) (by decide) ?_
    refine AW.sub (lv1 := [(0, rv z 117), (1, iv x1), (2, iv (x2 + ((g 180 (ix x3)) * r3))), (3, iv (x3 + 1))]) [2, 3, 1, 0] rfl ?_
    exact ih _ _ _ h
theorem M_sumOf_ok {z : AZ} {x1 : Int} {g : AG} {r : Int} (h : M_sumOf x1 g = some r) : AMf z yX12_sumOf cX12_sumOf 4 (some .int) 1 [rv z 117, iv x1] g (r, g) := by
  intro d hdd
  refine AM.of (by decide +kernel) (Nat.le_of_ble_eq_true rfl) ?_
  show AW z (RX12, cX12_sumOf, 4, (some .int)) d (QD (some .int) (r, g)) 0 [(0, rv z 117), (1, iv x1)] [] g
  unfold M_sumOf at h
  refine AW.iconst (dcN_0 dcg_786 :) ?_
  refine AW.istore_n (lv1 := [(2, iv 0), (0, rv z 117), (1, iv x1)]) (dcN_1 dcg_786 :) (by decide) rfl ?_
  refine AW.iconst (dcN_2 dcg_786 :) ?_
  refine AW.istore_n (lv1 := [(3, iv 0), (2, iv 0), (0, rv z 117), (1, iv x1)]) (dcN_3 dcg_786 :) (by decide) rfl ?_
  refine AW.sub (lv1 := [(0, rv z 117), (1, iv x1), (2, iv 0), (3, iv 0)]) [2, 3, 1, 0] rfl ?_
  exact M_sumOf_b_ok hdd _ _ _ h
end
