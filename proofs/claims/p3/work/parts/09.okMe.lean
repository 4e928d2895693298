set_option synthInstance.maxHeartbeats 2000000 in
theorem M_tonight_b_ok {z : AZ} {d : Nat} (hdd : 8 ≤ d) {x1 : Int} {x2 : Int} : ∀ (tag : Nat) (p : Int × Int × Int × Int × Int × Int × Int) (g : AG) (r : Int × AG), M_tonight_b x1 x2 tag p g = some r → (tag = 1 → AW z (RX12, cX12_tonight, 11, (some .int)) d (QD (some .int) r) 27 [(0, rv z 117), (1, iv x1), (2, iv x2), (3, iv p.1), (4, iv p.2.1), (5, iv p.2.2.1)] [] g) ∧ (tag = 2 → AW z (RX12, cX12_tonight, 11, (some .int)) d (QD (some .int) r) 43 [(0, rv z 117), (1, iv x1), (2, iv x2), (3, iv p.1), (4, iv p.2.1), (5, iv p.2.2.1), (6, iv p.2.2.2.1), (7, iv p.2.2.2.2.1), (8, iv p.2.2.2.2.2.1)] [] g) ∧ (tag = 3 → AW z (RX12, cX12_tonight, 11, (some .int)) d (QD (some .int) r) 55 [(0, rv z 117), (1, iv x1), (2, iv x2), (3, iv p.1), (4, iv p.2.1), (5, iv p.2.2.1), (6, iv p.2.2.2.1), (7, iv p.2.2.2.2.1), (8, iv p.2.2.2.2.2.1), (9, iv p.2.2.2.2.2.2)] [] g) ∧ (tag = 4 → AW z (RX12, cX12_tonight, 11, (some .int)) d (QD (some .int) r) 94 [(0, rv z 117), (1, iv x1), (2, iv x2), (3, iv p.1), (4, iv p.2.1), (5, iv p.2.2.1), (6, iv p.2.2.2.1), (7, iv p.2.2.2.2.1), (8, iv p.2.2.2.2.2.1), (9, iv p.2.2.2.2.2.2)] [] g) := by
  refine M_tonight_b.partial_correctness x1 x2 (fun tag p g r => (tag = 1 → AW z (RX12, cX12_tonight, 11, (some .int)) d (QD (some .int) r) 27 [(0, rv z 117), (1, iv x1), (2, iv x2), (3, iv p.1), (4, iv p.2.1), (5, iv p.2.2.1)] [] g) ∧ (tag = 2 → AW z (RX12, cX12_tonight, 11, (some .int)) d (QD (some .int) r) 43 [(0, rv z 117), (1, iv x1), (2, iv x2), (3, iv p.1), (4, iv p.2.1), (5, iv p.2.2.1), (6, iv p.2.2.2.1), (7, iv p.2.2.2.2.1), (8, iv p.2.2.2.2.2.1)] [] g) ∧ (tag = 3 → AW z (RX12, cX12_tonight, 11, (some .int)) d (QD (some .int) r) 55 [(0, rv z 117), (1, iv x1), (2, iv x2), (3, iv p.1), (4, iv p.2.1), (5, iv p.2.2.1), (6, iv p.2.2.2.1), (7, iv p.2.2.2.2.1), (8, iv p.2.2.2.2.2.1), (9, iv p.2.2.2.2.2.2)] [] g) ∧ (tag = 4 → AW z (RX12, cX12_tonight, 11, (some .int)) d (QD (some .int) r) 94 [(0, rv z 117), (1, iv x1), (2, iv x2), (3, iv p.1), (4, iv p.2.1), (5, iv p.2.2.1), (6, iv p.2.2.2.1), (7, iv p.2.2.2.2.1), (8, iv p.2.2.2.2.2.1), (9, iv p.2.2.2.2.2.2)] [] g)) ?_
  intro fb9 ih tag p g r h
  refine ⟨fun h9 => ?_, fun h9 => ?_, fun h9 => ?_, fun h9 => ?_⟩
  · subst h9
    replace h := hT h rfl
    refine AW.iload 5 dX12_tonight_27 rfl ?_
    refine AW.bipush dX12_tonight_29 (by decide) (by decide) ?_
    refine AW.icmp_ge (tgt := 233) dX12_tonight_31 (by decide) (fun c1 => ?_) (fun c1 => ?_)
    · replace h := hT h c1
      refine AW.iload_n 2 dX12_tonight_233 rfl ?_
      refine AW.bipush dX12_tonight_234 (by decide) (by decide) ?_
      obtain ⟨t2, e3, h⟩ := hBe h
      refine AW.join (tgt := 245) (lv1 := [(0, rv z 117), (1, iv x1), (2, iv x2), (3, iv p.1), (4, iv p.2.1), (5, iv p.2.2.1)]) (st1 := [iv t2]) (g1 := g) ?_ (fun J236 => ?_)
      · exact AW.iret1 rfl dX12_tonight_245 h rfl
      refine AW.icmp_ne (tgt := 243) dX12_tonight_236 (by decide) (fun c4 => ?_) (fun c4 => ?_)
      · refine AW.iload 4 dX12_tonight_243 rfl ?_
        exact AW.val (e3.trans (if_neg c4)) J236
      · refine AW.iload_n 3 dX12_tonight_239 rfl ?_
        refine AW.goto (tgt := 245) dX12_tonight_240 (by decide) ?_
        exact AW.val (e3.trans (if_pos c4)) J236
    · replace h := hF h c1
      refine AW.iconst dX12_tonight_34 ?_
      refine AW.istore (lv1 := [(6, iv 0), (0, rv z 117), (1, iv x1), (2, iv x2), (3, iv p.1), (4, iv p.2.1), (5, iv p.2.2.1)]) dX12_tonight_35 (by decide) rfl ?_
      refine AW.iconst dX12_tonight_37 ?_
      refine AW.istore (lv1 := [(7, iv 0), (6, iv 0), (0, rv z 117), (1, iv x1), (2, iv x2), (3, iv p.1), (4, iv p.2.1), (5, iv p.2.2.1)]) dX12_tonight_38 (by decide) rfl ?_
      refine AW.iconst dX12_tonight_40 ?_
      refine AW.istore (lv1 := [(8, iv 0), (7, iv 0), (6, iv 0), (0, rv z 117), (1, iv x1), (2, iv x2), (3, iv p.1), (4, iv p.2.1), (5, iv p.2.2.1)]) dX12_tonight_41 (by decide) rfl ?_
      refine AW.sub (lv1 := [(0, rv z 117), (1, iv x1), (2, iv x2), (3, iv p.1), (4, iv p.2.1), (5, iv p.2.2.1), (6, iv 0), (7, iv 0), (8, iv 0)]) [3, 4, 5, 6, 7, 8, 2, 1, 0] rfl ?_
      exact (ih _ _ _ _ h).2.1 rfl
  · subst h9
    replace h := hF h (by decide)
    replace h := hT h rfl
    refine AW.iload 8 dX12_tonight_43 rfl ?_
    refine AW.aloadr_n 0 dX12_tonight_45 rfl ?_
    refine AW.getI af_X12_235_117 sr_117_12 dX12_tonight_46 ?_
    refine AW.icmp_ge (tgt := 188) dX12_tonight_49 (by decide) (fun c1 => ?_) (fun c1 => ?_)
    · replace h := hT h c1
      refine AW.iload 5 dX12_tonight_188 rfl ?_
      refine AW.iload_n 2 dX12_tonight_190 rfl ?_
      refine AW.icmp_ne (tgt := 197) dX12_tonight_191 (by decide) (fun c2 => ?_) (fun c2 => ?_)
      · replace h := hF h c2
        refine AW.iload 7 dX12_tonight_197 rfl ?_
        refine AW.iload 4 dX12_tonight_199 rfl ?_
        obtain ⟨t3, e4, h⟩ := hBe h
        refine AW.join (tgt := 210) (lv1 := [(0, rv z 117), (1, iv x1), (2, iv x2), (3, iv p.1), (4, iv p.2.1), (5, iv p.2.2.1), (6, iv p.2.2.2.1), (7, iv p.2.2.2.2.1), (8, iv p.2.2.2.2.2.1)]) (st1 := [iv t3]) (g1 := g) ?_ (fun J201 => ?_)
        · refine AW.istore_n (lv1 := [(3, iv t3), (0, rv z 117), (1, iv x1), (2, iv x2), (4, iv p.2.1), (5, iv p.2.2.1), (6, iv p.2.2.2.1), (7, iv p.2.2.2.2.1), (8, iv p.2.2.2.2.2.1)]) dX12_tonight_210 (by decide) rfl ?_
          refine AW.iload 7 dX12_tonight_211 rfl ?_
          refine AW.iload 4 dX12_tonight_213 rfl ?_
          obtain ⟨t5, e6, h⟩ := hBe h
          refine AW.join (tgt := 225) (lv1 := [(3, iv t3), (0, rv z 117), (1, iv x1), (2, iv x2), (4, iv p.2.1), (5, iv p.2.2.1), (6, iv p.2.2.2.1), (7, iv p.2.2.2.2.1), (8, iv p.2.2.2.2.2.1)]) (st1 := [iv t5]) (g1 := g) ?_ (fun J215 => ?_)
          · refine AW.istore (lv1 := [(4, iv t5), (3, iv t3), (0, rv z 117), (1, iv x1), (2, iv x2), (5, iv p.2.2.1), (6, iv p.2.2.2.1), (7, iv p.2.2.2.2.1), (8, iv p.2.2.2.2.2.1)]) dX12_tonight_225 (by decide) rfl ?_
            refine AW.iinc (lv1 := [(5, iv (p.2.2.1 + 1)), (4, iv t5), (3, iv t3), (0, rv z 117), (1, iv x1), (2, iv x2), (6, iv p.2.2.2.1), (7, iv p.2.2.2.2.1), (8, iv p.2.2.2.2.2.1)]) 5 dX12_tonight_227 rfl (by decide) rfl ?_
            refine AW.goto (tgt := 27) dX12_tonight_230 (by decide) ?_
            refine AW.sub (lv1 := [(0, rv z 117), (1, iv x1), (2, iv x2), (3, iv t3), (4, iv t5), (5, iv (p.2.2.1 + 1))]) [3, 4, 5, 2, 1, 0] rfl ?_
            exact (ih _ _ _ _ h).1 rfl
          refine AW.icmp_le (tgt := 223) dX12_tonight_215 (by decide) (fun c7 => ?_) (fun c7 => ?_)
          · refine AW.iload 4 dX12_tonight_223 rfl ?_
            exact AW.val (e6.trans (if_pos c7)) J215
          · refine AW.iload 7 dX12_tonight_218 rfl ?_
            refine AW.goto (tgt := 225) dX12_tonight_220 (by decide) ?_
            exact AW.val (e6.trans (if_neg c7)) J215
        refine AW.icmp_le (tgt := 209) dX12_tonight_201 (by decide) (fun c8 => ?_) (fun c8 => ?_)
        · refine AW.iload_n 3 dX12_tonight_209 rfl ?_
          exact AW.val (e4.trans (if_pos c8)) J201
        · refine AW.iload 5 dX12_tonight_204 rfl ?_
          refine AW.goto (tgt := 210) dX12_tonight_206 (by decide) ?_
          exact AW.val (e4.trans (if_neg c8)) J201
      · replace h := hT h c2
        refine AW.iload 6 dX12_tonight_194 rfl ?_
        exact AW.iret1 rfl dX12_tonight_196 h rfl
    · replace h := hF h c1
      refine AW.iconst dX12_tonight_52 ?_
      refine AW.istore (lv1 := [(9, iv (-1)), (0, rv z 117), (1, iv x1), (2, iv x2), (3, iv p.1), (4, iv p.2.1), (5, iv p.2.2.1), (6, iv p.2.2.2.1), (7, iv p.2.2.2.2.1), (8, iv p.2.2.2.2.2.1)]) dX12_tonight_53 (by decide) rfl ?_
      refine AW.sub (lv1 := [(0, rv z 117), (1, iv x1), (2, iv x2), (3, iv p.1), (4, iv p.2.1), (5, iv p.2.2.1), (6, iv p.2.2.2.1), (7, iv p.2.2.2.2.1), (8, iv p.2.2.2.2.2.1), (9, iv (-1))]) [1, 2, 3, 4, 5, 6, 7, 8, 9, 0] rfl ?_
      exact (ih _ _ _ _ h).2.2.1 rfl
  · subst h9
    replace h := hF h (by decide)
    replace h := hF h (by decide)
    replace h := hT h rfl
    refine AW.iload 9 dX12_tonight_55 rfl ?_
    refine AW.iconst dX12_tonight_57 ?_
    refine AW.iadd dX12_tonight_58 ?_
    refine AW.aloadr_n 0 dX12_tonight_59 rfl ?_
    refine AW.getR af_X12_133_117 sr_117_56 dX12_tonight_60 ?_
    refine AW.iload 8 dX12_tonight_63 rfl ?_
    obtain ⟨k1, h⟩ := hK h
    refine AW.iald kc_155 sk_155 k1 dX12_tonight_65 ?_
    refine AW.icmp_ge (tgt := 94) dX12_tonight_66 (by decide) (fun c2 => ?_) (fun c2 => ?_)
    · replace h := hT h c2
      exact (ih _ _ _ _ h).2.2.2 rfl
    · replace h := hF h c2
      refine AW.aloadr_n 0 dX12_tonight_69 rfl ?_
      refine AW.getR af_X12_139_117 sr_117_58 dX12_tonight_70 ?_
      refine AW.bipush dX12_tonight_73 (by decide) (by decide) ?_
      refine AW.iload 8 dX12_tonight_75 rfl ?_
      refine AW.imul dX12_tonight_77 ?_
      refine AW.iload 9 dX12_tonight_78 rfl ?_
      refine AW.iadd dX12_tonight_80 ?_
      refine AW.iconst dX12_tonight_81 ?_
      refine AW.iadd dX12_tonight_82 ?_
      obtain ⟨k3, h⟩ := hK h
      refine AW.iald kc_157 sk_157 k3 dX12_tonight_83 ?_
      refine AW.iload_n 1 dX12_tonight_84 rfl ?_
      refine AW.icmp_gt (tgt := 94) dX12_tonight_85 (by decide) (fun c4 => ?_) (fun c4 => ?_)
      · replace h := hT h c4
        exact (ih _ _ _ _ h).2.2.2 rfl
      · replace h := hF h c4
        refine AW.iinc (lv1 := [(9, iv (p.2.2.2.2.2.2 + 1)), (0, rv z 117), (1, iv x1), (2, iv x2), (3, iv p.1), (4, iv p.2.1), (5, iv p.2.2.1), (6, iv p.2.2.2.1), (7, iv p.2.2.2.2.1), (8, iv p.2.2.2.2.2.1)]) 9 dX12_tonight_88 rfl (by decide) rfl ?_
        refine AW.goto (tgt := 55) dX12_tonight_91 (by decide) ?_
        refine AW.sub (lv1 := [(0, rv z 117), (1, iv x1), (2, iv x2), (3, iv p.1), (4, iv p.2.1), (5, iv p.2.2.1), (6, iv p.2.2.2.1), (7, iv p.2.2.2.2.1), (8, iv p.2.2.2.2.2.1), (9, iv (p.2.2.2.2.2.2 + 1))]) [1, 2, 3, 4, 5, 6, 7, 8, 9, 0] rfl ?_
        exact (ih _ _ _ _ h).2.2.1 rfl
  · subst h9
    replace h := hF h (by decide)
    replace h := hF h (by decide)
    replace h := hF h (by decide)
    replace h := hT h rfl
    refine AW.iload 9 dX12_tonight_94 rfl ?_
    refine AW.iconst dX12_tonight_96 ?_
    obtain ⟨r8, e9, h⟩ := hC h
    refine AW.join (tgt := 153) (lv1 := [(0, rv z 117), (1, iv x1), (2, iv x2), (3, iv p.1), (4, iv p.2.1), (5, iv p.2.2.1), (6, iv p.2.2.2.1), (7, iv p.2.2.2.2.1), (8, iv p.2.2.2.2.2.1)]) (st1 := [iv r8.1]) (g1 := r8.2) ?_ (fun J97 => ?_)
    · refine AW.istore (lv1 := [(10, iv r8.1), (0, rv z 117), (1, iv x1), (2, iv x2), (3, iv p.1), (4, iv p.2.1), (5, iv p.2.2.1), (6, iv p.2.2.2.1), (7, iv p.2.2.2.2.1), (8, iv p.2.2.2.2.2.1)]) dX12_tonight_153 (by decide) rfl ?_
      refine AW.iload 0 dX12_tonight_155 rfl ?_
      refine AW.iconst dX12_tonight_157 ?_
      obtain ⟨r12, e13, h⟩ := hC h
      refine AW.join (tgt := 182) (lv1 := [(0, rv z 117), (1, iv x1), (2, iv x2), (3, iv p.1), (4, iv p.2.1), (5, iv p.2.2.1), (6, iv r12.1), (7, iv r12.2.1), (8, iv p.2.2.2.2.2.1)]) (st1 := []) (g1 := r12.2.2) ?_ (fun J158 => ?_)
      · refine AW.iinc (lv1 := [(8, iv (p.2.2.2.2.2.1 + 1)), (0, rv z 117), (1, iv x1), (2, iv x2), (3, iv p.1), (4, iv p.2.1), (5, iv p.2.2.1), (6, iv r12.1), (7, iv r12.2.1)]) 8 dX12_tonight_182 rfl (by decide) rfl ?_
        refine AW.goto (tgt := 43) dX12_tonight_185 (by decide) ?_
        refine AW.sub (lv1 := [(0, rv z 117), (1, iv x1), (2, iv x2), (3, iv p.1), (4, iv p.2.1), (5, iv p.2.2.1), (6, iv r12.1), (7, iv r12.2.1), (8, iv (p.2.2.2.2.2.1 + 1))]) [1, 2, 3, 4, 5, 6, 7, 8, 0] rfl ?_
        exact (ih _ _ _ _ h).2.1 rfl
      replace h := e13
      refine AW.icmp_eq (tgt := 182) dX12_tonight_158 (by decide) (fun c10 => ?_) (fun c10 => ?_)
      · replace h := hT h c10
        refine AW.sub (lv1 := [(0, rv z 117), (1, iv x1), (2, iv x2), (3, iv p.1), (4, iv p.2.1), (5, iv p.2.2.1), (6, iv p.2.2.2.1), (7, iv p.2.2.2.2.1), (8, iv p.2.2.2.2.2.1)]) [1, 2, 3, 4, 5, 6, 7, 8, 9] rfl ?_
        cases h
        exact J158
      · replace h := hF h c10
        refine AW.iload 0 dX12_tonight_161 rfl ?_
        refine AW.iload_n 2 dX12_tonight_163 rfl ?_
        refine AW.icmp_le (tgt := 170) dX12_tonight_164 (by decide) (fun c11 => ?_) (fun c11 => ?_)
        · replace h := hT h c11
          refine AW.iload 7 dX12_tonight_170 rfl ?_
          refine AW.iconst dX12_tonight_172 ?_
          refine AW.iload 9 dX12_tonight_173 rfl ?_
          refine AW.ishl dX12_tonight_175 ?_
          refine AW.ior dX12_tonight_176 ?_
          refine AW.istore (lv1 := [(6, iv (orI p.2.2.2.1 (shlI 1 p.2.2.2.2.2.1))), (10, iv r8.1), (0, rv z 117), (1, iv x1), (2, iv x2), (3, iv p.1), (4, iv p.2.1), (5, iv p.2.2.1), (7, iv p.2.2.2.2.1), (8, iv p.2.2.2.2.2.1)]) dX12_tonight_177 (by decide) rfl ?_
          refine AW.iinc (lv1 := [(7, iv (p.2.2.2.2.1 + 1)), (6, iv (orI p.2.2.2.1 (shlI 1 p.2.2.2.2.2.1))), (10, iv r8.1), (0, rv z 117), (1, iv x1), (2, iv x2), (3, iv p.1), (4, iv p.2.1), (5, iv p.2.2.1), (8, iv p.2.2.2.2.2.1)]) 8 dX12_tonight_179 rfl (by decide) rfl ?_
          refine AW.sub (lv1 := [(0, rv z 117), (1, iv x1), (2, iv x2), (3, iv p.1), (4, iv p.2.1), (5, iv p.2.2.1), (6, iv (orI p.2.2.2.1 (shlI 1 p.2.2.2.2.2.1))), (7, iv (p.2.2.2.2.1 + 1)), (8, iv p.2.2.2.2.2.1)]) [3, 4, 5, 6, 7, 8, 1, 0, 9] rfl ?_
          cases h
          exact J158
        · replace h := hF h c11
          refine AW.goto (tgt := 182) dX12_tonight_167 (by decide) ?_
          refine AW.sub (lv1 := [(0, rv z 117), (1, iv x1), (2, iv x2), (3, iv p.1), (4, iv p.2.1), (5, iv p.2.2.1), (6, iv p.2.2.2.1), (7, iv p.2.2.2.2.1), (8, iv p.2.2.2.2.2.1)]) [1, 2, 3, 4, 5, 6, 7, 8, 9] rfl ?_
          cases h
          exact J158
    replace h := e9
    refine AW.icmp_ne (tgt := 119) dX12_tonight_97 (by decide) (fun c1 => ?_) (fun c1 => ?_)
    · replace h := hF h c1
      refine AW.aloadr_n 0 dX12_tonight_119 rfl ?_
      refine AW.iload 8 dX12_tonight_120 rfl ?_
      refine AW.aloadr_n 0 dX12_tonight_122 rfl ?_
      refine AW.getR af_X12_136_117 sr_117_57 dX12_tonight_123 ?_
      refine AW.bipush dX12_tonight_126 (by decide) (by decide) ?_
      refine AW.iload 8 dX12_tonight_128 rfl ?_
      refine AW.imul dX12_tonight_130 ?_
      refine AW.iload 9 dX12_tonight_131 rfl ?_
      refine AW.iadd dX12_tonight_133 ?_
      obtain ⟨k2, h⟩ := hK h
      refine AW.iald kc_156 sk_156 k2 dX12_tonight_134 ?_
      refine AW.iload 5 dX12_tonight_135 rfl ?_
      refine AW.aloadr_n 0 dX12_tonight_137 rfl ?_
      refine AW.getR af_X12_139_117 sr_117_58 dX12_tonight_138 ?_
      refine AW.bipush dX12_tonight_141 (by decide) (by decide) ?_
      refine AW.iload 8 dX12_tonight_143 rfl ?_
      refine AW.imul dX12_tonight_145 ?_
      refine AW.iload 9 dX12_tonight_146 rfl ?_
      refine AW.iadd dX12_tonight_148 ?_
      refine AW.iald kc_157 sk_157 k2 dX12_tonight_149 ?_
      obtain ⟨r3, e4, h⟩ := hC h
      refine AW.callVi (As := [iv p.2.2.2.2.2.1, iv (g 156 (ix ((10 * p.2.2.2.2.2.1) + p.2.2.2.2.2.2))), iv p.2.2.1, iv (g 157 (ix ((10 * p.2.2.2.2.2.1) + p.2.2.2.2.2.2)))]) (st := []) (M_led_ok e4) cq_X12_441 cr_117_X12_led (Nat.le_trans (by decide) hdd) rfl dX12_tonight_150 rfl (Nat.le_of_ble_eq_true rfl) ?_
      refine AW.sub (lv1 := [(0, rv z 117), (1, iv x1), (2, iv x2), (3, iv p.1), (4, iv p.2.1), (5, iv p.2.2.1), (6, iv p.2.2.2.1), (7, iv p.2.2.2.2.1), (8, iv p.2.2.2.2.2.1)]) [0, 1, 2, 3, 4, 5, 6, 7, 8] rfl ?_
      cases h
      exact J97
    · replace h := hT h c1
      refine AW.aloadr_n 0 dX12_tonight_100 rfl ?_
      refine AW.iload 8 dX12_tonight_101 rfl ?_
      refine AW.aloadr_n 0 dX12_tonight_103 rfl ?_
      refine AW.getR af_X12_38_117 sr_117_8 dX12_tonight_104 ?_
      refine AW.iload 8 dX12_tonight_107 rfl ?_
      obtain ⟨k5, h⟩ := hK h
      refine AW.iald kc_126 sk_126 k5 dX12_tonight_109 ?_
      refine AW.iload 5 dX12_tonight_110 rfl ?_
      refine AW.iconst dX12_tonight_112 ?_
      obtain ⟨r6, e7, h⟩ := hC h
      refine AW.callVi (As := [iv p.2.2.2.2.2.1, iv (g 126 (ix p.2.2.2.2.2.1)), iv p.2.2.1, iv 0]) (st := []) (M_led_ok e7) cq_X12_441 cr_117_X12_led (Nat.le_trans (by decide) hdd) rfl dX12_tonight_113 rfl (Nat.le_of_ble_eq_true rfl) ?_
      refine AW.goto (tgt := 153) dX12_tonight_116 (by decide) ?_
      refine AW.sub (lv1 := [(0, rv z 117), (1, iv x1), (2, iv x2), (3, iv p.1), (4, iv p.2.1), (5, iv p.2.2.1), (6, iv p.2.2.2.1), (7, iv p.2.2.2.2.1), (8, iv p.2.2.2.2.2.1)]) [0, 1, 2, 3, 4, 5, 6, 7, 8] rfl ?_
      cases h
      exact J97
theorem M_tonight_ok {z : AZ} {x1 : Int} {x2 : Int} {g : AG} {r : Int × AG} (h : M_tonight x1 x2 g = some r) : AMf z yX12_tonight cX12_tonight 11 (some .int) 8 [rv z 117, iv x1, iv x2] g r := by
  intro d hdd
  refine AM.of (by decide +kernel) (Nat.le_of_ble_eq_true rfl) ?_
  show AW z (RX12, cX12_tonight, 11, (some .int)) d (QD (some .int) r) 0 [(0, rv z 117), (1, iv x1), (2, iv x2)] [] g
  unfold M_tonight at h
  refine AW.iload_n 1 dX12_tonight_0 rfl ?_
  refine AW.callSi (As := [iv x1]) (st := []) M_isTime_ok cq_X12_438 st_X12_isTime (Nat.le_trans (by decide) hdd) rfl dX12_tonight_1 rfl (Nat.le_of_ble_eq_true rfl) ?_
  refine AW.if_eq (tgt := 17) dX12_tonight_4 (by decide) (fun c1 => ?_) (fun c1 => ?_)
  · replace h := hT h c1
    refine AW.iconst dX12_tonight_17 ?_
    exact AW.iret1 rfl dX12_tonight_18 h rfl
  · replace h := hF h c1
    refine AW.iload_n 2 dX12_tonight_7 rfl ?_
    refine AW.iconst dX12_tonight_8 ?_
    refine AW.bipush dX12_tonight_9 (by decide) (by decide) ?_
    refine AW.callSi (As := [iv x2, iv 0, iv 17]) (st := []) M_isIn_ok cq_X12_3 st_X12_isIn (Nat.le_trans (by decide) hdd) rfl dX12_tonight_11 rfl (Nat.le_of_ble_eq_true rfl) ?_
    refine AW.if_ne (tgt := 19) dX12_tonight_14 (by decide) (fun c2 => ?_) (fun c2 => ?_)
    · replace h := hF h c2
      refine AW.iconst dX12_tonight_19 ?_
      refine AW.istore_n (lv1 := [(3, iv 0), (0, rv z 117), (1, iv x1), (2, iv x2)]) dX12_tonight_20 (by decide) rfl ?_
      refine AW.iconst dX12_tonight_21 ?_
      refine AW.istore (lv1 := [(4, iv 0), (3, iv 0), (0, rv z 117), (1, iv x1), (2, iv x2)]) dX12_tonight_22 (by decide) rfl ?_
      refine AW.iconst dX12_tonight_24 ?_
      refine AW.istore (lv1 := [(5, iv 0), (4, iv 0), (3, iv 0), (0, rv z 117), (1, iv x1), (2, iv x2)]) dX12_tonight_25 (by decide) rfl ?_
      refine AW.sub (lv1 := [(0, rv z 117), (1, iv x1), (2, iv x2), (3, iv 0), (4, iv 0), (5, iv 0)]) [3, 4, 5, 2, 1, 0] rfl ?_
      exact (M_tonight_b_ok hdd _ _ _ _ h).1 rfl
    · replace h := hT h c2
      refine AW.iconst dX12_tonight_17 ?_
      exact AW.iret1 rfl dX12_tonight_18 h rfl
set_option synthInstance.maxHeartbeats 2000000 in
theorem M_queue_b_ok {z : AZ} {d : Nat} (hdd : 1 ≤ d) {x1 : Int} {x2 : Int} {g : AG} : ∀ (r : Int × AG), M_queue_b x1 x2 g = some r → AW z (RX12, cX12_queue, 3, (some .int)) d (QD (some .int) r) 65 [(0, rv z 117), (1, iv x1), (2, iv x2)] [] g := by
  intro r h
  unfold M_queue_b at h
  refine AW.aloadr_n 0 dX12_queue_65 rfl ?_
  refine AW.getR af_X12_142_117 sr_117_60 dX12_queue_66 ?_
  refine AW.aloadr_n 0 dX12_queue_69 rfl ?_
  refine AW.getI af_X12_475_117 sr_117_59 dX12_queue_70 ?_
  refine AW.iload_n 1 dX12_queue_73 rfl ?_
  obtain ⟨k1, h⟩ := hK h
  obtain ⟨g2, e3, h⟩ := hBe h
  refine AW.iast kc_158 sk_158 k1 dX12_queue_74 e3 ?_
  refine AW.aloadr_n 0 dX12_queue_75 rfl ?_
  refine AW.getR af_X12_145_117 sr_117_61 dX12_queue_76 ?_
  refine AW.aloadr_n 0 dX12_queue_79 rfl ?_
  refine AW.getI af_X12_475_117 sr_117_59 dX12_queue_80 ?_
  refine AW.iload_n 2 dX12_queue_83 rfl ?_
  obtain ⟨k4, h⟩ := hK h
  obtain ⟨g5, e6, h⟩ := hBe h
  refine AW.iast kc_159 sk_159 k4 dX12_queue_84 e6 ?_
  refine AW.aloadr_n 0 dX12_queue_85 rfl ?_
  refine AW.duprr dX12_queue_86 ?_
  refine AW.getI af_X12_475_117 sr_117_59 dX12_queue_87 ?_
  refine AW.iconst dX12_queue_90 ?_
  refine AW.iadd dX12_queue_91 ?_
  obtain ⟨g7, e8, h⟩ := hBe h
  refine AW.putI ap_X12_475_117 sr_117_59 dX12_queue_92 e8 ?_
  refine AW.aloadr_n 0 dX12_queue_95 rfl ?_
  refine AW.getI af_X12_475_117 sr_117_59 dX12_queue_96 ?_
  exact AW.iret1 rfl dX12_queue_99 h rfl
theorem M_queue_ok {z : AZ} {x1 : Int} {x2 : Int} {g : AG} {r : Int × AG} (h : M_queue x1 x2 g = some r) : AMf z yX12_queue cX12_queue 3 (some .int) 1 [rv z 117, iv x1, iv x2] g r := by
  intro d hdd
  refine AM.of (by decide +kernel) (Nat.le_of_ble_eq_true rfl) ?_
  show AW z (RX12, cX12_queue, 3, (some .int)) d (QD (some .int) r) 0 [(0, rv z 117), (1, iv x1), (2, iv x2)] [] g
  unfold M_queue at h
  refine AW.iload_n 2 dX12_queue_0 rfl ?_
  refine AW.iconst dX12_queue_1 ?_
  refine AW.icmp_ne (tgt := 12) dX12_queue_2 (by decide) (fun c1 => ?_) (fun c1 => ?_)
  · replace h := hF h c1
    refine AW.iload_n 1 dX12_queue_12 rfl ?_
    refine AW.iconst dX12_queue_13 ?_
    refine AW.sipush dX12_queue_14 (by decide) (by decide) ?_
    refine AW.callSi (As := [iv x1, iv 0, iv 9999]) (st := []) M_isIn_ok cq_X12_3 st_X12_isIn (Nat.le_trans (by decide) hdd) rfl dX12_queue_17 rfl (Nat.le_of_ble_eq_true rfl) ?_
    refine AW.if_eq (tgt := 63) dX12_queue_20 (by decide) (fun c2 => ?_) (fun c2 => ?_)
    · replace h := hT h c2
      refine AW.iconst dX12_queue_63 ?_
      exact AW.iret1 rfl dX12_queue_64 h rfl
    · replace h := hF h c2
      refine AW.iload_n 2 dX12_queue_23 rfl ?_
      refine AW.iconst dX12_queue_24 ?_
      refine AW.iconst dX12_queue_25 ?_
      refine AW.callSi (As := [iv x2, iv 0, iv 1]) (st := []) M_isIn_ok cq_X12_3 st_X12_isIn (Nat.le_trans (by decide) hdd) rfl dX12_queue_26 rfl (Nat.le_of_ble_eq_true rfl) ?_
      refine AW.if_eq (tgt := 63) dX12_queue_29 (by decide) (fun c3 => ?_) (fun c3 => ?_)
      · replace h := hT h c3
        refine AW.iconst dX12_queue_63 ?_
        exact AW.iret1 rfl dX12_queue_64 h rfl
      · replace h := hF h c3
        refine AW.aloadr_n 0 dX12_queue_32 rfl ?_
        refine AW.getI af_X12_475_117 sr_117_59 dX12_queue_33 ?_
        refine AW.bipush dX12_queue_36 (by decide) (by decide) ?_
        refine AW.icmp_eq (tgt := 63) dX12_queue_38 (by decide) (fun c4 => ?_) (fun c4 => ?_)
        · replace h := hT h c4
          refine AW.iconst dX12_queue_63 ?_
          exact AW.iret1 rfl dX12_queue_64 h rfl
        · replace h := hF h c4
          refine AW.aloadr_n 0 dX12_queue_41 rfl ?_
          refine AW.getI af_X12_475_117 sr_117_59 dX12_queue_42 ?_
          refine AW.if_le (tgt := 65) dX12_queue_45 (by decide) (fun c5 => ?_) (fun c5 => ?_)
          · replace h := hT h c5
            exact M_queue_b_ok hdd _ h
          · replace h := hF h c5
            refine AW.iload_n 1 dX12_queue_48 rfl ?_
            refine AW.aloadr_n 0 dX12_queue_49 rfl ?_
            refine AW.getR af_X12_142_117 sr_117_60 dX12_queue_50 ?_
            refine AW.aloadr_n 0 dX12_queue_53 rfl ?_
            refine AW.getI af_X12_475_117 sr_117_59 dX12_queue_54 ?_
            refine AW.iconst dX12_queue_57 ?_
            refine AW.isub dX12_queue_58 ?_
            obtain ⟨k6, h⟩ := hK h
            refine AW.iald kc_158 sk_158 k6 dX12_queue_59 ?_
            refine AW.icmp_ge (tgt := 65) dX12_queue_60 (by decide) (fun c7 => ?_) (fun c7 => ?_)
            · replace h := hT h c7
              exact M_queue_b_ok hdd _ h
            · replace h := hF h c7
              refine AW.iconst dX12_queue_63 ?_
              exact AW.iret1 rfl dX12_queue_64 h rfl
  · replace h := hT h c1
    refine AW.aloadr_n 0 dX12_queue_5 rfl ?_
    refine AW.iconst dX12_queue_6 ?_
    obtain ⟨g8, e9, h⟩ := hBe h
    refine AW.putI ap_X12_475_117 sr_117_59 dX12_queue_7 e9 ?_
    refine AW.iconst dX12_queue_10 ?_
    exact AW.iret1 rfl dX12_queue_11 h rfl
set_option synthInstance.maxHeartbeats 2000000 in
theorem M_waits_b_ok {z : AZ} {d : Nat} (hdd : 0 ≤ d) {g : AG} : ∀ (x1 : Int) (x2 : Int) (x3 : Int) (r : Int), M_waits_b g x1 x2 x3 = some r → AW z (RX12, cX12_waits, 6, (some .int)) d (QD (some .int) (r, g)) 6 [(0, rv z 117), (1, iv x1), (2, iv x2), (3, iv x3)] [] g := by
  refine M_waits_b.partial_correctness g (fun x1 x2 x3 r => AW z (RX12, cX12_waits, 6, (some .int)) d (QD (some .int) (r, g)) 6 [(0, rv z 117), (1, iv x1), (2, iv x2), (3, iv x3)] [] g) ?_
  intro fb9 ih x1 x2 x3 r h
  refine AW.iload_n 3 dX12_waits_6 rfl ?_
  refine AW.aloadr_n 0 dX12_waits_7 rfl ?_
  refine AW.getI af_X12_475_117 sr_117_59 dX12_waits_8 ?_
  refine AW.icmp_ge (tgt := 104) dX12_waits_11 (by decide) (fun c1 => ?_) (fun c1 => ?_)
  · replace h := hT h c1
    refine AW.iload_n 2 dX12_waits_104 rfl ?_
    exact AW.iret2 rfl dX12_waits_105 h rfl
  · replace h := hF h c1
    refine AW.aloadr_n 0 dX12_waits_14 rfl ?_
    refine AW.getR af_X12_148_117 sr_117_62 dX12_waits_15 ?_
    refine AW.iload_n 3 dX12_waits_18 rfl ?_
    obtain ⟨k2, h⟩ := hK h
    refine AW.iald kc_160 sk_160 k2 dX12_waits_19 ?_
    refine AW.istore (lv1 := [(4, iv (g 160 (ix x3))), (0, rv z 117), (1, iv x1), (2, iv x2), (3, iv x3)]) dX12_waits_20 (by decide) rfl ?_
    refine AW.aloadr_n 1 dX12_waits_22 rfl ?_
    refine AW.getR af_X12_142_117 sr_117_60 dX12_waits_23 ?_
    refine AW.iload 0 dX12_waits_26 rfl ?_
    obtain ⟨k3, h⟩ := hK h
    refine AW.iald kc_158 sk_158 k3 dX12_waits_28 ?_
    refine AW.iload_n 2 dX12_waits_29 rfl ?_
    obtain ⟨r5, e6, h⟩ := hC h
    refine AW.join (tgt := 44) (lv1 := [(0, rv z 117), (2, iv x2), (3, iv x3), (4, iv (g 160 (ix x3)))]) (st1 := [iv r5]) (g1 := g) ?_ (fun J30 => ?_)
    · refine AW.istore (lv1 := [(5, iv r5), (0, rv z 117), (2, iv x2), (3, iv x3), (4, iv (g 160 (ix x3)))]) dX12_waits_44 (by decide) rfl ?_
      refine AW.iload_n 2 dX12_waits_46 rfl ?_
      refine AW.iload 0 dX12_waits_47 rfl ?_
      refine AW.aloadr_n 1 dX12_waits_49 rfl ?_
      refine AW.getR af_X12_142_117 sr_117_60 dX12_waits_50 ?_
      refine AW.iload 4 dX12_waits_53 rfl ?_
      refine AW.iald kc_158 sk_158 k3 dX12_waits_55 ?_
      refine AW.isub dX12_waits_56 ?_
      refine AW.iadd dX12_waits_57 ?_
      refine AW.istore_n (lv1 := [(2, iv (x2 + (r5 - (g 158 (ix (g 160 (ix x3))))))), (5, iv r5), (0, rv z 117), (3, iv x3), (4, iv (g 160 (ix x3)))]) dX12_waits_58 (by decide) rfl ?_
      refine AW.iload 1 dX12_waits_59 rfl ?_
      refine AW.bipush dX12_waits_61 (by decide) (by decide) ?_
      refine AW.iadd dX12_waits_63 ?_
      refine AW.iload_n 3 dX12_waits_64 rfl ?_
      obtain ⟨r13, e14, h⟩ := hC h
      refine AW.join (tgt := 96) (lv1 := [(0, rv z 117), (2, iv (x2 + (r5 - (g 158 (ix (g 160 (ix x3))))))), (3, iv x3)]) (st1 := [iv r13, iv (r5 + 15)]) (g1 := g) ?_ (fun J65 => ?_)
      · refine AW.iadd dX12_waits_96 ?_
        refine AW.istore_n (lv1 := [(1, iv ((r5 + 15) + r13)), (0, rv z 117), (2, iv (x2 + (r5 - (g 158 (ix (g 160 (ix x3))))))), (3, iv x3)]) dX12_waits_97 (by decide) rfl ?_
        refine AW.iinc (lv1 := [(3, iv (x3 + 1)), (1, iv ((r5 + 15) + r13)), (0, rv z 117), (2, iv (x2 + (r5 - (g 158 (ix (g 160 (ix x3)))))))]) 3 dX12_waits_98 rfl (by decide) rfl ?_
        refine AW.goto (tgt := 6) dX12_waits_101 (by decide) ?_
        refine AW.sub (lv1 := [(0, rv z 117), (1, iv ((r5 + 15) + r13)), (2, iv (x2 + (r5 - (g 158 (ix (g 160 (ix x3))))))), (3, iv (x3 + 1))]) [2, 1, 3, 0] rfl ?_
        exact ih _ _ _ _ h
      replace h := e14
      refine AW.if_le (tgt := 95) dX12_waits_65 (by decide) (fun c7 => ?_) (fun c7 => ?_)
      · replace h := hT h c7
        refine AW.iconst dX12_waits_95 ?_
        refine AW.sub (lv1 := [(0, rv z 117), (2, iv (x2 + (r5 - (g 158 (ix (g 160 (ix x3))))))), (3, iv x3)]) [2, 0, 3] rfl ?_
        cases h
        exact J65
      · replace h := hF h c7
        refine AW.aloadr_n 2 dX12_waits_68 rfl ?_
        refine AW.getR af_X12_145_117 sr_117_61 dX12_waits_69 ?_
        refine AW.aloadr_n 2 dX12_waits_72 rfl ?_
        refine AW.getR af_X12_148_117 sr_117_62 dX12_waits_73 ?_
        refine AW.iload_n 3 dX12_waits_76 rfl ?_
        refine AW.iconst dX12_waits_77 ?_
        refine AW.isub dX12_waits_78 ?_
        obtain ⟨k8, h⟩ := hK h
        refine AW.iald kc_160 sk_160 k8 dX12_waits_79 ?_
        obtain ⟨k9, h⟩ := hK h
        refine AW.iald kc_159 sk_159 k9 dX12_waits_80 ?_
        refine AW.aloadr_n 2 dX12_waits_81 rfl ?_
        refine AW.getR af_X12_145_117 sr_117_61 dX12_waits_82 ?_
        refine AW.iload 4 dX12_waits_85 rfl ?_
        refine AW.iald kc_159 sk_159 k3 dX12_waits_87 ?_
        obtain ⟨t10, e11, h⟩ := hBe h
        refine AW.join (tgt := 96) (lv1 := [(2, iv (x2 + (r5 - (g 158 (ix (g 160 (ix x3))))))), (5, iv r5), (0, rv z 117), (3, iv x3), (4, iv (g 160 (ix x3)))]) (st1 := [iv t10, iv (r5 + 15)]) (g1 := g) ?_ (fun J88 => ?_)
        · refine AW.sub (lv1 := [(0, rv z 117), (2, iv (x2 + (r5 - (g 158 (ix (g 160 (ix x3))))))), (3, iv x3)]) [2, 0, 3] rfl ?_
          cases h
          exact J65
        refine AW.icmp_ne (tgt := 95) dX12_waits_88 (by decide) (fun c12 => ?_) (fun c12 => ?_)
        · refine AW.iconst dX12_waits_95 ?_
          exact AW.val (e11.trans (if_neg c12)) J88
        · refine AW.iconst dX12_waits_91 ?_
          refine AW.goto (tgt := 96) dX12_waits_92 (by decide) ?_
          exact AW.val (e11.trans (if_pos c12)) J88
    replace h := e6
    refine AW.icmp_le (tgt := 43) dX12_waits_30 (by decide) (fun c4 => ?_) (fun c4 => ?_)
    · replace h := hT h c4
      refine AW.iload_n 2 dX12_waits_43 rfl ?_
      refine AW.sub (lv1 := [(0, rv z 117), (2, iv x2), (3, iv x3), (4, iv (g 160 (ix x3)))]) [1, 3, 4, 0] rfl ?_
      cases h
      exact J30
    · replace h := hF h c4
      refine AW.aloadr_n 1 dX12_waits_33 rfl ?_
      refine AW.getR af_X12_142_117 sr_117_60 dX12_waits_34 ?_
      refine AW.iload 0 dX12_waits_37 rfl ?_
      refine AW.iald kc_158 sk_158 k3 dX12_waits_39 ?_
      refine AW.goto (tgt := 44) dX12_waits_40 (by decide) ?_
      refine AW.sub (lv1 := [(0, rv z 117), (2, iv x2), (3, iv x3), (4, iv (g 160 (ix x3)))]) [1, 3, 4, 0] rfl ?_
      cases h
      exact J30
theorem M_waits_ok {z : AZ} {g : AG} {r : Int} (h : M_waits g = some r) : AMf z yX12_waits cX12_waits 6 (some .int) 0 [rv z 117] g (r, g) := by
  intro d hdd
  refine AM.of (by decide +kernel) (Nat.le_of_ble_eq_true rfl) ?_
  show AW z (RX12, cX12_waits, 6, (some .int)) d (QD (some .int) (r, g)) 0 [(0, rv z 117)] [] g
  unfold M_waits at h
  refine AW.iconst dX12_waits_0 ?_
  refine AW.istore_n (lv1 := [(1, iv 0), (0, rv z 117)]) dX12_waits_1 (by decide) rfl ?_
  refine AW.iconst dX12_waits_2 ?_
  refine AW.istore_n (lv1 := [(2, iv 0), (1, iv 0), (0, rv z 117)]) dX12_waits_3 (by decide) rfl ?_
  refine AW.iconst dX12_waits_4 ?_
  refine AW.istore_n (lv1 := [(3, iv 0), (2, iv 0), (1, iv 0), (0, rv z 117)]) dX12_waits_5 (by decide) rfl ?_
  refine AW.sub (lv1 := [(0, rv z 117), (1, iv 0), (2, iv 0), (3, iv 0)]) [3, 2, 1, 0] rfl ?_
  exact M_waits_b_ok hdd _ _ _ _ h
set_option synthInstance.maxHeartbeats 2000000 in
theorem M_orders_b_ok {z : AZ} {rec : Int → Int → AG → Option (Int × AG)} {Dr : Nat} (hC9 : 1 ≤ Dr) (hrec : ∀ (x1 : Int) (x2 : Int) (g : AG) (r : Int × AG), rec x1 x2 g = some r → AMf z yX12_orders cX12_orders 5 none Dr [rv z 117, iv x1, iv x2] g r) {d : Nat} (hdd : Dr + 1 ≤ d) {x1 : Int} {x2 : Int} : ∀ (tag : Nat) (x3 : Int) (x4 : Int) (g : AG) (r : Int × AG), M_orders_b rec x1 x2 tag x3 x4 g = some r → (tag = 1 → AW z (RX12, cX12_orders, 5, none) d (QD none r) 30 [(0, rv z 117), (3, iv x3)] [] g) ∧ (tag = 2 → AW z (RX12, cX12_orders, 5, none) d (QD none r) 38 [(0, rv z 117), (4, iv x4)] [] g) ∧ (tag = 3 → AW z (RX12, cX12_orders, 5, none) d (QD none r) 70 [(0, rv z 117), (1, iv x1), (2, iv x2), (3, iv x3)] [] g) := by
  refine M_orders_b.partial_correctness rec x1 x2 (fun tag x3 x4 g r => (tag = 1 → AW z (RX12, cX12_orders, 5, none) d (QD none r) 30 [(0, rv z 117), (3, iv x3)] [] g) ∧ (tag = 2 → AW z (RX12, cX12_orders, 5, none) d (QD none r) 38 [(0, rv z 117), (4, iv x4)] [] g) ∧ (tag = 3 → AW z (RX12, cX12_orders, 5, none) d (QD none r) 70 [(0, rv z 117), (1, iv x1), (2, iv x2), (3, iv x3)] [] g)) ?_
  intro fb9 ih tag x3 x4 g r h
  refine ⟨fun h9 => ?_, fun h9 => ?_, fun h9 => ?_⟩
  · subst h9
    replace h := hT h rfl
    refine AW.aloadr_n 0 dX12_orders_30 rfl ?_
    refine AW.iload_n 1 dX12_orders_31 rfl ?_
    obtain ⟨g1, e2, h⟩ := hBe h
    refine AW.putI ap_X12_481_117 sr_117_64 dX12_orders_32 e2 ?_
    refine AW.iconst dX12_orders_35 ?_
    refine AW.istore (lv1 := [(4, iv 0), (0, rv z 117), (3, iv x3)]) dX12_orders_36 (by decide) rfl ?_
    refine AW.sub (lv1 := [(0, rv z 117), (4, iv 0)]) [1, 0] rfl ?_
    exact (ih _ _ _ _ _ h).2.1 rfl
  · subst h9
    replace h := hF h (by decide)
    replace h := hT h rfl
    refine AW.iload 1 dX12_orders_38 rfl ?_
    refine AW.aloadr_n 0 dX12_orders_40 rfl ?_
    refine AW.getI af_X12_475_117 sr_117_59 dX12_orders_41 ?_
    refine AW.icmp_ge (tgt := 67) dX12_orders_44 (by decide) (fun c1 => ?_) (fun c1 => ?_)
    · replace h := hT h c1
      exact AW.vret1 rfl dX12_orders_67 h rfl
    · replace h := hF h c1
      refine AW.aloadr_n 0 dX12_orders_47 rfl ?_
      refine AW.getR af_X12_151_117 sr_117_63 dX12_orders_48 ?_
      refine AW.iload 1 dX12_orders_51 rfl ?_
      refine AW.aloadr_n 0 dX12_orders_53 rfl ?_
      refine AW.getR af_X12_148_117 sr_117_62 dX12_orders_54 ?_
      refine AW.iload 1 dX12_orders_57 rfl ?_
      obtain ⟨k2, h⟩ := hK h
      refine AW.iald kc_160 sk_160 k2 dX12_orders_59 ?_
      obtain ⟨g3, e4, h⟩ := hBe h
      refine AW.iast kc_161 sk_161 k2 dX12_orders_60 e4 ?_
      refine AW.iinc (lv1 := [(4, iv (x4 + 1)), (0, rv z 117)]) 1 dX12_orders_61 rfl (by decide) rfl ?_
      refine AW.goto (tgt := 38) dX12_orders_64 (by decide) ?_
      refine AW.sub (lv1 := [(0, rv z 117), (4, iv (x4 + 1))]) [1, 0] rfl ?_
      exact (ih _ _ _ _ _ h).2.1 rfl
  · subst h9
    replace h := hF h (by decide)
    replace h := hF h (by decide)
    replace h := hT h rfl
    refine AW.iload_n 3 dX12_orders_70 rfl ?_
    refine AW.aloadr_n 0 dX12_orders_71 rfl ?_
    refine AW.getI af_X12_475_117 sr_117_59 dX12_orders_72 ?_
    refine AW.icmp_ge (tgt := 115) dX12_orders_75 (by decide) (fun c1 => ?_) (fun c1 => ?_)
    · replace h := hT h c1
      exact AW.vret1 rfl dX12_orders_115 h rfl
    · replace h := hF h c1
      refine AW.iload_n 2 dX12_orders_78 rfl ?_
      refine AW.iload_n 3 dX12_orders_79 rfl ?_
      refine AW.ishr dX12_orders_80 ?_
      refine AW.iconst dX12_orders_81 ?_
      refine AW.iand dX12_orders_82 ?_
      refine AW.iconst dX12_orders_83 ?_
      obtain ⟨r8, e9, h⟩ := hC h
      refine AW.join (tgt := 109) (lv1 := [(0, rv z 117), (1, iv x1), (2, iv x2), (3, iv x3)]) (st1 := []) (g1 := r8) ?_ (fun J84 => ?_)
      · refine AW.iinc (lv1 := [(3, iv (x3 + 1)), (0, rv z 117), (1, iv x1), (2, iv x2)]) 3 dX12_orders_109 rfl (by decide) rfl ?_
        refine AW.goto (tgt := 70) dX12_orders_112 (by decide) ?_
        refine AW.sub (lv1 := [(0, rv z 117), (1, iv x1), (2, iv x2), (3, iv (x3 + 1))]) [1, 2, 3, 0] rfl ?_
        exact (ih _ _ _ _ _ h).2.2 rfl
      replace h := e9
      refine AW.icmp_ne (tgt := 90) dX12_orders_84 (by decide) (fun c2 => ?_) (fun c2 => ?_)
      · replace h := hF h c2
        refine AW.aloadr_n 0 dX12_orders_90 rfl ?_
        refine AW.getR af_X12_148_117 sr_117_62 dX12_orders_91 ?_
        refine AW.iload_n 1 dX12_orders_94 rfl ?_
        refine AW.iload_n 3 dX12_orders_95 rfl ?_
        obtain ⟨k3, h⟩ := hK h
        obtain ⟨g4, e5, h⟩ := hBe h
        refine AW.iast kc_160 sk_160 k3 dX12_orders_96 e5 ?_
        refine AW.aloadr_n 0 dX12_orders_97 rfl ?_
        refine AW.iload_n 1 dX12_orders_98 rfl ?_
        refine AW.iconst dX12_orders_99 ?_
        refine AW.iadd dX12_orders_100 ?_
        refine AW.iload_n 2 dX12_orders_101 rfl ?_
        refine AW.iconst dX12_orders_102 ?_
        refine AW.iload_n 3 dX12_orders_103 rfl ?_
        refine AW.ishl dX12_orders_104 ?_
        refine AW.ior dX12_orders_105 ?_
        obtain ⟨r6, e7, h⟩ := hC h
        refine AW.callVv (As := [iv (x1 + 1), iv (orI x2 (shlI 1 x3))]) (st := []) (hrec _ _ _ _ e7) cq_X12_484 cr_117_X12_orders (by omega) rfl dX12_orders_106 rfl (Nat.le_of_ble_eq_true rfl) ?_
        cases h
        exact J84
      · replace h := hT h c2
        refine AW.goto (tgt := 109) dX12_orders_87 (by decide) ?_
        cases h
        exact J84
theorem M_orders_s_ok {z : AZ} {rec : Int → Int → AG → Option (Int × AG)} {Dr : Nat} (hC9 : 1 ≤ Dr) (hrec : ∀ (x1 : Int) (x2 : Int) (g : AG) (r : Int × AG), rec x1 x2 g = some r → AMf z yX12_orders cX12_orders 5 none Dr [rv z 117, iv x1, iv x2] g r) {x1 : Int} {x2 : Int} {g : AG} {r : Int × AG} (h : M_orders_s rec x1 x2 g = some r) : AMf z yX12_orders cX12_orders 5 none (Dr + 1) [rv z 117, iv x1, iv x2] g r := by
  intro d hdd
  refine AM.of (by decide +kernel) (Nat.le_of_ble_eq_true rfl) ?_
  show AW z (RX12, cX12_orders, 5, none) d (QD none r) 0 [(0, rv z 117), (1, iv x1), (2, iv x2)] [] g
  unfold M_orders_s at h
  refine AW.iload_n 1 dX12_orders_0 rfl ?_
  refine AW.aloadr_n 0 dX12_orders_1 rfl ?_
  refine AW.getI af_X12_475_117 sr_117_59 dX12_orders_2 ?_
  refine AW.icmp_ne (tgt := 68) dX12_orders_5 (by decide) (fun c1 => ?_) (fun c1 => ?_)
  · replace h := hF h c1
    refine AW.iconst dX12_orders_68 ?_
    refine AW.istore_n (lv1 := [(3, iv 0), (0, rv z 117), (1, iv x1), (2, iv x2)]) dX12_orders_69 (by decide) rfl ?_
    refine AW.sub (lv1 := [(0, rv z 117), (1, iv x1), (2, iv x2), (3, iv 0)]) [1, 2, 3, 0] rfl ?_
    exact (M_orders_b_ok hC9 hrec hdd _ _ _ _ _ h).2.2 rfl
  · replace h := hT h c1
    refine AW.aloadr_n 0 dX12_orders_8 rfl ?_
    obtain ⟨r2, e3, h⟩ := hC h
    refine AW.callVi (As := []) (st := []) (M_waits_ok e3) cq_X12_478 cr_117_X12_waits (by omega) rfl dX12_orders_9 rfl (Nat.le_of_ble_eq_true rfl) ?_
    refine AW.istore_n (lv1 := [(3, iv r2), (0, rv z 117), (1, iv x1), (2, iv x2)]) dX12_orders_12 (by decide) rfl ?_
    refine AW.aloadr_n 1 dX12_orders_13 rfl ?_
    refine AW.getI af_X12_481_117 sr_117_64 dX12_orders_14 ?_
    refine AW.iconst dX12_orders_17 ?_
    refine AW.icmp_eq (tgt := 30) dX12_orders_18 (by decide) (fun c4 => ?_) (fun c4 => ?_)
    · replace h := hT h c4
      refine AW.sub (lv1 := [(0, rv z 117), (3, iv r2)]) [1, 0] rfl ?_
      exact (M_orders_b_ok hC9 hrec hdd _ _ _ _ _ h).1 rfl
    · replace h := hF h c4
      refine AW.iload_n 0 dX12_orders_21 rfl ?_
      refine AW.aloadr_n 1 dX12_orders_22 rfl ?_
      refine AW.getI af_X12_481_117 sr_117_64 dX12_orders_23 ?_
      refine AW.icmp_lt (tgt := 30) dX12_orders_26 (by decide) (fun c5 => ?_) (fun c5 => ?_)
      · replace h := hT h c5
        refine AW.sub (lv1 := [(0, rv z 117), (3, iv r2)]) [1, 0] rfl ?_
        exact (M_orders_b_ok hC9 hrec hdd _ _ _ _ _ h).1 rfl
      · replace h := hF h c5
        exact AW.vret1 rfl dX12_orders_29 h rfl
theorem M_orders_ok {z : AZ} {n : Nat} {x1 : Int} {x2 : Int} {g : AG} {r : Int × AG} (h : M_orders n x1 x2 g = some r) : AMf z yX12_orders cX12_orders 5 none (1 + n * 1) [rv z 117, iv x1, iv x2] g r := by
  induction n generalizing x1 x2 g r with
  | zero => cases h
  | succ n ih =>
    have q := M_orders_s_ok (z := z) (Dr := 1 + n * 1) (Nat.le_add_right _ _) (fun x1 x2 g r h9 => ih h9) h
    rw [show 1 + (n + 1) * 1 = 1 + n * 1 + 1 by rw [Nat.add_mul]; omega]
    exact q
set_option synthInstance.maxHeartbeats 2000000 in
theorem M_asTheyCome_b_ok {z : AZ} {d : Nat} (hdd : 0 ≤ d) : ∀ (x1 : Int) (g : AG) (r : Int × AG), M_asTheyCome_b x1 g = some r → AW z (RX12, cX12_asTheyCome, 2, none) d (QD none r) 2 [(0, rv z 117), (1, iv x1)] [] g := by
  refine M_asTheyCome_b.partial_correctness (fun x1 g r => AW z (RX12, cX12_asTheyCome, 2, none) d (QD none r) 2 [(0, rv z 117), (1, iv x1)] [] g) ?_
  intro fb9 ih x1 g r h
  refine AW.iload_n 1 dX12_asTheyCome_2 rfl ?_
  refine AW.aloadr_n 0 dX12_asTheyCome_3 rfl ?_
  refine AW.getI af_X12_475_117 sr_117_59 dX12_asTheyCome_4 ?_
  refine AW.icmp_ge (tgt := 23) dX12_asTheyCome_7 (by decide) (fun c1 => ?_) (fun c1 => ?_)
  · replace h := hT h c1
    exact AW.vret1 rfl dX12_asTheyCome_23 h rfl
  · replace h := hF h c1
    refine AW.aloadr_n 0 dX12_asTheyCome_10 rfl ?_
    refine AW.getR af_X12_148_117 sr_117_62 dX12_asTheyCome_11 ?_
    refine AW.iload_n 1 dX12_asTheyCome_14 rfl ?_
    refine AW.iload_n 1 dX12_asTheyCome_15 rfl ?_
    obtain ⟨k2, h⟩ := hK h
    obtain ⟨g3, e4, h⟩ := hBe h
    refine AW.iast kc_160 sk_160 k2 dX12_asTheyCome_16 e4 ?_
    refine AW.iinc (lv1 := [(1, iv (x1 + 1)), (0, rv z 117)]) 1 dX12_asTheyCome_17 rfl (by decide) rfl ?_
    refine AW.goto (tgt := 2) dX12_asTheyCome_20 (by decide) ?_
    refine AW.sub (lv1 := [(0, rv z 117), (1, iv (x1 + 1))]) [1, 0] rfl ?_
    exact ih _ _ _ h
theorem M_asTheyCome_ok {z : AZ} {g : AG} {r : Int × AG} (h : M_asTheyCome g = some r) : AMf z yX12_asTheyCome cX12_asTheyCome 2 none 0 [rv z 117] g r := by
  intro d hdd
  refine AM.of (by decide +kernel) (Nat.le_of_ble_eq_true rfl) ?_
  show AW z (RX12, cX12_asTheyCome, 2, none) d (QD none r) 0 [(0, rv z 117)] [] g
  unfold M_asTheyCome at h
  refine AW.iconst dX12_asTheyCome_0 ?_
  refine AW.istore_n (lv1 := [(1, iv 0), (0, rv z 117)]) dX12_asTheyCome_1 (by decide) rfl ?_
  refine AW.sub (lv1 := [(0, rv z 117), (1, iv 0)]) [1, 0] rfl ?_
  exact M_asTheyCome_b_ok hdd _ _ _ h
set_option synthInstance.maxHeartbeats 2000000 in
theorem M_lockfuls_b_ok {z : AZ} {d : Nat} (hdd : 0 ≤ d) {g : AG} : ∀ (x1 : Int) (x2 : Int) (r : Int), M_lockfuls_b g x1 x2 = some r → AW z (RX12, cX12_lockfuls, 3, (some .int)) d (QD (some .int) (r, g)) 7 [(0, rv z 117), (1, iv x1), (2, iv x2)] [] g := by
  refine M_lockfuls_b.partial_correctness g (fun x1 x2 r => AW z (RX12, cX12_lockfuls, 3, (some .int)) d (QD (some .int) (r, g)) 7 [(0, rv z 117), (1, iv x1), (2, iv x2)] [] g) ?_
  intro fb9 ih x1 x2 r h
  refine AW.iload_n 2 dX12_lockfuls_7 rfl ?_
  refine AW.aloadr_n 0 dX12_lockfuls_8 rfl ?_
  refine AW.getI af_X12_475_117 sr_117_59 dX12_lockfuls_9 ?_
  refine AW.icmp_ge (tgt := 56) dX12_lockfuls_12 (by decide) (fun c1 => ?_) (fun c1 => ?_)
  · replace h := hT h c1
    refine AW.iload_n 1 dX12_lockfuls_56 rfl ?_
    exact AW.iret2 rfl dX12_lockfuls_57 h rfl
  · replace h := hF h c1
    refine AW.iload_n 1 dX12_lockfuls_15 rfl ?_
    refine AW.aloadr_n 0 dX12_lockfuls_16 rfl ?_
    refine AW.getR af_X12_145_117 sr_117_61 dX12_lockfuls_17 ?_
    refine AW.aloadr_n 0 dX12_lockfuls_20 rfl ?_
    refine AW.getR af_X12_148_117 sr_117_62 dX12_lockfuls_21 ?_
    refine AW.iload_n 2 dX12_lockfuls_24 rfl ?_
    obtain ⟨k2, h⟩ := hK h
    refine AW.iald kc_160 sk_160 k2 dX12_lockfuls_25 ?_
    obtain ⟨k3, h⟩ := hK h
    refine AW.iald kc_159 sk_159 k3 dX12_lockfuls_26 ?_
    refine AW.aloadr_n 0 dX12_lockfuls_27 rfl ?_
    refine AW.getR af_X12_145_117 sr_117_61 dX12_lockfuls_28 ?_
    refine AW.aloadr_n 0 dX12_lockfuls_31 rfl ?_
    refine AW.getR af_X12_148_117 sr_117_62 dX12_lockfuls_32 ?_
    refine AW.iload_n 2 dX12_lockfuls_35 rfl ?_
    refine AW.iconst dX12_lockfuls_36 ?_
    refine AW.isub dX12_lockfuls_37 ?_
    obtain ⟨k4, h⟩ := hK h
    refine AW.iald kc_160 sk_160 k4 dX12_lockfuls_38 ?_
    obtain ⟨k5, h⟩ := hK h
    refine AW.iald kc_159 sk_159 k5 dX12_lockfuls_39 ?_
    obtain ⟨t6, e7, h⟩ := hBe h
    refine AW.join (tgt := 48) (lv1 := [(0, rv z 117), (1, iv x1), (2, iv x2)]) (st1 := [iv t6, iv x1]) (g1 := g) ?_ (fun J40 => ?_)
    · refine AW.isub dX12_lockfuls_48 ?_
      refine AW.istore_n (lv1 := [(1, iv (x1 - t6)), (0, rv z 117), (2, iv x2)]) dX12_lockfuls_49 (by decide) rfl ?_
      refine AW.iinc (lv1 := [(2, iv (x2 + 1)), (1, iv (x1 - t6)), (0, rv z 117)]) 2 dX12_lockfuls_50 rfl (by decide) rfl ?_
      refine AW.goto (tgt := 7) dX12_lockfuls_53 (by decide) ?_
      refine AW.sub (lv1 := [(0, rv z 117), (1, iv (x1 - t6)), (2, iv (x2 + 1))]) [2, 1, 0] rfl ?_
      exact ih _ _ _ h
    refine AW.icmp_eq (tgt := 47) dX12_lockfuls_40 (by decide) (fun c8 => ?_) (fun c8 => ?_)
    · refine AW.iconst dX12_lockfuls_47 ?_
      exact AW.val (e7.trans (if_pos c8)) J40
    · refine AW.iconst dX12_lockfuls_43 ?_
      refine AW.goto (tgt := 48) dX12_lockfuls_44 (by decide) ?_
      exact AW.val (e7.trans (if_neg c8)) J40
theorem M_lockfuls_ok {z : AZ} {g : AG} {r : Int} (h : M_lockfuls g = some r) : AMf z yX12_lockfuls cX12_lockfuls 3 (some .int) 0 [rv z 117] g (r, g) := by
  intro d hdd
  refine AM.of (by decide +kernel) (Nat.le_of_ble_eq_true rfl) ?_
  show AW z (RX12, cX12_lockfuls, 3, (some .int)) d (QD (some .int) (r, g)) 0 [(0, rv z 117)] [] g
  unfold M_lockfuls at h
  refine AW.aloadr_n 0 dX12_lockfuls_0 rfl ?_
  refine AW.getI af_X12_475_117 sr_117_59 dX12_lockfuls_1 ?_
  refine AW.istore_n (lv1 := [(1, iv (g 117 59)), (0, rv z 117)]) dX12_lockfuls_4 (by decide) rfl ?_
  refine AW.iconst dX12_lockfuls_5 ?_
  refine AW.istore_n (lv1 := [(2, iv 1), (1, iv (g 117 59)), (0, rv z 117)]) dX12_lockfuls_6 (by decide) rfl ?_
  refine AW.sub (lv1 := [(0, rv z 117), (1, iv (g 117 59)), (2, iv 1)]) [2, 1, 0] rfl ?_
  exact M_lockfuls_b_ok hdd _ _ _ h
set_option synthInstance.maxHeartbeats 2000000 in
theorem M_lock_b_ok {z : AZ} {d : Nat} (hdd : 11 ≤ d) {x1 : Int} : ∀ (tag : Nat) (x2 : Int) (g : AG) (r : Int × AG), M_lock_b x1 tag x2 g = some r → (tag = 1 → AW z (RX12, cX12_lock, 3, (some .int)) d (QD (some .int) r) 27 [(0, rv z 117), (1, iv x1)] [] g) ∧ (tag = 2 → AW z (RX12, cX12_lock, 3, (some .int)) d (QD (some .int) r) 68 [(0, rv z 117), (1, iv x1)] [] g) ∧ (tag = 3 → AW z (RX12, cX12_lock, 3, (some .int)) d (QD (some .int) r) 70 [(0, rv z 117), (1, iv x1), (2, iv x2)] [] g) ∧ (tag = 4 → AW z (RX12, cX12_lock, 3, (some .int)) d (QD (some .int) r) 96 [(0, rv z 117), (1, iv x1)] [] g) := by
  refine M_lock_b.partial_correctness x1 (fun tag x2 g r => (tag = 1 → AW z (RX12, cX12_lock, 3, (some .int)) d (QD (some .int) r) 27 [(0, rv z 117), (1, iv x1)] [] g) ∧ (tag = 2 → AW z (RX12, cX12_lock, 3, (some .int)) d (QD (some .int) r) 68 [(0, rv z 117), (1, iv x1)] [] g) ∧ (tag = 3 → AW z (RX12, cX12_lock, 3, (some .int)) d (QD (some .int) r) 70 [(0, rv z 117), (1, iv x1), (2, iv x2)] [] g) ∧ (tag = 4 → AW z (RX12, cX12_lock, 3, (some .int)) d (QD (some .int) r) 96 [(0, rv z 117), (1, iv x1)] [] g)) ?_
  intro fb9 ih tag x2 g r h
  refine ⟨fun h9 => ?_, fun h9 => ?_, fun h9 => ?_, fun h9 => ?_⟩
  · subst h9
    replace h := hT h rfl
    refine AW.aloadr_n 0 dX12_lock_27 rfl ?_
    refine AW.iconst dX12_lock_28 ?_
    obtain ⟨g1, e2, h⟩ := hBe h
    refine AW.putI ap_X12_481_117 sr_117_64 dX12_lock_29 e2 ?_
    refine AW.aloadr_n 0 dX12_lock_32 rfl ?_
    refine AW.iconst dX12_lock_33 ?_
    refine AW.iconst dX12_lock_34 ?_
    obtain ⟨r3, e4, h⟩ := hC h
    refine AW.callVv (As := [iv 0, iv 0]) (st := []) ((M_orders_ok (n := 9)) e4) cq_X12_484 cr_117_X12_orders (Nat.le_trans (by decide) hdd) rfl dX12_lock_35 rfl (Nat.le_of_ble_eq_true rfl) ?_
    refine AW.iload_n 1 dX12_lock_38 rfl ?_
    refine AW.bipush dX12_lock_39 (by decide) (by decide) ?_
    refine AW.icmp_lt (tgt := 54) dX12_lock_41 (by decide) (fun c5 => ?_) (fun c5 => ?_)
    · replace h := hT h c5
      refine AW.aloadr_n 0 dX12_lock_54 rfl ?_
      obtain ⟨r6, e7, h⟩ := hC h
      refine AW.callVv (As := []) (st := []) (M_asTheyCome_ok e7) cq_X12_487 cr_117_X12_asTheyCome (Nat.le_trans (by decide) hdd) rfl dX12_lock_55 rfl (Nat.le_of_ble_eq_true rfl) ?_
      refine AW.iload_n 1 dX12_lock_58 rfl ?_
      refine AW.iconst dX12_lock_59 ?_
      refine AW.icmp_eq (tgt := 68) dX12_lock_60 (by decide) (fun c8 => ?_) (fun c8 => ?_)
      · replace h := hT h c8
        exact (ih _ _ _ _ h).2.1 rfl
      · replace h := hF h c8
        refine AW.iload_n 1 dX12_lock_63 rfl ?_
        refine AW.iconst dX12_lock_64 ?_
        refine AW.icmp_ne (tgt := 96) dX12_lock_65 (by decide) (fun c9 => ?_) (fun c9 => ?_)
        · replace h := hF h c9
          exact (ih _ _ _ _ h).2.2.2 rfl
        · replace h := hT h c9
          exact (ih _ _ _ _ h).2.1 rfl
    · replace h := hF h c5
      refine AW.aloadr_n 0 dX12_lock_44 rfl ?_
      refine AW.getR af_X12_151_117 sr_117_63 dX12_lock_45 ?_
      refine AW.iload_n 1 dX12_lock_48 rfl ?_
      refine AW.bipush dX12_lock_49 (by decide) (by decide) ?_
      refine AW.isub dX12_lock_51 ?_
      obtain ⟨k10, h⟩ := hK h
      refine AW.iald kc_161 sk_161 k10 dX12_lock_52 ?_
      exact AW.iret1 rfl dX12_lock_53 h rfl
  · subst h9
    replace h := hF h (by decide)
    replace h := hT h rfl
    refine AW.iconst dX12_lock_68 ?_
    refine AW.istore_n (lv1 := [(2, iv 0), (0, rv z 117), (1, iv x1)]) dX12_lock_69 (by decide) rfl ?_
    refine AW.sub (lv1 := [(0, rv z 117), (1, iv x1), (2, iv 0)]) [1, 2, 0] rfl ?_
    exact (ih _ _ _ _ h).2.2.1 rfl
  · subst h9
    replace h := hF h (by decide)
    replace h := hF h (by decide)
    replace h := hT h rfl
    refine AW.iload_n 2 dX12_lock_70 rfl ?_
    refine AW.aloadr_n 0 dX12_lock_71 rfl ?_
    refine AW.getI af_X12_475_117 sr_117_59 dX12_lock_72 ?_
    refine AW.icmp_ge (tgt := 96) dX12_lock_75 (by decide) (fun c1 => ?_) (fun c1 => ?_)
    · replace h := hT h c1
      refine AW.sub (lv1 := [(0, rv z 117), (1, iv x1)]) [0, 1] rfl ?_
      exact (ih _ _ _ _ h).2.2.2 rfl
    · replace h := hF h c1
      refine AW.aloadr_n 0 dX12_lock_78 rfl ?_
      refine AW.getR af_X12_148_117 sr_117_62 dX12_lock_79 ?_
      refine AW.iload_n 2 dX12_lock_82 rfl ?_
      refine AW.aloadr_n 0 dX12_lock_83 rfl ?_
      refine AW.getR af_X12_151_117 sr_117_63 dX12_lock_84 ?_
      refine AW.iload_n 2 dX12_lock_87 rfl ?_
      obtain ⟨k2, h⟩ := hK h
      refine AW.iald kc_161 sk_161 k2 dX12_lock_88 ?_
      obtain ⟨g3, e4, h⟩ := hBe h
      refine AW.iast kc_160 sk_160 k2 dX12_lock_89 e4 ?_
      refine AW.iinc (lv1 := [(2, iv (x2 + 1)), (0, rv z 117), (1, iv x1)]) 2 dX12_lock_90 rfl (by decide) rfl ?_
      refine AW.goto (tgt := 70) dX12_lock_93 (by decide) ?_
      refine AW.sub (lv1 := [(0, rv z 117), (1, iv x1), (2, iv (x2 + 1))]) [1, 2, 0] rfl ?_
      exact (ih _ _ _ _ h).2.2.1 rfl
  · subst h9
    replace h := hF h (by decide)
    replace h := hF h (by decide)
    replace h := hF h (by decide)
    replace h := hT h rfl
    refine AW.iload_n 1 dX12_lock_96 rfl ?_
    refine AW.iconst dX12_lock_97 ?_
    obtain ⟨r6, e7, h⟩ := hC h
    refine AW.join (tgt := 112) (lv1 := []) (st1 := [iv r6.1]) (g1 := r6.2) ?_ (fun J98 => ?_)
    · exact AW.iret1 rfl dX12_lock_112 h rfl
    replace h := e7
    refine AW.icmp_ge (tgt := 108) dX12_lock_98 (by decide) (fun c1 => ?_) (fun c1 => ?_)
    · replace h := hT h c1
      refine AW.aloadr_n 0 dX12_lock_108 rfl ?_
      obtain ⟨r2, e3, h⟩ := hC h
      refine AW.callVi (As := []) (st := []) (M_lockfuls_ok e3) cq_X12_490 cr_117_X12_lockfuls (Nat.le_trans (by decide) hdd) rfl dX12_lock_109 rfl (Nat.le_of_ble_eq_true rfl) ?_
      refine AW.sub (lv1 := []) [] rfl ?_
      cases h
      exact J98
    · replace h := hF h c1
      refine AW.aloadr_n 0 dX12_lock_101 rfl ?_
      obtain ⟨r4, e5, h⟩ := hC h
      refine AW.callVi (As := []) (st := []) (M_waits_ok e5) cq_X12_478 cr_117_X12_waits (Nat.le_trans (by decide) hdd) rfl dX12_lock_102 rfl (Nat.le_of_ble_eq_true rfl) ?_
      refine AW.goto (tgt := 112) dX12_lock_105 (by decide) ?_
      refine AW.sub (lv1 := []) [] rfl ?_
      cases h
      exact J98
theorem M_lock_ok {z : AZ} {x1 : Int} {g : AG} {r : Int × AG} (h : M_lock x1 g = some r) : AMf z yX12_lock cX12_lock 3 (some .int) 11 [rv z 117, iv x1] g r := by
  intro d hdd
  refine AM.of (by decide +kernel) (Nat.le_of_ble_eq_true rfl) ?_
  show AW z (RX12, cX12_lock, 3, (some .int)) d (QD (some .int) r) 0 [(0, rv z 117), (1, iv x1)] [] g
  unfold M_lock at h
  refine AW.iload_n 1 dX12_lock_0 rfl ?_
  refine AW.iconst dX12_lock_1 ?_
  refine AW.iconst dX12_lock_2 ?_
  refine AW.callSi (As := [iv x1, iv 0, iv 3]) (st := []) M_isIn_ok cq_X12_3 st_X12_isIn (Nat.le_trans (by decide) hdd) rfl dX12_lock_3 rfl (Nat.le_of_ble_eq_true rfl) ?_
  refine AW.if_ne (tgt := 27) dX12_lock_6 (by decide) (fun c1 => ?_) (fun c1 => ?_)
  · replace h := hF h c1
    exact (M_lock_b_ok hdd _ _ _ _ h).1 rfl
  · replace h := hT h c1
    refine AW.iload_n 1 dX12_lock_9 rfl ?_
    refine AW.bipush dX12_lock_10 (by decide) (by decide) ?_
    refine AW.bipush dX12_lock_12 (by decide) (by decide) ?_
    refine AW.aloadr_n 0 dX12_lock_14 rfl ?_
    refine AW.getI af_X12_475_117 sr_117_59 dX12_lock_15 ?_
    refine AW.iadd dX12_lock_18 ?_
    refine AW.callSi (As := [iv x1, iv 10, iv (9 + (g 117 59))]) (st := []) M_isIn_ok cq_X12_3 st_X12_isIn (Nat.le_trans (by decide) hdd) rfl dX12_lock_19 rfl (Nat.le_of_ble_eq_true rfl) ?_
    refine AW.if_ne (tgt := 27) dX12_lock_22 (by decide) (fun c2 => ?_) (fun c2 => ?_)
    · replace h := hF h c2
      exact (M_lock_b_ok hdd _ _ _ _ h).1 rfl
    · replace h := hT h c2
      refine AW.iconst dX12_lock_25 ?_
      exact AW.iret1 rfl dX12_lock_26 h rfl
theorem M_booking_ok {z : AZ} {x1 : Int} {x2 : Int} {x3 : Int} {x4 : Int} {g : AG} {r : Int × AG} (h : M_booking x1 x2 x3 x4 g = some r) : AMf z yX12_booking cX12_booking 5 (some .int) 2 [rv z 117, iv x1, iv x2, iv x3, iv x4] g r := by
  intro d hdd
  refine AM.of (by decide +kernel) (Nat.le_of_ble_eq_true rfl) ?_
  show AW z (RX12, cX12_booking, 5, (some .int)) d (QD (some .int) r) 0 [(0, rv z 117), (1, iv x1), (2, iv x2), (3, iv x3), (4, iv x4)] [] g
  unfold M_booking at h
  refine AW.iload_n 1 dX12_booking_0 rfl ?_
  refine AW.callSi (As := [iv x1]) (st := []) M_isPoint_ok cq_X12_238 st_X12_isPoint (Nat.le_trans (by decide) hdd) rfl dX12_booking_1 rfl (Nat.le_of_ble_eq_true rfl) ?_
  refine AW.if_eq (tgt := 44) dX12_booking_4 (by decide) (fun c1 => ?_) (fun c1 => ?_)
  · replace h := hT h c1
    refine AW.iconst dX12_booking_44 ?_
    exact AW.iret1 rfl dX12_booking_45 h rfl
  · replace h := hF h c1
    refine AW.iload_n 2 dX12_booking_7 rfl ?_
    refine AW.callSi (As := [iv x2]) (st := []) M_isPoint_ok cq_X12_238 st_X12_isPoint (Nat.le_trans (by decide) hdd) rfl dX12_booking_8 rfl (Nat.le_of_ble_eq_true rfl) ?_
    refine AW.if_eq (tgt := 44) dX12_booking_11 (by decide) (fun c2 => ?_) (fun c2 => ?_)
    · replace h := hT h c2
      refine AW.iconst dX12_booking_44 ?_
      exact AW.iret1 rfl dX12_booking_45 h rfl
    · replace h := hF h c2
      refine AW.iload_n 3 dX12_booking_14 rfl ?_
      refine AW.iconst dX12_booking_15 ?_
      refine AW.bipush dX12_booking_16 (by decide) (by decide) ?_
      refine AW.callSi (As := [iv x3, iv 0, iv 9]) (st := []) M_isIn_ok cq_X12_3 st_X12_isIn (Nat.le_trans (by decide) hdd) rfl dX12_booking_18 rfl (Nat.le_of_ble_eq_true rfl) ?_
      refine AW.if_eq (tgt := 44) dX12_booking_21 (by decide) (fun c3 => ?_) (fun c3 => ?_)
      · replace h := hT h c3
        refine AW.iconst dX12_booking_44 ?_
        exact AW.iret1 rfl dX12_booking_45 h rfl
      · replace h := hF h c3
        refine AW.iload 4 dX12_booking_24 rfl ?_
        refine AW.iconst dX12_booking_26 ?_
        refine AW.bipush dX12_booking_27 (by decide) (by decide) ?_
        refine AW.callSi (As := [iv x4, iv 2, iv 12]) (st := []) M_isIn_ok cq_X12_3 st_X12_isIn (Nat.le_trans (by decide) hdd) rfl dX12_booking_29 rfl (Nat.le_of_ble_eq_true rfl) ?_
        refine AW.if_eq (tgt := 44) dX12_booking_32 (by decide) (fun c4 => ?_) (fun c4 => ?_)
        · replace h := hT h c4
          refine AW.iconst dX12_booking_44 ?_
          exact AW.iret1 rfl dX12_booking_45 h rfl
        · replace h := hF h c4
          refine AW.aloadr_n 0 dX12_booking_35 rfl ?_
          refine AW.getI af_X12_493_117 sr_117_65 dX12_booking_36 ?_
          refine AW.bipush dX12_booking_39 (by decide) (by decide) ?_
          refine AW.icmp_ne (tgt := 46) dX12_booking_41 (by decide) (fun c5 => ?_) (fun c5 => ?_)
          · replace h := hF h c5
            refine AW.aloadr_n 0 dX12_booking_46 rfl ?_
            refine AW.getR af_X12_154_117 sr_117_68 dX12_booking_47 ?_
            refine AW.aloadr_n 0 dX12_booking_50 rfl ?_
            refine AW.getI af_X12_493_117 sr_117_65 dX12_booking_51 ?_
            refine AW.iload_n 1 dX12_booking_54 rfl ?_
            obtain ⟨k6, h⟩ := hK h
            obtain ⟨g7, e8, h⟩ := hBe h
            refine AW.iast kc_162 sk_162 k6 dX12_booking_55 e8 ?_
            refine AW.aloadr_n 0 dX12_booking_56 rfl ?_
            refine AW.getR af_X12_157_117 sr_117_69 dX12_booking_57 ?_
            refine AW.aloadr_n 0 dX12_booking_60 rfl ?_
            refine AW.getI af_X12_493_117 sr_117_65 dX12_booking_61 ?_
            refine AW.iload_n 2 dX12_booking_64 rfl ?_
            obtain ⟨k9, h⟩ := hK h
            obtain ⟨g10, e11, h⟩ := hBe h
            refine AW.iast kc_163 sk_163 k9 dX12_booking_65 e11 ?_
            refine AW.aloadr_n 0 dX12_booking_66 rfl ?_
            refine AW.getR af_X12_160_117 sr_117_70 dX12_booking_67 ?_
            refine AW.aloadr_n 0 dX12_booking_70 rfl ?_
            refine AW.getI af_X12_493_117 sr_117_65 dX12_booking_71 ?_
            refine AW.iload_n 3 dX12_booking_74 rfl ?_
            obtain ⟨k12, h⟩ := hK h
            obtain ⟨g13, e14, h⟩ := hBe h
            refine AW.iast kc_164 sk_164 k12 dX12_booking_75 e14 ?_
            refine AW.aloadr_n 0 dX12_booking_76 rfl ?_
            refine AW.getR af_X12_163_117 sr_117_71 dX12_booking_77 ?_
            refine AW.aloadr_n 0 dX12_booking_80 rfl ?_
            refine AW.getI af_X12_493_117 sr_117_65 dX12_booking_81 ?_
            refine AW.iload 4 dX12_booking_84 rfl ?_
            obtain ⟨k15, h⟩ := hK h
            obtain ⟨g16, e17, h⟩ := hBe h
            refine AW.iast kc_165 sk_165 k15 dX12_booking_86 e17 ?_
            refine AW.aloadr_n 0 dX12_booking_87 rfl ?_
            refine AW.duprr dX12_booking_88 ?_
            refine AW.getI af_X12_493_117 sr_117_65 dX12_booking_89 ?_
            refine AW.iconst dX12_booking_92 ?_
            refine AW.iadd dX12_booking_93 ?_
            obtain ⟨g18, e19, h⟩ := hBe h
            refine AW.putI ap_X12_493_117 sr_117_65 dX12_booking_94 e19 ?_
            refine AW.aloadr_n 0 dX12_booking_97 rfl ?_
            refine AW.getI af_X12_493_117 sr_117_65 dX12_booking_98 ?_
            refine AW.iconst dX12_booking_101 ?_
            refine AW.isub dX12_booking_102 ?_
            exact AW.iret1 rfl dX12_booking_103 h rfl
          · replace h := hT h c5
            refine AW.iconst dX12_booking_44 ?_
            exact AW.iret1 rfl dX12_booking_45 h rfl
set_option synthInstance.maxHeartbeats 2000000 in
theorem M_asks_b_ok {z : AZ} {d : Nat} (hdd : 0 ≤ d) {x1 : Int} : ∀ (x2 : Int) (g : AG) (r : Int × AG), M_asks_b x1 x2 g = some r → AW z (RX12, cX12_asks, 3, none) d (QD none r) 2 [(0, rv z 117), (1, iv x1), (2, iv x2)] [] g := by
  refine M_asks_b.partial_correctness x1 (fun x2 g r => AW z (RX12, cX12_asks, 3, none) d (QD none r) 2 [(0, rv z 117), (1, iv x1), (2, iv x2)] [] g) ?_
  intro fb9 ih x2 g r h
  refine AW.iload_n 2 dX12_asks_2 rfl ?_
  refine AW.iload_n 1 dX12_asks_3 rfl ?_
  refine AW.icmp_ge (tgt := 37) dX12_asks_4 (by decide) (fun c1 => ?_) (fun c1 => ?_)
  · replace h := hT h c1
    exact AW.vret1 rfl dX12_asks_37 h rfl
  · replace h := hF h c1
    refine AW.aloadr_n 0 dX12_asks_7 rfl ?_
    refine AW.getR af_X12_181_117 sr_117_77 dX12_asks_8 ?_
    refine AW.iload_n 2 dX12_asks_11 rfl ?_
    refine AW.aloadr_n 0 dX12_asks_12 rfl ?_
    refine AW.getR af_X12_32_117 sr_117_6 dX12_asks_13 ?_
    refine AW.iload_n 2 dX12_asks_16 rfl ?_
    obtain ⟨k2, h⟩ := hK h
    refine AW.iald kc_124 sk_124 k2 dX12_asks_17 ?_
    obtain ⟨k3, h⟩ := hK h
    obtain ⟨g4, e5, h⟩ := hBe h
    refine AW.iast kc_171 sk_171 k3 dX12_asks_18 e5 ?_
    refine AW.aloadr_n 0 dX12_asks_19 rfl ?_
    refine AW.getR af_X12_184_117 sr_117_78 dX12_asks_20 ?_
    refine AW.iload_n 2 dX12_asks_23 rfl ?_
    refine AW.aloadr_n 0 dX12_asks_24 rfl ?_
    refine AW.getR af_X12_38_117 sr_117_8 dX12_asks_25 ?_
    refine AW.iload_n 2 dX12_asks_28 rfl ?_
    refine AW.iald kc_126 sk_126 k2 dX12_asks_29 ?_
    obtain ⟨g6, e7, h⟩ := hBe h
    refine AW.iast kc_172 sk_172 k3 dX12_asks_30 e7 ?_
    refine AW.iinc (lv1 := [(2, iv (x2 + 1)), (0, rv z 117), (1, iv x1)]) 2 dX12_asks_31 rfl (by decide) rfl ?_
    refine AW.goto (tgt := 2) dX12_asks_34 (by decide) ?_
    refine AW.sub (lv1 := [(0, rv z 117), (1, iv x1), (2, iv (x2 + 1))]) [1, 2, 0] rfl ?_
    exact ih _ _ _ h
theorem M_asks_ok {z : AZ} {x1 : Int} {g : AG} {r : Int × AG} (h : M_asks x1 g = some r) : AMf z yX12_asks cX12_asks 3 none 0 [rv z 117, iv x1] g r := by
  intro d hdd
  refine AM.of (by decide +kernel) (Nat.le_of_ble_eq_true rfl) ?_
  show AW z (RX12, cX12_asks, 3, none) d (QD none r) 0 [(0, rv z 117), (1, iv x1)] [] g
  unfold M_asks at h
  refine AW.iconst dX12_asks_0 ?_
  refine AW.istore_n (lv1 := [(2, iv 0), (0, rv z 117), (1, iv x1)]) dX12_asks_1 (by decide) rfl ?_
  refine AW.sub (lv1 := [(0, rv z 117), (1, iv x1), (2, iv 0)]) [1, 2, 0] rfl ?_
  exact M_asks_b_ok hdd _ _ _ h
set_option synthInstance.maxHeartbeats 2000000 in
theorem M_sorts_b_ok {z : AZ} {d : Nat} (hdd : 0 ≤ d) : ∀ (tag : Nat) (x1 : Int) (x2 : Int) (g : AG) (r : Int × AG), M_sorts_b tag x1 x2 g = some r → (tag = 1 → AW z (RX12, cX12_sorts, 3, none) d (QD none r) 2 [(0, rv z 117), (1, iv x1)] [] g) ∧ (tag = 2 → AW z (RX12, cX12_sorts, 3, none) d (QD none r) 12 [(0, rv z 117), (1, iv x1), (2, iv x2)] [] g) ∧ (tag = 3 → AW z (RX12, cX12_sorts, 3, none) d (QD none r) 58 [(0, rv z 117), (1, iv x1), (2, iv x2)] [] g) := by
  refine M_sorts_b.partial_correctness (fun tag x1 x2 g r => (tag = 1 → AW z (RX12, cX12_sorts, 3, none) d (QD none r) 2 [(0, rv z 117), (1, iv x1)] [] g) ∧ (tag = 2 → AW z (RX12, cX12_sorts, 3, none) d (QD none r) 12 [(0, rv z 117), (1, iv x1), (2, iv x2)] [] g) ∧ (tag = 3 → AW z (RX12, cX12_sorts, 3, none) d (QD none r) 58 [(0, rv z 117), (1, iv x1), (2, iv x2)] [] g)) ?_
  intro fb9 ih tag x1 x2 g r h
  refine ⟨fun h9 => ?_, fun h9 => ?_, fun h9 => ?_⟩
  · subst h9
    replace h := hT h rfl
    refine AW.iload_n 1 dX12_sorts_2 rfl ?_
    refine AW.aloadr_n 0 dX12_sorts_3 rfl ?_
    refine AW.getI af_X12_493_117 sr_117_65 dX12_sorts_4 ?_
    refine AW.icmp_ge (tgt := 71) dX12_sorts_7 (by decide) (fun c1 => ?_) (fun c1 => ?_)
    · replace h := hT h c1
      exact AW.vret1 rfl dX12_sorts_71 h rfl
    · replace h := hF h c1
      refine AW.iload_n 1 dX12_sorts_10 rfl ?_
      refine AW.istore_n (lv1 := [(2, iv x1), (0, rv z 117), (1, iv x1)]) dX12_sorts_11 (by decide) rfl ?_
      refine AW.sub (lv1 := [(0, rv z 117), (1, iv x1), (2, iv x1)]) [1, 2, 0] rfl ?_
      exact (ih _ _ _ _ _ h).2.1 rfl
  · subst h9
    replace h := hF h (by decide)
    replace h := hT h rfl
    refine AW.iload_n 2 dX12_sorts_12 rfl ?_
    refine AW.if_le (tgt := 58) dX12_sorts_13 (by decide) (fun c1 => ?_) (fun c1 => ?_)
    · replace h := hT h c1
      exact (ih _ _ _ _ _ h).2.2 rfl
    · replace h := hF h c1
      refine AW.aloadr_n 0 dX12_sorts_16 rfl ?_
      refine AW.getR af_X12_160_117 sr_117_70 dX12_sorts_17 ?_
      refine AW.aloadr_n 0 dX12_sorts_20 rfl ?_
      refine AW.getR af_X12_166_117 sr_117_72 dX12_sorts_21 ?_
      refine AW.iload_n 2 dX12_sorts_24 rfl ?_
      refine AW.iconst dX12_sorts_25 ?_
      refine AW.isub dX12_sorts_26 ?_
      obtain ⟨k2, h⟩ := hK h
      refine AW.iald kc_166 sk_166 k2 dX12_sorts_27 ?_
      obtain ⟨k3, h⟩ := hK h
      refine AW.iald kc_164 sk_164 k3 dX12_sorts_28 ?_
      refine AW.aloadr_n 0 dX12_sorts_29 rfl ?_
      refine AW.getR af_X12_160_117 sr_117_70 dX12_sorts_30 ?_
      refine AW.iload_n 1 dX12_sorts_33 rfl ?_
      obtain ⟨k4, h⟩ := hK h
      refine AW.iald kc_164 sk_164 k4 dX12_sorts_34 ?_
      refine AW.icmp_le (tgt := 58) dX12_sorts_35 (by decide) (fun c5 => ?_) (fun c5 => ?_)
      · replace h := hT h c5
        exact (ih _ _ _ _ _ h).2.2 rfl
      · replace h := hF h c5
        refine AW.aloadr_n 0 dX12_sorts_38 rfl ?_
        refine AW.getR af_X12_166_117 sr_117_72 dX12_sorts_39 ?_
        refine AW.iload_n 2 dX12_sorts_42 rfl ?_
        refine AW.aloadr_n 0 dX12_sorts_43 rfl ?_
        refine AW.getR af_X12_166_117 sr_117_72 dX12_sorts_44 ?_
        refine AW.iload_n 2 dX12_sorts_47 rfl ?_
        refine AW.iconst dX12_sorts_48 ?_
        refine AW.isub dX12_sorts_49 ?_
        refine AW.iald kc_166 sk_166 k2 dX12_sorts_50 ?_
        obtain ⟨k6, h⟩ := hK h
        obtain ⟨g7, e8, h⟩ := hBe h
        refine AW.iast kc_166 sk_166 k6 dX12_sorts_51 e8 ?_
        refine AW.iinc (lv1 := [(2, iv (x2 + (-1))), (0, rv z 117), (1, iv x1)]) 2 dX12_sorts_52 rfl (by decide) rfl ?_
        refine AW.goto (tgt := 12) dX12_sorts_55 (by decide) ?_
        refine AW.sub (lv1 := [(0, rv z 117), (1, iv x1), (2, iv (x2 + (-1)))]) [1, 2, 0] rfl ?_
        exact (ih _ _ _ _ _ h).2.1 rfl
  · subst h9
    replace h := hF h (by decide)
    replace h := hF h (by decide)
    replace h := hT h rfl
    refine AW.aloadr_n 0 dX12_sorts_58 rfl ?_
    refine AW.getR af_X12_166_117 sr_117_72 dX12_sorts_59 ?_
    refine AW.iload_n 2 dX12_sorts_62 rfl ?_
    refine AW.iload_n 1 dX12_sorts_63 rfl ?_
    obtain ⟨k1, h⟩ := hK h
    obtain ⟨g2, e3, h⟩ := hBe h
    refine AW.iast kc_166 sk_166 k1 dX12_sorts_64 e3 ?_
    refine AW.iinc (lv1 := [(1, iv (x1 + 1)), (0, rv z 117), (2, iv x2)]) 1 dX12_sorts_65 rfl (by decide) rfl ?_
    refine AW.goto (tgt := 2) dX12_sorts_68 (by decide) ?_
    refine AW.sub (lv1 := [(0, rv z 117), (1, iv (x1 + 1))]) [1, 0] rfl ?_
    exact (ih _ _ _ _ _ h).1 rfl
theorem M_sorts_ok {z : AZ} {g : AG} {r : Int × AG} (h : M_sorts g = some r) : AMf z yX12_sorts cX12_sorts 3 none 0 [rv z 117] g r := by
  intro d hdd
  refine AM.of (by decide +kernel) (Nat.le_of_ble_eq_true rfl) ?_
  show AW z (RX12, cX12_sorts, 3, none) d (QD none r) 0 [(0, rv z 117)] [] g
  unfold M_sorts at h
  refine AW.iconst dX12_sorts_0 ?_
  refine AW.istore_n (lv1 := [(1, iv 0), (0, rv z 117)]) dX12_sorts_1 (by decide) rfl ?_
  refine AW.sub (lv1 := [(0, rv z 117), (1, iv 0)]) [1, 0] rfl ?_
  exact (M_sorts_b_ok hdd _ _ _ _ _ h).1 rfl
set_option synthInstance.maxHeartbeats 2000000 in
theorem M_gives_b_ok {z : AZ} {rec : Int → Int → Int → AG → Option (Int × AG)} {Dr : Nat} (hC9 : 0 ≤ Dr) (hrec : ∀ (x1 : Int) (x2 : Int) (x3 : Int) (g : AG) (r : Int × AG), rec x1 x2 x3 g = some r → AMf z yX12_gives cX12_gives 8 none Dr [rv z 117, iv x1, iv x2, iv x3] g r) {d : Nat} (hdd : Dr + 1 ≤ d) {x1 : Int} {x2 : Int} {x3 : Int} : ∀ (tag : Nat) (x4 : Int) (x5 : Int) (g : AG) (r : Int × AG), M_gives_b rec x1 x2 x3 tag x4 x5 g = some r → (tag = 1 → AW z (RX12, cX12_gives, 8, none) d (QD none r) 14 [(0, rv z 117), (2, iv x2), (3, iv x3), (4, iv x4), (5, iv x5)] [] g) ∧ (tag = 2 → AW z (RX12, cX12_gives, 8, none) d (QD none r) 79 [(0, rv z 117), (3, iv x3), (4, iv x4)] [] g) ∧ (tag = 3 → AW z (RX12, cX12_gives, 8, none) d (QD none r) 93 [(0, rv z 117), (5, iv x5)] [] g) ∧ (tag = 4 → AW z (RX12, cX12_gives, 8, none) d (QD none r) 134 [(0, rv z 117), (1, iv x1), (2, iv x2), (3, iv x3), (4, iv x4), (5, iv x5)] [] g) := by
  refine M_gives_b.partial_correctness rec x1 x2 x3 (fun tag x4 x5 g r => (tag = 1 → AW z (RX12, cX12_gives, 8, none) d (QD none r) 14 [(0, rv z 117), (2, iv x2), (3, iv x3), (4, iv x4), (5, iv x5)] [] g) ∧ (tag = 2 → AW z (RX12, cX12_gives, 8, none) d (QD none r) 79 [(0, rv z 117), (3, iv x3), (4, iv x4)] [] g) ∧ (tag = 3 → AW z (RX12, cX12_gives, 8, none) d (QD none r) 93 [(0, rv z 117), (5, iv x5)] [] g) ∧ (tag = 4 → AW z (RX12, cX12_gives, 8, none) d (QD none r) 134 [(0, rv z 117), (1, iv x1), (2, iv x2), (3, iv x3), (4, iv x4), (5, iv x5)] [] g)) ?_
  intro fb9 ih tag x4 x5 g r h
  refine ⟨fun h9 => ?_, fun h9 => ?_, fun h9 => ?_, fun h9 => ?_⟩
  · subst h9
    replace h := hT h rfl
    refine AW.iload 4 dX12_gives_14 rfl ?_
    refine AW.iload_n 1 dX12_gives_16 rfl ?_
    refine AW.icmp_ge (tgt := 53) dX12_gives_17 (by decide) (fun c1 => ?_) (fun c1 => ?_)
    · replace h := hT h c1
      refine AW.iload_n 2 dX12_gives_53 rfl ?_
      refine AW.aloadr_n 0 dX12_gives_54 rfl ?_
      refine AW.getI af_X12_496_117 sr_117_66 dX12_gives_55 ?_
      refine AW.icmp_lt (tgt := 78) dX12_gives_58 (by decide) (fun c2 => ?_) (fun c2 => ?_)
      · replace h := hT h c2
        exact AW.vret1 rfl dX12_gives_78 h rfl
      · replace h := hF h c2
        refine AW.iload_n 2 dX12_gives_61 rfl ?_
        refine AW.aloadr_n 0 dX12_gives_62 rfl ?_
        refine AW.getI af_X12_496_117 sr_117_66 dX12_gives_63 ?_
        refine AW.icmp_ne (tgt := 79) dX12_gives_66 (by decide) (fun c3 => ?_) (fun c3 => ?_)
        · replace h := hF h c3
          refine AW.sub (lv1 := [(0, rv z 117), (3, iv x3), (4, iv x4)]) [0, 2, 3] rfl ?_
          exact (ih _ _ _ _ _ h).2.1 rfl
        · replace h := hT h c3
          refine AW.iload 3 dX12_gives_69 rfl ?_
          refine AW.aloadr_n 0 dX12_gives_71 rfl ?_
          refine AW.getI af_X12_499_117 sr_117_67 dX12_gives_72 ?_
          refine AW.icmp_gt (tgt := 79) dX12_gives_75 (by decide) (fun c4 => ?_) (fun c4 => ?_)
          · replace h := hT h c4
            refine AW.sub (lv1 := [(0, rv z 117), (3, iv x3), (4, iv x4)]) [0, 2, 3] rfl ?_
            exact (ih _ _ _ _ _ h).2.1 rfl
          · replace h := hF h c4
            exact AW.vret1 rfl dX12_gives_78 h rfl
    · replace h := hF h c1
      refine AW.iload 3 dX12_gives_20 rfl ?_
      refine AW.aloadr_n 0 dX12_gives_22 rfl ?_
      refine AW.getR af_X12_175_117 sr_117_75 dX12_gives_23 ?_
      refine AW.iload 4 dX12_gives_26 rfl ?_
      obtain ⟨k5, h⟩ := hK h
      refine AW.iald kc_169 sk_169 k5 dX12_gives_28 ?_
      refine AW.aloadr_n 0 dX12_gives_29 rfl ?_
      refine AW.getR af_X12_184_117 sr_117_78 dX12_gives_30 ?_
      refine AW.iload 4 dX12_gives_33 rfl ?_
      refine AW.iald kc_172 sk_172 k5 dX12_gives_35 ?_
      obtain ⟨t6, e7, h⟩ := hBe h
      refine AW.join (tgt := 44) (lv1 := [(0, rv z 117), (2, iv x2), (3, iv x3), (4, iv x4), (5, iv x5)]) (st1 := [iv t6, iv x4]) (g1 := g) ?_ (fun J36 => ?_)
      · refine AW.iadd dX12_gives_44 ?_
        refine AW.istore (lv1 := [(4, iv (x4 + t6)), (0, rv z 117), (2, iv x2), (3, iv x3), (5, iv x5)]) dX12_gives_45 (by decide) rfl ?_
        refine AW.iinc (lv1 := [(5, iv (x5 + 1)), (4, iv (x4 + t6)), (0, rv z 117), (2, iv x2), (3, iv x3)]) 4 dX12_gives_47 rfl (by decide) rfl ?_
        refine AW.goto (tgt := 14) dX12_gives_50 (by decide) ?_
        refine AW.sub (lv1 := [(0, rv z 117), (2, iv x2), (3, iv x3), (4, iv (x4 + t6)), (5, iv (x5 + 1))]) [2, 3, 4, 1, 0] rfl ?_
        exact (ih _ _ _ _ _ h).1 rfl
      refine AW.icmp_ne (tgt := 43) dX12_gives_36 (by decide) (fun c8 => ?_) (fun c8 => ?_)
      · refine AW.iconst dX12_gives_43 ?_
        exact AW.val (e7.trans (if_neg c8)) J36
      · refine AW.iconst dX12_gives_39 ?_
        refine AW.goto (tgt := 44) dX12_gives_40 (by decide) ?_
        exact AW.val (e7.trans (if_pos c8)) J36
  · subst h9
    replace h := hF h (by decide)
    replace h := hT h rfl
    refine AW.aloadr_n 0 dX12_gives_79 rfl ?_
    refine AW.iload_n 1 dX12_gives_80 rfl ?_
    obtain ⟨g1, e2, h⟩ := hBe h
    refine AW.putI ap_X12_496_117 sr_117_66 dX12_gives_81 e2 ?_
    refine AW.aloadr_n 0 dX12_gives_84 rfl ?_
    refine AW.iload 2 dX12_gives_85 rfl ?_
    obtain ⟨g3, e4, h⟩ := hBe h
    refine AW.putI ap_X12_499_117 sr_117_67 dX12_gives_87 e4 ?_
    refine AW.iconst dX12_gives_90 ?_
    refine AW.istore (lv1 := [(5, iv 0), (0, rv z 117), (3, iv x3), (4, iv x4)]) dX12_gives_91 (by decide) rfl ?_
    refine AW.sub (lv1 := [(0, rv z 117), (5, iv 0)]) [1, 0] rfl ?_
    exact (ih _ _ _ _ _ h).2.2.1 rfl
  · subst h9
    replace h := hF h (by decide)
    replace h := hF h (by decide)
    replace h := hT h rfl
    refine AW.iload 1 dX12_gives_93 rfl ?_
    refine AW.aloadr_n 0 dX12_gives_95 rfl ?_
    refine AW.getI af_X12_493_117 sr_117_65 dX12_gives_96 ?_
    refine AW.icmp_ge (tgt := 122) dX12_gives_99 (by decide) (fun c1 => ?_) (fun c1 => ?_)
    · replace h := hT h c1
      exact AW.vret1 rfl dX12_gives_122 h rfl
    · replace h := hF h c1
      refine AW.aloadr_n 0 dX12_gives_102 rfl ?_
      refine AW.getR af_X12_172_117 sr_117_74 dX12_gives_103 ?_
      refine AW.iload 1 dX12_gives_106 rfl ?_
      refine AW.aloadr_n 0 dX12_gives_108 rfl ?_
      refine AW.getR af_X12_169_117 sr_117_73 dX12_gives_109 ?_
      refine AW.iload 1 dX12_gives_112 rfl ?_
      obtain ⟨k2, h⟩ := hK h
      refine AW.iald kc_167 sk_167 k2 dX12_gives_114 ?_
      obtain ⟨g3, e4, h⟩ := hBe h
      refine AW.iast kc_168 sk_168 k2 dX12_gives_115 e4 ?_
      refine AW.iinc (lv1 := [(5, iv (x5 + 1)), (0, rv z 117)]) 1 dX12_gives_116 rfl (by decide) rfl ?_
      refine AW.goto (tgt := 93) dX12_gives_119 (by decide) ?_
      refine AW.sub (lv1 := [(0, rv z 117), (5, iv (x5 + 1))]) [1, 0] rfl ?_
      exact (ih _ _ _ _ _ h).2.2.1 rfl
  · subst h9
    replace h := hF h (by decide)
    replace h := hF h (by decide)
    replace h := hF h (by decide)
    replace h := hT h rfl
    refine AW.iload 5 dX12_gives_134 rfl ?_
    refine AW.iload_n 2 dX12_gives_136 rfl ?_
    refine AW.icmp_ge (tgt := 284) dX12_gives_137 (by decide) (fun c1 => ?_) (fun c1 => ?_)
    · replace h := hT h c1
      refine AW.aloadr_n 0 dX12_gives_284 rfl ?_
      refine AW.getR af_X12_169_117 sr_117_73 dX12_gives_285 ?_
      refine AW.iload 4 dX12_gives_288 rfl ?_
      refine AW.iconst dX12_gives_290 ?_
      obtain ⟨k2, h⟩ := hK h
      obtain ⟨g3, e4, h⟩ := hBe h
      refine AW.iast kc_167 sk_167 k2 dX12_gives_291 e4 ?_
      refine AW.aloadr_n 0 dX12_gives_292 rfl ?_
      refine AW.iload_n 1 dX12_gives_293 rfl ?_
      refine AW.iconst dX12_gives_294 ?_
      refine AW.iadd dX12_gives_295 ?_
      refine AW.iload_n 2 dX12_gives_296 rfl ?_
      refine AW.iload_n 3 dX12_gives_297 rfl ?_
      obtain ⟨r5, e6, h⟩ := hC h
      refine AW.callVv (As := [iv (x1 + 1), iv x2, iv x3]) (st := []) (hrec _ _ _ _ _ e6) cq_X12_502 cr_117_X12_gives (by omega) rfl dX12_gives_298 rfl (Nat.le_of_ble_eq_true rfl) ?_
      exact AW.vret1 rfl dX12_gives_301 h rfl
    · replace h := hF h c1
      refine AW.aloadr_n 0 dX12_gives_140 rfl ?_
      refine AW.getR af_X12_181_117 sr_117_77 dX12_gives_141 ?_
      refine AW.iload 5 dX12_gives_144 rfl ?_
      obtain ⟨k7, h⟩ := hK h
      refine AW.iald kc_171 sk_171 k7 dX12_gives_146 ?_
      refine AW.aloadr_n 0 dX12_gives_147 rfl ?_
      refine AW.getR af_X12_163_117 sr_117_71 dX12_gives_148 ?_
      refine AW.iload 4 dX12_gives_151 rfl ?_
      obtain ⟨k8, h⟩ := hK h
      refine AW.iald kc_165 sk_165 k8 dX12_gives_153 ?_
      obtain ⟨r24, e25, h⟩ := hC h
      refine AW.join (tgt := 278) (lv1 := [(0, rv z 117), (1, iv x1), (2, iv x2), (3, iv x3), (4, iv x4), (5, iv x5)]) (st1 := []) (g1 := r24) ?_ (fun J154 => ?_)
      · refine AW.iinc (lv1 := [(5, iv (x5 + 1)), (0, rv z 117), (1, iv x1), (2, iv x2), (3, iv x3), (4, iv x4)]) 5 dX12_gives_278 rfl (by decide) rfl ?_
        refine AW.goto (tgt := 134) dX12_gives_281 (by decide) ?_
        refine AW.sub (lv1 := [(0, rv z 117), (1, iv x1), (2, iv x2), (3, iv x3), (4, iv x4), (5, iv (x5 + 1))]) [1, 2, 3, 4, 5, 0] rfl ?_
        exact (ih _ _ _ _ _ h).2.2.2 rfl
      replace h := e25
      refine AW.icmp_lt (tgt := 278) dX12_gives_154 (by decide) (fun c9 => ?_) (fun c9 => ?_)
      · replace h := hT h c9
        cases h
        exact J154
      · replace h := hF h c9
        refine AW.aloadr_n 0 dX12_gives_157 rfl ?_
        refine AW.getR af_X12_175_117 sr_117_75 dX12_gives_158 ?_
        refine AW.iload 5 dX12_gives_161 rfl ?_
        refine AW.iald kc_169 sk_169 k7 dX12_gives_163 ?_
        refine AW.aloadr_n 0 dX12_gives_164 rfl ?_
        refine AW.getR af_X12_154_117 sr_117_68 dX12_gives_165 ?_
        refine AW.iload 4 dX12_gives_168 rfl ?_
        refine AW.iald kc_162 sk_162 k8 dX12_gives_170 ?_
        refine AW.icmp_ne (tgt := 278) dX12_gives_171 (by decide) (fun c10 => ?_) (fun c10 => ?_)
        · replace h := hF h c10
          cases h
          exact J154
        · replace h := hT h c10
          refine AW.aloadr_n 0 dX12_gives_174 rfl ?_
          refine AW.getR af_X12_178_117 sr_117_76 dX12_gives_175 ?_
          refine AW.iload 5 dX12_gives_178 rfl ?_
          refine AW.iald kc_170 sk_170 k7 dX12_gives_180 ?_
          refine AW.aloadr_n 0 dX12_gives_181 rfl ?_
          refine AW.getR af_X12_160_117 sr_117_70 dX12_gives_182 ?_
          refine AW.iload 4 dX12_gives_185 rfl ?_
          refine AW.iald kc_164 sk_164 k8 dX12_gives_187 ?_
          refine AW.icmp_ne (tgt := 194) dX12_gives_188 (by decide) (fun c11 => ?_) (fun c11 => ?_)
          · replace h := hF h c11
            refine AW.aloadr_n 0 dX12_gives_194 rfl ?_
            refine AW.getR af_X12_175_117 sr_117_75 dX12_gives_195 ?_
            refine AW.iload 5 dX12_gives_198 rfl ?_
            refine AW.iald kc_169 sk_169 k7 dX12_gives_200 ?_
            refine AW.istore (lv1 := [(6, iv (g 169 (ix x5))), (0, rv z 117), (1, iv x1), (2, iv x2), (3, iv x3), (4, iv x4), (5, iv x5)]) dX12_gives_201 (by decide) rfl ?_
            refine AW.aloadr_n 1 dX12_gives_203 rfl ?_
            refine AW.getR af_X12_178_117 sr_117_76 dX12_gives_204 ?_
            refine AW.iload 6 dX12_gives_207 rfl ?_
            refine AW.iald kc_170 sk_170 k7 dX12_gives_209 ?_
            refine AW.istore (lv1 := [(7, iv (g 170 (ix x5))), (6, iv (g 169 (ix x5))), (0, rv z 117), (1, iv x1), (2, iv x2), (3, iv x3), (4, iv x4), (5, iv x5)]) dX12_gives_210 (by decide) rfl ?_
            refine AW.aloadr_n 2 dX12_gives_212 rfl ?_
            refine AW.getR af_X12_175_117 sr_117_75 dX12_gives_213 ?_
            refine AW.iload 7 dX12_gives_216 rfl ?_
            refine AW.aloadr_n 2 dX12_gives_218 rfl ?_
            refine AW.getR af_X12_157_117 sr_117_69 dX12_gives_219 ?_
            refine AW.iload 6 dX12_gives_222 rfl ?_
            refine AW.iald kc_163 sk_163 k8 dX12_gives_224 ?_
            obtain ⟨g12, e13, h⟩ := hBe h
            refine AW.iast kc_169 sk_169 k7 dX12_gives_225 e13 ?_
            refine AW.aloadr_n 2 dX12_gives_226 rfl ?_
            refine AW.getR af_X12_178_117 sr_117_76 dX12_gives_227 ?_
            refine AW.iload 7 dX12_gives_230 rfl ?_
            refine AW.aloadr_n 2 dX12_gives_232 rfl ?_
            refine AW.getR af_X12_160_117 sr_117_70 dX12_gives_233 ?_
            refine AW.iload 6 dX12_gives_236 rfl ?_
            refine AW.iald kc_164 sk_164 k8 dX12_gives_238 ?_
            obtain ⟨g14, e15, h⟩ := hBe h
            refine AW.iast kc_170 sk_170 k7 dX12_gives_239 e15 ?_
            refine AW.aloadr_n 2 dX12_gives_240 rfl ?_
            refine AW.getR af_X12_169_117 sr_117_73 dX12_gives_241 ?_
            refine AW.iload 6 dX12_gives_244 rfl ?_
            refine AW.iload 7 dX12_gives_246 rfl ?_
            obtain ⟨g16, e17, h⟩ := hBe h
            refine AW.iast kc_167 sk_167 k8 dX12_gives_248 e17 ?_
            refine AW.aloadr_n 2 dX12_gives_249 rfl ?_
            refine AW.iload_n 3 dX12_gives_250 rfl ?_
            refine AW.iconst dX12_gives_251 ?_
            refine AW.iadd dX12_gives_252 ?_
            refine AW.iload_n 4 dX12_gives_253 rfl ?_
            refine AW.iload_n 5 dX12_gives_254 rfl ?_
            refine AW.iconst dX12_gives_255 ?_
            refine AW.iadd dX12_gives_256 ?_
            obtain ⟨r18, e19, h⟩ := hC h
            refine AW.callVv (As := [iv (x1 + 1), iv x2, iv (x3 + 1)]) (st := []) (hrec _ _ _ _ _ e19) cq_X12_502 cr_117_X12_gives (by omega) rfl dX12_gives_257 rfl (Nat.le_of_ble_eq_true rfl) ?_
            refine AW.aloadr_n 2 dX12_gives_260 rfl ?_
            refine AW.getR af_X12_175_117 sr_117_75 dX12_gives_261 ?_
            refine AW.iload 7 dX12_gives_264 rfl ?_
            refine AW.iload 1 dX12_gives_266 rfl ?_
            obtain ⟨g20, e21, h⟩ := hBe h
            refine AW.iast kc_169 sk_169 k7 dX12_gives_268 e21 ?_
            refine AW.aloadr_n 2 dX12_gives_269 rfl ?_
            refine AW.getR af_X12_178_117 sr_117_76 dX12_gives_270 ?_
            refine AW.iload 7 dX12_gives_273 rfl ?_
            refine AW.iload 0 dX12_gives_275 rfl ?_
            obtain ⟨g22, e23, h⟩ := hBe h
            refine AW.iast kc_170 sk_170 k7 dX12_gives_277 e23 ?_
            refine AW.sub (lv1 := [(0, rv z 117), (1, iv x1), (2, iv x2), (3, iv x3), (4, iv x4), (5, iv x5)]) [2, 3, 4, 5, 6, 7] rfl ?_
            cases h
            exact J154
          · replace h := hT h c11
            refine AW.goto (tgt := 278) dX12_gives_191 (by decide) ?_
            cases h
            exact J154
theorem M_gives_s_ok {z : AZ} {rec : Int → Int → Int → AG → Option (Int × AG)} {Dr : Nat} (hC9 : 0 ≤ Dr) (hrec : ∀ (x1 : Int) (x2 : Int) (x3 : Int) (g : AG) (r : Int × AG), rec x1 x2 x3 g = some r → AMf z yX12_gives cX12_gives 8 none Dr [rv z 117, iv x1, iv x2, iv x3] g r) {x1 : Int} {x2 : Int} {x3 : Int} {g : AG} {r : Int × AG} (h : M_gives_s rec x1 x2 x3 g = some r) : AMf z yX12_gives cX12_gives 8 none (Dr + 1) [rv z 117, iv x1, iv x2, iv x3] g r := by
  intro d hdd
  refine AM.of (by decide +kernel) (Nat.le_of_ble_eq_true rfl) ?_
  show AW z (RX12, cX12_gives, 8, none) d (QD none r) 0 [(0, rv z 117), (1, iv x1), (2, iv x2), (3, iv x3)] [] g
  unfold M_gives_s at h
  refine AW.iload_n 1 dX12_gives_0 rfl ?_
  refine AW.aloadr_n 0 dX12_gives_1 rfl ?_
  refine AW.getI af_X12_493_117 sr_117_65 dX12_gives_2 ?_
  refine AW.icmp_ne (tgt := 123) dX12_gives_5 (by decide) (fun c1 => ?_) (fun c1 => ?_)
  · replace h := hF h c1
    refine AW.aloadr_n 0 dX12_gives_123 rfl ?_
    refine AW.getR af_X12_166_117 sr_117_72 dX12_gives_124 ?_
    refine AW.iload_n 1 dX12_gives_127 rfl ?_
    obtain ⟨k2, h⟩ := hK h
    refine AW.iald kc_166 sk_166 k2 dX12_gives_128 ?_
    refine AW.istore (lv1 := [(4, iv (g 166 (ix x1))), (0, rv z 117), (1, iv x1), (2, iv x2), (3, iv x3)]) dX12_gives_129 (by decide) rfl ?_
    refine AW.iconst dX12_gives_131 ?_
    refine AW.istore (lv1 := [(5, iv 0), (4, iv (g 166 (ix x1))), (0, rv z 117), (1, iv x1), (2, iv x2), (3, iv x3)]) dX12_gives_132 (by decide) rfl ?_
    refine AW.sub (lv1 := [(0, rv z 117), (1, iv x1), (2, iv x2), (3, iv x3), (4, iv (g 166 (ix x1))), (5, iv 0)]) [2, 3, 4, 5, 1, 0] rfl ?_
    exact (M_gives_b_ok hC9 hrec hdd _ _ _ _ _ h).2.2.2 rfl
  · replace h := hT h c1
    refine AW.iconst dX12_gives_8 ?_
    refine AW.istore (lv1 := [(4, iv 0), (0, rv z 117), (1, iv x1), (2, iv x2), (3, iv x3)]) dX12_gives_9 (by decide) rfl ?_
    refine AW.iconst dX12_gives_11 ?_
    refine AW.istore (lv1 := [(5, iv 0), (4, iv 0), (0, rv z 117), (1, iv x1), (2, iv x2), (3, iv x3)]) dX12_gives_12 (by decide) rfl ?_
    refine AW.sub (lv1 := [(0, rv z 117), (2, iv x2), (3, iv x3), (4, iv 0), (5, iv 0)]) [2, 4, 5, 1, 0] rfl ?_
    exact (M_gives_b_ok hC9 hrec hdd _ _ _ _ _ h).1 rfl
theorem M_gives_ok {z : AZ} {n : Nat} {x1 : Int} {x2 : Int} {x3 : Int} {g : AG} {r : Int × AG} (h : M_gives n x1 x2 x3 g = some r) : AMf z yX12_gives cX12_gives 8 none (0 + n * 1) [rv z 117, iv x1, iv x2, iv x3] g r := by
  induction n generalizing x1 x2 x3 g r with
  | zero => cases h
  | succ n ih =>
    have q := M_gives_s_ok (z := z) (Dr := 0 + n * 1) (Nat.le_add_right _ _) (fun x1 x2 x3 g r h9 => ih h9) h
    rw [show 0 + (n + 1) * 1 = 0 + n * 1 + 1 by rw [Nat.add_mul]; omega]
    exact q
set_option synthInstance.maxHeartbeats 2000000 in
theorem M_givesBest_b_ok {z : AZ} {d : Nat} (hdd : 11 ≤ d) {x1 : Int} : ∀ (x2 : Int) (g : AG) (r : Int × AG), M_givesBest_b x1 x2 g = some r → AW z (RX12, cX12_givesBest, 3, none) d (QD none r) 6 [(0, rv z 117), (1, iv x1), (2, iv x2)] [] g := by
  refine M_givesBest_b.partial_correctness x1 (fun x2 g r => AW z (RX12, cX12_givesBest, 3, none) d (QD none r) 6 [(0, rv z 117), (1, iv x1), (2, iv x2)] [] g) ?_
  intro fb9 ih x2 g r h
  refine AW.iload_n 2 dX12_givesBest_6 rfl ?_
  refine AW.iload_n 1 dX12_givesBest_7 rfl ?_
  refine AW.icmp_ge (tgt := 36) dX12_givesBest_8 (by decide) (fun c1 => ?_) (fun c1 => ?_)
  · replace h := hT h c1
    refine AW.aloadr_n 0 dX12_givesBest_36 rfl ?_
    refine AW.iconst dX12_givesBest_37 ?_
    obtain ⟨g2, e3, h⟩ := hBe h
    refine AW.putI ap_X12_496_117 sr_117_66 dX12_givesBest_38 e3 ?_
    refine AW.aloadr_n 0 dX12_givesBest_41 rfl ?_
    refine AW.iconst dX12_givesBest_42 ?_
    obtain ⟨g4, e5, h⟩ := hBe h
    refine AW.putI ap_X12_499_117 sr_117_67 dX12_givesBest_43 e5 ?_
    refine AW.aloadr_n 0 dX12_givesBest_46 rfl ?_
    refine AW.iconst dX12_givesBest_47 ?_
    refine AW.iload_n 1 dX12_givesBest_48 rfl ?_
    refine AW.iconst dX12_givesBest_49 ?_
    obtain ⟨r6, e7, h⟩ := hC h
    refine AW.callVv (As := [iv 0, iv x1, iv 0]) (st := []) ((M_gives_ok (n := 10)) e7) cq_X12_502 cr_117_X12_gives (Nat.le_trans (by decide) hdd) rfl dX12_givesBest_50 rfl (Nat.le_of_ble_eq_true rfl) ?_
    exact AW.vret1 rfl dX12_givesBest_53 h rfl
  · replace h := hF h c1
    refine AW.aloadr_n 0 dX12_givesBest_11 rfl ?_
    refine AW.getR af_X12_175_117 sr_117_75 dX12_givesBest_12 ?_
    refine AW.iload_n 2 dX12_givesBest_15 rfl ?_
    refine AW.aloadr_n 0 dX12_givesBest_16 rfl ?_
    refine AW.getR af_X12_184_117 sr_117_78 dX12_givesBest_17 ?_
    refine AW.iload_n 2 dX12_givesBest_20 rfl ?_
    obtain ⟨k8, h⟩ := hK h
    refine AW.iald kc_172 sk_172 k8 dX12_givesBest_21 ?_
    obtain ⟨g9, e10, h⟩ := hBe h
    refine AW.iast kc_169 sk_169 k8 dX12_givesBest_22 e10 ?_
    refine AW.aloadr_n 0 dX12_givesBest_23 rfl ?_
    refine AW.getR af_X12_178_117 sr_117_76 dX12_givesBest_24 ?_
    refine AW.iload_n 2 dX12_givesBest_27 rfl ?_
    refine AW.iconst dX12_givesBest_28 ?_
    obtain ⟨g11, e12, h⟩ := hBe h
    refine AW.iast kc_170 sk_170 k8 dX12_givesBest_29 e12 ?_
    refine AW.iinc (lv1 := [(2, iv (x2 + 1)), (0, rv z 117), (1, iv x1)]) 2 dX12_givesBest_30 rfl (by decide) rfl ?_
    refine AW.goto (tgt := 6) dX12_givesBest_33 (by decide) ?_
    refine AW.sub (lv1 := [(0, rv z 117), (1, iv x1), (2, iv (x2 + 1))]) [1, 2, 0] rfl ?_
    exact ih _ _ _ h
theorem M_givesBest_ok {z : AZ} {x1 : Int} {g : AG} {r : Int × AG} (h : M_givesBest x1 g = some r) : AMf z yX12_givesBest cX12_givesBest 3 none 11 [rv z 117, iv x1] g r := by
  intro d hdd
  refine AM.of (by decide +kernel) (Nat.le_of_ble_eq_true rfl) ?_
  show AW z (RX12, cX12_givesBest, 3, none) d (QD none r) 0 [(0, rv z 117), (1, iv x1)] [] g
  unfold M_givesBest at h
  refine AW.aloadr_n 0 dX12_givesBest_0 rfl ?_
  obtain ⟨r1, e2, h⟩ := hC h
  refine AW.callVv (As := []) (st := []) (M_sorts_ok e2) cq_X12_512 cr_117_X12_sorts (Nat.le_trans (by decide) hdd) rfl dX12_givesBest_1 rfl (Nat.le_of_ble_eq_true rfl) ?_
  refine AW.iconst dX12_givesBest_4 ?_
  refine AW.istore_n (lv1 := [(2, iv 0), (0, rv z 117), (1, iv x1)]) dX12_givesBest_5 (by decide) rfl ?_
  refine AW.sub (lv1 := [(0, rv z 117), (1, iv x1), (2, iv 0)]) [1, 2, 0] rfl ?_
  exact M_givesBest_b_ok hdd _ _ _ h
