theorem sq_coder_335 : CQ RJ0 335 yJ0_coder_7d493 cJ0_coder_7d493 1 (some .byte) 0 := ⟨wm_788, wm_125, wm_791, by decide +kernel, by decide⟩
theorem sq_latin_492 : CQ RJ0 492 yJ0_isLatin1_aae02 cJ0_isLatin1_aae02 1 (some .boolean) 0 := ⟨wm_798, wm_125, wm_801, by decide +kernel, by decide⟩
theorem sq_pcheck_1059 : CQ RJ0 1059 yJ3_checkIndex_8e157 cJ3_checkIndex_8e157 3 (some .int) 3 := ⟨wm_810, wm_127, wm_812, by decide +kernel, by decide⟩
theorem sq_scheck_9 : CQ RJ1 9 yJ0_checkIndex_df160 cJ0_checkIndex_df160 2 none 2 := ⟨wm_805, wm_125, wm_807, by decide +kernel, by decide⟩
theorem sq_lch_495 : CQ RJ0 495 yJ1_charAt_3b067 cJ1_charAt_3b067 2 (some .char) 2 := ⟨wm_802, wm_126, wm_804, by decide +kernel, by decide⟩
theorem sq_canE_88 : CQ RJ1 88 yJ1_canEncode_9a6ad cJ1_canEncode_9a6ad 1 (some .boolean) 1 := ⟨wm_864, wm_126, wm_866, by decide +kernel, by decide⟩
theorem sq_ixC_95 : CQ RJ1 95 yJ1_indexOfChar_4cfef cJ1_indexOfChar_4cfef 6 (some .int) 4 := ⟨wm_873, wm_126, wm_875, by decide +kernel, by decide⟩
theorem sq_len_505 : CQ RJ0 505 yJ0_length_8abf5 cJ0_length_8abf5 1 (some .int) 0 := ⟨wm_860, wm_125, wm_787, by decide +kernel, by decide⟩
theorem sq_lIx_637 : CQ RJ0 637 yJ1_indexOf_4cfef cJ1_indexOf_4cfef 4 (some .int) 4 := ⟨wm_861, wm_126, wm_863, by decide +kernel, by decide⟩
theorem sq_ix2_633 : CQ RJ0 633 yJ0_indexOf_7cf53 cJ0_indexOf_7cf53 3 (some .int) 2 := ⟨wm_856, wm_125, wm_859, by decide +kernel, by decide⟩
/-! the JDK's own methods on the texts -/
theorem AW.ldcSw {z : AZ} {μ : AMu} {d pc : Nat} {Q : Option Value → AG → Prop} {lv : List (Nat × Value)} {st : List Value} {g : AG} {i n : Nat} {tx : String} (hd : decode μ.2.1 pc = .ok (.ldc_w i, 3)) (hw : (μ.1, i, tx, n) ∈ strL) (k : AW z μ d Q (pc + 3) lv (sv z n :: st) g) : AW z μ d Q pc lv (st) g := by
  intro p l e s m args below meth c H locs ls C hP hS hl
  intro T hT X
  obtain ⟨t, a1, b1⟩ := k p l e s m args below meth c H locs ls C hP hS hl T hT X
  refine ⟨t, ?_, b1⟩
  have hown := C.2.2.2.2.1
  obtain ⟨hconst, hev⟩ := C.2.2.2.2.2.2.2.2.2.2.1 _ hw
  obtain ⟨k0, cf, i0, a', hk, hcf, hcp, -, hr, hev'⟩ := Cond.stringRef_spec hown hconst
  cases hev.symm.trans hev'
  obtain ⟨k', hk', he⟩ := X.warmed.alike.2.2 _ _ hk
  have hr' : k'.resolved[i]? = some (some (.string (z.2.2.2.1 n))) := by
    rcases X.warmed.entry hk hk' i with h | ⟨h, -⟩
    · rw [h]; exact hr
    · rw [hr] at h; cases h
  have hdg : decode c.code (F0 m pc ls st).pc = .ok (.ldc_w i, 3) := by
    show decode c.code pc = _
    rw [C.2.1]
    exact hd
  jvm_step X.here [C.1, hdg, Jvm.Op.ldc_w.wp_string (e := e) (s := T) (f := F0 m pc ls st) X.here.top hk' (by rw [he]; exact hcf) hcp hr']
  exact a1
def bvr (z : AZ) (i : Nat) : Value := .ref (z.2.2.2.2 i)
section STRS
variable {z : AZ} {μ : AMu} {d pc : Nat} {Q : Option Value → AG → Prop} {lv : List (Nat × Value)} {st : List Value} {g : AG}
theorem AW.sval {idx i : Nat} (hi : i < 22) (hw : Cond.fieldLink μ.1 idx "java/lang/String" "value" "[B" ∈ lw_gd) (hd : decode μ.2.1 pc = .ok (.getfield idx, 3)) (kk : AW z μ d Q (pc + 3) lv (bvr z i :: st) g) : AW z μ d Q pc lv (sv z i :: st) g := by
  intro p l e s m args below meth c H locs ls C hP hS hl
  exact vk_getf C.1 C.2.1 (C.2.2.2.2.2.2.2.2.2.1.1 i hi).2.2.1 hS C.2.2.2.2.1 (C.2.2.2.2.2.1 _ hw) (fun _ h => h) hd (kk p l e s m args below meth c H locs ls C hP hS hl)
theorem AW.scod {idx i : Nat} (hi : i < 22) (hw : Cond.fieldLink μ.1 idx "java/lang/String" "coder" "B" ∈ lw_gd) (hd : decode μ.2.1 pc = .ok (.getfield idx, 3)) (kk : AW z μ d Q (pc + 3) lv (iv 0 :: st) g) : AW z μ d Q pc lv (sv z i :: st) g := by
  intro p l e s m args below meth c H locs ls C hP hS hl
  exact vk_getf C.1 C.2.1 (C.2.2.2.2.2.2.2.2.2.1.1 i hi).2.1 hS C.2.2.2.2.1 (C.2.2.2.2.2.1 _ hw) (fun _ h => h) hd (kk p l e s m args below meth c H locs ls C hP hS hl)
theorem AW.scomp {idx : Nat} (hw : Cond.fieldLink μ.1 idx "java/lang/String" "COMPACT_STRINGS" "Z" ∈ lw_gd) (hd : decode μ.2.1 pc = .ok (.getstatic idx, 3)) (kk : AW z μ d Q (pc + 3) lv (iv 1 :: st) g) : AW z μ d Q pc lv st g := by
  intro p l e s m args below meth c H locs ls C hP hS hl
  exact va_gets C.1 C.2.1 C.2.2.2.2.2.2.2.2.2.2.2.2.1 hS C.2.2.2.2.1 (C.2.2.2.2.2.1 _ hw) (fun _ h => h) hd (kk p l e s m args below meth c H locs ls C hP hS hl)
theorem AW.sfmt {idx : Nat} (hw : Cond.fieldLink μ.1 idx "jdk/internal/util/Preconditions" "SIOOBE_FORMATTER" "Ljava/util/function/BiFunction;" ∈ lw_gd) (hd : decode μ.2.1 pc = .ok (.getstatic idx, 3)) (kk : ∀ v : Value, v.category = 1 → AW z μ d Q (pc + 3) lv (v :: st) g) : AW z μ d Q pc lv st g := by
  intro p l e s m args below meth c H locs ls C hP hS hl
  rcases C.2.2.2.2.2.2.2.2.2.2.2.2.2 with h | ⟨t, h⟩
  · exact va_gets C.1 C.2.1 h hS C.2.2.2.2.1 (C.2.2.2.2.2.1 _ hw) (fun _ h => h) hd (kk _ rfl p l e s m args below meth c H locs ls C hP hS hl)
  · exact va_gets C.1 C.2.1 h hS C.2.2.2.2.1 (C.2.2.2.2.2.1 _ hw) (fun _ h => h) hd (kk _ rfl p l e s m args below meth c H locs ls C hP hS hl)
theorem AW.blen {i : Nat} (hi : i < 22) (hd : decode μ.2.1 pc = .ok (.arraylength, 1)) (kk : AW z μ d Q (pc + 1) lv (iv (strLen i) :: st) g) : AW z μ d Q pc lv (bvr z i :: st) g := by
  intro p l e s m args below meth c H locs ls C hP hS hl
  exact va_tlen C.1 C.2.1 (C.2.2.2.2.2.2.2.2.2.1.1 i hi).2.2.2 hS (v := Int32.ofInt (strLen i)) Int32.ofInt_eq_ofNat.symm hd (kk p l e s m args below meth c H locs ls C hP hS hl)
theorem AW.bld {i : Nat} {k : Int} (hi : i < 22) (hk : 0 ≤ nw k ∧ nw k < strLen i) (hd : decode μ.2.1 pc = .ok (.baload, 1)) (kk : AW z μ d Q (pc + 1) lv (iv (strCh i (ix k)) :: st) g) : AW z μ d Q pc lv (iv k :: bvr z i :: st) g := by
  intro p l e s m args below meth c H locs ls C hP hS hl
  refine va_tb C.1 C.2.1 (C.2.2.2.2.2.2.2.2.2.1.1 i hi).2.2.2 hS (i32_in k _ hk) (v := iv (strCh i (ix k))) ?_ hd (kk p l e s m args below meth c H locs ls C hP hS hl)
  rw [i32_clamp]
  unfold iv strCh
  rw [Int32.ofInt_toInt]
theorem AW.nret {ty : FieldType} {x : Int} (hr : μ.2.2.2 = some ty) (hn : narrow ty (iv x) = iv x) (hd : decode μ.2.1 pc = .ok (.ireturn, 1)) (hQ : Q (some (iv x)) g) : AW z μ d Q pc lv [iv x] g := by
  intro p l e s m args below meth c H locs ls C hP hS hl
  exact W.zret C.1 C.2.1 (C.2.2.1.trans hr) hn (fun t ht _ => aqc_of hQ hP hS ht) hS.2.2 hd C.2.2.2.2.2.2.1
theorem AW.aloadb_n {i : Fin 4} {k : Nat} (q : Nat) (hd : decode μ.2.1 pc = .ok (.aload_n i, 1)) (hq : lv[q]? = some ((i : Nat), bvr z k)) (kk : AW z μ d Q (pc + 1) lv (bvr z k :: st) g) : AW z μ d Q pc lv st g := AW.aload_n q hd hq kk
theorem AW.callK {idx i n nL D : Nat} {y : MethodName} {b : ByteArray} {ty : FieldType} {As st0 : List Value} {v : Int} {g1 : AG} (hi : i < 22) (hM : AMf z y b nL (some ty) D (sv z i :: As) g (v, g1)) (hF : CQ μ.1 idx y b nL (some ty) n) (hy : y.cls = "java/lang/String") (h3 : Cond.instanceMethod y ∈ lw_gd) (h4 : Cond.selects "java/lang/String" y y ∈ lw_gd) (hD : D + 1 ≤ d) (hn : As.length = n) (hd : decode μ.2.1 pc = .ok (.invokevirtual idx, 3)) (hst : st0 = As.reverse ++ sv z i :: st) (hc : (st.map fun v => v.category).sum ≤ 8)
    (kk : AW z μ d Q (pc + 3) lv (iv v :: st) g1) : AW z μ d Q pc lv st0 g := by
  intro p l e s m args below meth c H locs ls C hP hS hl
  have hts := C.2.2.2.2.2.1
  have hrun := va_runV (p := p) (e := e) (meth := meth) (below := below) (locs := locs) (C := "java/lang/String") (As := As) (rest := st) (g := F0 m pc ls st0) ⟨C.1, C.2.1, C.2.2.2.1, C.2.2.2.2.1, hts⟩ (hM (d - 1) (by omega) l) ⟨hF.b hts hD, hts _ h3, hts _ h4⟩ ⟨blindK, vk_recv C.2.2.2.2.2.2.2.2.2.1 hi hS, fun U hU hW => ⟨rfl, C.2.2.2.2.2.2.2.at hS hU hW, by rw [hU]; exact hP⟩⟩ rfl hn hl.1 hst (by show 2 * 0 + _ ≤ 8; omega) hd ⟨Nat.zero_le _, Nat.zero_le _⟩
  refine AW.ofRun hrun C hS hl (fun v g1 h => ?_)
  obtain ⟨rfl, rfl⟩ := h
  exact kk
end STRS
theorem strLen_sh : ∀ i, i < 22 → shrI (strLen i) 0 = strLen i ∧ 0 ≤ strLen i ∧ strLen i < 1000 := by decide +kernel
theorem strCh_ok : ∀ i, i < 22 → ∀ k, k < lenJ.getD i 0 → (chrI (andI (strCh i k) 255) = strCh i k ∧ 0 ≤ strCh i k ∧ strCh i k < 128) := by decide +kernel
theorem chr_nar {x : Int} (h0 : 0 ≤ x) (h1 : x < 128) : narrow .char (iv x) = iv x := by
  obtain ⟨n, rfl⟩ := Int.eq_ofNat_of_zero_le h0
  have hn : n < 128 := by omega
  have h : ∀ n : Nat, n < 128 → (Int32.ofInt n).toUInt32.toUInt16.toUInt32.toInt32 = Int32.ofInt n := by decide +kernel
  show Value.int _ = Value.int _
  rw [h n hn]
theorem sLatin_ok {z : AZ} {i : Nat} {g : AG} (hi : i < 22) : AMf z yJ0_isLatin1_aae02 cJ0_isLatin1_aae02 1 (some .boolean) 0 [sv z i] g (1, g) := by
  intro d hdd
  refine AM.of (by decide +kernel) (Nat.le_of_ble_eq_true rfl) ?_
  show AW z (RJ0, cJ0_isLatin1_aae02, 1, some .boolean) d (QD (some .boolean) (1, g)) 0 [(0, sv z i)] [] g
  refine AW.scomp wm_792 dJ0_isLatin1_aae02_0 ?_
  refine AW.if_eq (tgt := 17) dJ0_isLatin1_aae02_3 (by decide) (fun c => absurd c (by decide)) (fun _ => ?_)
  refine AW.aloads_n 0 dJ0_isLatin1_aae02_6 rfl ?_
  refine AW.scod hi wm_2248 dJ0_isLatin1_aae02_7 ?_
  refine AW.if_ne (tgt := 17) dJ0_isLatin1_aae02_10 (by decide) (fun c => absurd (by decide) c) (fun _ => ?_)
  refine AW.iconst dJ0_isLatin1_aae02_13 ?_
  refine AW.goto (tgt := 18) dJ0_isLatin1_aae02_14 (by decide) ?_
  exact AW.zret rfl (Or.inr rfl) dJ0_isLatin1_aae02_18 ⟨rfl, rfl⟩
theorem sCoder_ok {z : AZ} {i : Nat} {g : AG} (hi : i < 22) : AMf z yJ0_coder_7d493 cJ0_coder_7d493 1 (some .byte) 0 [sv z i] g (0, g) := by
  intro d hdd
  refine AM.of (by decide +kernel) (Nat.le_of_ble_eq_true rfl) ?_
  show AW z (RJ0, cJ0_coder_7d493, 1, some .byte) d (QD (some .byte) (0, g)) 0 [(0, sv z i)] [] g
  refine AW.scomp wm_792 dJ0_coder_7d493_0 ?_
  refine AW.if_eq (tgt := 13) dJ0_coder_7d493_3 (by decide) (fun c => absurd c (by decide)) (fun _ => ?_)
  refine AW.aloads_n 0 dJ0_coder_7d493_6 rfl ?_
  refine AW.scod hi wm_2248 dJ0_coder_7d493_7 ?_
  refine AW.goto (tgt := 14) dJ0_coder_7d493_10 (by decide) ?_
  exact AW.nret rfl rfl dJ0_coder_7d493_14 ⟨rfl, rfl⟩
theorem sLen_ok {z : AZ} {i : Nat} {g : AG} (hi : i < 22) : AMf z yJ0_length_8abf5 cJ0_length_8abf5 1 (some .int) 1 [sv z i] g (strLen i, g) := by
  intro d hdd
  refine AM.of (by decide +kernel) (Nat.le_of_ble_eq_true rfl) ?_
  show AW z (RJ0, cJ0_length_8abf5, 1, some .int) d (QD (some .int) (strLen i, g)) 0 [(0, sv z i)] [] g
  refine AW.aloads_n 0 dJ0_length_8abf5_0 rfl ?_
  refine AW.sval hi wm_2247 dJ0_length_8abf5_1 ?_
  refine AW.blen hi dJ0_length_8abf5_4 ?_
  refine AW.aloads_n 0 dJ0_length_8abf5_5 rfl ?_
  refine AW.callK (As := []) (st := [iv (strLen i)]) hi (sCoder_ok hi) sq_coder_335 rfl wm_789 wm_790 hdd rfl dJ0_length_8abf5_6 rfl (Nat.le_of_ble_eq_true rfl) ?_
  refine AW.ishr dJ0_length_8abf5_9 ?_
  rw [(strLen_sh i hi).1]
  exact AW.iret rfl dJ0_length_8abf5_10 ⟨rfl, rfl⟩
theorem pCheck_ok {z : AZ} {a b : Int} {v : Value} {g : AG} (hv : v.category = 1) (h0 : 0 ≤ nw a) (h1 : nw a < nw b) : AMf z yJ3_checkIndex_8e157 cJ3_checkIndex_8e157 3 (some .int) 0 [iv a, iv b, v] g (a, g) := by
  intro d hdd
  refine AM.of (by decide +kernel) (by cases v <;> first | exact Nat.le_of_ble_eq_true rfl | simp [Value.category] at hv) ?_
  have e : lv_args 0 [iv a, iv b, v] = [(0, iv a), (1, iv b), (2, v)] := by simp [lv_args, iv, Value.category]
  rw [e]
  show AW z (RJ3, cJ3_checkIndex_8e157, 3, some .int) d (QD (some .int) (a, g)) 0 [(0, iv a), (1, iv b), (2, v)] [] g
  refine AW.iload_n 0 dJ3_checkIndex_8e157_0 rfl ?_
  refine AW.if_lt (tgt := 9) dJ3_checkIndex_8e157_1 (by decide) (fun c => absurd c (by omega)) (fun _ => ?_)
  refine AW.iload_n 0 dJ3_checkIndex_8e157_4 rfl ?_
  refine AW.iload_n 1 dJ3_checkIndex_8e157_5 rfl ?_
  refine AW.icmp_lt (tgt := 16) dJ3_checkIndex_8e157_6 (by decide) (fun _ => ?_) (fun c => absurd h1 c)
  refine AW.iload_n 0 dJ3_checkIndex_8e157_16 rfl ?_
  exact AW.iret rfl dJ3_checkIndex_8e157_17 ⟨rfl, rfl⟩
theorem sCheck_ok {z : AZ} {a b : Int} {g : AG} (h0 : 0 ≤ nw a) (h1 : nw a < nw b) : AMf z yJ0_checkIndex_df160 cJ0_checkIndex_df160 2 none 1 [iv a, iv b] g (0, g) := by
  intro d hdd
  refine AM.of (by decide +kernel) (Nat.le_of_ble_eq_true rfl) ?_
  show AW z (RJ0, cJ0_checkIndex_df160, 2, none) d (QD none (0, g)) 0 [(0, iv a), (1, iv b)] [] g
  refine AW.iload_n 0 dJ0_checkIndex_df160_0 rfl ?_
  refine AW.iload_n 1 dJ0_checkIndex_df160_1 rfl ?_
  refine AW.sfmt wm_808 dJ0_checkIndex_df160_2 (fun v hv => ?_)
  refine AW.callSi (As := [iv a, iv b, v]) (st := []) (pCheck_ok hv h0 h1) sq_pcheck_1059 wm_811 hdd rfl dJ0_checkIndex_df160_5 rfl (Nat.le_of_ble_eq_true rfl) ?_
  refine AW.pop dJ0_checkIndex_df160_8 ?_
  exact AW.vret rfl dJ0_checkIndex_df160_9 ⟨rfl, rfl⟩
theorem lCh_ok {z : AZ} {i : Nat} {k : Int} {g : AG} (hi : i < 22) (hk : 0 ≤ nw k ∧ nw k < strLen i) : AMf z yJ1_charAt_3b067 cJ1_charAt_3b067 2 (some .char) 2 [bvr z i, iv k] g (strCh i (ix k), g) := by
  intro d hdd
  refine AM.of (by decide +kernel) (Nat.le_of_ble_eq_true rfl) ?_
  show AW z (RJ1, cJ1_charAt_3b067, 2, some .char) d (QD (some .char) (strCh i (ix k), g)) 0 [(0, bvr z i), (1, iv k)] [] g
  have hl := strLen_sh i hi
  have hn : nw (strLen i) = strLen i := nw_id (by omega) (by omega)
  have hx : ix k < lenJ.getD i 0 := by
    have h2 := hk.2
    unfold strLen at h2
    unfold ix
    omega
  have hc := strCh_ok i hi (ix k) hx
  refine AW.iload_n 1 dJ1_charAt_3b067_0 rfl ?_
  refine AW.aloadb_n 0 dJ1_charAt_3b067_1 rfl ?_
  refine AW.blen hi dJ1_charAt_3b067_2 ?_
  refine AW.callSv (As := [iv k, iv (strLen i)]) (st := []) (sCheck_ok hk.1 (by rw [hn]; exact hk.2)) sq_scheck_9 wm_806 hdd rfl dJ1_charAt_3b067_3 rfl (Nat.le_of_ble_eq_true rfl) ?_
  refine AW.aloadb_n 0 dJ1_charAt_3b067_6 rfl ?_
  refine AW.iload_n 1 dJ1_charAt_3b067_7 rfl ?_
  refine AW.bld hi hk dJ1_charAt_3b067_8 ?_
  refine AW.sipush dJ1_charAt_3b067_9 (by decide) (by decide) ?_
  refine AW.iand dJ1_charAt_3b067_12 ?_
  refine AW.i2c dJ1_charAt_3b067_13 ?_
  rw [hc.1]
  exact AW.nret rfl (chr_nar hc.2.1 hc.2.2) dJ1_charAt_3b067_14 ⟨rfl, rfl⟩
theorem sCh_ok {z : AZ} {i : Nat} {k : Int} {g : AG} (hi : i < 22) (hk : 0 ≤ nw k ∧ nw k < strLen i) : AMf z yJ0_charAt_5068e cJ0_charAt_5068e 2 (some .char) 3 [sv z i, iv k] g (strCh i (ix k), g) := by
  intro d hdd
  refine AM.of (by decide +kernel) (Nat.le_of_ble_eq_true rfl) ?_
  show AW z (RJ0, cJ0_charAt_5068e, 2, some .char) d (QD (some .char) (strCh i (ix k), g)) 0 [(0, sv z i), (1, iv k)] [] g
  have hx : ix k < lenJ.getD i 0 := by
    have h2 := hk.2
    unfold strLen at h2
    have h1 := hk.1
    unfold ix
    omega
  have hc := strCh_ok i hi (ix k) hx
  refine AW.aloads_n 0 dJ0_charAt_5068e_0 rfl ?_
  refine AW.callK (As := []) (st := []) hi (sLatin_ok hi) sq_latin_492 rfl wm_799 wm_800 (Nat.le_trans (by decide) hdd) rfl dJ0_charAt_5068e_1 rfl (Nat.le_of_ble_eq_true rfl) ?_
  refine AW.if_eq (tgt := 16) dJ0_charAt_5068e_4 (by decide) (fun c => absurd c (by decide)) (fun _ => ?_)
  refine AW.aloads_n 0 dJ0_charAt_5068e_7 rfl ?_
  refine AW.sval hi wm_2247 dJ0_charAt_5068e_8 ?_
  refine AW.iload_n 1 dJ0_charAt_5068e_11 rfl ?_
  refine AW.callSi (As := [bvr z i, iv k]) (st := []) (lCh_ok hi hk) sq_lch_495 wm_803 hdd rfl dJ0_charAt_5068e_12 rfl (Nat.le_of_ble_eq_true rfl) ?_
  exact AW.nret rfl (chr_nar hc.2.1 hc.2.2) dJ0_charAt_5068e_15 ⟨rfl, rfl⟩
/-! indexOf -/
theorem canE_ok {z : AZ} {c : Int} {g : AG} : AMf z yJ1_canEncode_9a6ad cJ1_canEncode_9a6ad 1 (some .boolean) 0 [iv c] g (if nw c < 0 then 0 else if 255 < nw c then 0 else 1, g) := by
  intro d hdd
  refine AM.of (by decide +kernel) (Nat.le_of_ble_eq_true rfl) ?_
  show AW z (RJ1, cJ1_canEncode_9a6ad, 1, some .boolean) d (QD (some .boolean) (if nw c < 0 then 0 else if 255 < nw c then 0 else 1, g)) 0 [(0, iv c)] [] g
  refine AW.iload_n 0 dJ1_canEncode_9a6ad_0 rfl ?_
  refine AW.if_lt (tgt := 15) dJ1_canEncode_9a6ad_1 (by decide) (fun c1 => ?_) (fun c1 => ?_)
  · rw [if_pos c1]
    refine AW.iconst dJ1_canEncode_9a6ad_15 ?_
    exact AW.zret rfl (Or.inl rfl) dJ1_canEncode_9a6ad_16 ⟨rfl, rfl⟩
  · rw [if_neg c1]
    refine AW.iload_n 0 dJ1_canEncode_9a6ad_4 rfl ?_
    refine AW.sipush dJ1_canEncode_9a6ad_5 (by decide) (by decide) ?_
    refine AW.icmp_gt (tgt := 15) dJ1_canEncode_9a6ad_8 (by decide) (fun c2 => ?_) (fun c2 => ?_)
    · rw [if_pos (show 255 < nw c from c2)]
      refine AW.iconst dJ1_canEncode_9a6ad_15 ?_
      exact AW.zret rfl (Or.inl rfl) dJ1_canEncode_9a6ad_16 ⟨rfl, rfl⟩
    · rw [if_neg (show ¬ 255 < nw c from c2)]
      refine AW.iconst dJ1_canEncode_9a6ad_11 ?_
      refine AW.goto (tgt := 16) dJ1_canEncode_9a6ad_12 (by decide) ?_
      exact AW.zret rfl (Or.inr rfl) dJ1_canEncode_9a6ad_16 ⟨rfl, rfl⟩
theorem bytI_eq {c : Int} (h0 : 0 ≤ nw c) (h1 : nw c ≤ 255) : bytI c = if nw c < 128 then nw c else nw c - 256 := by
  have h : ∀ n : Nat, n < 256 → bytI n = if (n : Int) < 128 then (n : Int) else (n : Int) - 256 := by decide +kernel
  have e : bytI c = bytI (nw c) := by
    unfold bytI
    rw [show Int32.ofInt c = Int32.ofInt (nw c) by rw [← Int32.toInt_inj, i32_toInt, i32_toInt]; simp [nw]]
  obtain ⟨n, hn⟩ := Int.eq_ofNat_of_zero_le h0
  rw [e, hn]
  exact h n (by omega)
theorem ixF_out {c : Int} : ∀ (l : List Int32) (k : Int), (∀ b ∈ l, ¬ b.toInt = c) → ixF c l k = -1
  | [], k, _ => rfl
  | b :: l, k, h => by
    unfold ixF
    rw [if_neg (h b List.mem_cons_self)]
    exact ixF_out l (k + 1) (fun b hb => h b (List.mem_cons_of_mem _ hb))
theorem byt_rng : ∀ i, i < 22 → ((bytJ.getD i []).length = lenJ.getD i 0 ∧ ∀ b ∈ bytJ.getD i [], 0 ≤ b.toInt ∧ b.toInt < 128) := by decide +kernel
theorem getD_lt {α : Type} {l : List α} {k : Nat} {x : α} (h : k < l.length) : l.getD k x = l[k] := by
  rw [List.getD_eq_getElem?_getD, List.getElem?_eq_getElem h]
  rfl
theorem ix_loop {z : AZ} {d i : Nat} {c : Int} {g : AG} (hi : i < 22) (h0 : 0 ≤ nw c) (h1 : nw c ≤ 255) : ∀ (l : List Int32) (k : Nat), (bytJ.getD i []).drop k = l → k ≤ lenJ.getD i 0 → AW z (RJ1, cJ1_indexOfChar_4cfef, 6, some .int) d (QD (some .int) (ixF (nw c) l k, g)) 7 [(5, iv k), (4, iv (bytI c)), (0, bvr z i), (1, iv c), (2, iv 0), (3, iv (strLen i))] [] g := by
  have hs := strLen_sh i hi
  have hr := byt_rng i hi
  have hn : nw (strLen i) = strLen i := nw_id (by omega) (by omega)
  have hlen : strLen i = ((lenJ.getD i 0 : Nat) : Int) := rfl
  intro l
  induction l with
  | nil =>
    intro k hl hk
    have hkn : nw (k : Int) = k := nw_id (by omega) (by omega)
    have hge := List.drop_eq_nil_iff.mp hl
    refine AW.iload 0 dJ1_indexOfChar_4cfef_7 rfl ?_
    refine AW.iload_n 5 dJ1_indexOfChar_4cfef_9 rfl ?_
    refine AW.icmp_ge (tgt := 31) dJ1_indexOfChar_4cfef_10 (by decide) (fun c1 => ?_) (fun c1 => absurd (show nw (strLen i) ≤ nw (k : Int) by rw [hn, hkn]; omega) c1)
    refine AW.iconst dJ1_indexOfChar_4cfef_31 ?_
    exact AW.iret rfl dJ1_indexOfChar_4cfef_32 ⟨rfl, rfl⟩
  | cons b l ih =>
    intro k hl hk
    have hkn : nw (k : Int) = k := nw_id (by omega) (by omega)
    have hk3 : k < (bytJ.getD i []).length := by
      have h := congrArg List.length hl
      rw [List.length_drop, List.length_cons] at h
      omega
    have hk2 : k < lenJ.getD i 0 := by omega
    have hd1 := hl.symm.trans (List.drop_eq_getElem_cons hk3)
    injection hd1 with hb1 hl1
    have hkx : ix (k : Int) = k := by unfold ix; rw [hkn]; rfl
    have hin : 0 ≤ nw (k : Int) ∧ nw (k : Int) < strLen i := by rw [hkn]; omega
    have hch : strCh i k = b.toInt := by
      unfold strCh
      rw [getD_lt hk3, hb1]
    have hb := hr.2 b (by rw [hb1]; exact List.getElem_mem hk3)
    have hcn : nw (strCh i k) = strCh i k := nw_id (by rw [hch]; omega) (by rw [hch]; omega)
    have hbn : nw (bytI c) = bytI c := nw_id (by rw [bytI_eq h0 h1]; split <;> omega) (by rw [bytI_eq h0 h1]; split <;> omega)
    have heq : (strCh i k = bytI c) ↔ b.toInt = nw c := by
      rw [hch, bytI_eq h0 h1]
      split <;> omega
    refine AW.iload 0 dJ1_indexOfChar_4cfef_7 rfl ?_
    refine AW.iload_n 5 dJ1_indexOfChar_4cfef_9 rfl ?_
    refine AW.icmp_ge (tgt := 31) dJ1_indexOfChar_4cfef_10 (by decide) (fun c1 => absurd c1 (show ¬ nw (strLen i) ≤ nw (k : Int) by rw [hn, hkn]; omega)) (fun c1 => ?_)
    refine AW.aloadb_n 2 dJ1_indexOfChar_4cfef_13 rfl ?_
    refine AW.iload 0 dJ1_indexOfChar_4cfef_14 rfl ?_
    refine AW.bld hi hin dJ1_indexOfChar_4cfef_16 ?_
    rw [hkx]
    refine AW.iload 1 dJ1_indexOfChar_4cfef_17 rfl ?_
    refine AW.icmp_ne (tgt := 25) dJ1_indexOfChar_4cfef_19 (by decide) (fun c2 => ?_) (fun c2 => ?_)
    · rw [hcn, hbn] at c2
      have e : ixF (nw c) (b :: l) k = ixF (nw c) l ((k + 1 : Nat) : Int) := by
        show (if b.toInt = nw c then (k : Int) else ixF (nw c) l ((k : Int) + 1)) = _
        rw [if_neg (fun q => c2 (heq.mpr q))]
        rfl
      rw [e]
      refine AW.iinc (lv1 := [(5, iv (((k + 1 : Nat)) : Int)), (4, iv (bytI c)), (0, bvr z i), (1, iv c), (2, iv 0), (3, iv (strLen i))]) 0 dJ1_indexOfChar_4cfef_25 rfl (by decide) rfl ?_
      refine AW.goto (tgt := 7) dJ1_indexOfChar_4cfef_28 (by decide) ?_
      exact ih (k + 1) hl1.symm hk2
    · rw [hcn, hbn] at c2
      have e : ixF (nw c) (b :: l) k = (k : Int) := by
        show (if b.toInt = nw c then (k : Int) else ixF (nw c) l ((k : Int) + 1)) = _
        rw [if_pos (heq.mp c2)]
      rw [e]
      refine AW.iload 0 dJ1_indexOfChar_4cfef_22 rfl ?_
      exact AW.iret rfl dJ1_indexOfChar_4cfef_24 ⟨rfl, rfl⟩
theorem ixC_ok {z : AZ} {i : Nat} {c : Int} {g : AG} (hi : i < 22) (h0 : 0 ≤ nw c) (h1 : nw c ≤ 255) : AMf z yJ1_indexOfChar_4cfef cJ1_indexOfChar_4cfef 6 (some .int) 0 [bvr z i, iv c, iv 0, iv (strLen i)] g (strIx i c, g) := by
  intro d hdd
  refine AM.of (by decide +kernel) (Nat.le_of_ble_eq_true rfl) ?_
  show AW z (RJ1, cJ1_indexOfChar_4cfef, 6, some .int) d (QD (some .int) (strIx i c, g)) 0 [(0, bvr z i), (1, iv c), (2, iv 0), (3, iv (strLen i))] [] g
  refine AW.iload_n 1 dJ1_indexOfChar_4cfef_0 rfl ?_
  refine AW.i2b dJ1_indexOfChar_4cfef_1 ?_
  refine AW.istore (lv1 := [(4, iv (bytI c)), (0, bvr z i), (1, iv c), (2, iv 0), (3, iv (strLen i))]) dJ1_indexOfChar_4cfef_2 (by decide) rfl ?_
  refine AW.iload_n 3 dJ1_indexOfChar_4cfef_4 rfl ?_
  refine AW.istore (lv1 := [(5, iv 0), (4, iv (bytI c)), (0, bvr z i), (1, iv c), (2, iv 0), (3, iv (strLen i))]) dJ1_indexOfChar_4cfef_5 (by decide) rfl ?_
  exact ix_loop hi h0 h1 _ 0 rfl (Nat.zero_le _)
theorem lIx_ok {z : AZ} {i : Nat} {c : Int} {g : AG} (hi : i < 22) : AMf z yJ1_indexOf_4cfef cJ1_indexOf_4cfef 4 (some .int) 1 [bvr z i, iv c, iv 0, iv (strLen i)] g (strIx i c, g) := by
  intro d hdd
  refine AM.of (by decide +kernel) (Nat.le_of_ble_eq_true rfl) ?_
  show AW z (RJ1, cJ1_indexOf_4cfef, 4, some .int) d (QD (some .int) (strIx i c, g)) 0 [(0, bvr z i), (1, iv c), (2, iv 0), (3, iv (strLen i))] [] g
  have hs := strLen_sh i hi
  have hr := byt_rng i hi
  have hn : nw (strLen i) = strLen i := nw_id (by omega) (by omega)
  refine AW.iload_n 1 dJ1_indexOf_4cfef_0 rfl ?_
  refine AW.callSi (As := [iv c]) (st := []) canE_ok sq_canE_88 wm_865 hdd rfl dJ1_indexOf_4cfef_1 rfl (Nat.le_of_ble_eq_true rfl) ?_
  have out : (nw c < 0 ∨ 255 < nw c) → strIx i c = -1 := fun h => ixF_out _ _ (fun b hb => by
    have := hr.2 b hb
    omega)
  have key : ∀ v : Int, v = (if nw c < 0 then 0 else if 255 < nw c then 0 else 1) → AW z (RJ1, cJ1_indexOf_4cfef, 4, some .int) d (QD (some .int) (strIx i c, g)) 4 [(0, bvr z i), (1, iv c), (2, iv 0), (3, iv (strLen i))] [iv v] g := by
    intro v hv
    refine AW.if_ne (tgt := 9) dJ1_indexOf_4cfef_4 (by decide) (fun c1 => ?_) (fun c1 => ?_)
    · have hc : 0 ≤ nw c ∧ nw c ≤ 255 := by
        by_cases q : nw c < 0
        · rw [if_pos q] at hv
          subst hv
          exact absurd (by decide) c1
        · by_cases q2 : 255 < nw c
          · rw [if_neg q, if_pos q2] at hv
            subst hv
            exact absurd (by decide) c1
          · omega
      refine AW.iload_n 2 dJ1_indexOf_4cfef_9 rfl ?_
      refine AW.iconst dJ1_indexOf_4cfef_10 ?_
      refine AW.mmax (st := []) wm_867 mst_max mini mcd_max hdd (Nat.le_of_ble_eq_true rfl) dJ1_indexOf_4cfef_11 ?_
      refine AW.istore_n (lv1 := [(2, iv 0), (0, bvr z i), (1, iv c), (3, iv (strLen i))]) dJ1_indexOf_4cfef_14 (by decide) rfl ?_
      refine AW.iload_n 3 dJ1_indexOf_4cfef_15 rfl ?_
      refine AW.aloadb_n 1 dJ1_indexOf_4cfef_16 rfl ?_
      refine AW.blen hi dJ1_indexOf_4cfef_17 ?_
      refine AW.mmin (st := []) wm_870 mst_min mini mcd_min hdd (Nat.le_of_ble_eq_true rfl) dJ1_indexOf_4cfef_18 ?_
      refine AW.val (show strLen i = mnI (strLen i) (strLen i) by unfold mnI; rw [if_neg (by omega)]) ?_
      refine AW.istore_n (lv1 := [(3, iv (strLen i)), (2, iv 0), (0, bvr z i), (1, iv c)]) dJ1_indexOf_4cfef_21 (by decide) rfl ?_
      refine AW.iload_n 1 dJ1_indexOf_4cfef_22 rfl ?_
      refine AW.iload_n 0 dJ1_indexOf_4cfef_23 rfl ?_
      refine AW.icmp_lt (tgt := 29) dJ1_indexOf_4cfef_24 (by decide) (fun c2 => ?_) (fun c2 => ?_)
      · refine AW.aloadb_n 2 dJ1_indexOf_4cfef_29 rfl ?_
        refine AW.iload_n 3 dJ1_indexOf_4cfef_30 rfl ?_
        refine AW.iload_n 1 dJ1_indexOf_4cfef_31 rfl ?_
        refine AW.iload_n 0 dJ1_indexOf_4cfef_32 rfl ?_
        refine AW.callSi (As := [bvr z i, iv c, iv 0, iv (strLen i)]) (st := []) (ixC_ok hi hc.1 hc.2) sq_ixC_95 wm_874 hdd rfl dJ1_indexOf_4cfef_33 rfl (Nat.le_of_ble_eq_true rfl) ?_
        exact AW.iret rfl dJ1_indexOf_4cfef_36 ⟨rfl, rfl⟩
      · have hz : strLen i = 0 := by
          rw [hn] at c2
          have : nw 0 = 0 := nw_zero
          omega
        have hz2 : bytJ.getD i [] = [] := List.length_eq_zero_iff.mp (by
          have : strLen i = ((lenJ.getD i 0 : Nat) : Int) := rfl
          omega)
        refine AW.iconst dJ1_indexOf_4cfef_27 ?_
        have e : strIx i c = -1 := by unfold strIx; rw [hz2]; rfl
        exact AW.iret rfl dJ1_indexOf_4cfef_28 ⟨by rw [e]; rfl, rfl⟩
    · have e : strIx i c = -1 := by
        apply out
        by_cases q : nw c < 0
        · exact Or.inl q
        · by_cases q2 : 255 < nw c
          · exact Or.inr q2
          · rw [if_neg q, if_neg q2] at hv
            subst hv
            exact absurd c1 (by decide)
      refine AW.iconst dJ1_indexOf_4cfef_7 ?_
      exact AW.iret rfl dJ1_indexOf_4cfef_8 ⟨by rw [e]; rfl, rfl⟩
  exact key _ rfl
theorem sIx2_ok {z : AZ} {i : Nat} {c : Int} {g : AG} (hi : i < 22) : AMf z yJ0_indexOf_7cf53 cJ0_indexOf_7cf53 3 (some .int) 2 [sv z i, iv c, iv 0] g (strIx i c, g) := by
  intro d hdd
  refine AM.of (by decide +kernel) (Nat.le_of_ble_eq_true rfl) ?_
  show AW z (RJ0, cJ0_indexOf_7cf53, 3, some .int) d (QD (some .int) (strIx i c, g)) 0 [(0, sv z i), (1, iv c), (2, iv 0)] [] g
  refine AW.aloads_n 0 dJ0_indexOf_7cf53_0 rfl ?_
  refine AW.callK (As := []) (st := []) hi (sLatin_ok hi) sq_latin_492 rfl wm_799 wm_800 (Nat.le_trans (by decide) hdd) rfl dJ0_indexOf_7cf53_1 rfl (Nat.le_of_ble_eq_true rfl) ?_
  refine AW.if_eq (tgt := 23) dJ0_indexOf_7cf53_4 (by decide) (fun c => absurd c (by decide)) (fun _ => ?_)
  refine AW.aloads_n 0 dJ0_indexOf_7cf53_7 rfl ?_
  refine AW.sval hi wm_2247 dJ0_indexOf_7cf53_8 ?_
  refine AW.iload_n 1 dJ0_indexOf_7cf53_11 rfl ?_
  refine AW.iload_n 2 dJ0_indexOf_7cf53_12 rfl ?_
  refine AW.aloads_n 0 dJ0_indexOf_7cf53_13 rfl ?_
  refine AW.callK (As := []) (st := [iv 0, iv c, bvr z i]) hi (sLen_ok hi) sq_len_505 rfl wm_785 wm_786 hdd rfl dJ0_indexOf_7cf53_14 rfl (Nat.le_of_ble_eq_true rfl) ?_
  refine AW.callSi (As := [bvr z i, iv c, iv 0, iv (strLen i)]) (st := []) (lIx_ok hi) sq_lIx_637 wm_862 hdd rfl dJ0_indexOf_7cf53_17 rfl (Nat.le_of_ble_eq_true rfl) ?_
  refine AW.goto (tgt := 36) dJ0_indexOf_7cf53_20 (by decide) ?_
  exact AW.iret rfl dJ0_indexOf_7cf53_36 ⟨rfl, rfl⟩
theorem sIx_ok {z : AZ} {i : Nat} {c : Int} {g : AG} (hi : i < 22) : AMf z yJ0_indexOf_0f7a4 cJ0_indexOf_0f7a4 2 (some .int) 3 [sv z i, iv c] g (strIx i c, g) := by
  intro d hdd
  refine AM.of (by decide +kernel) (Nat.le_of_ble_eq_true rfl) ?_
  show AW z (RJ0, cJ0_indexOf_0f7a4, 2, some .int) d (QD (some .int) (strIx i c, g)) 0 [(0, sv z i), (1, iv c)] [] g
  refine AW.aloads_n 0 dJ0_indexOf_0f7a4_0 rfl ?_
  refine AW.iload_n 1 dJ0_indexOf_0f7a4_1 rfl ?_
  refine AW.iconst dJ0_indexOf_0f7a4_2 ?_
  refine AW.callK (As := [iv c, iv 0]) (st := []) hi (sIx2_ok hi) sq_ix2_633 rfl wm_857 wm_858 hdd rfl dJ0_indexOf_0f7a4_3 rfl (Nat.le_of_ble_eq_true rfl) ?_
  exact AW.iret rfl dJ0_indexOf_0f7a4_6 ⟨rfl, rfl⟩
section STRS2
variable {z : AZ} {μ : AMu} {d pc : Nat} {Q : Option Value → AG → Prop} {lv : List (Nat × Value)} {st : List Value} {g : AG}
theorem AW.tLen {idx i : Nat} (hF : CQ μ.1 idx yJ0_length_8abf5 cJ0_length_8abf5 1 (some .int) 0) (hi : i < 22) (hD : 3 ≤ d) (hd : decode μ.2.1 pc = .ok (.invokevirtual idx, 3)) (hc : (st.map fun v => v.category).sum ≤ 8) (kk : AW z μ d Q (pc + 3) lv (iv (strLen i) :: st) g) : AW z μ d Q pc lv (sv z i :: st) g :=
  AW.callK (As := []) hi (sLen_ok hi) hF rfl wm_785 wm_786 (by omega) rfl hd rfl hc kk
theorem AW.tCh {idx i : Nat} {k : Int} (hF : CQ μ.1 idx yJ0_charAt_5068e cJ0_charAt_5068e 2 (some .char) 1) (hi : i < 22) (hk : 0 ≤ nw k ∧ nw k < strLen i) (hD : 5 ≤ d) (hd : decode μ.2.1 pc = .ok (.invokevirtual idx, 3)) (hc : (st.map fun v => v.category).sum ≤ 8) (kk : AW z μ d Q (pc + 3) lv (iv (strCh i (ix k)) :: st) g) : AW z μ d Q pc lv (iv k :: sv z i :: st) g :=
  AW.callK (As := [iv k]) hi (sCh_ok hi hk) hF rfl wm_795 wm_796 (by omega) rfl hd rfl hc kk
theorem AW.tIx {idx i : Nat} {c : Int} (hF : CQ μ.1 idx yJ0_indexOf_0f7a4 cJ0_indexOf_0f7a4 2 (some .int) 1) (hi : i < 22) (hD : 6 ≤ d) (hd : decode μ.2.1 pc = .ok (.invokevirtual idx, 3)) (hc : (st.map fun v => v.category).sum ≤ 8) (kk : AW z μ d Q (pc + 3) lv (iv (strIx i c) :: st) g) : AW z μ d Q pc lv (iv c :: sv z i :: st) g :=
  AW.callK (As := [iv c]) hi (sIx_ok hi) hF rfl wm_853 wm_854 (by omega) rfl hd rfl hc kk
end STRS2
