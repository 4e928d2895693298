/-! THE CLAIM OUT OF ONE WALK OF THE LAW'S BODY. Your part is whole_start (and what it stands on); all else here is the same for every law, but numbers. -/
def R_law : String := "WeekBoatsLaw"
def lw_P (b : Addr) (xs : List Int32) (args : Array Value) (s : State) : Prop := args = #[.ref b] ∧ s.IntsAt b xs ∧ xs.length ≤ 3072 ∧ (Jvm.Cond.and given_1 narrow_1).before args s = true
def lw_Q (_ : Array Value) (s : State) (o : Outcome) (t : State) : Prop := o = .returned (some (.int 1)) ∧ Framed s o t [] 600000 7302250
def lw_Z (below : List Frame) (a : Array Value) (s : State) : State → Prop := fun t => ∃ o, t.status = .running ∧ Ended t below o ∧ lw_Q a s o t
/-- the law's own end, with 1 on the stack, nothing written that was there before, its room as the claim has it -/
theorem lw_ret {p : Program} {l : Launch} {e : Env} {s : State} {m : MethodId} {below : List Frame} {meth : Method} {c : Code} {b : Nat} (hx : p.tables.exec = Jvm.exec) (hb : c.code = code) (hr : meth.sig.returnType = ret) (hlocks : meth.locks = false) {pc : Nat} {H : Heap} {ls : Array Slot} (hdg : decode code pc = .ok (.ireturn, 1)) : W p l e room_1 s m #[Value.ref b] below meth c H [] 600000 7302250 (lw_Z below #[Value.ref b] s) (F0 m pc ls [.int 1]) := by
  intro T hT X
  obtain ⟨fs, hret, hrun, hended, hW, hframe⟩ := X.leave (v := some (.int 1)) (hlocks := hlocks) (fun h => by rw [hr] at h; cases h)
  have hmeth' : T.vm.method? m = some meth := X.method'
  refine ⟨T.setFrames fs, ?_, .returned (some (.int 1)), hrun, hended, rfl, ⟨_, rfl⟩, hW, hframe⟩
  jvm_step X.here [X.here.top, hx, hb, hdg, hmeth', hr, ret, narrow_b1]
  (try refine ⟨rfl, ?_⟩); (try refine ⟨rfl, ?_⟩)
  first | (intro acts; rw [hret _ acts rfl rfl rfl]) | rw [hret _ _ rfl rfl rfl]
  exact Steps.refl _
/-- what holds at the law's entry: the machine, the code, the tables' words (any of lw_tbl by 'hts w (by decide +kernel)'), the script of L ints xs at the cell b, what the Statement gives of the start (any of its parts by flat_of_before) -/
def lw_At (p : Program) (s : State) (m : MethodId) (meth : Method) (c : Code) (b L : Nat) (xs : Nat → Int32) : Prop :=
  p.tables.exec = Jvm.exec ∧ c.code = code ∧ meth.sig.returnType = ret ∧ c.maxLocals = 4 ∧ s.vm.findClass R_law = some m.cls ∧ (∀ w ∈ lw_tbl, w.before #[Value.ref b] s = true) ∧ va_X b L xs s s.heap ∧ b < s.heap.size ∧ meth.locks = false ∧ (Jvm.Cond.and given_1 narrow_1).before #[Value.ref b] s = true
section LAWW
/-- the law's own place: its words, the world that it stands in -/
def LC (p : Program) (s : State) (m : MethodId) (meth : Method) (c : Code) (b L : Nat) (xs : Nat → Int32) (z : AZ) : Prop := lw_At p s m meth c b L xs ∧ awK z s ∧ ∀ q, zA z q → s.heap.size ≤ q
def lwN : Nat := 13361
def LW (p : Program) (l : Launch) (e : Env) (s : State) (m : MethodId) (below : List Frame) (meth : Method) (c : Code) (b : Nat) (z : AZ) (pc : Nat) (lv : List (Nat × Value)) (st : List Value) (g : AG) : Prop :=
  ∀ (H : Heap) (locs : List Loc) (ls : Array Slot), awP z g H → va_S (fun q => s.heap.size ≤ q) s.heap H locs → lv_has ls 4 lv → W p l e room_1 s m #[Value.ref b] below meth c H locs 188 lwN (lw_Z below #[Value.ref b] s) (F0 m pc ls st)
variable {p : Program} {l : Launch} {e : Env} {s : State} {m : MethodId} {below : List Frame} {meth : Method} {c : Code} {b L : Nat} {xs : Nat → Int32} {z : AZ} {pc : Nat} {lv : List (Nat × Value)} {st : List Value} {g : AG}
theorem LC.ts (C : LC p s m meth c b L xs z) : ∀ w ∈ lw_gd, w.before #[Value.ref b] s = true := fun w hw => C.1.2.2.2.2.2.1 w (List.mem_filter.mp hw).1
theorem LW.iload_n (C : LC p s m meth c b L xs z) {i : Fin 4} {x : Int} (q : Nat) (hd : decode code pc = .ok (.iload_n i, 1)) (hq : lv[q]? = some ((i : Nat), iv x)) (k : LW p l e s m below meth c b z (pc + 1) lv (iv x :: st) g) : LW p l e s m below meth c b z pc lv st g := fun H locs ls hP hS hl => lv_iload_n C.1.1 C.1.2.1 hd rfl (lv_at hl q hq) (k H locs ls hP hS hl)
theorem LW.aload_n (C : LC p s m meth c b L xs z) {i : Fin 4} {x : Nat} (q : Nat) (hd : decode code pc = .ok (.aload_n i, 1)) (hq : lv[q]? = some ((i : Nat), .ref x)) (k : LW p l e s m below meth c b z (pc + 1) lv (.ref x :: st) g) : LW p l e s m below meth c b z pc lv st g := fun H locs ls hP hS hl => lv_aload_n C.1.1 C.1.2.1 hd rfl (lv_at hl q hq) (k H locs ls hP hS hl)
theorem LW.iconst (C : LC p s m meth c b L xs z) {n : Int} (hd : decode code pc = .ok (.iconst n, 1)) (k : LW p l e s m below meth c b z (pc + 1) lv (iv n :: st) g) : LW p l e s m below meth c b z pc lv st g := fun H locs ls hP hS hl => lv_iconst C.1.1 C.1.2.1 hd rfl (k H locs ls hP hS hl)
theorem LW.bipush (C : LC p s m meth c b L xs z) {n : Int} (hd : decode code pc = .ok (.bipush n, 2)) (h1 : -128 ≤ n) (h2 : n ≤ 127) (k : LW p l e s m below meth c b z (pc + 2) lv (iv n :: st) g) : LW p l e s m below meth c b z pc lv st g := fun H locs ls hP hS hl => lv_bipush C.1.1 C.1.2.1 hd (Int8.toInt32_ofInt h1 h2) (k H locs ls hP hS hl)
theorem LW.istore_n (C : LC p s m meth c b L xs z) {i : Fin 4} {x : Int} {lv1 : List (Nat × Value)} (hd : decode code pc = .ok (.istore_n i, 1)) (hn : (i : Nat) < 4) (hl1 : ((i : Nat), iv x) :: lv.filter (fun q => !(q.1 == (i : Nat)) && !(q.1 + 1 == (i : Nat) && q.2.category == 2)) = lv1) (k : LW p l e s m below meth c b z (pc + 1) lv1 st g) : LW p l e s m below meth c b z pc lv (iv x :: st) g := fun H locs ls hP hS hl => lv_istore_n C.1.1 C.1.2.1 hd rfl hl hn hl1 (fun ls hl => k H locs ls hP hS hl)
theorem LW.iinc (C : LC p s m meth c b L xs z) {i : Nat} {n x : Int} {lv1 : List (Nat × Value)} (q : Nat) (hd : decode code pc = .ok (.iinc i n, 3)) (hq : lv[q]? = some (i, iv x)) (hn : i < 4) (hl1 : (i, iv (x + n)) :: lv.filter (fun q => !(q.1 == i) && !(q.1 + 1 == i && q.2.category == 2)) = lv1) (k : LW p l e s m below meth c b z (pc + 3) lv1 st g) : LW p l e s m below meth c b z pc lv st g := fun H locs ls hP hS hl => lv_iinc C.1.1 C.1.2.1 hd hl hq (Int32.ofInt_add x n).symm hn hl1 (fun ls hl => k H locs ls hP hS hl)
theorem LW.goto (C : LC p s m meth c b L xs z) {off : Int} {tgt : Nat} (hd : decode code pc = .ok (.goto off, 3)) (ht : (pc : Int) + off = (tgt : Int)) (k : LW p l e s m below meth c b z tgt lv st g) : LW p l e s m below meth c b z pc lv st g := fun H locs ls hP hS hl => lv_goto C.1.1 C.1.2.1 hd ht (k H locs ls hP hS hl)
theorem LW.pop (C : LC p s m meth c b L xs z) {x : Int} (hd : decode code pc = .ok (.pop, 1)) (k : LW p l e s m below meth c b z (pc + 1) lv st g) : LW p l e s m below meth c b z pc lv (iv x :: st) g := fun H locs ls hP hS hl => lv_pop C.1.1 C.1.2.1 hd rfl (k H locs ls hP hS hl)
theorem LW.iadd (C : LC p s m meth c b L xs z) {x y : Int} (hd : decode code pc = .ok (.iadd, 1)) (k : LW p l e s m below meth c b z (pc + 1) lv (iv (x + y) :: st) g) : LW p l e s m below meth c b z pc lv (iv y :: iv x :: st) g := by
  intro H locs ls hP hS hl
  refine lv_iadd C.1.1 C.1.2.1 hd ?_
  rw [← Int32.ofInt_add]
  exact k H locs ls hP hS hl
theorem LW.isub (C : LC p s m meth c b L xs z) {x y : Int} (hd : decode code pc = .ok (.isub, 1)) (k : LW p l e s m below meth c b z (pc + 1) lv (iv (x - y) :: st) g) : LW p l e s m below meth c b z pc lv (iv y :: iv x :: st) g := by
  intro H locs ls hP hS hl
  refine lv_isub C.1.1 C.1.2.1 hd ?_
  rw [← Int32.ofInt_sub]
  exact k H locs ls hP hS hl
theorem LW.iand (C : LC p s m meth c b L xs z) {x y : Int} (hd : decode code pc = .ok (.iand, 1)) (k : LW p l e s m below meth c b z (pc + 1) lv (iv (andI x y) :: st) g) : LW p l e s m below meth c b z pc lv (iv y :: iv x :: st) g := by
  intro H locs ls hP hS hl
  refine lv_iand C.1.1 C.1.2.1 hd ?_
  have h := k H locs ls hP hS hl
  unfold iv andI at h
  rw [Int32.ofInt_toInt] at h
  exact h
theorem LW.icmp_gt (C : LC p s m meth c b L xs z) {x y : Int} {off : Int} {tgt : Nat} (hd : decode code pc = .ok (.if_icmp .gt off, 3)) (ht : (pc : Int) + off = (tgt : Int)) (kt : nw y < nw x → LW p l e s m below meth c b z tgt lv st g) (kf : ¬ nw y < nw x → LW p l e s m below meth c b z (pc + 3) lv st g) : LW p l e s m below meth c b z pc lv (iv y :: iv x :: st) g := fun H locs ls hP hS hl => lv_icmp_gt C.1.1 C.1.2.1 hd ht (fun q => kt ((i32_lt y x).mp q) H locs ls hP hS hl) (fun q => kf (fun q2 => q ((i32_lt y x).mpr q2)) H locs ls hP hS hl)
theorem LW.icmp_eq (C : LC p s m meth c b L xs z) {x y : Int} {off : Int} {tgt : Nat} (hd : decode code pc = .ok (.if_icmp .eq off, 3)) (ht : (pc : Int) + off = (tgt : Int)) (hxy : nw x = nw y) (kt : LW p l e s m below meth c b z tgt lv st g) : LW p l e s m below meth c b z pc lv (iv y :: iv x :: st) g := fun H locs ls hP hS hl => lv_icmp_eq C.1.1 C.1.2.1 hd ht (fun _ => kt H locs ls hP hS hl) (fun q => absurd ((i32_eq x y).mpr hxy) q)
theorem LW.if_eq (C : LC p s m meth c b L xs z) {x : Int} {off : Int} {tgt : Nat} (hd : decode code pc = .ok (.ifCond .eq off, 3)) (ht : (pc : Int) + off = (tgt : Int)) (kt : nw x = 0 → LW p l e s m below meth c b z tgt lv st g) (kf : ¬ nw x = 0 → LW p l e s m below meth c b z (pc + 3) lv st g) : LW p l e s m below meth c b z pc lv (iv x :: st) g := fun H locs ls hP hS hl => lv_if_eq C.1.1 C.1.2.1 hd ht (fun q => kt ((i32_eq0 x).mp q) H locs ls hP hS hl) (fun q => kf (fun q2 => q ((i32_eq0 x).mpr q2)) H locs ls hP hS hl)
theorem LW.slen (C : LC p s m meth c b L xs z) (hd : decode code pc = .ok (.arraylength, 1)) (k : LW p l e s m below meth c b z (pc + 1) lv (iv (L : Int) :: st) g) : LW p l e s m below meth c b z pc lv (.ref b :: st) g := by
  intro H locs ls hP hS hl
  refine va_slen C.1.1 C.1.2.1 C.1.2.2.2.2.2.2.1 C.1.2.2.2.2.2.2.2.1 (Nat.not_le.mpr C.1.2.2.2.2.2.2.2.1) hS hd ?_
  have h := k H locs ls hP hS hl
  unfold iv at h
  rw [Int32.ofInt_eq_ofNat] at h
  exact h
theorem LW.sld (C : LC p s m meth c b L xs z) {j : Int} (hj : 0 ≤ nw j ∧ nw j < L) (hd : decode code pc = .ok (.iaload, 1)) (k : LW p l e s m below meth c b z (pc + 1) lv (iv (xs (ix j)).toInt :: st) g) : LW p l e s m below meth c b z pc lv (iv j :: .ref b :: st) g := by
  intro H locs ls hP hS hl
  refine va_sld C.1.1 C.1.2.1 C.1.2.2.2.2.2.2.1 C.1.2.2.2.2.2.2.2.1 (Nat.not_le.mpr C.1.2.2.2.2.2.2.2.1) hS (i32_in j L hj) hd ?_
  have h := k H locs ls hP hS hl
  unfold iv at h
  rw [Int32.ofInt_toInt] at h
  rw [i32_clamp]
  exact h
theorem LW.tsOut (C : LC p s m meth c b L xs z) {x dflt lo hi : Int} {offs : Array Int} {len tgt : Nat} (hd : decode code pc = .ok (.tableswitch dflt lo hi offs, len)) (h : nw x < lo ∨ hi < nw x) (ht : (pc : Int) + dflt = (tgt : Int)) (k : LW p l e s m below meth c b z tgt lv st g) : LW p l e s m below meth c b z pc lv (iv x :: st) g := fun H locs ls hP hS hl => lv_tableOut C.1.1 C.1.2.1 hd (by rw [i32_toInt]; exact h) ht (k H locs ls hP hS hl)
theorem LW.tsIn (C : LC p s m meth c b L xs z) {x dflt lo hi off : Int} {offs : Array Int} {len tgt : Nat} (v : Int) (hd : decode code pc = .ok (.tableswitch dflt lo hi offs, len)) (hv : nw x = v) (h1 : ¬ v < lo) (h2 : ¬ hi < v) (ho : offs[(v - lo).toNat]? = some off) (ht : (pc : Int) + off = (tgt : Int)) (k : LW p l e s m below meth c b z tgt lv st g) : LW p l e s m below meth c b z pc lv (iv x :: st) g := fun H locs ls hP hS hl => lv_tableIn C.1.1 C.1.2.1 hd (by rw [i32_toInt, hv]; exact h1) (by rw [i32_toInt, hv]; exact h2) (by rw [i32_toInt, hv]; exact ho) ht (k H locs ls hP hS hl)
theorem LW.callV (C : LC p s m meth c b L xs z) {idx q n nL D : Nat} {y : MethodName} {b' : ByteArray} {ty : FieldType} {As st0 : List Value} {r : Int × AG} (hM : AMf z y b' nL (some ty) D (rv z q :: As) g r) (hF : CQ "WeekBoatsLaw" idx y b' nL (some ty) n) (hR : CR q y) (hD : D ≤ 1000) (hn : As.length = n) (hd : decode code pc = .ok (.invokevirtual idx, 3)) (hst : st0 = As.reverse ++ rv z q :: st) (hc : (st.map fun v => v.category).sum ≤ 8)
    (kk : LW p l e s m below meth c b z (pc + 3) lv (iv r.1 :: st) r.2) : LW p l e s m below meth c b z pc lv st0 g := by
  intro H locs ls hP hS hl
  obtain ⟨hq, ci, N, T, h1, h2, h3, h4⟩ := hR
  obtain ⟨f1, f2, f3, f4, f5⟩ := hF
  have hts := C.ts
  have hS0 : va_S (zA z) s.heap H [] := ⟨hS.1, fun q h1 _ => hS.2.1 q h1 (Nat.not_le.mpr h1), fun q h => by cases h⟩
  have hB : CallB room_1 s #[Value.ref b] "WeekBoatsLaw" idx y b' nL (some ty) (Cond.code y b' nL (some ty) :: lw_gd) (rmD D) 0 0 n := callB_of n hts (good_code f3) rfl rfl rfl (hts _ f2) (hts _ f1) f4 ⟨by show D + 1 ≤ 2048; omega, by show 8 + (nL + 11) + 64 * D ≤ 84000; omega⟩
  have hrun := va_runV (R := room_1) (cells := 188) (slots := lwN) (p := p) (e := e) (meth := meth) (below := below) (locs := locs) (C := y.cls) (As := As) (rest := st) (g := F0 m pc ls st0) ⟨C.1.1, C.1.2.1, C.1.2.2.2.1, C.1.2.2.2.2.1, hts⟩ (hM D (Nat.le_refl _) l) ⟨hB, hts _ h3, hts _ h4⟩ ⟨blindK, va_recv C.2.1.1 hP h2 (q0 := q) (by rw [awW_get hq, awE_o h1]), fun U hU hW => ⟨rfl, C.2.1.at hS0 hU hW, by rw [hU]; exact hP⟩⟩ rfl hn hl.1 hst (by show 2 * 0 + _ ≤ 8; omega) hd ⟨by decide, by decide⟩
  intro T1 hT X
  obtain ⟨v, st₀, t, T', L9, h0, X', hL, e1, e2, ⟨⟨r1, g1, hv, hq1, hP1⟩, hz, hk⟩, st⟩ := hrun T1 hT X
  cases hv
  obtain ⟨rfl, rfl⟩ := hq1
  rw [h0] at hz hk
  have hS1 : va_S (fun q => s.heap.size ≤ q) s.heap T'.heap (locs ++ L9) := by
    refine ⟨Nat.le_trans hS.1 (by rw [e1]; exact hz), fun q h1 h2 => by rw [e1, hk q (Nat.lt_of_lt_of_le h1 hS.1) (fun h => h2 (C.2.2 q h))]; exact hS.2.1 q h1 h2, fun q hq => ?_⟩
    rcases List.mem_append.mp hq with h | h
    · exact hS.2.2 q h
    · exact C.2.2 _ (hL q h)
  obtain ⟨t2, a1, b1⟩ := kk T'.heap (locs ++ L9) ls (by rw [e1]; exact hP1) hS1 hl T' rfl X'
  exact ⟨t2, st t2 a1, b1⟩
def I32 (x : Int) : Prop := -2147483648 ≤ x ∧ x ≤ 2147483647
theorem I32_of (x : Int32) : I32 x.toInt := ⟨Int32.le_toInt x, by have := Int32.toInt_lt x; omega⟩
theorem lw_in {i j : Int} {L : Nat} (hL : L ≤ 3072) (h0 : 0 ≤ i) (h1 : i + 6 ≤ L) (hj0 : 0 ≤ j) (hj : j < 6) : 0 ≤ nw (i + j) ∧ nw (i + j) < L := by
  rw [nw_id (by omega) (by omega)]
  omega
theorem cqL_13 : CQ "WeekBoatsLaw" 13 yX11_stretch cX11_stretch 5 (some .boolean) 4 := ⟨wm_678, wm_111, wm_681, by decide +kernel, by decide⟩
theorem crL_13 : CR 0 yX11_stretch := ⟨by decide +kernel, 11, 12, TX11, by decide +kernel, rfl, wm_679, wm_680⟩
theorem cqL_17 : CQ "WeekBoatsLaw" 17 yX12_stretch cX12_stretch 5 (some .boolean) 4 := ⟨wm_1803, wm_124, wm_1806, by decide +kernel, by decide⟩
theorem crL_17 : CR 117 yX12_stretch := ⟨by decide +kernel, 12, 101, TX12, by decide +kernel, rfl, wm_1804, wm_1805⟩
theorem cqL_18 : CQ "WeekBoatsLaw" 18 yX11_water cX11_water 2 (some .boolean) 1 := ⟨wm_685, wm_111, wm_688, by decide +kernel, by decide⟩
theorem crL_18 : CR 0 yX11_water := ⟨by decide +kernel, 11, 12, TX11, by decide +kernel, rfl, wm_686, wm_687⟩
theorem cqL_22 : CQ "WeekBoatsLaw" 22 yX12_water cX12_water 2 (some .boolean) 1 := ⟨wm_1810, wm_124, wm_1813, by decide +kernel, by decide⟩
theorem crL_22 : CR 117 yX12_water := ⟨by decide +kernel, 12, 101, TX12, by decide +kernel, rfl, wm_1811, wm_1812⟩
theorem cqL_23 : CQ "WeekBoatsLaw" 23 yX11_stoppage cX11_stoppage 4 (some .int) 3 := ⟨wm_717, wm_111, wm_720, by decide +kernel, by decide⟩
theorem crL_23 : CR 0 yX11_stoppage := ⟨by decide +kernel, 11, 12, TX11, by decide +kernel, rfl, wm_718, wm_719⟩
theorem cqL_27 : CQ "WeekBoatsLaw" 27 yX12_stoppage cX12_stoppage 4 (some .int) 3 := ⟨wm_1814, wm_124, wm_1817, by decide +kernel, by decide⟩
theorem crL_27 : CR 117 yX12_stoppage := ⟨by decide +kernel, 12, 101, TX12, by decide +kernel, rfl, wm_1815, wm_1816⟩
theorem cqL_28 : CQ "WeekBoatsLaw" 28 yX11_boat cX11_boat 5 (some .int) 4 := ⟨wm_729, wm_111, wm_732, by decide +kernel, by decide⟩
theorem crL_28 : CR 0 yX11_boat := ⟨by decide +kernel, 11, 12, TX11, by decide +kernel, rfl, wm_730, wm_731⟩
theorem cqL_32 : CQ "WeekBoatsLaw" 32 yX12_boat cX12_boat 5 (some .int) 4 := ⟨wm_1818, wm_124, wm_1821, by decide +kernel, by decide⟩
theorem crL_32 : CR 117 yX12_boat := ⟨by decide +kernel, 12, 101, TX12, by decide +kernel, rfl, wm_1819, wm_1820⟩
theorem cqL_33 : CQ "WeekBoatsLaw" 33 yX11_feed cX11_feed 6 (some .int) 5 := ⟨wm_743, wm_111, wm_746, by decide +kernel, by decide⟩
theorem crL_33 : CR 0 yX11_feed := ⟨by decide +kernel, 11, 12, TX11, by decide +kernel, rfl, wm_744, wm_745⟩
theorem cqL_37 : CQ "WeekBoatsLaw" 37 yX12_feed cX12_feed 8 (some .int) 5 := ⟨wm_1825, wm_124, wm_1828, by decide +kernel, by decide⟩
theorem crL_37 : CR 117 yX12_feed := ⟨by decide +kernel, 12, 101, TX12, by decide +kernel, rfl, wm_1826, wm_1827⟩
theorem cqL_38 : CQ "WeekBoatsLaw" 38 yX11_end cX11_end 2 (some .boolean) 1 := ⟨wm_751, wm_111, wm_754, by decide +kernel, by decide⟩
theorem crL_38 : CR 0 yX11_end := ⟨by decide +kernel, 11, 12, TX11, by decide +kernel, rfl, wm_752, wm_753⟩
theorem cqL_41 : CQ "WeekBoatsLaw" 41 yX12_end cX12_end 2 (some .boolean) 1 := ⟨wm_1829, wm_124, wm_1832, by decide +kernel, by decide⟩
theorem crL_41 : CR 117 yX12_end := ⟨by decide +kernel, 12, 101, TX12, by decide +kernel, rfl, wm_1830, wm_1831⟩
theorem cqL_42 : CQ "WeekBoatsLaw" 42 yX11_rules cX11_rules 2 (some .int) 0 := ⟨wm_755, wm_111, wm_758, by decide +kernel, by decide⟩
theorem crL_42 : CR 0 yX11_rules := ⟨by decide +kernel, 11, 12, TX11, by decide +kernel, rfl, wm_756, wm_757⟩
theorem cqL_46 : CQ "WeekBoatsLaw" 46 yX12_rules cX12_rules 2 (some .int) 0 := ⟨wm_1833, wm_124, wm_1836, by decide +kernel, by decide⟩
theorem crL_46 : CR 117 yX12_rules := ⟨by decide +kernel, 12, 101, TX12, by decide +kernel, rfl, wm_1834, wm_1835⟩
theorem cqL_47 : CQ "WeekBoatsLaw" 47 yX11_fault cX11_fault 2 (some .int) 1 := ⟨wm_991, wm_111, wm_994, by decide +kernel, by decide⟩
theorem crL_47 : CR 0 yX11_fault := ⟨by decide +kernel, 11, 12, TX11, by decide +kernel, rfl, wm_992, wm_993⟩
theorem cqL_51 : CQ "WeekBoatsLaw" 51 yX12_fault cX12_fault 2 (some .int) 1 := ⟨wm_1941, wm_124, wm_1944, by decide +kernel, by decide⟩
theorem crL_51 : CR 117 yX12_fault := ⟨by decide +kernel, 12, 101, TX12, by decide +kernel, rfl, wm_1942, wm_1943⟩
theorem cqL_52 : CQ "WeekBoatsLaw" 52 yX11_open cX11_open 3 (some .int) 2 := ⟨wm_995, wm_111, wm_998, by decide +kernel, by decide⟩
theorem crL_52 : CR 0 yX11_open := ⟨by decide +kernel, 11, 12, TX11, by decide +kernel, rfl, wm_996, wm_997⟩
theorem cqL_56 : CQ "WeekBoatsLaw" 56 yX12_open cX12_open 4 (some .int) 2 := ⟨wm_1945, wm_124, wm_1948, by decide +kernel, by decide⟩
theorem crL_56 : CR 117 yX12_open := ⟨by decide +kernel, 12, 101, TX12, by decide +kernel, rfl, wm_1946, wm_1947⟩
theorem cqL_57 : CQ "WeekBoatsLaw" 57 yX11_comes cX11_comes 5 (some .int) 4 := ⟨wm_999, wm_111, wm_1002, by decide +kernel, by decide⟩
theorem crL_57 : CR 0 yX11_comes := ⟨by decide +kernel, 11, 12, TX11, by decide +kernel, rfl, wm_1000, wm_1001⟩
theorem cqL_60 : CQ "WeekBoatsLaw" 60 yX12_comes cX12_comes 5 (some .int) 4 := ⟨wm_1968, wm_124, wm_1971, by decide +kernel, by decide⟩
theorem crL_60 : CR 117 yX12_comes := ⟨by decide +kernel, 12, 101, TX12, by decide +kernel, rfl, wm_1969, wm_1970⟩
theorem cqL_61 : CQ "WeekBoatsLaw" 61 yX11_maybe cX11_maybe 5 (some .int) 4 := ⟨wm_1053, wm_111, wm_1056, by decide +kernel, by decide⟩
theorem crL_61 : CR 0 yX11_maybe := ⟨by decide +kernel, 11, 12, TX11, by decide +kernel, rfl, wm_1054, wm_1055⟩
theorem cqL_64 : CQ "WeekBoatsLaw" 64 yX12_maybe cX12_maybe 8 (some .int) 4 := ⟨wm_2011, wm_124, wm_2014, by decide +kernel, by decide⟩
theorem crL_64 : CR 117 yX12_maybe := ⟨by decide +kernel, 12, 101, TX12, by decide +kernel, rfl, wm_2012, wm_2013⟩
theorem cqL_65 : CQ "WeekBoatsLaw" 65 yX11_harm cX11_harm 6 (some .int) 4 := ⟨wm_1065, wm_111, wm_1068, by decide +kernel, by decide⟩
theorem crL_65 : CR 0 yX11_harm := ⟨by decide +kernel, 11, 12, TX11, by decide +kernel, rfl, wm_1066, wm_1067⟩
theorem cqL_68 : CQ "WeekBoatsLaw" 68 yX12_harm cX12_harm 6 (some .int) 4 := ⟨wm_2003, wm_124, wm_2006, by decide +kernel, by decide⟩
theorem crL_68 : CR 117 yX12_harm := ⟨by decide +kernel, 12, 101, TX12, by decide +kernel, rfl, wm_2004, wm_2005⟩
theorem cqL_69 : CQ "WeekBoatsLaw" 69 yX11_back cX11_back 3 (some .int) 2 := ⟨wm_1085, wm_111, wm_1088, by decide +kernel, by decide⟩
theorem crL_69 : CR 0 yX11_back := ⟨by decide +kernel, 11, 12, TX11, by decide +kernel, rfl, wm_1086, wm_1087⟩
theorem cqL_72 : CQ "WeekBoatsLaw" 72 yX12_back cX12_back 3 (some .int) 2 := ⟨wm_2027, wm_124, wm_2030, by decide +kernel, by decide⟩
theorem crL_72 : CR 117 yX12_back := ⟨by decide +kernel, 12, 101, TX12, by decide +kernel, rfl, wm_2028, wm_2029⟩
theorem cqL_73 : CQ "WeekBoatsLaw" 73 yX11_rung cX11_rung 3 (some .int) 0 := ⟨wm_1123, wm_111, wm_1126, by decide +kernel, by decide⟩
theorem crL_73 : CR 0 yX11_rung := ⟨by decide +kernel, 11, 12, TX11, by decide +kernel, rfl, wm_1124, wm_1125⟩
theorem cqL_76 : CQ "WeekBoatsLaw" 76 yX12_rung cX12_rung 5 (some .int) 0 := ⟨wm_2045, wm_124, wm_2048, by decide +kernel, by decide⟩
theorem crL_76 : CR 117 yX12_rung := ⟨by decide +kernel, 12, 101, TX12, by decide +kernel, rfl, wm_2046, wm_2047⟩
theorem cqL_77 : CQ "WeekBoatsLaw" 77 yX11_pump cX11_pump 3 (some .boolean) 2 := ⟨wm_1128, wm_111, wm_1131, by decide +kernel, by decide⟩
theorem crL_77 : CR 0 yX11_pump := ⟨by decide +kernel, 11, 12, TX11, by decide +kernel, rfl, wm_1129, wm_1130⟩
theorem cqL_81 : CQ "WeekBoatsLaw" 81 yX12_pump cX12_pump 3 (some .boolean) 2 := ⟨wm_2049, wm_124, wm_2052, by decide +kernel, by decide⟩
theorem crL_81 : CR 117 yX12_pump := ⟨by decide +kernel, 12, 101, TX12, by decide +kernel, rfl, wm_2050, wm_2051⟩
theorem cqL_82 : CQ "WeekBoatsLaw" 82 yX11_pumped cX11_pumped 8 (some .int) 5 := ⟨wm_1136, wm_111, wm_1139, by decide +kernel, by decide⟩
theorem crL_82 : CR 0 yX11_pumped := ⟨by decide +kernel, 11, 12, TX11, by decide +kernel, rfl, wm_1137, wm_1138⟩
theorem cqL_85 : CQ "WeekBoatsLaw" 85 yX12_pumped cX12_pumped 10 (some .int) 5 := ⟨wm_2053, wm_124, wm_2056, by decide +kernel, by decide⟩
theorem crL_85 : CR 117 yX12_pumped := ⟨by decide +kernel, 12, 101, TX12, by decide +kernel, rfl, wm_2054, wm_2055⟩
theorem cqL_86 : CQ "WeekBoatsLaw" 86 yX11_enough cX11_enough 8 (some .int) 5 := ⟨wm_1144, wm_111, wm_1147, by decide +kernel, by decide⟩
theorem crL_86 : CR 0 yX11_enough := ⟨by decide +kernel, 11, 12, TX11, by decide +kernel, rfl, wm_1145, wm_1146⟩
theorem cqL_89 : CQ "WeekBoatsLaw" 89 yX12_enough cX12_enough 10 (some .int) 5 := ⟨wm_2007, wm_124, wm_2010, by decide +kernel, by decide⟩
theorem crL_89 : CR 117 yX12_enough := ⟨by decide +kernel, 12, 101, TX12, by decide +kernel, rfl, wm_2008, wm_2009⟩
theorem cqL_90 : CQ "WeekBoatsLaw" 90 yX11_trip cX11_trip 6 (some .int) 5 := ⟨wm_1148, wm_111, wm_1151, by decide +kernel, by decide⟩
theorem crL_90 : CR 0 yX11_trip := ⟨by decide +kernel, 11, 12, TX11, by decide +kernel, rfl, wm_1149, wm_1150⟩
theorem cqL_93 : CQ "WeekBoatsLaw" 93 yX12_trip cX12_trip 6 (some .int) 5 := ⟨wm_2015, wm_124, wm_2018, by decide +kernel, by decide⟩
theorem crL_93 : CR 117 yX12_trip := ⟨by decide +kernel, 12, 101, TX12, by decide +kernel, rfl, wm_2016, wm_2017⟩
theorem cqL_94 : CQ "WeekBoatsLaw" 94 yX11_late cX11_late 2 (some .int) 1 := ⟨wm_1156, wm_111, wm_1159, by decide +kernel, by decide⟩
theorem crL_94 : CR 0 yX11_late := ⟨by decide +kernel, 11, 12, TX11, by decide +kernel, rfl, wm_1157, wm_1158⟩
theorem cqL_97 : CQ "WeekBoatsLaw" 97 yX12_late cX12_late 4 (some .int) 1 := ⟨wm_2019, wm_124, wm_2022, by decide +kernel, by decide⟩
theorem crL_97 : CR 117 yX12_late := ⟨by decide +kernel, 12, 101, TX12, by decide +kernel, rfl, wm_2020, wm_2021⟩
theorem cqL_98 : CQ "WeekBoatsLaw" 98 yX11_log cX11_log 4 (some .int) 3 := ⟨wm_1164, wm_111, wm_1167, by decide +kernel, by decide⟩
theorem crL_98 : CR 0 yX11_log := ⟨by decide +kernel, 11, 12, TX11, by decide +kernel, rfl, wm_1165, wm_1166⟩
theorem cqL_101 : CQ "WeekBoatsLaw" 101 yX12_log cX12_log 4 (some .int) 3 := ⟨wm_2057, wm_124, wm_2060, by decide +kernel, by decide⟩
theorem crL_101 : CR 117 yX12_log := ⟨by decide +kernel, 12, 101, TX12, by decide +kernel, rfl, wm_2058, wm_2059⟩
theorem cqL_102 : CQ "WeekBoatsLaw" 102 yX11_could cX11_could 5 (some .int) 4 := ⟨wm_1172, wm_111, wm_1175, by decide +kernel, by decide⟩
theorem crL_102 : CR 0 yX11_could := ⟨by decide +kernel, 11, 12, TX11, by decide +kernel, rfl, wm_1173, wm_1174⟩
theorem cqL_105 : CQ "WeekBoatsLaw" 105 yX12_could cX12_could 5 (some .int) 4 := ⟨wm_2061, wm_124, wm_2064, by decide +kernel, by decide⟩
theorem crL_105 : CR 117 yX12_could := ⟨by decide +kernel, 12, 101, TX12, by decide +kernel, rfl, wm_2062, wm_2063⟩
theorem cqL_106 : CQ "WeekBoatsLaw" 106 yX11_whose cX11_whose 8 (some .int) 4 := ⟨wm_1193, wm_111, wm_1196, by decide +kernel, by decide⟩
theorem crL_106 : CR 0 yX11_whose := ⟨by decide +kernel, 11, 12, TX11, by decide +kernel, rfl, wm_1194, wm_1195⟩
theorem cqL_109 : CQ "WeekBoatsLaw" 109 yX12_whose cX12_whose 9 (some .int) 4 := ⟨wm_2076, wm_124, wm_2079, by decide +kernel, by decide⟩
theorem crL_109 : CR 117 yX12_whose := ⟨by decide +kernel, 12, 101, TX12, by decide +kernel, rfl, wm_2077, wm_2078⟩
theorem cqL_110 : CQ "WeekBoatsLaw" 110 yX11_tonight cX11_tonight 4 (some .int) 2 := ⟨wm_1203, wm_111, wm_1206, by decide +kernel, by decide⟩
theorem crL_110 : CR 0 yX11_tonight := ⟨by decide +kernel, 11, 12, TX11, by decide +kernel, rfl, wm_1204, wm_1205⟩
theorem cqL_113 : CQ "WeekBoatsLaw" 113 yX12_tonight cX12_tonight 11 (some .int) 2 := ⟨wm_2080, wm_124, wm_2083, by decide +kernel, by decide⟩
theorem crL_113 : CR 117 yX12_tonight := ⟨by decide +kernel, 12, 101, TX12, by decide +kernel, rfl, wm_2081, wm_2082⟩
theorem cqL_114 : CQ "WeekBoatsLaw" 114 yX11_queue cX11_queue 3 (some .int) 2 := ⟨wm_1223, wm_111, wm_1226, by decide +kernel, by decide⟩
theorem crL_114 : CR 0 yX11_queue := ⟨by decide +kernel, 11, 12, TX11, by decide +kernel, rfl, wm_1224, wm_1225⟩
theorem cqL_117 : CQ "WeekBoatsLaw" 117 yX12_queue cX12_queue 3 (some .int) 2 := ⟨wm_2084, wm_124, wm_2087, by decide +kernel, by decide⟩
theorem crL_117 : CR 117 yX12_queue := ⟨by decide +kernel, 12, 101, TX12, by decide +kernel, rfl, wm_2085, wm_2086⟩
theorem cqL_118 : CQ "WeekBoatsLaw" 118 yX11_lock cX11_lock 2 (some .int) 1 := ⟨wm_1252, wm_111, wm_1255, by decide +kernel, by decide⟩
theorem crL_118 : CR 0 yX11_lock := ⟨by decide +kernel, 11, 12, TX11, by decide +kernel, rfl, wm_1253, wm_1254⟩
theorem cqL_121 : CQ "WeekBoatsLaw" 121 yX12_lock cX12_lock 3 (some .int) 1 := ⟨wm_2088, wm_124, wm_2091, by decide +kernel, by decide⟩
theorem crL_121 : CR 117 yX12_lock := ⟨by decide +kernel, 12, 101, TX12, by decide +kernel, rfl, wm_2089, wm_2090⟩
theorem cqL_122 : CQ "WeekBoatsLaw" 122 yX11_booking cX11_booking 5 (some .int) 4 := ⟨wm_1269, wm_111, wm_1272, by decide +kernel, by decide⟩
theorem crL_122 : CR 0 yX11_booking := ⟨by decide +kernel, 11, 12, TX11, by decide +kernel, rfl, wm_1270, wm_1271⟩
theorem cqL_125 : CQ "WeekBoatsLaw" 125 yX12_booking cX12_booking 5 (some .int) 4 := ⟨wm_2108, wm_124, wm_2111, by decide +kernel, by decide⟩
theorem crL_125 : CR 117 yX12_booking := ⟨by decide +kernel, 12, 101, TX12, by decide +kernel, rfl, wm_2109, wm_2110⟩
theorem cqL_126 : CQ "WeekBoatsLaw" 126 yX11_given cX11_given 3 (some .int) 2 := ⟨wm_1284, wm_111, wm_1287, by decide +kernel, by decide⟩
theorem crL_126 : CR 0 yX11_given := ⟨by decide +kernel, 11, 12, TX11, by decide +kernel, rfl, wm_1285, wm_1286⟩
theorem cqL_129 : CQ "WeekBoatsLaw" 129 yX12_given cX12_given 3 (some .int) 2 := ⟨wm_2112, wm_124, wm_2115, by decide +kernel, by decide⟩
theorem crL_129 : CR 117 yX12_given := ⟨by decide +kernel, 12, 101, TX12, by decide +kernel, rfl, wm_2113, wm_2114⟩
theorem cqL_130 : CQ "WeekBoatsLaw" 130 yX11_more cX11_more 5 (some .int) 3 := ⟨wm_1321, wm_111, wm_1324, by decide +kernel, by decide⟩
theorem crL_130 : CR 0 yX11_more := ⟨by decide +kernel, 11, 12, TX11, by decide +kernel, rfl, wm_1322, wm_1323⟩
theorem cqL_133 : CQ "WeekBoatsLaw" 133 yX12_more cX12_more 5 (some .int) 3 := ⟨wm_2132, wm_124, wm_2135, by decide +kernel, by decide⟩
theorem crL_133 : CR 117 yX12_more := ⟨by decide +kernel, 12, 101, TX12, by decide +kernel, rfl, wm_2133, wm_2134⟩
theorem cqL_134 : CQ "WeekBoatsLaw" 134 yX11_gas cX11_gas 4 (some .boolean) 3 := ⟨wm_1325, wm_111, wm_1328, by decide +kernel, by decide⟩
theorem crL_134 : CR 0 yX11_gas := ⟨by decide +kernel, 11, 12, TX11, by decide +kernel, rfl, wm_1326, wm_1327⟩
theorem cqL_138 : CQ "WeekBoatsLaw" 138 yX12_gas cX12_gas 6 (some .boolean) 3 := ⟨wm_2136, wm_124, wm_2139, by decide +kernel, by decide⟩
theorem crL_138 : CR 117 yX12_gas := ⟨by decide +kernel, 12, 101, TX12, by decide +kernel, rfl, wm_2137, wm_2138⟩
theorem cqL_139 : CQ "WeekBoatsLaw" 139 yX11_dock cX11_dock 2 (some .int) 1 := ⟨wm_1337, wm_111, wm_1340, by decide +kernel, by decide⟩
theorem crL_139 : CR 0 yX11_dock := ⟨by decide +kernel, 11, 12, TX11, by decide +kernel, rfl, wm_1338, wm_1339⟩
theorem cqL_142 : CQ "WeekBoatsLaw" 142 yX12_dock cX12_dock 3 (some .int) 1 := ⟨wm_2140, wm_124, wm_2143, by decide +kernel, by decide⟩
theorem crL_142 : CR 117 yX12_dock := ⟨by decide +kernel, 12, 101, TX12, by decide +kernel, rfl, wm_2141, wm_2142⟩
theorem cqL_143 : CQ "WeekBoatsLaw" 143 yX11_job cX11_job 2 (some .int) 1 := ⟨wm_1358, wm_111, wm_1361, by decide +kernel, by decide⟩
theorem crL_143 : CR 0 yX11_job := ⟨by decide +kernel, 11, 12, TX11, by decide +kernel, rfl, wm_1359, wm_1360⟩
theorem cqL_146 : CQ "WeekBoatsLaw" 146 yX12_job cX12_job 2 (some .int) 1 := ⟨wm_2148, wm_124, wm_2151, by decide +kernel, by decide⟩
theorem crL_146 : CR 117 yX12_job := ⟨by decide +kernel, 12, 101, TX12, by decide +kernel, rfl, wm_2149, wm_2150⟩
theorem cqL_147 : CQ "WeekBoatsLaw" 147 yX11_turned cX11_turned 3 (some .int) 2 := ⟨wm_1366, wm_111, wm_1369, by decide +kernel, by decide⟩
theorem crL_147 : CR 0 yX11_turned := ⟨by decide +kernel, 11, 12, TX11, by decide +kernel, rfl, wm_1367, wm_1368⟩
theorem cqL_150 : CQ "WeekBoatsLaw" 150 yX12_turned cX12_turned 9 (some .int) 2 := ⟨wm_2152, wm_124, wm_2155, by decide +kernel, by decide⟩
theorem crL_150 : CR 117 yX12_turned := ⟨by decide +kernel, 12, 101, TX12, by decide +kernel, rfl, wm_2153, wm_2154⟩
theorem cqL_151 : CQ "WeekBoatsLaw" 151 yX11_weight cX11_weight 3 (some .boolean) 2 := ⟨wm_1384, wm_111, wm_1387, by decide +kernel, by decide⟩
theorem crL_151 : CR 0 yX11_weight := ⟨by decide +kernel, 11, 12, TX11, by decide +kernel, rfl, wm_1385, wm_1386⟩
theorem cqL_155 : CQ "WeekBoatsLaw" 155 yX12_weight cX12_weight 3 (some .boolean) 2 := ⟨wm_2168, wm_124, wm_2171, by decide +kernel, by decide⟩
theorem crL_155 : CR 117 yX12_weight := ⟨by decide +kernel, 12, 101, TX12, by decide +kernel, rfl, wm_2169, wm_2170⟩
theorem cqL_156 : CQ "WeekBoatsLaw" 156 yX11_van cX11_van 3 (some .int) 1 := ⟨wm_1388, wm_111, wm_1391, by decide +kernel, by decide⟩
theorem crL_156 : CR 0 yX11_van := ⟨by decide +kernel, 11, 12, TX11, by decide +kernel, rfl, wm_1389, wm_1390⟩
theorem cqL_159 : CQ "WeekBoatsLaw" 159 yX12_van cX12_van 4 (some .int) 1 := ⟨wm_2172, wm_124, wm_2175, by decide +kernel, by decide⟩
theorem crL_159 : CR 117 yX12_van := ⟨by decide +kernel, 12, 101, TX12, by decide +kernel, rfl, wm_2173, wm_2174⟩
theorem cqL_160 : CQ "WeekBoatsLaw" 160 yX11_vans cX11_vans 2 (some .int) 1 := ⟨wm_1416, wm_111, wm_1419, by decide +kernel, by decide⟩
theorem crL_160 : CR 0 yX11_vans := ⟨by decide +kernel, 11, 12, TX11, by decide +kernel, rfl, wm_1417, wm_1418⟩
theorem cqL_163 : CQ "WeekBoatsLaw" 163 yX12_vans cX12_vans 8 (some .int) 1 := ⟨wm_2188, wm_124, wm_2191, by decide +kernel, by decide⟩
theorem crL_163 : CR 117 yX12_vans := ⟨by decide +kernel, 12, 101, TX12, by decide +kernel, rfl, wm_2189, wm_2190⟩
theorem cqL_164 : CQ "WeekBoatsLaw" 164 yX11_call cX11_call 4 (some .int) 3 := ⟨wm_1424, wm_111, wm_1427, by decide +kernel, by decide⟩
theorem crL_164 : CR 0 yX11_call := ⟨by decide +kernel, 11, 12, TX11, by decide +kernel, rfl, wm_1425, wm_1426⟩
theorem cqL_167 : CQ "WeekBoatsLaw" 167 yX12_call cX12_call 4 (some .int) 3 := ⟨wm_2196, wm_124, wm_2199, by decide +kernel, by decide⟩
theorem crL_167 : CR 117 yX12_call := ⟨by decide +kernel, 12, 101, TX12, by decide +kernel, rfl, wm_2197, wm_2198⟩
theorem cqL_168 : CQ "WeekBoatsLaw" 168 yX11_taken cX11_taken 4 (some .int) 3 := ⟨wm_1432, wm_111, wm_1435, by decide +kernel, by decide⟩
theorem crL_168 : CR 0 yX11_taken := ⟨by decide +kernel, 11, 12, TX11, by decide +kernel, rfl, wm_1433, wm_1434⟩
theorem cqL_171 : CQ "WeekBoatsLaw" 171 yX12_taken cX12_taken 10 (some .int) 3 := ⟨wm_2200, wm_124, wm_2203, by decide +kernel, by decide⟩
theorem crL_171 : CR 117 yX12_taken := ⟨by decide +kernel, 12, 101, TX12, by decide +kernel, rfl, wm_2201, wm_2202⟩
theorem cqL_172 : CQ "WeekBoatsLaw" 172 yX11_left cX11_left 7 (some .int) 5 := ⟨wm_1450, wm_111, wm_1453, by decide +kernel, by decide⟩
theorem crL_172 : CR 0 yX11_left := ⟨by decide +kernel, 11, 12, TX11, by decide +kernel, rfl, wm_1451, wm_1452⟩
theorem cqL_175 : CQ "WeekBoatsLaw" 175 yX12_left cX12_left 7 (some .int) 5 := ⟨wm_2208, wm_124, wm_2211, by decide +kernel, by decide⟩
theorem crL_175 : CR 117 yX12_left := ⟨by decide +kernel, 12, 101, TX12, by decide +kernel, rfl, wm_2209, wm_2210⟩
theorem cqL_176 : CQ "WeekBoatsLaw" 176 yX11_shuts cX11_shuts 6 (some .int) 4 := ⟨wm_1469, wm_111, wm_1472, by decide +kernel, by decide⟩
theorem crL_176 : CR 0 yX11_shuts := ⟨by decide +kernel, 11, 12, TX11, by decide +kernel, rfl, wm_1470, wm_1471⟩
theorem cqL_179 : CQ "WeekBoatsLaw" 179 yX12_shuts cX12_shuts 6 (some .int) 4 := ⟨wm_2233, wm_124, wm_2236, by decide +kernel, by decide⟩
theorem crL_179 : CR 117 yX12_shuts := ⟨by decide +kernel, 12, 101, TX12, by decide +kernel, rfl, wm_2234, wm_2235⟩
theorem cqL_180 : CQ "WeekBoatsLaw" 180 yX11_price cX11_price 5 (some .int) 3 := ⟨wm_1474, wm_111, wm_1477, by decide +kernel, by decide⟩
theorem crL_180 : CR 0 yX11_price := ⟨by decide +kernel, 11, 12, TX11, by decide +kernel, rfl, wm_1475, wm_1476⟩
theorem cqL_184 : CQ "WeekBoatsLaw" 184 yX12_price cX12_price 5 (some .int) 3 := ⟨wm_2238, wm_124, wm_2043, by decide +kernel, by decide⟩
theorem crL_184 : CR 117 yX12_price := ⟨by decide +kernel, 12, 101, TX12, by decide +kernel, rfl, wm_2041, wm_2042⟩
theorem cqL_185 : CQ "WeekBoatsLaw" 185 yX11_held cX11_held 6 (some .int) 4 := ⟨wm_1480, wm_111, wm_1483, by decide +kernel, by decide⟩
theorem crL_185 : CR 0 yX11_held := ⟨by decide +kernel, 11, 12, TX11, by decide +kernel, rfl, wm_1481, wm_1482⟩
theorem cqL_188 : CQ "WeekBoatsLaw" 188 yX12_held cX12_held 6 (some .int) 4 := ⟨wm_2239, wm_124, wm_2242, by decide +kernel, by decide⟩
theorem crL_188 : CR 117 yX12_held := ⟨by decide +kernel, 12, 101, TX12, by decide +kernel, rfl, wm_2240, wm_2241⟩
theorem cqL_189 : CQ "WeekBoatsLaw" 189 yX11_look cX11_look 2 (some .int) 1 := ⟨wm_1488, wm_111, wm_1491, by decide +kernel, by decide⟩
theorem crL_189 : CR 0 yX11_look := ⟨by decide +kernel, 11, 12, TX11, by decide +kernel, rfl, wm_1489, wm_1490⟩
theorem cqL_192 : CQ "WeekBoatsLaw" 192 yX12_look cX12_look 2 (some .int) 1 := ⟨wm_2243, wm_124, wm_2246, by decide +kernel, by decide⟩
theorem crL_192 : CR 117 yX12_look := ⟨by decide +kernel, 12, 101, TX12, by decide +kernel, rfl, wm_2244, wm_2245⟩
def Sim_stretch (Inv0 Inv : AG → Prop) : Prop := ∀ (x1 x2 x3 x4 : Int) (g : AG), I32 x1 → I32 x2 → I32 x3 → I32 x4 → Inv0 g → ∃ (r1 : Int × AG) (r2 : Int × AG), X_stretch x1 x2 x3 x4 g = some r1 ∧ M_stretch x1 x2 x3 x4 r1.2 = some r2 ∧ nw (r1.1) = nw (r2.1) ∧ Inv (r2.2)
def Sim_water (Inv0 Inv : AG → Prop) : Prop := ∀ (x1 : Int) (g : AG), I32 x1 → Inv0 g → ∃ (r1 : Int × AG) (r2 : Int × AG), X_water x1 g = some r1 ∧ M_water x1 r1.2 = some r2 ∧ nw (r1.1) = nw (r2.1) ∧ Inv (r2.2)
def Sim_stoppage (Inv0 Inv : AG → Prop) : Prop := ∀ (x1 x2 x3 : Int) (g : AG), I32 x1 → I32 x2 → I32 x3 → Inv0 g → ∃ (r1 : Int × AG) (r2 : Int × AG), X_stoppage x1 x2 x3 g = some r1 ∧ M_stoppage x1 x2 x3 r1.2 = some r2 ∧ nw (r1.1) = nw (r2.1) ∧ Inv (r2.2)
def Sim_boat (Inv0 Inv : AG → Prop) : Prop := ∀ (x1 x2 x3 x4 : Int) (g : AG), I32 x1 → I32 x2 → I32 x3 → I32 x4 → Inv0 g → ∃ (r1 : Int × AG) (r2 : Int × AG), X_boat x1 x2 x3 x4 g = some r1 ∧ M_boat x1 x2 x3 x4 r1.2 = some r2 ∧ nw (r1.1) = nw (r2.1) ∧ Inv (r2.2)
def Sim_feed (Inv0 Inv : AG → Prop) : Prop := ∀ (x1 x2 x3 x4 x5 : Int) (g : AG), I32 x1 → I32 x2 → I32 x3 → I32 x4 → I32 x5 → Inv0 g → ∃ (r1 : Int × AG) (r2 : Int × AG), X_feed x1 x2 x3 x4 x5 g = some r1 ∧ M_feed x1 x2 x3 x4 x5 r1.2 = some r2 ∧ nw (r1.1) = nw (r2.1) ∧ Inv (r2.2)
def Sim_end (Inv0 Inv : AG → Prop) : Prop := ∀ (x1 : Int) (g : AG), I32 x1 → Inv0 g → ∃ (r1 : Int × AG) (r2 : Int × AG), X_end x1 g = some r1 ∧ M_end x1 r1.2 = some r2 ∧ nw (r1.1) = nw (r2.1) ∧ Inv (r2.2)
def Sim_rules (Inv0 Inv : AG → Prop) : Prop := ∀ (g : AG), Inv0 g → ∃ (r1 : Int × AG) (r2 : Int × AG), X_rules g = some r1 ∧ M_rules r1.2 = some r2 ∧ nw (r1.1) = nw (r2.1) ∧ Inv (r2.2)
def Sim_fault (Inv0 Inv : AG → Prop) : Prop := ∀ (x1 : Int) (g : AG), I32 x1 → Inv0 g → nw (X_fault x1 g) = nw (M_fault x1 g) ∧ Inv g
def Sim_open (Inv0 Inv : AG → Prop) : Prop := ∀ (x1 x2 : Int) (g : AG), I32 x1 → I32 x2 → Inv0 g → ∃ (v1 : Int) (r2 : Int × AG), X_open x1 x2 g = some v1 ∧ M_open x1 x2 g = some r2 ∧ nw (v1) = nw (r2.1) ∧ Inv (r2.2)
def Sim_comes (Inv0 Inv : AG → Prop) : Prop := ∀ (x1 x2 x3 x4 : Int) (g : AG), I32 x1 → I32 x2 → I32 x3 → I32 x4 → Inv0 g → ∃ (r1 : Int × AG) (r2 : Int × AG), X_comes x1 x2 x3 x4 g = some r1 ∧ M_comes x1 x2 x3 x4 r1.2 = some r2 ∧ nw (r1.1) = nw (r2.1) ∧ Inv (r2.2)
def Sim_maybe (Inv0 Inv : AG → Prop) : Prop := ∀ (x1 x2 x3 x4 : Int) (g : AG), I32 x1 → I32 x2 → I32 x3 → I32 x4 → Inv0 g → ∃ (r1 : Int × AG) (r2 : Int × AG), X_maybe x1 x2 x3 x4 g = some r1 ∧ M_maybe x1 x2 x3 x4 r1.2 = some r2 ∧ nw (r1.1) = nw (r2.1) ∧ Inv (r2.2)
def Sim_harm (Inv0 Inv : AG → Prop) : Prop := ∀ (x1 x2 x3 x4 : Int) (g : AG), I32 x1 → I32 x2 → I32 x3 → I32 x4 → Inv0 g → ∃ (r1 : Int × AG) (r2 : Int × AG), X_harm x1 x2 x3 x4 g = some r1 ∧ M_harm x1 x2 x3 x4 r1.2 = some r2 ∧ nw (r1.1) = nw (r2.1) ∧ Inv (r2.2)
def Sim_back (Inv0 Inv : AG → Prop) : Prop := ∀ (x1 x2 : Int) (g : AG), I32 x1 → I32 x2 → Inv0 g → ∃ (r1 : Int × AG) (r2 : Int × AG), X_back x1 x2 g = some r1 ∧ M_back x1 x2 r1.2 = some r2 ∧ nw (r1.1) = nw (r2.1) ∧ Inv (r2.2)
def Sim_rung (Inv0 Inv : AG → Prop) : Prop := ∀ (g : AG), Inv0 g → ∃ (r1 : Int × AG) (r2 : Int × AG), X_rung g = some r1 ∧ M_rung r1.2 = some r2 ∧ nw (r1.1) = nw (r2.1) ∧ Inv (r2.2)
def Sim_pump (Inv0 Inv : AG → Prop) : Prop := ∀ (x1 x2 : Int) (g : AG), I32 x1 → (x2 = 0 ∨ x2 = 1) → Inv0 g → ∃ (r1 : Int × AG) (r2 : Int × AG), X_pump x1 x2 g = some r1 ∧ M_pump x1 x2 r1.2 = some r2 ∧ nw (r1.1) = nw (r2.1) ∧ Inv (r2.2)
def Sim_pumped (Inv0 Inv : AG → Prop) : Prop := ∀ (x1 x2 x3 x4 x5 : Int) (g : AG), I32 x1 → I32 x2 → I32 x3 → I32 x4 → I32 x5 → Inv0 g → ∃ (r1 : Int × AG) (r2 : Int × AG), X_pumped x1 x2 x3 x4 x5 g = some r1 ∧ M_pumped x1 x2 x3 x4 x5 r1.2 = some r2 ∧ nw (r1.1) = nw (r2.1) ∧ Inv (r2.2)
def Sim_enough (Inv0 Inv : AG → Prop) : Prop := ∀ (x1 x2 x3 x4 x5 : Int) (g : AG), I32 x1 → I32 x2 → I32 x3 → I32 x4 → I32 x5 → Inv0 g → ∃ (r1 : Int × AG) (r2 : Int × AG), X_enough x1 x2 x3 x4 x5 g = some r1 ∧ M_enough x1 x2 x3 x4 x5 r1.2 = some r2 ∧ nw (r1.1) = nw (r2.1) ∧ Inv (r2.2)
def Sim_trip (Inv0 Inv : AG → Prop) : Prop := ∀ (x1 x2 x3 x4 x5 : Int) (g : AG), I32 x1 → I32 x2 → I32 x3 → I32 x4 → I32 x5 → Inv0 g → ∃ (r1 : Int × AG) (r2 : Int × AG), X_trip x1 x2 x3 x4 x5 g = some r1 ∧ M_trip x1 x2 x3 x4 x5 r1.2 = some r2 ∧ nw (r1.1) = nw (r2.1) ∧ Inv (r2.2)
def Sim_late (Inv0 Inv : AG → Prop) : Prop := ∀ (x1 : Int) (g : AG), I32 x1 → Inv0 g → ∃ (r1 : Int × AG) (r2 : Int × AG), X_late x1 g = some r1 ∧ M_late x1 r1.2 = some r2 ∧ nw (r1.1) = nw (r2.1) ∧ Inv (r2.2)
def Sim_log (Inv0 Inv : AG → Prop) : Prop := ∀ (x1 x2 x3 : Int) (g : AG), I32 x1 → I32 x2 → I32 x3 → Inv0 g → ∃ (r1 : Int × AG) (r2 : Int × AG), X_log x1 x2 x3 g = some r1 ∧ M_log x1 x2 x3 r1.2 = some r2 ∧ nw (r1.1) = nw (r2.1) ∧ Inv (r2.2)
def Sim_could (Inv0 Inv : AG → Prop) : Prop := ∀ (x1 x2 x3 x4 : Int) (g : AG), I32 x1 → I32 x2 → I32 x3 → I32 x4 → Inv0 g → ∃ (r1 : Int × AG) (r2 : Int × AG), X_could x1 x2 x3 x4 g = some r1 ∧ M_could x1 x2 x3 x4 r1.2 = some r2 ∧ nw (r1.1) = nw (r2.1) ∧ Inv (r2.2)
def Sim_whose (Inv0 Inv : AG → Prop) : Prop := ∀ (x1 x2 x3 x4 : Int) (g : AG), I32 x1 → I32 x2 → I32 x3 → I32 x4 → Inv0 g → ∃ (r1 : Int × AG) (r2 : Int × AG), X_whose x1 x2 x3 x4 g = some r1 ∧ M_whose x1 x2 x3 x4 r1.2 = some r2 ∧ nw (r1.1) = nw (r2.1) ∧ Inv (r2.2)
def Sim_tonight (Inv0 Inv : AG → Prop) : Prop := ∀ (x1 x2 : Int) (g : AG), I32 x1 → I32 x2 → Inv0 g → ∃ (r1 : Int × AG) (r2 : Int × AG), X_tonight x1 x2 g = some r1 ∧ M_tonight x1 x2 r1.2 = some r2 ∧ nw (r1.1) = nw (r2.1) ∧ Inv (r2.2)
def Sim_queue (Inv0 Inv : AG → Prop) : Prop := ∀ (x1 x2 : Int) (g : AG), I32 x1 → I32 x2 → Inv0 g → ∃ (r1 : Int × AG) (r2 : Int × AG), X_queue x1 x2 g = some r1 ∧ M_queue x1 x2 r1.2 = some r2 ∧ nw (r1.1) = nw (r2.1) ∧ Inv (r2.2)
def Sim_lock (Inv0 Inv : AG → Prop) : Prop := ∀ (x1 : Int) (g : AG), I32 x1 → Inv0 g → ∃ (v1 : Int) (r2 : Int × AG), X_lock x1 g = some v1 ∧ M_lock x1 g = some r2 ∧ nw (v1) = nw (r2.1) ∧ Inv (r2.2)
def Sim_booking (Inv0 Inv : AG → Prop) : Prop := ∀ (x1 x2 x3 x4 : Int) (g : AG), I32 x1 → I32 x2 → I32 x3 → I32 x4 → Inv0 g → ∃ (r1 : Int × AG) (r2 : Int × AG), X_booking x1 x2 x3 x4 g = some r1 ∧ M_booking x1 x2 x3 x4 r1.2 = some r2 ∧ nw (r1.1) = nw (r2.1) ∧ Inv (r2.2)
def Sim_given (Inv0 Inv : AG → Prop) : Prop := ∀ (x1 x2 : Int) (g : AG), I32 x1 → I32 x2 → Inv0 g → ∃ (r1 : Int × AG) (r2 : Int × AG), X_given x1 x2 g = some r1 ∧ M_given x1 x2 r1.2 = some r2 ∧ nw (r1.1) = nw (r2.1) ∧ Inv (r2.2)
def Sim_more (Inv0 Inv : AG → Prop) : Prop := ∀ (x1 x2 x3 : Int) (g : AG), I32 x1 → I32 x2 → I32 x3 → Inv0 g → ∃ (r1 : Int × AG) (r2 : Int × AG), X_more x1 x2 x3 g = some r1 ∧ M_more x1 x2 x3 r1.2 = some r2 ∧ nw (r1.1) = nw (r2.1) ∧ Inv (r2.2)
def Sim_gas (Inv0 Inv : AG → Prop) : Prop := ∀ (x1 x2 x3 : Int) (g : AG), I32 x1 → I32 x2 → I32 x3 → Inv0 g → ∃ (r1 : Int × AG) (r2 : Int × AG), X_gas x1 x2 x3 g = some r1 ∧ M_gas x1 x2 x3 r1.2 = some r2 ∧ Inv (r2.2)
def Sim_dock (Inv0 Inv : AG → Prop) : Prop := ∀ (x1 : Int) (g : AG), I32 x1 → Inv0 g → ∃ (r1 : Int × AG) (r2 : Int × AG), X_dock x1 g = some r1 ∧ M_dock x1 r1.2 = some r2 ∧ nw (r1.1) = nw (r2.1) ∧ Inv (r2.2)
def Sim_job (Inv0 Inv : AG → Prop) : Prop := ∀ (x1 : Int) (g : AG), I32 x1 → Inv0 g → ∃ (r1 : Int × AG) (r2 : Int × AG), X_job x1 g = some r1 ∧ M_job x1 r1.2 = some r2 ∧ nw (r1.1) = nw (r2.1) ∧ Inv (r2.2)
def Sim_turned (Inv0 Inv : AG → Prop) : Prop := ∀ (x1 x2 : Int) (g : AG), I32 x1 → I32 x2 → Inv0 g → ∃ (r1 : Int × AG) (r2 : Int × AG), X_turned x1 x2 g = some r1 ∧ M_turned x1 x2 r1.2 = some r2 ∧ nw (r1.1) = nw (r2.1) ∧ Inv (r2.2)
def Sim_weight (Inv0 Inv : AG → Prop) : Prop := ∀ (x1 x2 : Int) (g : AG), I32 x1 → I32 x2 → Inv0 g → ∃ (r1 : Int × AG) (r2 : Int × AG), X_weight x1 x2 g = some r1 ∧ M_weight x1 x2 r1.2 = some r2 ∧ nw (r1.1) = nw (r2.1) ∧ Inv (r2.2)
def Sim_van (Inv0 Inv : AG → Prop) : Prop := ∀ (x1 : Int) (g : AG), I32 x1 → Inv0 g → ∃ (r1 : Int × AG) (v2 : Int), X_van x1 g = some r1 ∧ M_van x1 r1.2 = some v2 ∧ nw (r1.1) = nw (v2) ∧ Inv (r1.2)
def Sim_vans (Inv0 Inv : AG → Prop) : Prop := ∀ (x1 : Int) (g : AG), I32 x1 → Inv0 g → ∃ (r1 : Int × AG) (v2 : Int), X_vans x1 g = some r1 ∧ M_vans x1 r1.2 = some v2 ∧ nw (r1.1) = nw (v2) ∧ Inv (r1.2)
def Sim_call (Inv0 Inv : AG → Prop) : Prop := ∀ (x1 x2 x3 : Int) (g : AG), I32 x1 → I32 x2 → I32 x3 → Inv0 g → ∃ (r1 : Int × AG) (r2 : Int × AG), X_call x1 x2 x3 g = some r1 ∧ M_call x1 x2 x3 r1.2 = some r2 ∧ nw (r1.1) = nw (r2.1) ∧ Inv (r2.2)
def Sim_taken (Inv0 Inv : AG → Prop) : Prop := ∀ (x1 x2 x3 : Int) (g : AG), I32 x1 → I32 x2 → I32 x3 → Inv0 g → ∃ (r1 : Int × AG) (r2 : Int × AG), X_taken x1 x2 x3 g = some r1 ∧ M_taken x1 x2 x3 r1.2 = some r2 ∧ nw (r1.1) = nw (r2.1) ∧ Inv (r2.2)
def Sim_left (Inv0 Inv : AG → Prop) : Prop := ∀ (x1 x2 x3 x4 x5 : Int) (g : AG), I32 x1 → I32 x2 → I32 x3 → I32 x4 → I32 x5 → Inv0 g → ∃ (r1 : Int × AG) (r2 : Int × AG), X_left x1 x2 x3 x4 x5 g = some r1 ∧ M_left x1 x2 x3 x4 x5 r1.2 = some r2 ∧ nw (r1.1) = nw (r2.1) ∧ Inv (r2.2)
def Sim_shuts (Inv0 Inv : AG → Prop) : Prop := ∀ (x1 x2 x3 x4 : Int) (g : AG), I32 x1 → I32 x2 → I32 x3 → I32 x4 → Inv0 g → ∃ (r1 : Int × AG) (r2 : Int × AG), X_shuts x1 x2 x3 x4 g = some r1 ∧ M_shuts x1 x2 x3 x4 r1.2 = some r2 ∧ nw (r1.1) = nw (r2.1) ∧ Inv (r2.2)
def Sim_price (Inv0 Inv : AG → Prop) : Prop := ∀ (x1 x2 x3 : Int) (g : AG), I32 x1 → I32 x2 → (x3 = 0 ∨ x3 = 1) → Inv0 g → ∃ (r1 : Int × AG) (r2 : Int × AG), X_price x1 x2 x3 g = some r1 ∧ M_price x1 x2 x3 r1.2 = some r2 ∧ nw (r1.1) = nw (r2.1) ∧ Inv (r2.2)
def Sim_held (Inv0 Inv : AG → Prop) : Prop := ∀ (x1 x2 x3 x4 : Int) (g : AG), I32 x1 → I32 x2 → I32 x3 → I32 x4 → Inv0 g → ∃ (r1 : Int × AG) (r2 : Int × AG), X_held x1 x2 x3 x4 g = some r1 ∧ M_held x1 x2 x3 x4 r1.2 = some r2 ∧ nw (r1.1) = nw (r2.1) ∧ Inv (r2.2)
def Sim_look (Inv0 Inv : AG → Prop) : Prop := ∀ (x1 : Int) (g : AG), I32 x1 → Inv0 g → nw (X_look x1 g) = nw (M_look x1 g) ∧ Inv g
end LAWW
