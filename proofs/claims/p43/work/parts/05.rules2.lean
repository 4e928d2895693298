/-! helpers of the printed walks: a hypothesis 'program = some r' is taken apart as the walk goes on -/
theorem hT {α : Type} {c : Prop} [Decidable c] {A B : Option α} {r : α} (h : (if c then A else B) = some r) (hc : c) : A = some r := (if_pos hc).symm.trans h
theorem hF {α : Type} {c : Prop} [Decidable c] {A B : Option α} {r : α} (h : (if c then A else B) = some r) (hc : ¬ c) : B = some r := (if_neg hc).symm.trans h
theorem hK {α : Type} {c : Prop} [Decidable c] {A : Option α} {r : α} (h : (if c then A else none) = some r) : c ∧ A = some r := by
  by_cases hc : c
  · exact ⟨hc, hT h hc⟩
  · exact absurd (hF h hc) (fun q => by cases q)
theorem hBe {α β : Type} {a : α} {f : α → Option β} {r : β} (h : (some a >>= f) = some r) : ∃ x, x = a ∧ f x = some r := ⟨a, rfl, h⟩
theorem hC {α β : Type} {x : Option α} {f : α → Option β} {r : β} (h : (x >>= f) = some r) : ∃ y, x = some y ∧ f y = some r := by
  cases x with
  | none => cases h
  | some y => exact ⟨y, rfl, h⟩
theorem hS {α : Type} {a r : α} (h : some a = some r) : r = a := (Option.some.inj h).symm
theorem nw_id {a : Int} (h1 : -2147483648 ≤ a) (h2 : a < 2147483648) : nw a = a := by
  unfold nw
  simp only [Int.bmod]
  split <;> omega
theorem lv_pick_at {lv : List (Nat × Value)} {ks : List Nat} {lv1 : List (Nat × Value)} {ls : Array Slot} {n : Nat} (h : lv_has ls n lv) (e : lv_pick lv ks = lv1) : lv_has ls n lv1 := lv_sub h ks e
section RULES2
variable {z : AZ} {μ : AMu} {d pc : Nat} {Q : Option Value → AG → Prop} {lv : List (Nat × Value)} {st : List Value} {g : AG}
theorem AW.sub {lv1 : List (Nat × Value)} (ks : List Nat) (e : lv_pick lv ks = lv1) (k : AW z μ d Q pc lv1 st g) : AW z μ d Q pc lv st g := by
  intro p l e1 s m args below meth c H locs ls C hP hS hl
  exact k p l e1 s m args below meth c H locs ls C hP hS (lv_sub hl ks e)
theorem AW.join {tgt : Nat} {lv1 : List (Nat × Value)} {st1 : List Value} {g1 : AG} (J : AW z μ d Q tgt lv1 st1 g1) (k : AW z μ d Q tgt lv1 st1 g1 → AW z μ d Q pc lv st g) : AW z μ d Q pc lv st g := k J
theorem AW.val {a b : Int} (e : a = b) (k : AW z μ d Q pc lv (iv a :: st) g) : AW z μ d Q pc lv (iv b :: st) g := e ▸ k
theorem AW.aloadr_n {i : Fin 4} {k : Nat} (q : Nat) (hd : decode μ.2.1 pc = .ok (.aload_n i, 1)) (hq : lv[q]? = some ((i : Nat), rv z k)) (kk : AW z μ d Q (pc + 1) lv (rv z k :: st) g) : AW z μ d Q pc lv st g := AW.aload_n q hd hq kk
theorem AW.aloadr {i k : Nat} (q : Nat) (hd : decode μ.2.1 pc = .ok (.aload i, 2)) (hq : lv[q]? = some (i, rv z k)) (kk : AW z μ d Q (pc + 2) lv (rv z k :: st) g) : AW z μ d Q pc lv st g := AW.aload q hd hq kk
theorem AW.aloads_n {i : Fin 4} {k : Nat} (q : Nat) (hd : decode μ.2.1 pc = .ok (.aload_n i, 1)) (hq : lv[q]? = some ((i : Nat), sv z k)) (kk : AW z μ d Q (pc + 1) lv (sv z k :: st) g) : AW z μ d Q pc lv st g := AW.aload_n q hd hq kk
theorem AW.astorer_n {i : Fin 4} {k : Nat} {lv1 : List (Nat × Value)} (hd : decode μ.2.1 pc = .ok (.astore_n i, 1)) (hn : (i : Nat) < μ.2.2.1) (hl1 : ((i : Nat), rv z k) :: lv.filter (fun q => !(q.1 == (i : Nat)) && !(q.1 + 1 == (i : Nat) && q.2.category == 2)) = lv1) (kk : AW z μ d Q (pc + 1) lv1 st g) : AW z μ d Q pc lv (rv z k :: st) g := AW.astore_n hd hn hl1 kk
theorem AW.astorer {i k : Nat} {lv1 : List (Nat × Value)} (hd : decode μ.2.1 pc = .ok (.astore i, 2)) (hn : i < μ.2.2.1) (hl1 : (i, rv z k) :: lv.filter (fun q => !(q.1 == i) && !(q.1 + 1 == i && q.2.category == 2)) = lv1) (kk : AW z μ d Q (pc + 2) lv1 st g) : AW z μ d Q pc lv (rv z k :: st) g := AW.astore hd hn hl1 kk
theorem AW.duprr {k : Nat} (hd : decode μ.2.1 pc = .ok (.dup, 1)) (kk : AW z μ d Q (pc + 1) lv (rv z k :: rv z k :: st) g) : AW z μ d Q pc lv (rv z k :: st) g := AW.dupr hd kk
theorem AW.dup2r {k : Nat} {y : Int} (hd : decode μ.2.1 pc = .ok (.dup2, 1)) (kk : AW z μ d Q (pc + 1) lv (iv y :: rv z k :: iv y :: rv z k :: st) g) : AW z μ d Q pc lv (iv y :: rv z k :: st) g := AW.dup2 hd kk
theorem AW.callVi {idx q n nL D : Nat} {y : MethodName} {b : ByteArray} {ty : FieldType} {As st0 : List Value} {v : Int} {g1 : AG} (hM : AMf z y b nL (some ty) D (rv z q :: As) g (v, g1)) (hF : CQ μ.1 idx y b nL (some ty) n) (hR : CR q y) (hD : D + 1 ≤ d) (hn : As.length = n) (hd : decode μ.2.1 pc = .ok (.invokevirtual idx, 3)) (hst : st0 = As.reverse ++ rv z q :: st) (hc : (st.map fun v => v.category).sum ≤ 8)
    (kk : AW z μ d Q (pc + 3) lv (iv v :: st) g1) : AW z μ d Q pc lv st0 g := AW.callV0 hM hF hR hD hn hc hd hst kk
theorem AW.callVv {idx q n nL D : Nat} {y : MethodName} {b : ByteArray} {As st0 : List Value} {v : Int} {g1 : AG} (hM : AMf z y b nL none D (rv z q :: As) g (v, g1)) (hF : CQ μ.1 idx y b nL none n) (hR : CR q y) (hD : D + 1 ≤ d) (hn : As.length = n) (hd : decode μ.2.1 pc = .ok (.invokevirtual idx, 3)) (hst : st0 = As.reverse ++ rv z q :: st) (hc : (st.map fun v => v.category).sum ≤ 8)
    (kk : AW z μ d Q (pc + 3) lv st g1) : AW z μ d Q pc lv st0 g := AW.callV0 hM hF hR hD hn hc hd hst kk
theorem AW.callSi {idx n nL D : Nat} {y : MethodName} {b : ByteArray} {ty : FieldType} {As st0 : List Value} {v : Int} {g1 : AG} (hM : AMf z y b nL (some ty) D As g (v, g1)) (hF : CQ μ.1 idx y b nL (some ty) n) (hR : Cond.static y ∈ lw_gd) (hD : D + 1 ≤ d) (hn : As.length = n) (hd : decode μ.2.1 pc = .ok (.invokestatic idx, 3)) (hst : st0 = As.reverse ++ st) (hc : (st.map fun v => v.category).sum ≤ 8)
    (kk : AW z μ d Q (pc + 3) lv (iv v :: st) g1) : AW z μ d Q pc lv st0 g := AW.callS0 hM hF hR hD hn hc hd hst kk
theorem AW.callSv {idx n nL D : Nat} {y : MethodName} {b : ByteArray} {As st0 : List Value} {v : Int} {g1 : AG} (hM : AMf z y b nL none D As g (v, g1)) (hF : CQ μ.1 idx y b nL none n) (hR : Cond.static y ∈ lw_gd) (hD : D + 1 ≤ d) (hn : As.length = n) (hd : decode μ.2.1 pc = .ok (.invokestatic idx, 3)) (hst : st0 = As.reverse ++ st) (hc : (st.map fun v => v.category).sum ≤ 8)
    (kk : AW z μ d Q (pc + 3) lv st g1) : AW z μ d Q pc lv st0 g := AW.callS0 hM hF hR hD hn hc hd hst kk
theorem AW.iret1 {ret : Option FieldType} {r : Int × AG} {x : Int} (hr : μ.2.2.2 = some .int) (hd : decode μ.2.1 pc = .ok (.ireturn, 1)) (h : some (x, g) = some r) (he : ret = some .int) : AW z μ d (QD ret r) pc lv [iv x] g := by
  cases h
  subst he
  exact AW.iret hr hd ⟨rfl, rfl⟩
theorem AW.zret1 {ret : Option FieldType} {r : Int × AG} {x : Int} (hr : μ.2.2.2 = some .boolean) (h01 : x = 0 ∨ x = 1) (hd : decode μ.2.1 pc = .ok (.ireturn, 1)) (h : some (x, g) = some r) (he : ret = some .boolean) : AW z μ d (QD ret r) pc lv [iv x] g := by
  cases h
  subst he
  exact AW.zret hr h01 hd ⟨rfl, rfl⟩
theorem AW.vret1 {ret : Option FieldType} {r : Int × AG} (hr : μ.2.2.2 = none) (hd : decode μ.2.1 pc = .ok (.return_, 1)) (h : some ((0 : Int), g) = some r) (he : ret = none) : AW z μ d (QD ret r) pc lv [] g := by
  cases h
  subst he
  exact AW.vret hr hd ⟨rfl, rfl⟩
theorem AW.iret2 {ret : Option FieldType} {r x : Int} (hr : μ.2.2.2 = some .int) (hd : decode μ.2.1 pc = .ok (.ireturn, 1)) (h : some x = some r) (he : ret = some .int) : AW z μ d (QD ret (r, g)) pc lv [iv x] g := by
  cases h
  subst he
  exact AW.iret hr hd ⟨rfl, rfl⟩
theorem AW.zret2 {ret : Option FieldType} {r x : Int} (hr : μ.2.2.2 = some .boolean) (h01 : x = 0 ∨ x = 1) (hd : decode μ.2.1 pc = .ok (.ireturn, 1)) (h : some x = some r) (he : ret = some .boolean) : AW z μ d (QD ret (r, g)) pc lv [iv x] g := by
  cases h
  subst he
  exact AW.zret hr h01 hd ⟨rfl, rfl⟩
theorem AW.copyi {idx ks kd ns nd : Nat} {sp dp n : Int} {g1 : AG} (hF : Cond.methodLink μ.1 idx arraycopyName ∈ lw_gd) (h1 : Cond.native arraycopyName ∈ lw_gd) (h2 : Cond.static arraycopyName ∈ lw_gd) (h3 : Cond.initialized "java/lang/System" ∈ lw_gd) (hs : ks < KC) (hks : skF ks = (0, ns)) (hdd : kd < KC) (hkd : skF kd = (0, nd)) (hb : 0 ≤ nw sp ∧ 0 ≤ nw dp ∧ 0 ≤ nw n ∧ nw sp + nw n ≤ ns ∧ nw dp + nw n ≤ nd) (hc : (st.map fun v => v.category).sum ≤ 8) (h1d : 1 ≤ d)
    (hd : decode μ.2.1 pc = .ok (.invokestatic idx, 3)) (hg : g1 = copyG g ks (ix sp) kd (ix dp) (ix n)) (kk : AW z μ d Q (pc + 3) lv st g1) : AW z μ d Q pc lv (iv n :: iv dp :: rv z kd :: iv sp :: rv z ks :: st) g := by
  intro p l e s m args below meth c H locs ls C hP hS hl
  subst hg
  have hD : va_D (zA z) (awW z g) := awD C.2.2.2.2.2.2.2.2.1
  obtain ⟨b1, b2, b3, b4, b5⟩ := hb
  have n0 : ∀ a : Int, 0 ≤ nw a → ¬ Int32.ofInt a < 0 := fun a ha q => by
    have := (i32_lt0 a).mp q
    omega
  refine va_copyi C.1 C.2.1 (C.2.2.2.1.trans hl.1.symm) C.2.2.2.2.1 (C.2.2.2.2.2.1 _ hF) (C.2.2.2.2.2.1 _ h1) (C.2.2.2.2.2.1 _ h2) (C.2.2.2.2.2.1 _ h3) C.2.2.2.2.2.2.2.1 hP hD hS ks kd 0 0 (by rw [awW_get hs, awE_i hks]) (by rw [awW_get hdd, awE_i hkd]) rfl rfl rfl (n0 _ b1) (n0 _ b2) (n0 _ b3) (by rw [i32_clamp, i32_clamp]; unfold ix; omega) (by rw [i32_clamp, i32_clamp]; unfold ix; omega) (fun _ _ => rfl) h1d (by
      have e9 : nativeFrameWords "java/lang/System" "arraycopy" 5 + 11 ≤ 56 := by decide +kernel
      show _ ≤ 64 * d
      omega) hd (fun H1 locs1 hP1 _ hS1 => ?_)
  rw [i32_clamp, i32_clamp, i32_clamp] at hP1
  have eq9 : (awW z g).set kd (zad z kd, .inl (z.2.1.1, (nd, .inl (va_cpy (fun i => Int32.ofInt (g ks i)) (fun i => Int32.ofInt (g kd i)) (ix sp) (ix dp) (ix n))))) = awW z (copyG g ks (ix sp) kd (ix dp) (ix n)) := by
    refine awW_set ?_ (fun j hj => awE_ne (fun i => by unfold copyG; rw [if_neg (fun q => hj q.1)]))
    rw [awE_i hkd]
    refine congrArg (fun f => Sum.inl (z.2.1.1, (nd, Sum.inl f))) (funext fun i => ?_)
    unfold va_cpy copyG
    by_cases q : ix dp ≤ i ∧ i < ix dp + ix n
    · simp [q]
    · simp [q]
  rw [eq9] at hP1
  exact kk p l e s m args below meth c H1 locs1 ls C hP1 hS1 hl
end RULES2
/-- Math.max, min, abs -/
def mxI (x y : Int) : Int := if nw x < nw y then y else x
def mnI (x y : Int) : Int := if nw y < nw x then y else x
def abI (x : Int) : Int := if 0 ≤ nw x then x else 0 - x
section RULES3
variable {z : AZ} {μ : AMu} {d pc : Nat} {Q : Option Value → AG → Prop} {lv : List (Nat × Value)} {st : List Value} {g : AG}
theorem AW.mmax {idx : Nat} {x y : Int} (hF : Cond.methodLink μ.1 idx Lib.Math.max.name ∈ lw_gd) (h1 : Cond.static Lib.Math.max.name ∈ lw_gd) (h2 : Cond.initialized "java/lang/Math" ∈ lw_gd) (h3 : Cond.code Lib.Math.max.name Lib.Math.max.code 2 (some .int) ∈ lw_gd) (h1d : 1 ≤ d) (hc : (st.map fun v => v.category).sum ≤ 8) (hd : decode μ.2.1 pc = .ok (.invokestatic idx, 3)) (kk : AW z μ d Q (pc + 3) lv (iv (mxI x y) :: st) g) : AW z μ d Q pc lv (iv y :: iv x :: st) g := by
  intro p l e s m args below meth c H locs ls C hP hS hl
  refine va_mmax C.1 C.2.1 (C.2.2.2.1.trans hl.1.symm) C.2.2.2.2.1 (C.2.2.2.2.2.1 _ hF) (C.2.2.2.2.2.1 _ h1) (C.2.2.2.2.2.1 _ h2) (C.2.2.2.2.2.1 _ h3) h1d (by show _ ≤ 64 * d; omega) (Nat.zero_le _) (Nat.zero_le _) hd ?_
  have h := kk p l e s m args below meth c H locs ls C hP hS hl
  unfold iv mxI at h
  by_cases q : nw x < nw y
  · rw [if_pos q] at h
    rw [if_pos ((i32_lt x y).mpr q)]
    exact h
  · rw [if_neg q] at h
    rw [if_neg (fun q2 => q ((i32_lt x y).mp q2))]
    exact h
theorem AW.mmin {idx : Nat} {x y : Int} (hF : Cond.methodLink μ.1 idx Lib.Math.min.name ∈ lw_gd) (h1 : Cond.static Lib.Math.min.name ∈ lw_gd) (h2 : Cond.initialized "java/lang/Math" ∈ lw_gd) (h3 : Cond.code Lib.Math.min.name Lib.Math.min.code 2 (some .int) ∈ lw_gd) (h1d : 1 ≤ d) (hc : (st.map fun v => v.category).sum ≤ 8) (hd : decode μ.2.1 pc = .ok (.invokestatic idx, 3)) (kk : AW z μ d Q (pc + 3) lv (iv (mnI x y) :: st) g) : AW z μ d Q pc lv (iv y :: iv x :: st) g := by
  intro p l e s m args below meth c H locs ls C hP hS hl
  refine va_mmin C.1 C.2.1 (C.2.2.2.1.trans hl.1.symm) C.2.2.2.2.1 (C.2.2.2.2.2.1 _ hF) (C.2.2.2.2.2.1 _ h1) (C.2.2.2.2.2.1 _ h2) (C.2.2.2.2.2.1 _ h3) h1d (by show _ ≤ 64 * d; omega) (Nat.zero_le _) (Nat.zero_le _) hd ?_
  have h := kk p l e s m args below meth c H locs ls C hP hS hl
  unfold iv mnI at h
  by_cases q : nw y < nw x
  · rw [if_pos q] at h
    rw [if_pos ((i32_lt y x).mpr q)]
    exact h
  · rw [if_neg q] at h
    rw [if_neg (fun q2 => q ((i32_lt y x).mp q2))]
    exact h
theorem AW.mabs {idx : Nat} {x : Int} (hF : Cond.methodLink μ.1 idx Lib.Math.abs.name ∈ lw_gd) (h1 : Cond.static Lib.Math.abs.name ∈ lw_gd) (h2 : Cond.initialized "java/lang/Math" ∈ lw_gd) (h3 : Cond.code Lib.Math.abs.name Lib.Math.abs.code 1 (some .int) ∈ lw_gd) (h1d : 1 ≤ d) (hc : (st.map fun v => v.category).sum ≤ 8) (hd : decode μ.2.1 pc = .ok (.invokestatic idx, 3)) (kk : AW z μ d Q (pc + 3) lv (iv (abI x) :: st) g) : AW z μ d Q pc lv (iv x :: st) g := by
  intro p l e s m args below meth c H locs ls C hP hS hl
  refine va_mabs C.1 C.2.1 (C.2.2.2.1.trans hl.1.symm) C.2.2.2.2.1 (C.2.2.2.2.2.1 _ hF) (C.2.2.2.2.2.1 _ h1) (C.2.2.2.2.2.1 _ h2) (C.2.2.2.2.2.1 _ h3) h1d (by show _ ≤ 64 * d; omega) (Nat.zero_le _) (Nat.zero_le _) hd ?_
  have h := kk p l e s m args below meth c H locs ls C hP hS hl
  unfold iv abI at h
  by_cases q : 0 ≤ nw x
  · rw [if_pos q] at h
    rw [if_pos ((i32_0le x).mpr q)]
    exact h
  · rw [if_neg q] at h
    rw [if_neg (fun q2 => q ((i32_0le x).mp q2))]
    rw [Int32.ofInt_sub] at h
    exact h
theorem AW.lsw {x dflt off k : Int} {ps : Array (Int × Int)} {len tgt : Nat} (hd : decode μ.2.1 pc = .ok (.lookupswitch dflt ps, len)) (hp : (ps.toList.zip (ps.toList.drop 1)).all (fun (a, next) => a.1 < next.1) = true) (hk : nw x = k) (ho : Op.lookupswitch.offset ps.toList dflt k = off) (ht : (pc : Int) + off = (tgt : Int)) (kk : AW z μ d Q tgt lv st g) : AW z μ d Q pc lv (iv x :: st) g := by
  intro p l e s m args below meth c H locs ls C hP hS hl
  exact lv_lookup C.1 C.2.1 hd hp (by rw [i32_toInt, hk]; exact ho) ht (kk p l e s m args below meth c H locs ls C hP hS hl)
end RULES3
/-! Arrays.fill -/
theorem fillG_0 (g : AG) (q : Nat) (v : Int) : fillG g q 0 v = g := by
  funext a b
  unfold fillG
  rw [if_neg (by omega)]
theorem fillG_s (g : AG) (q i : Nat) (v : Int) : fillG g q (i + 1) v = up (fillG g q i v) q i v := by
  funext a b
  unfold fillG up
  by_cases h : a = q
  · by_cases h2 : b = i
    · simp [h, h2]
    · by_cases h3 : b < i
      · simp [h, h2, h3, Nat.lt_succ_of_lt h3]
      · simp [h, h2, h3, show ¬ b < i + 1 by omega]
  · simp [h]
theorem fill_loop {z : AZ} {d q n : Nat} {v : Int} {g : AG} (hq : q < KC) (hk : skF q = (0, n)) (hn : (n : Int) < 2147483648) : ∀ (m i : Nat), i + m = n → AW z ("java/util/Arrays", cJ7_fill_53178, 4, none) d (QD none (0, fillG g q n v)) 5 [(2, iv i), (3, iv n), (0, rv z q), (1, iv v)] [] (fillG g q i v)
  | 0, i, h => by
    have e : i = n := by omega
    subst e
    refine AW.iload_n 0 dJ7_fill_53178_5 rfl ?_
    refine AW.iload_n 1 dJ7_fill_53178_6 rfl ?_
    refine AW.icmp_ge (tgt := 20) dJ7_fill_53178_7 (by decide) (fun _ => ?_) (fun c => absurd (Int.le_refl _) c)
    exact AW.vret1 rfl dJ7_fill_53178_20 rfl rfl
  | m + 1, i, h => by
    refine AW.iload_n 0 dJ7_fill_53178_5 rfl ?_
    refine AW.iload_n 1 dJ7_fill_53178_6 rfl ?_
    have e1 : nw (i : Int) = i := nw_id (by omega) (by omega)
    have e2 : nw (n : Int) = n := nw_id (by omega) (by omega)
    refine AW.icmp_ge (tgt := 20) dJ7_fill_53178_7 (by decide) (fun c => absurd c (by rw [e1, e2]; omega)) (fun _ => ?_)
    refine AW.aloadr_n 2 dJ7_fill_53178_10 rfl ?_
    refine AW.iload_n 0 dJ7_fill_53178_11 rfl ?_
    refine AW.iload_n 3 dJ7_fill_53178_12 rfl ?_
    have e3 : ix (i : Int) = i := by unfold ix; rw [e1]; rfl
    refine AW.iast hq hk ⟨by rw [e1]; omega, by rw [e1]; omega⟩ dJ7_fill_53178_13 rfl ?_
    rw [e3, ← fillG_s]
    refine AW.iinc (lv1 := [(2, iv ((i : Int) + 1)), (3, iv n), (0, rv z q), (1, iv v)]) 0 dJ7_fill_53178_14 rfl (by decide) rfl ?_
    refine AW.goto (tgt := 5) dJ7_fill_53178_17 (by decide) ?_
    exact fill_loop hq hk hn m (i + 1) (by omega)
theorem fill_ok {z : AZ} {q n : Nat} {v : Int} {g : AG} (hq : q < KC) (hk : skF q = (0, n)) (hn : (n : Int) < 2147483648) : AMf z ⟨"java/util/Arrays", "fill", "([II)V"⟩ cJ7_fill_53178 4 none 0 [rv z q, iv v] g (0, fillG g q n v) := by
  intro d _
  refine AM.of (by decide +kernel) (Nat.le_of_ble_eq_true rfl) ?_
  show AW z ("java/util/Arrays", cJ7_fill_53178, 4, none) d (QD none (0, fillG g q n v)) 0 [(0, rv z q), (1, iv v)] [] g
  refine AW.iconst dJ7_fill_53178_0 ?_
  refine AW.istore_n (lv1 := [(2, iv 0), (0, rv z q), (1, iv v)]) dJ7_fill_53178_1 (by decide) rfl ?_
  refine AW.aloadr_n 1 dJ7_fill_53178_2 rfl ?_
  refine AW.alen hq hk dJ7_fill_53178_3 ?_
  refine AW.istore_n (lv1 := [(3, iv n), (2, iv 0), (0, rv z q), (1, iv v)]) dJ7_fill_53178_4 (by decide) rfl ?_
  refine AW.sub (lv1 := [(2, iv 0), (3, iv n), (0, rv z q), (1, iv v)]) [1, 0, 2, 3] rfl ?_
  have h := fill_loop (z := z) (d := d) (v := v) (g := g) hq hk hn n 0 (by omega)
  rw [fillG_0] at h
  exact h
/-! the texts: literal i's length, its k-th char, the first place of a char in it (-1: none) -/
def strLen (i : Nat) : Int := ((lenJ.getD i 0 : Nat) : Int)
def strCh (i k : Nat) : Int := ((bytJ.getD i []).getD k 0).toInt
def ixF (c : Int) : List Int32 → Int → Int
  | [], _ => -1
  | b :: l, k => if b.toInt = c then k else ixF c l (k + 1)
def strIx (i : Nat) (c : Int) : Int := ixF (nw c) (bytJ.getD i []) 0
