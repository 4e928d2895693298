theorem nw_b (x : Int) : -2 ^ 63 ≤ nw x ∧ nw x < 2 ^ 63 := by
  have h1 := Int.bmod_lt (x := x) (m := 4294967296) (by decide)
  have h2 := Int.le_bmod (x := x) (m := 4294967296) (by decide)
  unfold nw
  omega
theorem i64_toInt (a : Int) : (Int64.ofInt a).toInt = nl a := by rw [Int64.toInt_ofInt]; rfl
theorem i64_eq0 (a : Int) : Int64.ofInt a = 0 ↔ nl a = 0 := by
  rw [← Int64.toInt_inj, i64_toInt]
  exact Iff.rfl
theorem i64_div (a b : Int) : Int64.ofInt a / Int64.ofInt b = Int64.ofInt ((nl a).tdiv (nl b)) := by
  rw [← Int64.toInt_inj, Int64.toInt_div, i64_toInt, i64_toInt, i64_toInt]; rfl
section RULES
variable {z : AZ} {μ : AMu} {d pc : Nat} {Q : Option Value → AG → Prop} {lv : List (Nat × Value)} {st : List Value} {g : AG}

theorem AW.iconst {n : Int} (hd : decode μ.2.1 pc = .ok (.iconst n, 1)) (k : AW z μ d Q (pc + 1) lv (iv n :: st) g) : AW z μ d Q pc lv (st) g := by
  intro p l e s m args below meth c H locs ls C hP hS hl
  exact lv_iconst C.1 C.2.1 hd rfl (k p l e s m args below meth c H locs ls C hP hS hl)

theorem AW.bipush {n : Int} (hd : decode μ.2.1 pc = .ok (.bipush n, 2)) (h1 : -128 ≤ n) (h2 : n ≤ 127) (k : AW z μ d Q (pc + 2) lv (iv n :: st) g) : AW z μ d Q pc lv (st) g := by
  intro p l e s m args below meth c H locs ls C hP hS hl
  exact lv_bipush C.1 C.2.1 hd (Int8.toInt32_ofInt h1 h2) (k p l e s m args below meth c H locs ls C hP hS hl)

theorem AW.sipush {n : Int} (hd : decode μ.2.1 pc = .ok (.sipush n, 3)) (h1 : -32768 ≤ n) (h2 : n ≤ 32767) (k : AW z μ d Q (pc + 3) lv (iv n :: st) g) : AW z μ d Q pc lv (st) g := by
  intro p l e s m args below meth c H locs ls C hP hS hl
  exact lv_sipush C.1 C.2.1 hd (Int16.toInt32_ofInt h1 h2) (k p l e s m args below meth c H locs ls C hP hS hl)

theorem AW.ldc {i : Nat} {n : Int} (hd : decode μ.2.1 pc = .ok (.ldc i, 2)) (hw : Cond.constant μ.1 i (Int32.ofInt n) ∈ lw_gd) (k : AW z μ d Q (pc + 2) lv (iv n :: st) g) : AW z μ d Q pc lv (st) g := by
  intro p l e s m args below meth c H locs ls C hP hS hl
  exact lv_ldc C.1 C.2.1 C.2.2.2.2.1 (C.2.2.2.2.2.1 _ hw) hd (k p l e s m args below meth c H locs ls C hP hS hl)

theorem AW.ldcw {i : Nat} {n : Int} (hd : decode μ.2.1 pc = .ok (.ldc_w i, 3)) (hw : Cond.constant μ.1 i (Int32.ofInt n) ∈ lw_gd) (k : AW z μ d Q (pc + 3) lv (iv n :: st) g) : AW z μ d Q pc lv (st) g := by
  intro p l e s m args below meth c H locs ls C hP hS hl
  exact lv_ldcw C.1 C.2.1 C.2.2.2.2.1 (C.2.2.2.2.2.1 _ hw) hd (k p l e s m args below meth c H locs ls C hP hS hl)

theorem AW.ldc2 {i : Nat} {n : Int} (hd : decode μ.2.1 pc = .ok (.ldc2_w i, 3)) (hw : Cond.constantLong μ.1 i (Int64.ofInt n) ∈ lw_gd) (k : AW z μ d Q (pc + 3) lv (jv n :: st) g) : AW z μ d Q pc lv (st) g := by
  intro p l e s m args below meth c H locs ls C hP hS hl
  exact lv_ldc2 C.1 C.2.1 C.2.2.2.2.1 (C.2.2.2.2.2.1 _ hw) hd (k p l e s m args below meth c H locs ls C hP hS hl)

theorem AW.ldcS {i n : Nat} {tx : String} (hd : decode μ.2.1 pc = .ok (.ldc i, 2)) (hw : (μ.1, i, tx, n) ∈ strL) (k : AW z μ d Q (pc + 2) lv (sv z n :: st) g) : AW z μ d Q pc lv (st) g := by
  intro p l e s m args below meth c H locs ls C hP hS hl
  exact va_ldcS C.1 C.2.1 C.2.2.2.2.1 (C.2.2.2.2.2.2.2.2.2.2.1 _ hw) hd (k p l e s m args below meth c H locs ls C hP hS hl)

theorem AW.iload_n {i : Fin 4} {x : Int} (q : Nat) (hd : decode μ.2.1 pc = .ok (.iload_n i, 1)) (hq : lv[q]? = some ((i : Nat), iv x)) (k : AW z μ d Q (pc + 1) lv (iv x :: st) g) : AW z μ d Q pc lv (st) g := by
  intro p l e s m args below meth c H locs ls C hP hS hl
  exact lv_iload_n C.1 C.2.1 hd rfl (lv_at hl q hq) (k p l e s m args below meth c H locs ls C hP hS hl)

theorem AW.iload {i : Nat} {x : Int} (q : Nat) (hd : decode μ.2.1 pc = .ok (.iload i, 2)) (hq : lv[q]? = some (i, iv x)) (k : AW z μ d Q (pc + 2) lv (iv x :: st) g) : AW z μ d Q pc lv (st) g := by
  intro p l e s m args below meth c H locs ls C hP hS hl
  exact lv_iload C.1 C.2.1 hd (lv_at hl q hq) (k p l e s m args below meth c H locs ls C hP hS hl)

theorem AW.aload_n {i : Fin 4} {x : Nat} (q : Nat) (hd : decode μ.2.1 pc = .ok (.aload_n i, 1)) (hq : lv[q]? = some ((i : Nat), .ref x)) (k : AW z μ d Q (pc + 1) lv (.ref x :: st) g) : AW z μ d Q pc lv (st) g := by
  intro p l e s m args below meth c H locs ls C hP hS hl
  exact lv_aload_n C.1 C.2.1 hd rfl (lv_at hl q hq) (k p l e s m args below meth c H locs ls C hP hS hl)

theorem AW.aload {i : Nat} {x : Nat} (q : Nat) (hd : decode μ.2.1 pc = .ok (.aload i, 2)) (hq : lv[q]? = some (i, .ref x)) (k : AW z μ d Q (pc + 2) lv (.ref x :: st) g) : AW z μ d Q pc lv (st) g := by
  intro p l e s m args below meth c H locs ls C hP hS hl
  exact lv_aload C.1 C.2.1 hd (lv_at hl q hq) (k p l e s m args below meth c H locs ls C hP hS hl)

theorem AW.lload_n {i : Fin 4} {x : Int} (q : Nat) (hd : decode μ.2.1 pc = .ok (.lload_n i, 1)) (hq : lv[q]? = some ((i : Nat), jv x)) (k : AW z μ d Q (pc + 1) lv (jv x :: st) g) : AW z μ d Q pc lv (st) g := by
  intro p l e s m args below meth c H locs ls C hP hS hl
  exact lv_lload_n C.1 C.2.1 hd rfl (lv_at hl q hq) (k p l e s m args below meth c H locs ls C hP hS hl)

theorem AW.lload {i : Nat} {x : Int} (q : Nat) (hd : decode μ.2.1 pc = .ok (.lload i, 2)) (hq : lv[q]? = some (i, jv x)) (k : AW z μ d Q (pc + 2) lv (jv x :: st) g) : AW z μ d Q pc lv (st) g := by
  intro p l e s m args below meth c H locs ls C hP hS hl
  exact lv_lload C.1 C.2.1 hd (lv_at hl q hq) (k p l e s m args below meth c H locs ls C hP hS hl)

theorem AW.istore_n {i : Fin 4} {x : Int} {lv1 : List (Nat × Value)} (hd : decode μ.2.1 pc = .ok (.istore_n i, 1)) (hn : (i : Nat) < μ.2.2.1) (hl1 : ((i : Nat), iv x) :: lv.filter (fun q => !(q.1 == (i : Nat)) && !(q.1 + 1 == (i : Nat) && q.2.category == 2)) = lv1) (k : AW z μ d Q (pc + 1) lv1 (st) g) : AW z μ d Q pc lv (iv x :: st) g := by
  intro p l e s m args below meth c H locs ls C hP hS hl
  exact lv_istore_n C.1 C.2.1 hd rfl hl hn hl1 (fun ls hl => k p l e s m args below meth c H locs ls C hP hS hl)

theorem AW.istore {i : Nat} {x : Int} {lv1 : List (Nat × Value)} (hd : decode μ.2.1 pc = .ok (.istore i, 2)) (hn : i < μ.2.2.1) (hl1 : (i, iv x) :: lv.filter (fun q => !(q.1 == i) && !(q.1 + 1 == i && q.2.category == 2)) = lv1) (k : AW z μ d Q (pc + 2) lv1 (st) g) : AW z μ d Q pc lv (iv x :: st) g := by
  intro p l e s m args below meth c H locs ls C hP hS hl
  exact lv_istore C.1 C.2.1 hd hl hn hl1 (fun ls hl => k p l e s m args below meth c H locs ls C hP hS hl)

theorem AW.astore_n {i : Fin 4} {x : Nat} {lv1 : List (Nat × Value)} (hd : decode μ.2.1 pc = .ok (.astore_n i, 1)) (hn : (i : Nat) < μ.2.2.1) (hl1 : ((i : Nat), .ref x) :: lv.filter (fun q => !(q.1 == (i : Nat)) && !(q.1 + 1 == (i : Nat) && q.2.category == 2)) = lv1) (k : AW z μ d Q (pc + 1) lv1 (st) g) : AW z μ d Q pc lv (.ref x :: st) g := by
  intro p l e s m args below meth c H locs ls C hP hS hl
  exact lv_astore_n C.1 C.2.1 hd rfl hl hn hl1 (fun ls hl => k p l e s m args below meth c H locs ls C hP hS hl)

theorem AW.astore {i : Nat} {x : Nat} {lv1 : List (Nat × Value)} (hd : decode μ.2.1 pc = .ok (.astore i, 2)) (hn : i < μ.2.2.1) (hl1 : (i, .ref x) :: lv.filter (fun q => !(q.1 == i) && !(q.1 + 1 == i && q.2.category == 2)) = lv1) (k : AW z μ d Q (pc + 2) lv1 (st) g) : AW z μ d Q pc lv (.ref x :: st) g := by
  intro p l e s m args below meth c H locs ls C hP hS hl
  exact lv_astore C.1 C.2.1 hd hl hn hl1 (fun ls hl => k p l e s m args below meth c H locs ls C hP hS hl)

theorem AW.lstore_n {i : Fin 4} {x : Int} {lv1 : List (Nat × Value)} (hd : decode μ.2.1 pc = .ok (.lstore_n i, 1)) (hn : (i : Nat) + 1 < μ.2.2.1) (hl1 : ((i : Nat), jv x) :: lv.filter (fun q => !(q.1 == (i : Nat)) && (!(q.1 == (i : Nat) + 1) && !(q.1 + 1 == (i : Nat) && q.2.category == 2))) = lv1) (k : AW z μ d Q (pc + 1) lv1 (st) g) : AW z μ d Q pc lv (jv x :: st) g := by
  intro p l e s m args below meth c H locs ls C hP hS hl
  exact lv_lstore_n C.1 C.2.1 hd rfl hl hn hl1 (fun ls hl => k p l e s m args below meth c H locs ls C hP hS hl)

theorem AW.lstore {i : Nat} {x : Int} {lv1 : List (Nat × Value)} (hd : decode μ.2.1 pc = .ok (.lstore i, 2)) (hn : i + 1 < μ.2.2.1) (hl1 : (i, jv x) :: lv.filter (fun q => !(q.1 == i) && (!(q.1 == i + 1) && !(q.1 + 1 == i && q.2.category == 2))) = lv1) (k : AW z μ d Q (pc + 2) lv1 (st) g) : AW z μ d Q pc lv (jv x :: st) g := by
  intro p l e s m args below meth c H locs ls C hP hS hl
  exact lv_lstore C.1 C.2.1 hd hl hn hl1 (fun ls hl => k p l e s m args below meth c H locs ls C hP hS hl)

theorem AW.iinc {i : Nat} {n x : Int} {lv1 : List (Nat × Value)} (q : Nat) (hd : decode μ.2.1 pc = .ok (.iinc i n, 3)) (hq : lv[q]? = some (i, iv x)) (hn : i < μ.2.2.1) (hl1 : (i, iv (x + n)) :: lv.filter (fun q => !(q.1 == i) && !(q.1 + 1 == i && q.2.category == 2)) = lv1) (k : AW z μ d Q (pc + 3) lv1 (st) g) : AW z μ d Q pc lv (st) g := by
  intro p l e s m args below meth c H locs ls C hP hS hl
  exact lv_iinc C.1 C.2.1 hd hl hq (Int32.ofInt_add x n).symm hn hl1 (fun ls hl => k p l e s m args below meth c H locs ls C hP hS hl)

theorem AW.iadd {x y : Int} (hd : decode μ.2.1 pc = .ok (.iadd, 1)) (k : AW z μ d Q (pc + 1) lv (iv (x + y) :: st) g) : AW z μ d Q pc lv (iv y :: iv x :: st) g := by
  intro p l e s m args below meth c H locs ls C hP hS hl
  refine lv_iadd C.1 C.2.1 hd ?_
  rw [← Int32.ofInt_add]
  exact k p l e s m args below meth c H locs ls C hP hS hl

theorem AW.isub {x y : Int} (hd : decode μ.2.1 pc = .ok (.isub, 1)) (k : AW z μ d Q (pc + 1) lv (iv (x - y) :: st) g) : AW z μ d Q pc lv (iv y :: iv x :: st) g := by
  intro p l e s m args below meth c H locs ls C hP hS hl
  refine lv_isub C.1 C.2.1 hd ?_
  rw [← Int32.ofInt_sub]
  exact k p l e s m args below meth c H locs ls C hP hS hl

theorem AW.imul {x y : Int} (hd : decode μ.2.1 pc = .ok (.imul, 1)) (k : AW z μ d Q (pc + 1) lv (iv (x * y) :: st) g) : AW z μ d Q pc lv (iv y :: iv x :: st) g := by
  intro p l e s m args below meth c H locs ls C hP hS hl
  refine lv_imul C.1 C.2.1 hd ?_
  rw [← Int32.ofInt_mul]
  exact k p l e s m args below meth c H locs ls C hP hS hl

theorem AW.ineg {x : Int} (hd : decode μ.2.1 pc = .ok (.ineg, 1)) (k : AW z μ d Q (pc + 1) lv (iv (-x) :: st) g) : AW z μ d Q pc lv (iv x :: st) g := by
  intro p l e s m args below meth c H locs ls C hP hS hl
  refine lv_ineg C.1 C.2.1 hd ?_
  rw [← Int32.ofInt_neg]
  exact k p l e s m args below meth c H locs ls C hP hS hl

theorem AW.idiv {x y : Int} (hd : decode μ.2.1 pc = .ok (.idiv, 1)) (h0 : ¬ nw y = 0) (k : AW z μ d Q (pc + 1) lv (iv ((nw x).tdiv (nw y)) :: st) g) : AW z μ d Q pc lv (iv y :: iv x :: st) g := by
  intro p l e s m args below meth c H locs ls C hP hS hl
  refine lv_idiv C.1 C.2.1 hd (fun q => h0 ((i32_eq0 y).mp q)) ?_
  rw [i32_div]
  exact k p l e s m args below meth c H locs ls C hP hS hl

theorem AW.irem {x y : Int} (hd : decode μ.2.1 pc = .ok (.irem, 1)) (h0 : ¬ nw y = 0) (k : AW z μ d Q (pc + 1) lv (iv ((nw x).tmod (nw y)) :: st) g) : AW z μ d Q pc lv (iv y :: iv x :: st) g := by
  intro p l e s m args below meth c H locs ls C hP hS hl
  refine lv_irem C.1 C.2.1 hd (fun q => h0 ((i32_eq0 y).mp q)) ?_
  rw [i32_rem]
  exact k p l e s m args below meth c H locs ls C hP hS hl

theorem AW.ishl {x y : Int} (hd : decode μ.2.1 pc = .ok (.ishl, 1)) (k : AW z μ d Q (pc + 1) lv (iv (shlI x y) :: st) g) : AW z μ d Q pc lv (iv y :: iv x :: st) g := by
  intro p l e s m args below meth c H locs ls C hP hS hl
  refine lv_ishl C.1 C.2.1 hd ?_
  have h := k p l e s m args below meth c H locs ls C hP hS hl
  unfold iv shlI at h
  rw [Int32.ofInt_toInt] at h
  exact h

theorem AW.ishr {x y : Int} (hd : decode μ.2.1 pc = .ok (.ishr, 1)) (k : AW z μ d Q (pc + 1) lv (iv (shrI x y) :: st) g) : AW z μ d Q pc lv (iv y :: iv x :: st) g := by
  intro p l e s m args below meth c H locs ls C hP hS hl
  refine lv_ishr C.1 C.2.1 hd ?_
  have h := k p l e s m args below meth c H locs ls C hP hS hl
  unfold iv shrI at h
  rw [Int32.ofInt_toInt] at h
  exact h

theorem AW.iand {x y : Int} (hd : decode μ.2.1 pc = .ok (.iand, 1)) (k : AW z μ d Q (pc + 1) lv (iv (andI x y) :: st) g) : AW z μ d Q pc lv (iv y :: iv x :: st) g := by
  intro p l e s m args below meth c H locs ls C hP hS hl
  refine lv_iand C.1 C.2.1 hd ?_
  have h := k p l e s m args below meth c H locs ls C hP hS hl
  unfold iv andI at h
  rw [Int32.ofInt_toInt] at h
  exact h

theorem AW.ior {x y : Int} (hd : decode μ.2.1 pc = .ok (.ior, 1)) (k : AW z μ d Q (pc + 1) lv (iv (orI x y) :: st) g) : AW z μ d Q pc lv (iv y :: iv x :: st) g := by
  intro p l e s m args below meth c H locs ls C hP hS hl
  refine lv_ior C.1 C.2.1 hd ?_
  have h := k p l e s m args below meth c H locs ls C hP hS hl
  unfold iv orI at h
  rw [Int32.ofInt_toInt] at h
  exact h

theorem AW.ixor {x y : Int} (hd : decode μ.2.1 pc = .ok (.ixor, 1)) (k : AW z μ d Q (pc + 1) lv (iv (xorI x y) :: st) g) : AW z μ d Q pc lv (iv y :: iv x :: st) g := by
  intro p l e s m args below meth c H locs ls C hP hS hl
  refine lv_ixor C.1 C.2.1 hd ?_
  have h := k p l e s m args below meth c H locs ls C hP hS hl
  unfold iv xorI at h
  rw [Int32.ofInt_toInt] at h
  exact h

theorem AW.iushr {x y : Int} (hd : decode μ.2.1 pc = .ok (.iushr, 1)) (k : AW z μ d Q (pc + 1) lv (iv (ushrI x y) :: st) g) : AW z μ d Q pc lv (iv y :: iv x :: st) g := by
  intro p l e s m args below meth c H locs ls C hP hS hl
  exact lv_iushr C.1 C.2.1 hd (by unfold ushrI; rw [Int32.ofInt_toInt]) (k p l e s m args below meth c H locs ls C hP hS hl)

theorem AW.i2c {x : Int} (hd : decode μ.2.1 pc = .ok (.i2c, 1)) (k : AW z μ d Q (pc + 1) lv (iv (chrI x) :: st) g) : AW z μ d Q pc lv (iv x :: st) g := by
  intro p l e s m args below meth c H locs ls C hP hS hl
  exact lv_i2c C.1 C.2.1 hd (by unfold chrI; rw [Int32.ofInt_toInt]) (k p l e s m args below meth c H locs ls C hP hS hl)

theorem AW.i2b {x : Int} (hd : decode μ.2.1 pc = .ok (.i2b, 1)) (k : AW z μ d Q (pc + 1) lv (iv (bytI x) :: st) g) : AW z μ d Q pc lv (iv x :: st) g := by
  intro p l e s m args below meth c H locs ls C hP hS hl
  exact lv_i2b C.1 C.2.1 hd (by unfold bytI; rw [Int32.ofInt_toInt]) (k p l e s m args below meth c H locs ls C hP hS hl)

theorem AW.i2l {x : Int} (hd : decode μ.2.1 pc = .ok (.i2l, 1)) (k : AW z μ d Q (pc + 1) lv (jv (nw x) :: st) g) : AW z μ d Q pc lv (iv x :: st) g := by
  intro p l e s m args below meth c H locs ls C hP hS hl
  exact lv_i2l C.1 C.2.1 hd (by rw [← Int64.toInt_inj, Int32.toInt_toInt64, i32_toInt, Int64.toInt_ofInt_of_le (nw_b x).1 (nw_b x).2]) (k p l e s m args below meth c H locs ls C hP hS hl)

theorem AW.l2i {x : Int} (hd : decode μ.2.1 pc = .ok (.l2i, 1)) (k : AW z μ d Q (pc + 1) lv (iv x :: st) g) : AW z μ d Q pc lv (jv x :: st) g := by
  intro p l e s m args below meth c H locs ls C hP hS hl
  exact lv_l2i C.1 C.2.1 hd (Int64.toInt32_ofInt) (k p l e s m args below meth c H locs ls C hP hS hl)

theorem AW.lmul {x y : Int} (hd : decode μ.2.1 pc = .ok (.lmul, 1)) (k : AW z μ d Q (pc + 1) lv (jv (x * y) :: st) g) : AW z μ d Q pc lv (jv y :: jv x :: st) g := by
  intro p l e s m args below meth c H locs ls C hP hS hl
  refine lv_lmul C.1 C.2.1 hd ?_
  rw [← Int64.ofInt_mul]
  exact k p l e s m args below meth c H locs ls C hP hS hl

theorem AW.ldiv {x y : Int} (hd : decode μ.2.1 pc = .ok (.ldiv, 1)) (h0 : ¬ nl y = 0) (k : AW z μ d Q (pc + 1) lv (jv ((nl x).tdiv (nl y)) :: st) g) : AW z μ d Q pc lv (jv y :: jv x :: st) g := by
  intro p l e s m args below meth c H locs ls C hP hS hl
  refine lv_ldiv C.1 C.2.1 hd (fun q => h0 ((i64_eq0 y).mp q)) ?_
  rw [i64_div]
  exact k p l e s m args below meth c H locs ls C hP hS hl

theorem AW.dup {x : Int} (hd : decode μ.2.1 pc = .ok (.dup, 1)) (k : AW z μ d Q (pc + 1) lv (iv x :: iv x :: st) g) : AW z μ d Q pc lv (iv x :: st) g := by
  intro p l e s m args below meth c H locs ls C hP hS hl
  exact lv_dup C.1 C.2.1 hd rfl (k p l e s m args below meth c H locs ls C hP hS hl)

theorem AW.dupr {x : Nat} (hd : decode μ.2.1 pc = .ok (.dup, 1)) (k : AW z μ d Q (pc + 1) lv (.ref x :: .ref x :: st) g) : AW z μ d Q pc lv (.ref x :: st) g := by
  intro p l e s m args below meth c H locs ls C hP hS hl
  exact lv_dup C.1 C.2.1 hd rfl (k p l e s m args below meth c H locs ls C hP hS hl)

theorem AW.dup2 {x : Nat} {y : Int} (hd : decode μ.2.1 pc = .ok (.dup2, 1)) (k : AW z μ d Q (pc + 1) lv (iv y :: .ref x :: iv y :: .ref x :: st) g) : AW z μ d Q pc lv (iv y :: .ref x :: st) g := by
  intro p l e s m args below meth c H locs ls C hP hS hl
  exact lv_dup2_11 C.1 C.2.1 hd rfl rfl (k p l e s m args below meth c H locs ls C hP hS hl)

theorem AW.pop {x : Int} (hd : decode μ.2.1 pc = .ok (.pop, 1)) (k : AW z μ d Q (pc + 1) lv (st) g) : AW z μ d Q pc lv (iv x :: st) g := by
  intro p l e s m args below meth c H locs ls C hP hS hl
  exact lv_pop C.1 C.2.1 hd rfl (k p l e s m args below meth c H locs ls C hP hS hl)

theorem AW.goto {off : Int} {tgt : Nat} (hd : decode μ.2.1 pc = .ok (.goto off, 3)) (ht : (pc : Int) + off = (tgt : Int)) (k : AW z μ d Q (tgt) lv (st) g) : AW z μ d Q pc lv (st) g := by
  intro p l e s m args below meth c H locs ls C hP hS hl
  exact lv_goto C.1 C.2.1 hd ht (k p l e s m args below meth c H locs ls C hP hS hl)

theorem AW.icmp_lt {x y : Int} {off : Int} {tgt : Nat} (hd : decode μ.2.1 pc = .ok (.if_icmp .lt off, 3)) (ht : (pc : Int) + off = (tgt : Int)) (kt : nw x < nw y → AW z μ d Q tgt lv st g) (kf : ¬ nw x < nw y → AW z μ d Q (pc + 3) lv st g) : AW z μ d Q pc lv (iv y :: iv x :: st) g := by
  intro p l e s m args below meth c H locs ls C hP hS hl
  exact lv_icmp_lt C.1 C.2.1 hd ht (fun q => kt ((i32_lt x y).mp q) p l e s m args below meth c H locs ls C hP hS hl) (fun q => kf (fun q2 => q ((i32_lt x y).mpr q2)) p l e s m args below meth c H locs ls C hP hS hl)

theorem AW.icmp_gt {x y : Int} {off : Int} {tgt : Nat} (hd : decode μ.2.1 pc = .ok (.if_icmp .gt off, 3)) (ht : (pc : Int) + off = (tgt : Int)) (kt : nw y < nw x → AW z μ d Q tgt lv st g) (kf : ¬ nw y < nw x → AW z μ d Q (pc + 3) lv st g) : AW z μ d Q pc lv (iv y :: iv x :: st) g := by
  intro p l e s m args below meth c H locs ls C hP hS hl
  exact lv_icmp_gt C.1 C.2.1 hd ht (fun q => kt ((i32_lt y x).mp q) p l e s m args below meth c H locs ls C hP hS hl) (fun q => kf (fun q2 => q ((i32_lt y x).mpr q2)) p l e s m args below meth c H locs ls C hP hS hl)

theorem AW.icmp_le {x y : Int} {off : Int} {tgt : Nat} (hd : decode μ.2.1 pc = .ok (.if_icmp .le off, 3)) (ht : (pc : Int) + off = (tgt : Int)) (kt : nw x ≤ nw y → AW z μ d Q tgt lv st g) (kf : ¬ nw x ≤ nw y → AW z μ d Q (pc + 3) lv st g) : AW z μ d Q pc lv (iv y :: iv x :: st) g := by
  intro p l e s m args below meth c H locs ls C hP hS hl
  exact lv_icmp_le C.1 C.2.1 hd ht (fun q => kt ((i32_le x y).mp q) p l e s m args below meth c H locs ls C hP hS hl) (fun q => kf (fun q2 => q ((i32_le x y).mpr q2)) p l e s m args below meth c H locs ls C hP hS hl)

theorem AW.icmp_ge {x y : Int} {off : Int} {tgt : Nat} (hd : decode μ.2.1 pc = .ok (.if_icmp .ge off, 3)) (ht : (pc : Int) + off = (tgt : Int)) (kt : nw y ≤ nw x → AW z μ d Q tgt lv st g) (kf : ¬ nw y ≤ nw x → AW z μ d Q (pc + 3) lv st g) : AW z μ d Q pc lv (iv y :: iv x :: st) g := by
  intro p l e s m args below meth c H locs ls C hP hS hl
  exact lv_icmp_ge C.1 C.2.1 hd ht (fun q => kt ((i32_le y x).mp q) p l e s m args below meth c H locs ls C hP hS hl) (fun q => kf (fun q2 => q ((i32_le y x).mpr q2)) p l e s m args below meth c H locs ls C hP hS hl)

theorem AW.icmp_eq {x y : Int} {off : Int} {tgt : Nat} (hd : decode μ.2.1 pc = .ok (.if_icmp .eq off, 3)) (ht : (pc : Int) + off = (tgt : Int)) (kt : nw x = nw y → AW z μ d Q tgt lv st g) (kf : ¬ nw x = nw y → AW z μ d Q (pc + 3) lv st g) : AW z μ d Q pc lv (iv y :: iv x :: st) g := by
  intro p l e s m args below meth c H locs ls C hP hS hl
  exact lv_icmp_eq C.1 C.2.1 hd ht (fun q => kt ((i32_eq x y).mp q) p l e s m args below meth c H locs ls C hP hS hl) (fun q => kf (fun q2 => q ((i32_eq x y).mpr q2)) p l e s m args below meth c H locs ls C hP hS hl)

theorem AW.if_lt {x : Int} {off : Int} {tgt : Nat} (hd : decode μ.2.1 pc = .ok (.ifCond .lt off, 3)) (ht : (pc : Int) + off = (tgt : Int)) (kt : nw x < 0 → AW z μ d Q tgt lv st g) (kf : ¬ nw x < 0 → AW z μ d Q (pc + 3) lv st g) : AW z μ d Q pc lv (iv x :: st) g := by
  intro p l e s m args below meth c H locs ls C hP hS hl
  exact lv_if_lt C.1 C.2.1 hd ht (fun q => kt ((i32_lt0 x).mp q) p l e s m args below meth c H locs ls C hP hS hl) (fun q => kf (fun q2 => q ((i32_lt0 x).mpr q2)) p l e s m args below meth c H locs ls C hP hS hl)

theorem AW.if_gt {x : Int} {off : Int} {tgt : Nat} (hd : decode μ.2.1 pc = .ok (.ifCond .gt off, 3)) (ht : (pc : Int) + off = (tgt : Int)) (kt : 0 < nw x → AW z μ d Q tgt lv st g) (kf : ¬ 0 < nw x → AW z μ d Q (pc + 3) lv st g) : AW z μ d Q pc lv (iv x :: st) g := by
  intro p l e s m args below meth c H locs ls C hP hS hl
  exact lv_if_gt C.1 C.2.1 hd ht (fun q => kt ((i32_0lt x).mp q) p l e s m args below meth c H locs ls C hP hS hl) (fun q => kf (fun q2 => q ((i32_0lt x).mpr q2)) p l e s m args below meth c H locs ls C hP hS hl)

theorem AW.if_le {x : Int} {off : Int} {tgt : Nat} (hd : decode μ.2.1 pc = .ok (.ifCond .le off, 3)) (ht : (pc : Int) + off = (tgt : Int)) (kt : nw x ≤ 0 → AW z μ d Q tgt lv st g) (kf : ¬ nw x ≤ 0 → AW z μ d Q (pc + 3) lv st g) : AW z μ d Q pc lv (iv x :: st) g := by
  intro p l e s m args below meth c H locs ls C hP hS hl
  exact lv_if_le C.1 C.2.1 hd ht (fun q => kt ((i32_le0 x).mp q) p l e s m args below meth c H locs ls C hP hS hl) (fun q => kf (fun q2 => q ((i32_le0 x).mpr q2)) p l e s m args below meth c H locs ls C hP hS hl)

theorem AW.if_ge {x : Int} {off : Int} {tgt : Nat} (hd : decode μ.2.1 pc = .ok (.ifCond .ge off, 3)) (ht : (pc : Int) + off = (tgt : Int)) (kt : 0 ≤ nw x → AW z μ d Q tgt lv st g) (kf : ¬ 0 ≤ nw x → AW z μ d Q (pc + 3) lv st g) : AW z μ d Q pc lv (iv x :: st) g := by
  intro p l e s m args below meth c H locs ls C hP hS hl
  exact lv_if_ge C.1 C.2.1 hd ht (fun q => kt ((i32_0le x).mp q) p l e s m args below meth c H locs ls C hP hS hl) (fun q => kf (fun q2 => q ((i32_0le x).mpr q2)) p l e s m args below meth c H locs ls C hP hS hl)

theorem AW.if_eq {x : Int} {off : Int} {tgt : Nat} (hd : decode μ.2.1 pc = .ok (.ifCond .eq off, 3)) (ht : (pc : Int) + off = (tgt : Int)) (kt : nw x = 0 → AW z μ d Q tgt lv st g) (kf : ¬ nw x = 0 → AW z μ d Q (pc + 3) lv st g) : AW z μ d Q pc lv (iv x :: st) g := by
  intro p l e s m args below meth c H locs ls C hP hS hl
  exact lv_if_eq C.1 C.2.1 hd ht (fun q => kt ((i32_eq0 x).mp q) p l e s m args below meth c H locs ls C hP hS hl) (fun q => kf (fun q2 => q ((i32_eq0 x).mpr q2)) p l e s m args below meth c H locs ls C hP hS hl)

theorem AW.icmp_ne {x y : Int} {off : Int} {tgt : Nat} (hd : decode μ.2.1 pc = .ok (.if_icmp .ne off, 3)) (ht : (pc : Int) + off = (tgt : Int)) (kt : ¬ nw x = nw y → AW z μ d Q tgt lv st g) (kf : nw x = nw y → AW z μ d Q (pc + 3) lv st g) : AW z μ d Q pc lv (iv y :: iv x :: st) g := by
  intro p l e s m args below meth c H locs ls C hP hS hl
  exact lv_icmp_ne C.1 C.2.1 hd ht (fun q => kt (fun q2 => q ((i32_eq x y).mpr q2)) p l e s m args below meth c H locs ls C hP hS hl) (fun q => kf ((i32_eq x y).mp q) p l e s m args below meth c H locs ls C hP hS hl)

theorem AW.if_ne {x : Int} {off : Int} {tgt : Nat} (hd : decode μ.2.1 pc = .ok (.ifCond .ne off, 3)) (ht : (pc : Int) + off = (tgt : Int)) (kt : ¬ nw x = 0 → AW z μ d Q tgt lv st g) (kf : nw x = 0 → AW z μ d Q (pc + 3) lv st g) : AW z μ d Q pc lv (iv x :: st) g := by
  intro p l e s m args below meth c H locs ls C hP hS hl
  exact lv_if_ne C.1 C.2.1 hd ht (fun q => kt (fun q2 => q ((i32_eq0 x).mpr q2)) p l e s m args below meth c H locs ls C hP hS hl) (fun q => kf ((i32_eq0 x).mp q) p l e s m args below meth c H locs ls C hP hS hl)

theorem AW.tsOut {x dflt lo hi : Int} {offs : Array Int} {len tgt : Nat} (hd : decode μ.2.1 pc = .ok (.tableswitch dflt lo hi offs, len)) (h : nw x < lo ∨ hi < nw x) (ht : (pc : Int) + dflt = (tgt : Int)) (k : AW z μ d Q (tgt) lv (st) g) : AW z μ d Q pc lv (iv x :: st) g := by
  intro p l e s m args below meth c H locs ls C hP hS hl
  exact lv_tableOut C.1 C.2.1 hd (by rw [i32_toInt]; exact h) ht (k p l e s m args below meth c H locs ls C hP hS hl)

theorem AW.tsIn {x dflt lo hi off : Int} {offs : Array Int} {len tgt : Nat} (v : Int) (hd : decode μ.2.1 pc = .ok (.tableswitch dflt lo hi offs, len)) (hv : nw x = v) (h1 : ¬ v < lo) (h2 : ¬ hi < v) (ho : offs[(v - lo).toNat]? = some off) (ht : (pc : Int) + off = (tgt : Int)) (k : AW z μ d Q (tgt) lv (st) g) : AW z μ d Q pc lv (iv x :: st) g := by
  intro p l e s m args below meth c H locs ls C hP hS hl
  exact lv_tableIn C.1 C.2.1 hd (by rw [i32_toInt, hv]; exact h1) (by rw [i32_toInt, hv]; exact h2) (by rw [i32_toInt, hv]; exact ho) ht (k p l e s m args below meth c H locs ls C hP hS hl)

/-- what the tables say of a field: own class, pool place, cell, slot -/
def AF (own : String) (idx q k : Nat) : Prop := ∃ (ci N : Nat) (C : String) (T : u_T), q < KC ∧ skF q = (ci + 3, N) ∧ vwCl[ci]? = some (C, T, N) ∧ k < N ∧ (∀ w ∈ u_ws C T N, w ∈ lw_gd) ∧ Cond.fieldLink own idx (T k).1 (T k).2.1 (T k).2.2.1 ∈ lw_gd
def AFp (own : String) (idx q k : Nat) (ty : FieldType) : Prop := ∃ (ci N : Nat) (C : String) (T : u_T) (ty0 : Nat → FieldType), q < KC ∧ skF q = (ci + 3, N) ∧ vwCl[ci]? = some (C, T, N) ∧ k < N ∧ (∀ w ∈ u_ws C T N, w ∈ lw_gd) ∧ Cond.fieldLink own idx (T k).1 (T k).2.1 (T k).2.2.1 ∈ lw_gd ∧
  (∀ j, j < N → parseFieldDescriptor (T j).2.2.1 = some (ty0 j)) ∧ (∀ a, a < N → ∀ b, b < N → a ≠ b → (T a).2.1 ≠ (T b).2.1) ∧ (T k).2.2.2 = false ∧ parseFieldDescriptor (T k).2.2.1 = some ty
theorem AW.get {idx q k : Nat} {v : Value} (hF : AF μ.1 idx q k) (hd : decode μ.2.1 pc = .ok (.getfield idx, 3)) (hv : awS z g q k = v) (kk : AW z μ d Q (pc + 3) lv (v :: st) g) : AW z μ d Q pc lv (rv z q :: st) g := by
  intro p l e s m args below meth c H locs ls C hP hS hl
  obtain ⟨ci, N, D, T, h1, h2, h3, h4, h5, h6⟩ := hF
  exact va_get (C := D) (T := T) (N := N) (ci := ci) C.1 C.2.1 C.2.2.2.2.2.1 h5 C.2.2.2.2.1 C.2.2.2.2.2.2.2.1 hP q (by rw [awW_get h1, awE_o h2]) h3 k h4 (C.2.2.2.2.2.1 _ h6) (fun _ h => h) (v := v) (by rw [List.getElem?_map, List.getElem?_range h4]; simp [hv]) hd (kk p l e s m args below meth c H locs ls C hP hS hl)
theorem AW.getI {idx q k : Nat} (hF : AF μ.1 idx q k) (hs : srF q k = 0) (hd : decode μ.2.1 pc = .ok (.getfield idx, 3)) (kk : AW z μ d Q (pc + 3) lv (iv (g q k) :: st) g) : AW z μ d Q pc lv (rv z q :: st) g :=
  AW.get hF hd (by unfold awS; rw [hs]) kk
theorem AW.getR {idx q k j : Nat} (hF : AF μ.1 idx q k) (hs : srF q k = j + 2) (hd : decode μ.2.1 pc = .ok (.getfield idx, 3)) (kk : AW z μ d Q (pc + 3) lv (rv z j :: st) g) : AW z μ d Q pc lv (rv z q :: st) g :=
  AW.get hF hd (by unfold awS; rw [hs]) kk
theorem AW.getM {idx q k j : Nat} (hF : AF μ.1 idx q k) (hs : srF q k = 1) (hd : decode μ.2.1 pc = .ok (.getfield idx, 3)) (hj : (g q k).toNat = j) (kk : AW z μ d Q (pc + 3) lv (rv z j :: st) g) : AW z μ d Q pc lv (rv z q :: st) g :=
  AW.get hF hd (by unfold awS; rw [hs, ← hj]) kk
theorem AW.put {idx q k : Nat} {ty : FieldType} {v : Value} {x : Int} {g1 : AG} (hF : AFp μ.1 idx q k ty) (hn : narrow ty v = v) (hfit : fits ty v = true) (hv : awS z (up g q k x) q k = v) (hd : decode μ.2.1 pc = .ok (.putfield idx, 3)) (hg : g1 = up g q k x) (kk : AW z μ d Q (pc + 3) lv st g1) : AW z μ d Q pc lv (v :: rv z q :: st) g := by
  intro p l e s m args below meth c H locs ls C hP hS hl
  obtain ⟨ci, N, D, T, ty0, h1, h2, h3, h4, h5, h6, h7, h8, h9, h10⟩ := hF
  subst hg
  have hD : va_D (zA z) (awW z g) := awD C.2.2.2.2.2.2.2.2.1
  refine va_put (C := D) (T := T) (N := N) (ci := ci) C.1 C.2.1 C.2.2.2.2.2.1 h5 ty0 h7 h8 C.2.2.2.2.1 C.2.2.2.2.2.2.2.1 hP hD hS q (by rw [awW_get h1, awE_o h2]) h3 k h4 (C.2.2.2.2.2.1 _ h6) (fun _ h => h) h9 h10 hn hfit (by simp [h4]) hd (fun H1 locs1 hP1 _ hS1 => ?_)
  rw [awP_put h2 h4 hv] at hP1
  exact kk p l e s m args below meth c H1 locs1 ls C hP1 hS1 hl
theorem AW.putI {idx q k : Nat} {x : Int} {g1 : AG} (hF : AFp μ.1 idx q k .int) (hs : srF q k = 0) (hd : decode μ.2.1 pc = .ok (.putfield idx, 3)) (hg : g1 = up g q k x) (kk : AW z μ d Q (pc + 3) lv st g1) : AW z μ d Q pc lv (iv x :: rv z q :: st) g :=
  AW.put hF rfl rfl (by unfold awS up; rw [hs]; simp) hd hg kk
theorem AW.putZ {idx q k : Nat} {x : Int} {g1 : AG} (hF : AFp μ.1 idx q k .boolean) (hs : srF q k = 0) (h01 : x = 0 ∨ x = 1) (hd : decode μ.2.1 pc = .ok (.putfield idx, 3)) (hg : g1 = up g q k x) (kk : AW z μ d Q (pc + 3) lv st g1) : AW z μ d Q pc lv (iv x :: rv z q :: st) g :=
  AW.put hF (zok_nar h01) (by rcases h01 with rfl | rfl <;> rfl) (by unfold awS up; rw [hs]; simp) hd hg kk
theorem AW.putM {idx q k j : Nat} {x : Int} {g1 : AG} (hF : AFp μ.1 idx q k (.array .int)) (hs : srF q k = 1) (hj : x.toNat = j) (hd : decode μ.2.1 pc = .ok (.putfield idx, 3)) (hg : g1 = up g q k x) (kk : AW z μ d Q (pc + 3) lv st g1) : AW z μ d Q pc lv (rv z j :: rv z q :: st) g :=
  AW.put hF rfl rfl (by unfold awS up; rw [hs]; simp [hj]) hd hg kk
/-! arrays -/
theorem AW.iald {q n : Nat} {i : Int} (hq : q < KC) (hk : skF q = (0, n)) (hi : 0 ≤ nw i ∧ nw i < n) (hd : decode μ.2.1 pc = .ok (.iaload, 1)) (kk : AW z μ d Q (pc + 1) lv (iv (g q (ix i)) :: st) g) : AW z μ d Q pc lv (iv i :: rv z q :: st) g := by
  intro p l e s m args below meth c H locs ls C hP hS hl
  refine va_iald C.1 C.2.1 C.2.2.2.2.2.2.2.1 hP q 0 (by rw [awW_get hq, awE_i hk]) rfl (i32_in i n hi) hd ?_
  rw [i32_clamp]
  exact kk p l e s m args below meth c H locs ls C hP hS hl
theorem AW.zald {q n : Nat} {i : Int} (hq : q < KC) (hk : skF q = (1, n)) (hi : 0 ≤ nw i ∧ nw i < n) (hd : decode μ.2.1 pc = .ok (.baload, 1)) (kk : AW z μ d Q (pc + 1) lv (iv (g q (ix i)) :: st) g) : AW z μ d Q pc lv (iv i :: rv z q :: st) g := by
  intro p l e s m args below meth c H locs ls C hP hS hl
  refine va_zald C.1 C.2.1 C.2.2.2.2.2.2.2.1 hP q 1 (by rw [awW_get hq, awE_z hk]) rfl (i32_in i n hi) hd ?_
  rw [i32_clamp]
  exact kk p l e s m args below meth c H locs ls C hP hS hl
theorem AW.aald {q n b : Nat} {i : Int} (hq : q < KC) (hk : skF q = (2, n)) (hb : ∀ j, j < n → srF q j = b + j + 2) (hi : 0 ≤ nw i ∧ nw i < n) (hd : decode μ.2.1 pc = .ok (.aaload, 1)) (kk : AW z μ d Q (pc + 1) lv (rv z (b + ix i) :: st) g) : AW z μ d Q pc lv (iv i :: rv z q :: st) g := by
  intro p l e s m args below meth c H locs ls C hP hS hl
  have hin := i32_in i n hi
  have hlt : (Int32.ofInt i).toNatClampNeg < n := Nat.not_le.mp fun q => hin (Or.inr q)
  have hP0 := hP q _ (awW_get hq)
  rw [awE_q hk] at hP0
  refine W.aald (v := rv z (b + ix i)) (ty := .array .int) C.1 C.2.1 hP0 ((C.2.2.2.2.2.2.2.1.2 2 _ rfl).1 n _) rfl (fun q => by cases q) (by show ¬ (_ ∨ (arrV _ _ _).slots.size ≤ _); rw [arrV_size]; exact hin) (by show (arrV _ _ _).slots[_]? = _; rw [arrV_read _ _ hlt, i32_clamp]; rw [i32_clamp] at hlt; simp only [va_rf]; rw [hb _ hlt]; rfl) rfl rfl hd (kk p l e s m args below meth c H locs ls C hP hS hl)
theorem AW.iast {q n : Nat} {i x : Int} {g1 : AG} (hq : q < KC) (hk : skF q = (0, n)) (hi : 0 ≤ nw i ∧ nw i < n) (hd : decode μ.2.1 pc = .ok (.iastore, 1)) (hg : g1 = up g q (ix i) x) (kk : AW z μ d Q (pc + 1) lv st g1) : AW z μ d Q pc lv (iv x :: iv i :: rv z q :: st) g := by
  intro p l e s m args below meth c H locs ls C hP hS hl
  subst hg
  have hD : va_D (zA z) (awW z g) := awD C.2.2.2.2.2.2.2.2.1
  refine va_iast C.1 C.2.1 C.2.2.2.2.2.2.2.1 hP hD hS q 0 (by rw [awW_get hq, awE_i hk]) rfl (i32_in i n hi) hd (fun H1 locs1 hP1 _ hS1 => ?_)
  rw [i32_clamp, awP_arr hk] at hP1
  exact kk p l e s m args below meth c H1 locs1 ls C hP1 hS1 hl
theorem AW.zast {q n : Nat} {i x : Int} {g1 : AG} (hq : q < KC) (hk : skF q = (1, n)) (hi : 0 ≤ nw i ∧ nw i < n) (h01 : x = 0 ∨ x = 1) (hd : decode μ.2.1 pc = .ok (.bastore, 1)) (hg : g1 = up g q (ix i) x) (kk : AW z μ d Q (pc + 1) lv st g1) : AW z μ d Q pc lv (iv x :: iv i :: rv z q :: st) g := by
  intro p l e s m args below meth c H locs ls C hP hS hl
  subst hg
  have hD : va_D (zA z) (awW z g) := awD C.2.2.2.2.2.2.2.2.1
  have e9 : vp_nar .boolean (Int32.ofInt x) = Int32.ofInt x := by rcases h01 with rfl | rfl <;> rfl
  refine va_zast C.1 C.2.1 C.2.2.2.2.2.2.2.1 hP hD hS q 1 (by rw [awW_get hq, awE_z hk]) rfl (i32_in i n hi) hd (fun H1 locs1 hP1 _ hS1 => ?_)
  rw [i32_clamp, e9, awP_arz hk] at hP1
  exact kk p l e s m args below meth c H1 locs1 ls C hP1 hS1 hl
theorem AW.alen {q n : Nat} (hq : q < KC) (hk : skF q = (0, n)) (hd : decode μ.2.1 pc = .ok (.arraylength, 1)) (kk : AW z μ d Q (pc + 1) lv (iv n :: st) g) : AW z μ d Q pc lv (rv z q :: st) g := by
  intro p l e s m args below meth c H locs ls C hP hS hl
  exact va_alen (x := (n, .inl (fun i => Int32.ofInt (g q i)))) C.1 C.2.1 C.2.2.2.2.2.2.2.1 hP q 0 (by rw [awW_get hq, awE_i hk]) rfl Int32.ofInt_eq_ofNat.symm hd (kk p l e s m args below meth c H locs ls C hP hS hl)
/-! ends -/
theorem aqc_of {s t : State} {a : Array Value} {H : Heap} {locs : List Loc} {v : Option Value} (hQ : Q v g) (hP : awP z g H) (hS : va_S (zA z) s.heap H locs) (ht : t.heap = H) : aqc z Q a s (.returned v) t :=
  ⟨⟨v, g, rfl, hQ, by rw [ht]; exact hP⟩, hS.F ht⟩
theorem AW.iret {x : Int} (hr : μ.2.2.2 = some .int) (hd : decode μ.2.1 pc = .ok (.ireturn, 1)) (hQ : Q (some (iv x)) g) : AW z μ d Q pc lv [iv x] g := by
  intro p l e s m args below meth c H locs ls C hP hS hl
  exact W.iret C.1 C.2.1 (C.2.2.1.trans hr) (fun t ht _ => aqc_of hQ hP hS ht) hS.2.2 hd C.2.2.2.2.2.2.1
theorem AW.zret {x : Int} (hr : μ.2.2.2 = some .boolean) (h01 : x = 0 ∨ x = 1) (hd : decode μ.2.1 pc = .ok (.ireturn, 1)) (hQ : Q (some (iv x)) g) : AW z μ d Q pc lv [iv x] g := by
  intro p l e s m args below meth c H locs ls C hP hS hl
  exact W.zret C.1 C.2.1 (C.2.2.1.trans hr) (zok_nar h01) (fun t ht _ => aqc_of hQ hP hS ht) hS.2.2 hd C.2.2.2.2.2.2.1
theorem AW.vret (hr : μ.2.2.2 = none) (hd : decode μ.2.1 pc = .ok (.return_, 1)) (hQ : Q none g) : AW z μ d Q pc lv [] g := by
  intro p l e s m args below meth c H locs ls C hP hS hl
  exact W.vret C.1 C.2.1 (C.2.2.1.trans hr) (fun t ht _ => aqc_of hQ hP hS ht) hS.2.2 hd C.2.2.2.2.2.2.1
/-! calls -/
theorem tbl_good : ∀ w ∈ lw_gd, goodWord w = true := fun w hw => (List.mem_filter.mp hw).2
theorem good_code {y : MethodName} {b : ByteArray} {nL : Nat} {ret : Option FieldType} (h : Cond.code y b nL ret ∈ lw_gd) : GoodIn lw_gd (Cond.code y b nL ret :: lw_gd) := by
  intro w hw
  have hm : w ∈ lw_gd := by
    rcases List.mem_cons.mp hw with rfl | hw
    · exact h
    · exact hw
  exact ⟨hm, good_of_word (tbl_good w hm)⟩
theorem blindK {As : List Value} : FrameBlind (va_Pc As (fun U => awK z U ∧ awP z g U.heap)) := fun _ _ _ _ h => ⟨h.1, h.2.1.calling, h.2.2⟩
/-- what the tables say of a callee -/
def CQ (own : String) (idx : Nat) (y : MethodName) (b : ByteArray) (nL : Nat) (ret : Option FieldType) (n : Nat) : Prop :=
  Cond.methodLink own idx y ∈ lw_gd ∧ Cond.initialized y.cls ∈ lw_gd ∧ Cond.code y b nL ret ∈ lw_gd ∧ (y.cls ≠ "java/lang/invoke/MethodHandle" ∧ y.cls ≠ "java/lang/invoke/VarHandle" ∧ (parseMethodDescriptor y.desc).map (fun d => d.parameters.length) = some n) ∧ nL ≤ 45
theorem CQ.b {own : String} {idx : Nat} {y : MethodName} {b : ByteArray} {nL n D : Nat} {ret : Option FieldType} (h : CQ own idx y b nL ret n) {s : State} {args : Array Value} (hts : ∀ w ∈ lw_gd, w.before args s = true) (hD : D + 1 ≤ d) :
    CallB (rmD d) s args own idx y b nL ret (Cond.code y b nL ret :: lw_gd) (rmD (d - 1)) 0 0 n := by
  obtain ⟨h1, h2, h3, h4, h5⟩ := h
  refine callB_of n hts (good_code h3) rfl rfl rfl (hts _ h2) (hts _ h1) h4 ⟨?_, ?_⟩
  · show d - 1 + 1 ≤ d
    omega
  · show 8 + (nL + 11) + 64 * (d - 1) ≤ 64 * d
    omega
theorem AW.ofRun {p : Program} {l : Launch} {e : Env} {s : State} {m : MethodId} {args : Array Value} {below : List Frame} {meth : Method} {c : Code} {H : Heap} {locs : List Loc} {ls : Array Slot} {st0 : List Value} {a : Array Value} {Q1 : Option Value → AG → Prop}
    (hr : va_Run p l e (rmD d) s m args below meth c H locs 0 0 0 0 (F0 m pc ls st0) st (aqc z Q1 a) (zA z)) (C : awC z μ p s m args meth c) (hS : va_S (zA z) s.heap H locs) (hl : lv_has ls μ.2.2.1 lv)
    (kk : ∀ (v : Option Value) (g1 : AG), Q1 v g1 → AW z μ d Q (pc + 3) lv (v.toList ++ st) g1) : W p l e (rmD d) s m args below meth c H locs 0 0 (MQ below (aqc z Q) args s 0 0 (zA z)) (F0 m pc ls st0) := by
  intro T hT X
  obtain ⟨v, st₀, t, T', L, h0, X', hL, e1, e2, ⟨⟨r, g1, hv, hq, hP1⟩, hz, hk⟩, st⟩ := hr T hT X
  cases hv
  rw [h0] at hz hk
  have hS1 : va_S (zA z) s.heap T'.heap (locs ++ L) := by
    refine ⟨Nat.le_trans hS.1 (by rw [e1]; exact hz), fun q h1 h2 => by rw [e1, hk q (Nat.lt_of_lt_of_le h1 hS.1) h2]; exact hS.2.1 q h1 h2, fun q hq => ?_⟩
    rcases List.mem_append.mp hq with h | h
    · exact hS.2.2 q h
    · exact hL q h
  obtain ⟨t2, a1, b1⟩ := kk v g1 hq p l e s m args below meth c T'.heap (locs ++ L) ls C (by rw [e1]; exact hP1) hS1 hl T' rfl X'
  exact ⟨t2, st t2 a1, b1⟩
/-- a method that answers r (its number, the state behind it) -/
def QD (ret : Option FieldType) (r : Int × AG) : Option Value → AG → Prop := fun v g' => v = ret.map (fun _ => iv r.1) ∧ g' = r.2
def AMf (z : AZ) (y : MethodName) (b : ByteArray) (nL : Nat) (ret : Option FieldType) (D : Nat) (As : List Value) (g : AG) (r : Int × AG) : Prop := ∀ d, D ≤ d → AM z y b nL ret d As g (QD ret r)
/-- an object whose class is the callee's -/
def CR (q : Nat) (y : MethodName) : Prop := q < KC ∧ ∃ (ci N : Nat) (T : u_T), skF q = (ci + 3, N) ∧ vwCl[ci]? = some (y.cls, T, N) ∧ Cond.instanceMethod y ∈ lw_gd ∧ Cond.selects y.cls y y ∈ lw_gd
theorem AW.callV0 {idx q n nL D : Nat} {y : MethodName} {b : ByteArray} {ret : Option FieldType} {As st0 : List Value} {r : Int × AG} (hM : AMf z y b nL ret D (rv z q :: As) g r) (hF : CQ μ.1 idx y b nL ret n) (hR : CR q y) (hD : D + 1 ≤ d) (hn : As.length = n) (hc : (st.map fun v => v.category).sum ≤ 8) (hd : decode μ.2.1 pc = .ok (.invokevirtual idx, 3)) (hst : st0 = As.reverse ++ rv z q :: st)
    (kk : AW z μ d Q (pc + 3) lv ((ret.map fun _ => iv r.1).toList ++ st) r.2) : AW z μ d Q pc lv st0 g := by
  intro p l e s m args below meth c H locs ls C hP hS hl
  obtain ⟨hq, ci, N, T, h1, h2, h3, h4⟩ := hR
  have hts := C.2.2.2.2.2.1
  have hrun := va_runV (p := p) (e := e) (meth := meth) (below := below) (locs := locs) (C := y.cls) (As := As) (rest := st) (g := F0 m pc ls st0) ⟨C.1, C.2.1, C.2.2.2.1, C.2.2.2.2.1, hts⟩ (hM (d - 1) (by omega) l) ⟨hF.b hts hD, hts _ h3, hts _ h4⟩ ⟨blindK, va_recv C.2.2.2.2.2.2.2.1 hP h2 (q0 := q) (by rw [awW_get hq, awE_o h1]), fun U hU hW => ⟨rfl, C.2.2.2.2.2.2.2.at hS hU hW, by rw [hU]; exact hP⟩⟩ rfl hn hl.1 hst (by show 2 * 0 + _ ≤ 8; omega) hd ⟨Nat.zero_le _, Nat.zero_le _⟩
  refine AW.ofRun hrun C hS hl (fun v g1 h => ?_)
  obtain ⟨rfl, rfl⟩ := h
  exact kk
theorem AW.callS0 {idx n nL D : Nat} {y : MethodName} {b : ByteArray} {ret : Option FieldType} {As st0 : List Value} {r : Int × AG} (hM : AMf z y b nL ret D As g r) (hF : CQ μ.1 idx y b nL ret n) (hR : Cond.static y ∈ lw_gd) (hD : D + 1 ≤ d) (hn : As.length = n) (hc : (st.map fun v => v.category).sum ≤ 8) (hd : decode μ.2.1 pc = .ok (.invokestatic idx, 3)) (hst : st0 = As.reverse ++ st)
    (kk : AW z μ d Q (pc + 3) lv ((ret.map fun _ => iv r.1).toList ++ st) r.2) : AW z μ d Q pc lv st0 g := by
  intro p l e s m args below meth c H locs ls C hP hS hl
  have hts := C.2.2.2.2.2.1
  have hrun := va_runS (p := p) (e := e) (meth := meth) (below := below) (locs := locs) (As := As) (rest := st) (g := F0 m pc ls st0) ⟨C.1, C.2.1, C.2.2.2.1, C.2.2.2.2.1, hts⟩ (hM (d - 1) (by omega) l) ⟨hF.b hts hD, hts _ hR⟩ ⟨blindK, fun U hU hW => ⟨rfl, C.2.2.2.2.2.2.2.at hS hU hW, by rw [hU]; exact hP⟩⟩ rfl hn hl.1 hst (by show 2 * 0 + _ ≤ 8; omega) hd ⟨Nat.zero_le _, Nat.zero_le _⟩
  refine AW.ofRun hrun C hS hl (fun v g1 h => ?_)
  obtain ⟨rfl, rfl⟩ := h
  exact kk
/-- .. a nest mate's private static: within -/
theorem AW.callN0 {idx nL D : Nat} {b : ByteArray} {ret : Option FieldType} {As st0 : List Value} {r : Int × AG} (hM : AMf z ⟨"WeekBoats", "within", "(III)Z"⟩ b nL ret D As g r) (hn1 : (μ.1, idx) ∈ nestL) (hi : Cond.initialized "WeekBoats" ∈ lw_gd) (h3 : Cond.code ⟨"WeekBoats", "within", "(III)Z"⟩ b nL ret ∈ lw_gd) (hR : Cond.static ⟨"WeekBoats", "within", "(III)Z"⟩ ∈ lw_gd) (hL : nL ≤ 45) (hD : D + 1 ≤ d) (hn : As.length = 3) (hc : (st.map fun v => v.category).sum ≤ 8) (hd : decode μ.2.1 pc = .ok (.invokestatic idx, 3)) (hst : st0 = As.reverse ++ st)
    (kk : AW z μ d Q (pc + 3) lv ((ret.map fun _ => iv r.1).toList ++ st) r.2) : AW z μ d Q pc lv st0 g := by
  intro p l e s m args below meth c H locs ls C hP hS hl
  have hts := C.2.2.2.2.2.1
  have h1 := C.2.2.2.2.2.2.2.2.2.2.2.1 _ hn1
  have hB : va_CN (rmD d) s args μ.1 idx ⟨"WeekBoats", "within", "(III)Z"⟩ "WeekBoats" b nL ret (Cond.code ⟨"WeekBoats", "within", "(III)Z"⟩ b nL ret :: lw_gd) (rmD (d - 1)) 0 0 3 := va_cnB 3 hts (good_code h3) rfl rfl rfl h1 (hts _ hi) ⟨by decide +kernel, by decide +kernel, by decide +kernel⟩ ⟨by show d - 1 + 1 ≤ d; omega, by show 8 + (nL + 11) + 64 * (d - 1) ≤ 64 * d; omega⟩
  have hrun := va_runSN (p := p) (e := e) (meth := meth) (below := below) (locs := locs) (As := As) (rest := st) (g := F0 m pc ls st0) ⟨C.1, C.2.1, C.2.2.2.1, C.2.2.2.2.1, hts⟩ (hM (d - 1) (by omega) l) ⟨hB, hts _ hR, trivial⟩ ⟨blindK, fun U hU hW => ⟨rfl, C.2.2.2.2.2.2.2.at hS hU hW, by rw [hU]; exact hP⟩⟩ rfl hn hl.1 hst (by show 2 * 0 + _ ≤ 8; omega) hd ⟨Nat.zero_le _, Nat.zero_le _⟩
  refine AW.ofRun hrun C hS hl (fun v g1 h => ?_)
  obtain ⟨rfl, rfl⟩ := h
  exact kk
end RULES
