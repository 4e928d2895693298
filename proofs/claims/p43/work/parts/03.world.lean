/-! the world: 188 cells at fixed places; kinds 0 int array, 1 boolean array, 2 array of int arrays, ci + 3 an object of class ci of vwCl -/
def skL : List (Nat × Nat) := [(14, 12), (5, 7), (9, 15), (9, 15), (7, 9), (12, 8), (3, 12), (10, 9), (6, 7), (4, 17), (13, 15), (11, 15), (8, 3), (0, 15), (0, 15), (0, 15), (0, 15), (0, 500), (0, 500), (0, 16), (0, 16), (0, 16), (0, 16), (0, 16), (0, 16), (0, 30), (0, 30), (0, 9), (0, 32), (0, 500), (0, 500), (0, 16), (0, 16), (0, 16), (0, 16), (0, 16), (0, 16), (0, 30), (0, 30), (0, 9), (0, 32), (0, 500), (0, 501), (0, 501), (0, 14), (0, 14), (0, 16), (0, 14), (0, 10), (0, 10), (0, 10), (0, 10), (2, 10), (0, 10), (0, 10), (0, 10), (0, 10), (0, 10), (0, 10), (0, 10), (0, 10), (0, 10), (0, 10), (2, 10), (0, 10), (0, 10), (0, 10), (0, 10), (0, 10), (0, 10), (0, 10), (0, 10), (0, 10), (0, 10), (0, 10), (0, 16), (0, 20), (0, 20), (0, 20), (0, 20), (0, 20), (0, 7), (0, 7), (0, 7), (0, 7), (0, 8), (0, 8), (0, 8), (0, 8), (0, 8), (0, 4), (0, 4), (0, 4), (0, 4), (0, 9), (0, 8), (0, 8), (0, 10), (0, 10), (0, 7), (0, 128), (0, 128), (0, 128), (0, 8), (0, 3), (0, 8), (0, 8), (0, 16), (0, 16), (0, 12), (0, 12), (0, 12), (0, 12), (0, 2), (0, 2), (0, 1000), (0, 1000), (15, 101), (0, 15), (0, 15), (0, 15), (0, 8), (0, 8), (0, 8), (0, 10), (0, 10), (0, 10), (0, 10), (0, 16), (0, 16), (0, 16), (0, 16), (0, 16), (0, 16), (0, 1020), (0, 16), (0, 16), (0, 16), (0, 16), (0, 16), (0, 16), (0, 1020), (0, 60), (0, 60), (1, 30), (1, 30), (0, 500), (0, 520), (0, 10), (0, 20), (0, 20), (0, 20), (0, 20), (0, 20), (1, 16), (0, 10), (0, 100), (0, 100), (0, 7), (0, 7), (0, 7), (0, 7), (0, 8), (0, 8), (0, 8), (0, 8), (0, 8), (0, 8), (0, 8), (0, 4), (0, 4), (0, 4), (0, 4), (0, 10), (0, 10), (0, 7), (0, 7), (0, 7), (0, 8), (0, 3), (0, 16), (0, 12), (0, 12), (0, 12), (0, 2), (0, 2), (0, 1000), (0, 1000)]
def srL : List (List Nat) := [[3, 4, 5, 6, 7, 8, 9, 10, 11, 12, 13, 14], [15, 16, 17, 18, 0, 0, 0], [19, 20, 0, 0, 21, 22, 23, 24, 25, 26, 0, 27, 28, 29, 30], [31, 32, 0, 0, 33, 34, 35, 36, 37, 38, 0, 39, 40, 41, 42], [5, 43, 0, 44, 45, 0, 0, 0, 0], [3, 4, 46, 47, 48, 49, 0, 0], [3, 4, 7, 50, 51, 52, 53, 0, 54, 65, 76, 77], [8, 4, 7, 78, 79, 80, 81, 82, 0], [83, 84, 0, 0, 0, 85, 86], [87, 88, 89, 90, 0, 91, 92, 93, 94, 95, 0, 0, 96, 97, 98, 0, 0], [99, 100, 0, 101, 102, 103, 104, 0, 105, 106, 107, 108, 0, 0, 0], [3, 109, 110, 0, 0, 0, 111, 112, 113, 114, 115, 116, 0, 0, 0], [1, 1, 0], [], [], [], [], [], [], [], [], [], [], [], [], [], [], [], [], [], [], [], [], [], [], [], [], [], [], [], [], [], [], [], [], [], [], [], [], [], [], [], [55, 56, 57, 58, 59, 60, 61, 62, 63, 64], [], [], [], [], [], [], [], [], [], [], [66, 67, 68, 69, 70, 71, 72, 73, 74, 75], [], [], [], [], [], [], [], [], [], [], [], [], [], [], [], [], [], [], [], [], [], [], [], [], [], [], [], [], [], [], [], [], [], [], [], [], [], [], [], [], [], [], [], [], [], [], [], [], [], [], [], [], [], [120, 121, 122, 123, 124, 125, 126, 127, 128, 129, 0, 0, 0, 130, 131, 132, 133, 134, 135, 136, 137, 138, 139, 140, 141, 142, 143, 144, 145, 146, 147, 148, 149, 150, 0, 0, 0, 0, 0, 0, 0, 0, 0, 0, 0, 0, 0, 0, 0, 0, 151, 152, 153, 154, 155, 156, 157, 158, 159, 0, 160, 161, 162, 163, 0, 0, 0, 0, 164, 165, 166, 167, 168, 169, 170, 171, 172, 173, 174, 175, 176, 177, 178, 179, 0, 0, 0, 0, 180, 181, 0, 182, 0, 183, 184, 185, 186, 187, 188, 189, 0], [], [], [], [], [], [], [], [], [], [], [], [], [], [], [], [], [], [], [], [], [], [], [], [], [], [], [], [], [], [], [], [], [], [], [], [], [], [], [], [], [], [], [], [], [], [], [], [], [], [], [], [], [], [], [], [], [], [], [], [], [], [], [], [], [], [], [], [], [], []]
def strL : List (String × Nat × String × Nat) := [("WeekBoats$Parser", 91, "locks tunnel price hold harm up down when or and not day week water berths away age depth said taught ", 0), ("WeekBoats$Parser", 80, ";+-*/()<=>", 1), ("WeekBoatsModel", 261, "locks", 2), ("WeekBoatsModel", 266, "tunnel", 3), ("WeekBoatsModel", 267, "price", 4), ("WeekBoatsModel", 269, "hold", 5), ("WeekBoatsModel", 271, "harm", 6), ("WeekBoatsModel", 273, "taught", 7), ("WeekBoatsModel", 275, "up", 8), ("WeekBoatsModel", 277, "down", 9), ("WeekBoatsModel", 279, "when", 10), ("WeekBoatsModel", 281, "or", 11), ("WeekBoatsModel", 283, "and", 12), ("WeekBoatsModel", 285, "not", 13), ("WeekBoatsModel", 287, "day", 14), ("WeekBoatsModel", 289, "week", 15), ("WeekBoatsModel", 291, "water", 16), ("WeekBoatsModel", 292, "berths", 17), ("WeekBoatsModel", 294, "away", 18), ("WeekBoatsModel", 296, "age", 19), ("WeekBoatsModel", 298, "depth", 20), ("WeekBoatsModel", 300, "said", 21)]
def lenJ : List Nat := [102, 10, 5, 6, 5, 4, 4, 6, 2, 4, 4, 2, 3, 3, 3, 4, 5, 6, 4, 3, 5, 4]
def bytJ : List (List Int32) := [[108, 111, 99, 107, 115, 32, 116, 117, 110, 110, 101, 108, 32, 112, 114, 105, 99, 101, 32, 104, 111, 108, 100, 32, 104, 97, 114, 109, 32, 117, 112, 32, 100, 111, 119, 110, 32, 119, 104, 101, 110, 32, 111, 114, 32, 97, 110, 100, 32, 110, 111, 116, 32, 100, 97, 121, 32, 119, 101, 101, 107, 32, 119, 97, 116, 101, 114, 32, 98, 101, 114, 116, 104, 115, 32, 97, 119, 97, 121, 32, 97, 103, 101, 32, 100, 101, 112, 116, 104, 32, 115, 97, 105, 100, 32, 116, 97, 117, 103, 104, 116, 32], [59, 43, 45, 42, 47, 40, 41, 60, 61, 62], [108, 111, 99, 107, 115], [116, 117, 110, 110, 101, 108], [112, 114, 105, 99, 101], [104, 111, 108, 100], [104, 97, 114, 109], [116, 97, 117, 103, 104, 116], [117, 112], [100, 111, 119, 110], [119, 104, 101, 110], [111, 114], [97, 110, 100], [110, 111, 116], [100, 97, 121], [119, 101, 101, 107], [119, 97, 116, 101, 114], [98, 101, 114, 116, 104, 115], [97, 119, 97, 121], [97, 103, 101], [100, 101, 112, 116, 104], [115, 97, 105, 100]]
def KC : Nat := 188
/-- an integer as the machine's int reads it -/
def nw (z : Int) : Int := z.bmod 4294967296
def nl (z : Int) : Int := z.bmod 18446744073709551616
def ix (z : Int) : Nat := (nw z).toNat
def iv (z : Int) : Value := .int (Int32.ofInt z)
def jv (z : Int) : Value := .long (Int64.ofInt z)
abbrev AG : Type := Nat → Nat → Int
def up (g : AG) (k i : Nat) (v : Int) : AG := fun a b => if a = k ∧ b = i then v else g a b
def fillG (g : AG) (k n : Nat) (v : Int) : AG := fun a b => if a = k ∧ b < n then v else g a b
def copyG (g : AG) (ks sp kd dp n : Nat) : AG := fun a b => if a = kd ∧ dp ≤ b ∧ b < dp + n then g ks (sp + (b - dp)) else g a b
def skF (k : Nat) : Nat × Nat := skL.getD k (0, 0)
def srF (k i : Nat) : Nat := (srL.getD k []).getD i 0
abbrev AZ : Type := va_G × (ClassId × ClassId × ClassId) × (Nat → Nat) × (Nat → Nat) × (Nat → Nat)
def zad (z : AZ) (k : Nat) : Nat := z.2.2.1 k
def rv (z : AZ) (k : Nat) : Value := .ref (zad z k)
def sv (z : AZ) (i : Nat) : Value := .ref (z.2.2.2.1 i)
def awS (z : AZ) (g : AG) (k i : Nat) : Value := match srF k i with
  | 0 => iv (g k i)
  | 1 => rv z (g k i).toNat
  | j + 2 => rv z j
def awE (z : AZ) (g : AG) (k : Nat) : va_E := match (skF k).1 with
  | 0 => .inl (z.2.1.1, ((skF k).2, .inl (fun i => Int32.ofInt (g k i))))
  | 1 => .inl (z.2.1.2.1, ((skF k).2, .inl (fun i => Int32.ofInt (g k i))))
  | 2 => .inl (z.2.1.2.2, ((skF k).2, .inr (.inr (.inr (.inr (fun i => some (zad z (srF k i - 2))))))))
  | ci + 3 => .inr (ci, (List.range (skF k).2).map (awS z g k))
def awW (z : AZ) (g : AG) : va_W := (List.range KC).map fun k => (zad z k, awE z g k)
def awTy (z : AZ) : List (ClassId × FieldType) := [(z.2.1.1, .int), (z.2.1.2.1, .boolean), (z.2.1.2.2, .array .int)]
def zA (z : AZ) : Nat → Prop := fun q => ∃ k, k < KC ∧ q = zad z k
def nestL : List (String × Nat) := [("WeekBoats$Rules", 78), ("WeekBoats$Parser", 87), ("WeekBoats$LockQueue", 61), ("WeekBoats$Yard", 58), ("WeekBoats$Vans", 92)]
def lw_gd : List Cond := lw_tbl.filter goodWord
theorem gd {w : Cond} (h : w ∈ lw_tbl) (hg : goodWord w = true) : w ∈ lw_gd := List.mem_filter.mpr ⟨h, hg⟩
theorem gd_all {ws : List Cond} (h : ∀ w ∈ ws, w ∈ lw_tbl) (hg : ws.all goodWord = true) : ∀ w ∈ ws, w ∈ lw_gd := fun w hw => gd (h w hw) (List.all_eq_true.mp hg w hw)
/-- what holds of the tables and of the texts, whatever the cells hold -/
def awK (z : AZ) (U : State) : Prop := va_K z.1 vwCl (awTy z) U ∧ (∀ i j : Nat, i < KC → j < KC → zad z i = zad z j → i = j) ∧ vk_S 22 lenJ bytJ z.2.2.2.1 z.2.2.2.2 (zA z) U U.heap ∧ (∀ q ∈ strL, vk_R q.1 q.2.1 q.2.2.1 (z.2.2.2.1 q.2.2.2) U) ∧
  (∀ q ∈ nestL, va_Nw (.methodLinkNest q.1 q.2 ⟨"WeekBoats", "within", "(III)Z"⟩ "WeekBoats") U) ∧ va_Z "java/lang/String" "COMPACT_STRINGS" "Z" (.int 1) (zA z) U U.heap ∧ va_Zq "jdk/internal/util/Preconditions" "SIOOBE_FORMATTER" "Ljava/util/function/BiFunction;" (zA z) U U.heap
abbrev awP (z : AZ) (g : AG) (H : Heap) : Prop := va_P z.1 vwCl (awW z g) H
def rmD (d : Nat) : Room := { frames := d, cells := 0, slots := 0, locals := 64 * d }
def aqc (z : AZ) (Q : Option Value → AG → Prop) : Array Value → State → Outcome → State → Prop := fun _ st o t => (∃ (r : Option Value) (g' : AG), o = .returned r ∧ Q r g' ∧ awP z g' t.heap) ∧ va_F (zA z) st t
abbrev AMu : Type := String × ByteArray × Nat × Option FieldType
def awC (z : AZ) (μ : AMu) (p : Program) (s : State) (m : MethodId) (args : Array Value) (meth : Method) (c : Code) : Prop :=
  p.tables.exec = Jvm.exec ∧ c.code = μ.2.1 ∧ meth.sig.returnType = μ.2.2.2 ∧ c.maxLocals = μ.2.2.1 ∧ s.vm.findClass μ.1 = some m.cls ∧ (∀ w ∈ lw_gd, w.before args s = true) ∧ meth.locks = false ∧ awK z s
/-- from this point of the method the walk comes to its end with Q -/
def AW (z : AZ) (μ : AMu) (d : Nat) (Q : Option Value → AG → Prop) (pc : Nat) (lv : List (Nat × Value)) (st : List Value) (g : AG) : Prop :=
  ∀ (p : Program) (l : Launch) (e : Env) (s : State) (m : MethodId) (args : Array Value) (below : List Frame) (meth : Method) (c : Code) (H : Heap) (locs : List Loc) (ls : Array Slot),
    awC z μ p s m args meth c → awP z g H → va_S (zA z) s.heap H locs → lv_has ls μ.2.2.1 lv →
    W p l e (rmD d) s m args below meth c H locs 0 0 (MQ below (aqc z Q) args s 0 0 (zA z)) (F0 m pc ls st)
/-- a method's contract -/
def AM (z : AZ) (y : MethodName) (b : ByteArray) (nL : Nat) (ret : Option FieldType) (d : Nat) (As : List Value) (g : AG) (Q : Option Value → AG → Prop) : Prop :=
  ∀ l : Launch, Met l y (Cond.code y b nL ret :: lw_gd) (rmD d) (va_Pc As (fun U => awK z U ∧ awP z g U.heap)) (aqc z Q) 0 0 (zA z)
theorem AM.of {z : AZ} {y : MethodName} {b : ByteArray} {nL d : Nat} {ret : Option FieldType} {As : List Value} {g : AG} {Q : Option Value → AG → Prop} (hy : plainName y.cls = true) (hn : (lg_sl As).length ≤ nL)
    (h : AW z (y.cls, b, nL, ret) d Q 0 (lv_args 0 As) [] g) : AM z y b nL ret d As g Q := by
  intro l
  refine Met.ofW (cc := b) (maxL := nL) (ret := ret) hy rfl ?_
  intro p e s m args below meth c s₁ B hml hv
  obtain ⟨rfl, hK, hP⟩ := hv
  have hts := atoms_spec (ws := Cond.code y b nL ret :: lw_gd) B.pre
  have hown : s.vm.findClass y.cls = some m.cls := findClass_of_methodNamed B.named
  have hl := lv_entry As (n := nL) hn
  rw [lg_entry_eq]
  exact h p l e s m _ below meth c s.heap [] _ ⟨B.exec, B.bytes, B.returns, hml, hown, fun w hw => hts w (List.mem_cons_of_mem _ hw), B.notSynchronized, hK⟩ hP va_S.rf hl
/-! numbers -/
theorem i32_toInt (a : Int) : (Int32.ofInt a).toInt = nw a := by rw [Int32.toInt_ofInt]; rfl
theorem i32_lt (a b : Int) : Int32.ofInt a < Int32.ofInt b ↔ nw a < nw b := by rw [Int32.lt_iff_toInt_lt, i32_toInt, i32_toInt]
theorem i32_le (a b : Int) : Int32.ofInt a ≤ Int32.ofInt b ↔ nw a ≤ nw b := by rw [Int32.le_iff_toInt_le, i32_toInt, i32_toInt]
theorem i32_eq (a b : Int) : Int32.ofInt a = Int32.ofInt b ↔ nw a = nw b := by rw [← Int32.toInt_inj, i32_toInt, i32_toInt]
theorem i32_zero : (0 : Int32) = Int32.ofInt 0 := rfl
theorem nw_zero : nw 0 = 0 := by decide +kernel
theorem i32_eq0 (a : Int) : Int32.ofInt a = 0 ↔ nw a = 0 := by rw [i32_zero, i32_eq, nw_zero]
theorem i32_lt0 (a : Int) : Int32.ofInt a < 0 ↔ nw a < 0 := by rw [i32_zero, i32_lt, nw_zero]
theorem i32_le0 (a : Int) : Int32.ofInt a ≤ 0 ↔ nw a ≤ 0 := by rw [i32_zero, i32_le, nw_zero]
theorem i32_0lt (a : Int) : 0 < Int32.ofInt a ↔ 0 < nw a := by rw [i32_zero, i32_lt, nw_zero]
theorem i32_0le (a : Int) : 0 ≤ Int32.ofInt a ↔ 0 ≤ nw a := by rw [i32_zero, i32_le, nw_zero]
theorem i32_clamp (a : Int) : (Int32.ofInt a).toNatClampNeg = ix a := by
  show (Int32.ofInt a).toInt.toNat = _
  rw [i32_toInt]; rfl
theorem i32_in (a : Int) (n : Nat) (h : 0 ≤ nw a ∧ nw a < n) : vp_in (Int32.ofInt a) n := by
  rw [vp_in_iff, i32_toInt]; exact h
theorem i32_div (a b : Int) : Int32.ofInt a / Int32.ofInt b = Int32.ofInt ((nw a).tdiv (nw b)) := by
  rw [← Int32.toInt_inj, Int32.toInt_div, i32_toInt, i32_toInt, i32_toInt]; rfl
theorem i32_rem (a b : Int) : Int32.ofInt a - Int32.ofInt a / Int32.ofInt b * Int32.ofInt b = Int32.ofInt ((nw a).tmod (nw b)) := by
  have e1 : Int32.ofInt a = Int32.ofInt (nw a) := by rw [← Int32.toInt_inj, i32_toInt, i32_toInt]; simp [nw]
  have e2 : Int32.ofInt b = Int32.ofInt (nw b) := by rw [← Int32.toInt_inj, i32_toInt, i32_toInt]; simp [nw]
  rw [i32_div]
  rw [e1, e2, ← Int32.ofInt_mul, ← Int32.ofInt_sub]
  congr 1
  have := Int.mul_tdiv_add_tmod (nw a) (nw b)
  have e3 : nw (nw a) = nw a := by simp [nw]
  have e4 : nw (nw b) = nw b := by simp [nw]
  rw [Int.mul_comm (nw b)] at this
  omega
/-- machine operators, read on integers -/
def shlI (a b : Int) : Int := (Int32.ofInt a <<< (Int32.ofInt b &&& 31)).toInt
def shrI (a b : Int) : Int := (Int32.ofInt a >>> (Int32.ofInt b &&& 31)).toInt
def ushrI (a b : Int) : Int := ((Int32.ofInt a).toUInt32 >>> ((Int32.ofInt b).toUInt32 &&& Int32.toUInt32 31)).toInt32.toInt
def andI (a b : Int) : Int := (Int32.ofInt a &&& Int32.ofInt b).toInt
def orI (a b : Int) : Int := (Int32.ofInt a ||| Int32.ofInt b).toInt
def xorI (a b : Int) : Int := (Int32.ofInt a ^^^ Int32.ofInt b).toInt
def chrI (a : Int) : Int := ((Int32.ofInt a).toUInt32 % 65536).toInt32.toInt
def bytI (a : Int) : Int := ((Int32.ofInt a).toInt8.toInt32).toInt
theorem zok_nar {x : Int} (h : x = 0 ∨ x = 1) : narrow .boolean (iv x) = iv x := by
  rcases h with rfl | rfl <;> rfl
theorem ite01 {c : Prop} [Decidable c] : (if c then (1 : Int) else 0) = 0 ∨ (if c then (1 : Int) else 0) = 1 := by
  by_cases h : c
  · rw [if_pos h]; exact Or.inr rfl
  · rw [if_neg h]; exact Or.inl rfl
theorem ite10 {c : Prop} [Decidable c] : (if c then (0 : Int) else 1) = 0 ∨ (if c then (0 : Int) else 1) = 1 := by
  by_cases h : c
  · rw [if_pos h]; exact Or.inl rfl
  · rw [if_neg h]; exact Or.inr rfl
/-! the world's list -/
theorem awW_get {z : AZ} {g : AG} {k : Nat} (h : k < KC) : (awW z g)[k]? = some (zad z k, awE z g k) := by
  simp [awW, h]
theorem awW_set {z : AZ} {g g' : AG} {k : Nat} {e : va_E} (he : awE z g' k = e) (ho : ∀ j, j ≠ k → awE z g' j = awE z g j) : (awW z g).set k (zad z k, e) = awW z g' := by
  apply List.ext_getElem?
  intro j
  by_cases hj : j = k
  · subst hj
    by_cases hl : j < KC
    · rw [List.getElem?_set_self (by simp [awW, hl]), awW_get hl, he]
    · rw [List.getElem?_eq_none (by simp [awW]; omega), List.getElem?_eq_none (by simp [awW]; omega)]
  · rw [List.getElem?_set_ne (Ne.symm hj)]
    by_cases hl : j < KC
    · rw [awW_get hl, awW_get hl, ho j hj]
    · rw [List.getElem?_eq_none (by simp [awW]; omega), List.getElem?_eq_none (by simp [awW]; omega)]
theorem awE_ne {z : AZ} {g g' : AG} {k : Nat} (h : ∀ i, g' k i = g k i) : awE z g' k = awE z g k := by
  have e : awS z g' k = awS z g k := by
    funext i
    unfold awS
    rw [h i]
  unfold awE
  rw [e, funext h]
theorem up_ne {g : AG} {k i j : Nat} {v : Int} (h : j ≠ k) (b : Nat) : up g k i v j b = g j b := by
  unfold up
  rw [if_neg (fun q => h q.1)]
theorem awD {z : AZ} {g : AG} (h : ∀ i j : Nat, i < KC → j < KC → zad z i = zad z j → i = j) : va_D (zA z) (awW z g) := by
  have key : ∀ (k : Nat) (q : Nat × va_E), (awW z g)[k]? = some q → k < KC ∧ q.1 = zad z k := by
    intro k q hq
    have hl : k < KC := by
      have := (List.getElem?_eq_some_iff.mp hq).1
      simpa [awW] using this
    rw [awW_get hl] at hq
    cases hq
    exact ⟨hl, rfl⟩
  refine ⟨fun i j p q hi hj e => ?_, fun k q hk => ?_⟩
  · obtain ⟨a, b⟩ := key i p hi
    obtain ⟨c, d⟩ := key j q hj
    exact h i j a c (by rw [← b, ← d, e])
  · obtain ⟨a, b⟩ := key k q hk
    exact ⟨k, a, b⟩
theorem awE_i {z : AZ} {g : AG} {k n : Nat} (h : skF k = (0, n)) : awE z g k = .inl (z.2.1.1, (n, .inl (fun i => Int32.ofInt (g k i)))) := by
  unfold awE; rw [h]
theorem awE_z {z : AZ} {g : AG} {k n : Nat} (h : skF k = (1, n)) : awE z g k = .inl (z.2.1.2.1, (n, .inl (fun i => Int32.ofInt (g k i)))) := by
  unfold awE; rw [h]
theorem awE_q {z : AZ} {g : AG} {k n : Nat} (h : skF k = (2, n)) : awE z g k = .inl (z.2.1.2.2, (n, .inr (.inr (.inr (.inr (fun i => some (zad z (srF k i - 2)))))))) := by
  unfold awE; rw [h]
theorem awE_o {z : AZ} {g : AG} {k n ci : Nat} (h : skF k = (ci + 3, n)) : awE z g k = .inr (ci, (List.range n).map (awS z g k)) := by
  unfold awE; rw [h]
theorem awP_put {z : AZ} {g : AG} {k i n ci : Nat} {v : Value} {x : Int} (h : skF k = (ci + 3, n)) (hi : i < n) (hv : awS z (up g k i x) k i = v) :
    (awW z g).set k (zad z k, .inr (ci, ((List.range n).map (awS z g k)).set i v)) = awW z (up g k i x) := by
  refine awW_set ?_ (fun j hj => awE_ne (up_ne hj))
  rw [awE_o h]
  congr 2
  apply List.ext_getElem?
  intro j
  by_cases hj : j = i
  · subst hj
    rw [List.getElem?_set_self (by simp [hi])]
    simp [hi, hv]
  · rw [List.getElem?_set_ne (Ne.symm hj)]
    by_cases hl : j < n
    · simp only [List.getElem?_map, List.getElem?_range hl, Option.map_some]
      congr 1
      unfold awS up
      simp [hj]
    · rw [List.getElem?_eq_none (by simp; omega), List.getElem?_eq_none (by simp; omega)]
theorem upd_ofInt {g : AG} {k i : Nat} {x : Int} : (fun j => Int32.ofInt (up g k i x k j)) = upd (fun j => Int32.ofInt (g k j)) i (Int32.ofInt x) := by
  funext j
  unfold up upd
  by_cases hj : j = i
  · subst hj; simp
  · simp [hj]
theorem awP_arr {z : AZ} {g : AG} {k n i : Nat} {x : Int} (h : skF k = (0, n)) :
    (awW z g).set k (zad z k, .inl (z.2.1.1, (n, .inl (upd (fun i => Int32.ofInt (g k i)) i (Int32.ofInt x))))) = awW z (up g k i x) := by
  refine awW_set ?_ (fun j hj => awE_ne (up_ne hj))
  rw [awE_i h, upd_ofInt]
theorem awP_arz {z : AZ} {g : AG} {k n i : Nat} {x : Int} (h : skF k = (1, n)) :
    (awW z g).set k (zad z k, .inl (z.2.1.2.1, (n, .inl (upd (fun i => Int32.ofInt (g k i)) i (Int32.ofInt x))))) = awW z (up g k i x) := by
  refine awW_set ?_ (fun j hj => awE_ne (up_ne hj))
  rw [awE_z h, upd_ofInt]
theorem awK.calling {z : AZ} {U : State} {g : JFrame} {mk : MethodId} {a : Array Value} (h : awK z U) : awK z (U.calling g mk a) := by
  obtain ⟨h1, h2, h3, h4, h5, h6, h7⟩ := h
  exact ⟨va_K.moved (u := U) (U := U.calling g mk a) (Vm.Alike.refl U.vm) h1, h2, vk_S.moved (u := U) (U := U.calling g mk a) (Vm.Alike.refl U.vm) h3, fun q hq => vk_R.same (u := U) rfl (h4 q hq), fun q hq => va_Nw.same rfl rfl (h5 q hq), va_Z.moved (u := U) (U := U.calling g mk a) (Vm.Alike.refl U.vm) h6, va_Zq.moved (u := U) (U := U.calling g mk a) (Vm.Alike.refl U.vm) h7⟩
theorem awK.at {z : AZ} {s U : State} {H : Heap} {locs : List Loc} (h : awK z s) (hS : va_S (zA z) s.heap H locs) (hU : U.heap = H) (hW : s.WarmedH U.vm) : awK z U := by
  obtain ⟨h1, h2, h3, h4, h5, h6, h7⟩ := h
  exact ⟨va_K.moved hW.alike h1, h2, by rw [hU]; exact vk_S.kept (vk_S.moved hW.alike h3) (fun a q1 q2 => hS.2.1 a q1 q2), fun q hq => vk_R.warm hW (h4 q hq), fun q hq => va_Nw.warmM hW (h5 q hq), by rw [hU]; exact va_Z.kept (va_Z.moved hW.alike h6) (fun a q1 q2 => hS.2.1 a q1 q2), by rw [hU]; exact va_Zq.kept (va_Zq.moved hW.alike h7) (fun a q1 q2 => hS.2.1 a q1 q2)⟩
