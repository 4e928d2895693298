section
/-! the world: 188 cells at fixed places; kinds 0 int array, 1 boolean array, 2 array of int arrays, ci + 3 an object of class ci of vwCl -/
def skL : List (Nat × Nat) := [(14, 12), (5, 7), (9, 15), (9, 15), (7, 9), (12, 8), (3, 12), (10, 9), (6, 7), (4, 17), (13, 15), (11, 15), (8, 3), (0, 15), (0, 15), (0, 15), (0, 15), (0, 500), (0, 500), (0, 16), (0, 16), (0, 16), (0, 16), (0, 16), (0, 16), (0, 30), (0, 30), (0, 9), (0, 32), (0, 500), (0, 500), (0, 16), (0, 16), (0, 16), (0, 16), (0, 16), (0, 16), (0, 30), (0, 30), (0, 9), (0, 32), (0, 500), (0, 501), (0, 501), (0, 14), (0, 14), (0, 16), (0, 14), (0, 10), (0, 10), (0, 10), (0, 10), (2, 10), (0, 10), (0, 10), (0, 10), (0, 10), (0, 10), (0, 10), (0, 10), (0, 10), (0, 10), (0, 10), (2, 10), (0, 10), (0, 10), (0, 10), (0, 10), (0, 10), (0, 10), (0, 10), (0, 10), (0, 10), (0, 10), (0, 10), (0, 16), (0, 20), (0, 20), (0, 20), (0, 20), (0, 20), (0, 7), (0, 7), (0, 7), (0, 7), (0, 8), (0, 8), (0, 8), (0, 8), (0, 8), (0, 4), (0, 4), (0, 4), (0, 4), (0, 9), (0, 8), (0, 8), (0, 10), (0, 10), (0, 7), (0, 128), (0, 128), (0, 128), (0, 8), (0, 3), (0, 8), (0, 8), (0, 16), (0, 16), (0, 12), (0, 12), (0, 12), (0, 12), (0, 2), (0, 2), (0, 1000), (0, 1000), (15, 101), (0, 15), (0, 15), (0, 15), (0, 8), (0, 8), (0, 8), (0, 10), (0, 10), (0, 10), (0, 10), (0, 16), (0, 16), (0, 16), (0, 16), (0, 16), (0, 16), (0, 1020), (0, 16), (0, 16), (0, 16), (0, 16), (0, 16), (0, 16), (0, 1020), (0, 60), (0, 60), (1, 30), (1, 30), (0, 500), (0, 520), (0, 10), (0, 20), (0, 20), (0, 20), (0, 20), (0, 20), (1, 16), (0, 10), (0, 100), (0, 100), (0, 7), (0, 7), (0, 7), (0, 7), (0, 8), (0, 8), (0, 8), (0, 8), (0, 8), (0, 8), (0, 8), (0, 4), (0, 4), (0, 4), (0, 4), (0, 10), (0, 10), (0, 7), (0, 7), (0, 7), (0, 8), (0, 3), (0, 16), (0, 12), (0, 12), (0, 12), (0, 2), (0, 2), (0, 1000), (0, 1000)]
def srL : List (List Nat) := [[3, 4, 5, 6, 7, 8, 9, 10, 11, 12, 13, 14], [15, 16, 17, 18, 0, 0, 0], [19, 20, 0, 0, 21, 22, 23, 24, 25, 26, 0, 27, 28, 29, 30], [31, 32, 0, 0, 33, 34, 35, 36, 37, 38, 0, 39, 40, 41, 42], [5, 43, 0, 44, 45, 0, 0, 0, 0], [3, 4, 46, 47, 48, 49, 0, 0], [3, 4, 7, 50, 51, 52, 53, 0, 54, 65, 76, 77], [8, 4, 7, 78, 79, 80, 81, 82, 0], [83, 84, 0, 0, 0, 85, 86], [87, 88, 89, 90, 0, 91, 92, 93, 94, 95, 0, 0, 96, 97, 98, 0, 0], [99, 100, 0, 101, 102, 103, 104, 0, 105, 106, 107, 108, 0, 0, 0], [3, 109, 110, 0, 0, 0, 111, 112, 113, 114, 115, 116, 0, 0, 0], [1, 1, 0], [], [], [], [], [], [], [], [], [], [], [], [], [], [], [], [], [], [], [], [], [], [], [], [], [], [], [], [], [], [], [], [], [], [], [], [], [], [], [], [55, 56, 57, 58, 59, 60, 61, 62, 63, 64], [], [], [], [], [], [], [], [], [], [], [66, 67, 68, 69, 70, 71, 72, 73, 74, 75], [], [], [], [], [], [], [], [], [], [], [], [], [], [], [], [], [], [], [], [], [], [], [], [], [], [], [], [], [], [], [], [], [], [], [], [], [], [], [], [], [], [], [], [], [], [], [], [], [], [], [], [], [], [120, 121, 122, 123, 124, 125, 126, 127, 128, 129, 0, 0, 0, 130, 131, 132, 133, 134, 135, 136, 137, 138, 139, 140, 141, 142, 143, 144, 145, 146, 147, 148, 149, 150, 0, 0, 0, 0, 0, 0, 0, 0, 0, 0, 0, 0, 0, 0, 0, 0, 151, 152, 153, 154, 155, 156, 157, 158, 159, 0, 160, 161, 162, 163, 0, 0, 0, 0, 164, 165, 166, 167, 168, 169, 170, 171, 172, 173, 174, 175, 176, 177, 178, 179, 0, 0, 0, 0, 180, 181, 0, 182, 0, 183, 184, 185, 186, 187, 188, 189, 0], [], [], [], [], [], [], [], [], [], [], [], [], [], [], [], [], [], [], [], [], [], [], [], [], [], [], [], [], [], [], [], [], [], [], [], [], [], [], [], [], [], [], [], [], [], [], [], [], [], [], [], [], [], [], [], [], [], [], [], [], [], [], [], [], [], [], [], [], [], []]
def strL : List (String × Nat × String × Nat) := [("WeekBoats$Parser", 91, "locks tunnel price hold harm up down when or and not day week water berths away age depth said taught ", 0), ("WeekBoats$Parser", 80, ";+-*/()<=>", 1), ("WeekBoatsModel", 261, "locks", 2), ("WeekBoatsModel", 266, "tunnel", 3), ("WeekBoatsModel", 267, "price", 4), ("WeekBoatsModel", 269, "hold", 5), ("WeekBoatsModel", 271, "harm", 6), ("WeekBoatsModel", 273, "taught", 7), ("WeekBoatsModel", 275, "up", 8), ("WeekBoatsModel", 277, "down", 9), ("WeekBoatsModel", 279, "when", 10), ("WeekBoatsModel", 281, "or", 11), ("WeekBoatsModel", 283, "and", 12), ("WeekBoatsModel", 285, "not", 13), ("WeekBoatsModel", 287, "day", 14), ("WeekBoatsModel", 289, "week", 15), ("WeekBoatsModel", 291, "water", 16), ("WeekBoatsModel", 292, "berths", 17), ("WeekBoatsModel", 294, "away", 18), ("WeekBoatsModel", 296, "age", 19), ("WeekBoatsModel", 298, "depth", 20), ("WeekBoatsModel", 300, "said", 21)]
def lenJ : List Nat := [102, 10, 5, 6, 5, 4, 4, 6, 2, 4, 4, 2, 3, 3, 3, 4, 5, 6, 4, 3, 5, 4]
def bytJ : List (List Int32) := [[108, 111, 99, 107, 115, 32, 116, 117, 110, 110, 101, 108, 32, 112, 114, 105, 99, 101, 32, 104, 111, 108, 100, 32, 104, 97, 114, 109, 32, 117, 112, 32, 100, 111, 119, 110, 32, 119, 104, 101, 110, 32, 111, 114, 32, 97, 110, 100, 32, 110, 111, 116, 32, 100, 97, 121, 32, 119, 101, 101, 107, 32, 119, 97, 116, 101, 114, 32, 98, 101, 114, 116, 104, 115, 32, 97, 119, 97, 121, 32, 97, 103, 101, 32, 100, 101, 112, 116, 104, 32, 115, 97, 105, 100, 32, 116, 97, 117, 103, 104, 116, 32], [59, 43, 45, 42, 47, 40, 41, 60, 61, 62], [108, 111, 99, 107, 115], [116, 117, 110, 110, 101, 108], [112, 114, 105, 99, 101], [104, 111, 108, 100], [104, 97, 114, 109], [116, 97, 117, 103, 104, 116], [117, 112], [100, 111, 119, 110], [119, 104, 101, 110], [111, 114], [97, 110, 100], [110, 111, 116], [100, 97, 121], [119, 101, 101, 107], [119, 97, 116, 101, 114], [98, 101, 114, 116, 104, 115], [97, 119, 97, 121], [97, 103, 101], [100, 101, 112, 116, 104], [115, 97, 105, 100]]
def KC : Nat := 188
/-- an integer as the machine's int reads it -/
def nw (z : Int) : Int := z.bmod 4294967296
def nl (z : Int) : Int := z.bmod 18446744073709551616
def ix (z : Int) : Nat := (nw z).toNat
def iv (z : Int) : Value := .int (Int32.ofInt z)
def jv (z : Int) : Value := .long (Int64.ofInt z)
abbrev AG : Type := Nat → Nat → Int
def up (g : AG) (k i : Nat) (v : Int) : AG := fun a b => if a = k ∧ b = i then v else g a b
def fillG (g : AG) (k n : Nat) (v : Int) : AG := fun a b => if a = k ∧ b < n then v else g a b
def copyG (g : AG) (ks sp kd dp n : Nat) : AG := fun a b => if a = kd ∧ dp ≤ b ∧ b < dp + n then g ks (sp + (b - dp)) else g a b
def skF (k : Nat) : Nat × Nat := skL.getD k (0, 0)
def srF (k i : Nat) : Nat := (srL.getD k []).getD i 0
abbrev AZ : Type := va_G × (ClassId × ClassId × ClassId) × (Nat → Nat) × (Nat → Nat) × (Nat → Nat)
def zad (z : AZ) (k : Nat) : Nat := z.2.2.1 k
def rv (z : AZ) (k : Nat) : Value := .ref (zad z k)
def sv (z : AZ) (i : Nat) : Value := .ref (z.2.2.2.1 i)
def awS (z : AZ) (g : AG) (k i : Nat) : Value := match srF k i with
  | 0 => iv (g k i)
  | 1 => rv z (g k i).toNat
  | j + 2 => rv z j
def awE (z : AZ) (g : AG) (k : Nat) : va_E := match (skF k).1 with
  | 0 => .inl (z.2.1.1, ((skF k).2, .inl (fun i => Int32.ofInt (g k i))))
  | 1 => .inl (z.2.1.2.1, ((skF k).2, .inl (fun i => Int32.ofInt (g k i))))
  | 2 => .inl (z.2.1.2.2, ((skF k).2, .inr (.inr (.inr (.inr (fun i => some (zad z (srF k i - 2))))))))
  | ci + 3 => .inr (ci, (List.range (skF k).2).map (awS z g k))
def awW (z : AZ) (g : AG) : va_W := (List.range KC).map fun k => (zad z k, awE z g k)
def awTy (z : AZ) : List (ClassId × FieldType) := [(z.2.1.1, .int), (z.2.1.2.1, .boolean), (z.2.1.2.2, .array .int)]
def zA (z : AZ) : Nat → Prop := fun q => ∃ k, k < KC ∧ q = zad z k
def nestL : List (String × Nat) := [("WeekBoats$Rules", 78), ("WeekBoats$Parser", 87), ("WeekBoats$LockQueue", 61), ("WeekBoats$Yard", 58), ("WeekBoats$Vans", 92)]
def lw_gd : List Cond := lw_tbl.filter goodWord
theorem gd {w : Cond} (h : w ∈ lw_tbl) (hg : goodWord w = true) : w ∈ lw_gd := List.mem_filter.mpr ⟨h, hg⟩
theorem gd_all {ws : List Cond} (h : ∀ w ∈ ws, w ∈ lw_tbl) (hg : ws.all goodWord = true) : ∀ w ∈ ws, w ∈ lw_gd := fun w hw => gd (h w hw) (List.all_eq_true.mp hg w hw)
/-- what holds of the tables and of the texts, whatever the cells hold -/
def awK (z : AZ) (U : State) : Prop := va_K z.1 vwCl (awTy z) U ∧ (∀ i j : Nat, i < KC → j < KC → zad z i = zad z j → i = j) ∧ vk_S 22 lenJ bytJ z.2.2.2.1 z.2.2.2.2 (zA z) U U.heap ∧ (∀ q ∈ strL, vk_R q.1 q.2.1 q.2.2.1 (z.2.2.2.1 q.2.2.2) U) ∧
  (∀ q ∈ nestL, va_Nw (.methodLinkNest q.1 q.2 ⟨"WeekBoats", "within", "(III)Z"⟩ "WeekBoats") U) ∧ va_Z "java/lang/String" "COMPACT_STRINGS" "Z" (.int 1) (zA z) U U.heap ∧ va_Zq "jdk/internal/util/Preconditions" "SIOOBE_FORMATTER" "Ljava/util/function/BiFunction;" (zA z) U U.heap
abbrev awP (z : AZ) (g : AG) (H : Heap) : Prop := va_P z.1 vwCl (awW z g) H
def rmD (d : Nat) : Room := { frames := d, cells := 0, slots := 0, locals := 64 * d }
def aqc (z : AZ) (Q : Option Value → AG → Prop) : Array Value → State → Outcome → State → Prop := fun _ st o t => (∃ (r : Option Value) (g' : AG), o = .returned r ∧ Q r g' ∧ awP z g' t.heap) ∧ va_F (zA z) st t
abbrev AMu : Type := String × ByteArray × Nat × Option FieldType
def awC (z : AZ) (μ : AMu) (p : Program) (s : State) (m : MethodId) (args : Array Value) (meth : Method) (c : Code) : Prop :=
  p.tables.exec = Jvm.exec ∧ c.code = μ.2.1 ∧ meth.sig.returnType = μ.2.2.2 ∧ c.maxLocals = μ.2.2.1 ∧ s.vm.findClass μ.1 = some m.cls ∧ (∀ w ∈ lw_gd, w.before args s = true) ∧ meth.locks = false ∧ awK z s
/-- from this point of the method the walk comes to its end with Q -/
def AW (z : AZ) (μ : AMu) (d : Nat) (Q : Option Value → AG → Prop) (pc : Nat) (lv : List (Nat × Value)) (st : List Value) (g : AG) : Prop :=
  ∀ (p : Program) (l : Launch) (e : Env) (s : State) (m : MethodId) (args : Array Value) (below : List Frame) (meth : Method) (c : Code) (H : Heap) (locs : List Loc) (ls : Array Slot),
    awC z μ p s m args meth c → awP z g H → va_S (zA z) s.heap H locs → lv_has ls μ.2.2.1 lv →
    W p l e (rmD d) s m args below meth c H locs 0 0 (MQ below (aqc z Q) args s 0 0 (zA z)) (F0 m pc ls st)
/-- a method's contract -/
def AM (z : AZ) (y : MethodName) (b : ByteArray) (nL : Nat) (ret : Option FieldType) (d : Nat) (As : List Value) (g : AG) (Q : Option Value → AG → Prop) : Prop :=
  ∀ l : Launch, Met l y (Cond.code y b nL ret :: lw_gd) (rmD d) (va_Pc As (fun U => awK z U ∧ awP z g U.heap)) (aqc z Q) 0 0 (zA z)
theorem AM.of {z : AZ} {y : MethodName} {b : ByteArray} {nL d : Nat} {ret : Option FieldType} {As : List Value} {g : AG} {Q : Option Value → AG → Prop} (hy : plainName y.cls = true) (hn : (lg_sl As).length ≤ nL)
    (h : AW z (y.cls, b, nL, ret) d Q 0 (lv_args 0 As) [] g) : AM z y b nL ret d As g Q := by
  intro l
  refine Met.ofW (cc := b) (maxL := nL) (ret := ret) hy rfl ?_
  intro p e s m args below meth c s₁ B hml hv
  obtain ⟨rfl, hK, hP⟩ := hv
  have hts := atoms_spec (ws := Cond.code y b nL ret :: lw_gd) B.pre
  have hown : s.vm.findClass y.cls = some m.cls := findClass_of_methodNamed B.named
  have hl := lv_entry As (n := nL) hn
  rw [lg_entry_eq]
  exact h p l e s m _ below meth c s.heap [] _ ⟨B.exec, B.bytes, B.returns, hml, hown, fun w hw => hts w (List.mem_cons_of_mem _ hw), B.notSynchronized, hK⟩ hP va_S.rf hl
/-! numbers -/
theorem i32_toInt (a : Int) : (Int32.ofInt a).toInt = nw a := by rw [Int32.toInt_ofInt]; rfl
theorem i32_lt (a b : Int) : Int32.ofInt a < Int32.ofInt b ↔ nw a < nw b := by rw [Int32.lt_iff_toInt_lt, i32_toInt, i32_toInt]
theorem i32_le (a b : Int) : Int32.ofInt a ≤ Int32.ofInt b ↔ nw a ≤ nw b := by rw [Int32.le_iff_toInt_le, i32_toInt, i32_toInt]
theorem i32_eq (a b : Int) : Int32.ofInt a = Int32.ofInt b ↔ nw a = nw b := by rw [← Int32.toInt_inj, i32_toInt, i32_toInt]
theorem i32_zero : (0 : Int32) = Int32.ofInt 0 := rfl
theorem nw_zero : nw 0 = 0 := by decide +kernel
theorem i32_eq0 (a : Int) : Int32.ofInt a = 0 ↔ nw a = 0 := by rw [i32_zero, i32_eq, nw_zero]
theorem i32_lt0 (a : Int) : Int32.ofInt a < 0 ↔ nw a < 0 := by rw [i32_zero, i32_lt, nw_zero]
theorem i32_le0 (a : Int) : Int32.ofInt a ≤ 0 ↔ nw a ≤ 0 := by rw [i32_zero, i32_le, nw_zero]
theorem i32_0lt (a : Int) : 0 < Int32.ofInt a ↔ 0 < nw a := by rw [i32_zero, i32_lt, nw_zero]
theorem i32_0le (a : Int) : 0 ≤ Int32.ofInt a ↔ 0 ≤ nw a := by rw [i32_zero, i32_le, nw_zero]
theorem i32_clamp (a : Int) : (Int32.ofInt a).toNatClampNeg = ix a := by
  show (Int32.ofInt a).toInt.toNat = _
  rw [i32_toInt]; rfl
theorem i32_in (a : Int) (n : Nat) (h : 0 ≤ nw a ∧ nw a < n) : vp_in (Int32.ofInt a) n := by
  rw [vp_in_iff, i32_toInt]; exact h
theorem i32_div (a b : Int) : Int32.ofInt a / Int32.ofInt b = Int32.ofInt ((nw a).tdiv (nw b)) := by
  rw [← Int32.toInt_inj, Int32.toInt_div, i32_toInt, i32_toInt, i32_toInt]; rfl
theorem i32_rem (a b : Int) : Int32.ofInt a - Int32.ofInt a / Int32.ofInt b * Int32.ofInt b = Int32.ofInt ((nw a).tmod (nw b)) := by
  have e1 : Int32.ofInt a = Int32.ofInt (nw a) := by rw [← Int32.toInt_inj, i32_toInt, i32_toInt]; simp [nw]
  have e2 : Int32.ofInt b = Int32.ofInt (nw b) := by rw [← Int32.toInt_inj, i32_toInt, i32_toInt]; simp [nw]
  rw [i32_div]
  rw [e1, e2, ← Int32.ofInt_mul, ← Int32.ofInt_sub]
  congr 1
  have := Int.mul_tdiv_add_tmod (nw a) (nw b)
  have e3 : nw (nw a) = nw a := by simp [nw]
  have e4 : nw (nw b) = nw b := by simp [nw]
  rw [Int.mul_comm (nw b)] at this
  omega
/-- machine operators, read on integers -/
def shlI (a b : Int) : Int := (Int32.ofInt a <<< (Int32.ofInt b &&& 31)).toInt
def shrI (a b : Int) : Int := (Int32.ofInt a >>> (Int32.ofInt b &&& 31)).toInt
def ushrI (a b : Int) : Int := ((Int32.ofInt a).toUInt32 >>> ((Int32.ofInt b).toUInt32 &&& Int32.toUInt32 31)).toInt32.toInt
def andI (a b : Int) : Int := (Int32.ofInt a &&& Int32.ofInt b).toInt
def orI (a b : Int) : Int := (Int32.ofInt a ||| Int32.ofInt b).toInt
def xorI (a b : Int) : Int := (Int32.ofInt a ^^^ Int32.ofInt b).toInt
def chrI (a : Int) : Int := ((Int32.ofInt a).toUInt32 % 65536).toInt32.toInt
def bytI (a : Int) : Int := ((Int32.ofInt a).toInt8.toInt32).toInt
theorem zok_nar {x : Int} (h : x = 0 ∨ x = 1) : narrow .boolean (iv x) = iv x := by
  rcases h with rfl | rfl <;> rfl
theorem ite01 {c : Prop} [Decidable c] : (if c then (1 : Int) else 0) = 0 ∨ (if c then (1 : Int) else 0) = 1 := by
  by_cases h : c
  · rw [if_pos h]; exact Or.inr rfl
  · rw [if_neg h]; exact Or.inl rfl
theorem ite10 {c : Prop} [Decidable c] : (if c then (0 : Int) else 1) = 0 ∨ (if c then (0 : Int) else 1) = 1 := by
  by_cases h : c
  · rw [if_pos h]; exact Or.inl rfl
  · rw [if_neg h]; exact Or.inr rfl
/-! the world's list -/
theorem awW_get {z : AZ} {g : AG} {k : Nat} (h : k < KC) : (awW z g)[k]? = some (zad z k, awE z g k) := by
  simp [awW, h]
theorem awW_set {z : AZ} {g g' : AG} {k : Nat} {e : va_E} (he : awE z g' k = e) (ho : ∀ j, j ≠ k → awE z g' j = awE z g j) : (awW z g).set k (zad z k, e) = awW z g' := by
  apply List.ext_getElem?
  intro j
  by_cases hj : j = k
  · subst hj
    by_cases hl : j < KC
    · rw [List.getElem?_set_self (by simp [awW, hl]), awW_get hl, he]
    · rw [List.getElem?_eq_none (by simp [awW]; omega), List.getElem?_eq_none (by simp [awW]; omega)]
  · rw [List.getElem?_set_ne (Ne.symm hj)]
    by_cases hl : j < KC
    · rw [awW_get hl, awW_get hl, ho j hj]
    · rw [List.getElem?_eq_none (by simp [awW]; omega), List.getElem?_eq_none (by simp [awW]; omega)]
theorem awE_ne {z : AZ} {g g' : AG} {k : Nat} (h : ∀ i, g' k i = g k i) : awE z g' k = awE z g k := by
  have e : awS z g' k = awS z g k := by
    funext i
    unfold awS
    rw [h i]
  unfold awE
  rw [e, funext h]
theorem up_ne {g : AG} {k i j : Nat} {v : Int} (h : j ≠ k) (b : Nat) : up g k i v j b = g j b := by
  unfold up
  rw [if_neg (fun q => h q.1)]
theorem awD {z : AZ} {g : AG} (h : ∀ i j : Nat, i < KC → j < KC → zad z i = zad z j → i = j) : va_D (zA z) (awW z g) := by
  have key : ∀ (k : Nat) (q : Nat × va_E), (awW z g)[k]? = some q → k < KC ∧ q.1 = zad z k := by
    intro k q hq
    have hl : k < KC := by
      have := (List.getElem?_eq_some_iff.mp hq).1
      simpa [awW] using this
    rw [awW_get hl] at hq
    cases hq
    exact ⟨hl, rfl⟩
  refine ⟨fun i j p q hi hj e => ?_, fun k q hk => ?_⟩
  · obtain ⟨a, b⟩ := key i p hi
    obtain ⟨c, d⟩ := key j q hj
    exact h i j a c (by rw [← b, ← d, e])
  · obtain ⟨a, b⟩ := key k q hk
    exact ⟨k, a, b⟩
theorem awE_i {z : AZ} {g : AG} {k n : Nat} (h : skF k = (0, n)) : awE z g k = .inl (z.2.1.1, (n, .inl (fun i => Int32.ofInt (g k i)))) := by
  unfold awE; rw [h]
theorem awE_z {z : AZ} {g : AG} {k n : Nat} (h : skF k = (1, n)) : awE z g k = .inl (z.2.1.2.1, (n, .inl (fun i => Int32.ofInt (g k i)))) := by
  unfold awE; rw [h]
theorem awE_q {z : AZ} {g : AG} {k n : Nat} (h : skF k = (2, n)) : awE z g k = .inl (z.2.1.2.2, (n, .inr (.inr (.inr (.inr (fun i => some (zad z (srF k i - 2)))))))) := by
  unfold awE; rw [h]
theorem awE_o {z : AZ} {g : AG} {k n ci : Nat} (h : skF k = (ci + 3, n)) : awE z g k = .inr (ci, (List.range n).map (awS z g k)) := by
  unfold awE; rw [h]
theorem awP_put {z : AZ} {g : AG} {k i n ci : Nat} {v : Value} {x : Int} (h : skF k = (ci + 3, n)) (hi : i < n) (hv : awS z (up g k i x) k i = v) :
    (awW z g).set k (zad z k, .inr (ci, ((List.range n).map (awS z g k)).set i v)) = awW z (up g k i x) := by
  refine awW_set ?_ (fun j hj => awE_ne (up_ne hj))
  rw [awE_o h]
  congr 2
  apply List.ext_getElem?
  intro j
  by_cases hj : j = i
  · subst hj
    rw [List.getElem?_set_self (by simp [hi])]
    simp [hi, hv]
  · rw [List.getElem?_set_ne (Ne.symm hj)]
    by_cases hl : j < n
    · simp only [List.getElem?_map, List.getElem?_range hl, Option.map_some]
      congr 1
      unfold awS up
      simp [hj]
    · rw [List.getElem?_eq_none (by simp; omega), List.getElem?_eq_none (by simp; omega)]
theorem upd_ofInt {g : AG} {k i : Nat} {x : Int} : (fun j => Int32.ofInt (up g k i x k j)) = upd (fun j => Int32.ofInt (g k j)) i (Int32.ofInt x) := by
  funext j
  unfold up upd
  by_cases hj : j = i
  · subst hj; simp
  · simp [hj]
theorem awP_arr {z : AZ} {g : AG} {k n i : Nat} {x : Int} (h : skF k = (0, n)) :
    (awW z g).set k (zad z k, .inl (z.2.1.1, (n, .inl (upd (fun i => Int32.ofInt (g k i)) i (Int32.ofInt x))))) = awW z (up g k i x) := by
  refine awW_set ?_ (fun j hj => awE_ne (up_ne hj))
  rw [awE_i h, upd_ofInt]
theorem awP_arz {z : AZ} {g : AG} {k n i : Nat} {x : Int} (h : skF k = (1, n)) :
    (awW z g).set k (zad z k, .inl (z.2.1.2.1, (n, .inl (upd (fun i => Int32.ofInt (g k i)) i (Int32.ofInt x))))) = awW z (up g k i x) := by
  refine awW_set ?_ (fun j hj => awE_ne (up_ne hj))
  rw [awE_z h, upd_ofInt]
theorem awK.calling {z : AZ} {U : State} {g : JFrame} {mk : MethodId} {a : Array Value} (h : awK z U) : awK z (U.calling g mk a) := by
  obtain ⟨h1, h2, h3, h4, h5, h6, h7⟩ := h
  exact ⟨va_K.moved (u := U) (U := U.calling g mk a) (Vm.Alike.refl U.vm) h1, h2, vk_S.moved (u := U) (U := U.calling g mk a) (Vm.Alike.refl U.vm) h3, fun q hq => vk_R.same (u := U) rfl (h4 q hq), fun q hq => va_Nw.same rfl rfl (h5 q hq), va_Z.moved (u := U) (U := U.calling g mk a) (Vm.Alike.refl U.vm) h6, va_Zq.moved (u := U) (U := U.calling g mk a) (Vm.Alike.refl U.vm) h7⟩
theorem awK.at {z : AZ} {s U : State} {H : Heap} {locs : List Loc} (h : awK z s) (hS : va_S (zA z) s.heap H locs) (hU : U.heap = H) (hW : s.WarmedH U.vm) : awK z U := by
  obtain ⟨h1, h2, h3, h4, h5, h6, h7⟩ := h
  exact ⟨va_K.moved hW.alike h1, h2, by rw [hU]; exact vk_S.kept (vk_S.moved hW.alike h3) (fun a q1 q2 => hS.2.1 a q1 q2), fun q hq => vk_R.warm hW (h4 q hq), fun q hq => va_Nw.warmM hW (h5 q hq), by rw [hU]; exact va_Z.kept (va_Z.moved hW.alike h6) (fun a q1 q2 => hS.2.1 a q1 q2), by rw [hU]; exact va_Zq.kept (va_Zq.moved hW.alike h7) (fun a q1 q2 => hS.2.1 a q1 q2)⟩
end
section
theorem nw_b (x : Int) : -2 ^ 63 ≤ nw x ∧ nw x < 2 ^ 63 := by
  have h1 := Int.bmod_lt (x := x) (m := 4294967296) (by decide)
  have h2 := Int.le_bmod (x := x) (m := 4294967296) (by decide)
  unfold nw
  omega
theorem i64_toInt (a : Int) : (Int64.ofInt a).toInt = nl a := by rw [Int64.toInt_ofInt]; rfl
theorem i64_eq0 (a : Int) : Int64.ofInt a = 0 ↔ nl a = 0 := by
  rw [← Int64.toInt_inj, i64_toInt]
  exact Iff.rfl
theorem i64_div (a b : Int) : Int64.ofInt a / Int64.ofInt b = Int64.ofInt ((nl a).tdiv (nl b)) := by
  rw [← Int64.toInt_inj, Int64.toInt_div, i64_toInt, i64_toInt, i64_toInt]; rfl
section RULES
variable {z : AZ} {μ : AMu} {d pc : Nat} {Q : Option Value → AG → Prop} {lv : List (Nat × Value)} {st : List Value} {g : AG}

theorem AW.iconst {n : Int} (hd : decode μ.2.1 pc = .ok (.iconst n, 1)) (k : AW z μ d Q (pc + 1) lv (iv n :: st) g) : AW z μ d Q pc lv (st) g := by
  intro p l e s m args below meth c H locs ls C hP hS hl
  exact lv_iconst C.1 C.2.1 hd rfl (k p l e s m args below meth c H locs ls C hP hS hl)

theorem AW.bipush {n : Int} (hd : decode μ.2.1 pc = .ok (.bipush n, 2)) (h1 : -128 ≤ n) (h2 : n ≤ 127) (k : AW z μ d Q (pc + 2) lv (iv n :: st) g) : AW z μ d Q pc lv (st) g := by
  intro p l e s m args below meth c H locs ls C hP hS hl
  exact lv_bipush C.1 C.2.1 hd (Int8.toInt32_ofInt h1 h2) (k p l e s m args below meth c H locs ls C hP hS hl)

theorem AW.sipush {n : Int} (hd : decode μ.2.1 pc = .ok (.sipush n, 3)) (h1 : -32768 ≤ n) (h2 : n ≤ 32767) (k : AW z μ d Q (pc + 3) lv (iv n :: st) g) : AW z μ d Q pc lv (st) g := by
  intro p l e s m args below meth c H locs ls C hP hS hl
  exact lv_sipush C.1 C.2.1 hd (Int16.toInt32_ofInt h1 h2) (k p l e s m args below meth c H locs ls C hP hS hl)

theorem AW.ldc {i : Nat} {n : Int} (hd : decode μ.2.1 pc = .ok (.ldc i, 2)) (hw : Cond.constant μ.1 i (Int32.ofInt n) ∈ lw_gd) (k : AW z μ d Q (pc + 2) lv (iv n :: st) g) : AW z μ d Q pc lv (st) g := by
  intro p l e s m args below meth c H locs ls C hP hS hl
  exact lv_ldc C.1 C.2.1 C.2.2.2.2.1 (C.2.2.2.2.2.1 _ hw) hd (k p l e s m args below meth c H locs ls C hP hS hl)

theorem AW.ldcw {i : Nat} {n : Int} (hd : decode μ.2.1 pc = .ok (.ldc_w i, 3)) (hw : Cond.constant μ.1 i (Int32.ofInt n) ∈ lw_gd) (k : AW z μ d Q (pc + 3) lv (iv n :: st) g) : AW z μ d Q pc lv (st) g := by
  intro p l e s m args below meth c H locs ls C hP hS hl
  exact lv_ldcw C.1 C.2.1 C.2.2.2.2.1 (C.2.2.2.2.2.1 _ hw) hd (k p l e s m args below meth c H locs ls C hP hS hl)

theorem AW.ldc2 {i : Nat} {n : Int} (hd : decode μ.2.1 pc = .ok (.ldc2_w i, 3)) (hw : Cond.constantLong μ.1 i (Int64.ofInt n) ∈ lw_gd) (k : AW z μ d Q (pc + 3) lv (jv n :: st) g) : AW z μ d Q pc lv (st) g := by
  intro p l e s m args below meth c H locs ls C hP hS hl
  exact lv_ldc2 C.1 C.2.1 C.2.2.2.2.1 (C.2.2.2.2.2.1 _ hw) hd (k p l e s m args below meth c H locs ls C hP hS hl)

theorem AW.ldcS {i n : Nat} {tx : String} (hd : decode μ.2.1 pc = .ok (.ldc i, 2)) (hw : (μ.1, i, tx, n) ∈ strL) (k : AW z μ d Q (pc + 2) lv (sv z n :: st) g) : AW z μ d Q pc lv (st) g := by
  intro p l e s m args below meth c H locs ls C hP hS hl
  exact va_ldcS C.1 C.2.1 C.2.2.2.2.1 (C.2.2.2.2.2.2.2.2.2.2.1 _ hw) hd (k p l e s m args below meth c H locs ls C hP hS hl)

theorem AW.iload_n {i : Fin 4} {x : Int} (q : Nat) (hd : decode μ.2.1 pc = .ok (.iload_n i, 1)) (hq : lv[q]? = some ((i : Nat), iv x)) (k : AW z μ d Q (pc + 1) lv (iv x :: st) g) : AW z μ d Q pc lv (st) g := by
  intro p l e s m args below meth c H locs ls C hP hS hl
  exact lv_iload_n C.1 C.2.1 hd rfl (lv_at hl q hq) (k p l e s m args below meth c H locs ls C hP hS hl)

theorem AW.iload {i : Nat} {x : Int} (q : Nat) (hd : decode μ.2.1 pc = .ok (.iload i, 2)) (hq : lv[q]? = some (i, iv x)) (k : AW z μ d Q (pc + 2) lv (iv x :: st) g) : AW z μ d Q pc lv (st) g := by
  intro p l e s m args below meth c H locs ls C hP hS hl
  exact lv_iload C.1 C.2.1 hd (lv_at hl q hq) (k p l e s m args below meth c H locs ls C hP hS hl)

theorem AW.aload_n {i : Fin 4} {x : Nat} (q : Nat) (hd : decode μ.2.1 pc = .ok (.aload_n i, 1)) (hq : lv[q]? = some ((i : Nat), .ref x)) (k : AW z μ d Q (pc + 1) lv (.ref x :: st) g) : AW z μ d Q pc lv (st) g := by
  intro p l e s m args below meth c H locs ls C hP hS hl
  exact lv_aload_n C.1 C.2.1 hd rfl (lv_at hl q hq) (k p l e s m args below meth c H locs ls C hP hS hl)

theorem AW.aload {i : Nat} {x : Nat} (q : Nat) (hd : decode μ.2.1 pc = .ok (.aload i, 2)) (hq : lv[q]? = some (i, .ref x)) (k : AW z μ d Q (pc + 2) lv (.ref x :: st) g) : AW z μ d Q pc lv (st) g := by
  intro p l e s m args below meth c H locs ls C hP hS hl
  exact lv_aload C.1 C.2.1 hd (lv_at hl q hq) (k p l e s m args below meth c H locs ls C hP hS hl)

theorem AW.lload_n {i : Fin 4} {x : Int} (q : Nat) (hd : decode μ.2.1 pc = .ok (.lload_n i, 1)) (hq : lv[q]? = some ((i : Nat), jv x)) (k : AW z μ d Q (pc + 1) lv (jv x :: st) g) : AW z μ d Q pc lv (st) g := by
  intro p l e s m args below meth c H locs ls C hP hS hl
  exact lv_lload_n C.1 C.2.1 hd rfl (lv_at hl q hq) (k p l e s m args below meth c H locs ls C hP hS hl)

theorem AW.lload {i : Nat} {x : Int} (q : Nat) (hd : decode μ.2.1 pc = .ok (.lload i, 2)) (hq : lv[q]? = some (i, jv x)) (k : AW z μ d Q (pc + 2) lv (jv x :: st) g) : AW z μ d Q pc lv (st) g := by
  intro p l e s m args below meth c H locs ls C hP hS hl
  exact lv_lload C.1 C.2.1 hd (lv_at hl q hq) (k p l e s m args below meth c H locs ls C hP hS hl)

theorem AW.istore_n {i : Fin 4} {x : Int} {lv1 : List (Nat × Value)} (hd : decode μ.2.1 pc = .ok (.istore_n i, 1)) (hn : (i : Nat) < μ.2.2.1) (hl1 : ((i : Nat), iv x) :: lv.filter (fun q => !(q.1 == (i : Nat)) && !(q.1 + 1 == (i : Nat) && q.2.category == 2)) = lv1) (k : AW z μ d Q (pc + 1) lv1 (st) g) : AW z μ d Q pc lv (iv x :: st) g := by
  intro p l e s m args below meth c H locs ls C hP hS hl
  exact lv_istore_n C.1 C.2.1 hd rfl hl hn hl1 (fun ls hl => k p l e s m args below meth c H locs ls C hP hS hl)

theorem AW.istore {i : Nat} {x : Int} {lv1 : List (Nat × Value)} (hd : decode μ.2.1 pc = .ok (.istore i, 2)) (hn : i < μ.2.2.1) (hl1 : (i, iv x) :: lv.filter (fun q => !(q.1 == i) && !(q.1 + 1 == i && q.2.category == 2)) = lv1) (k : AW z μ d Q (pc + 2) lv1 (st) g) : AW z μ d Q pc lv (iv x :: st) g := by
  intro p l e s m args below meth c H locs ls C hP hS hl
  exact lv_istore C.1 C.2.1 hd hl hn hl1 (fun ls hl => k p l e s m args below meth c H locs ls C hP hS hl)

theorem AW.astore_n {i : Fin 4} {x : Nat} {lv1 : List (Nat × Value)} (hd : decode μ.2.1 pc = .ok (.astore_n i, 1)) (hn : (i : Nat) < μ.2.2.1) (hl1 : ((i : Nat), .ref x) :: lv.filter (fun q => !(q.1 == (i : Nat)) && !(q.1 + 1 == (i : Nat) && q.2.category == 2)) = lv1) (k : AW z μ d Q (pc + 1) lv1 (st) g) : AW z μ d Q pc lv (.ref x :: st) g := by
  intro p l e s m args below meth c H locs ls C hP hS hl
  exact lv_astore_n C.1 C.2.1 hd rfl hl hn hl1 (fun ls hl => k p l e s m args below meth c H locs ls C hP hS hl)

theorem AW.astore {i : Nat} {x : Nat} {lv1 : List (Nat × Value)} (hd : decode μ.2.1 pc = .ok (.astore i, 2)) (hn : i < μ.2.2.1) (hl1 : (i, .ref x) :: lv.filter (fun q => !(q.1 == i) && !(q.1 + 1 == i && q.2.category == 2)) = lv1) (k : AW z μ d Q (pc + 2) lv1 (st) g) : AW z μ d Q pc lv (.ref x :: st) g := by
  intro p l e s m args below meth c H locs ls C hP hS hl
  exact lv_astore C.1 C.2.1 hd hl hn hl1 (fun ls hl => k p l e s m args below meth c H locs ls C hP hS hl)

theorem AW.lstore_n {i : Fin 4} {x : Int} {lv1 : List (Nat × Value)} (hd : decode μ.2.1 pc = .ok (.lstore_n i, 1)) (hn : (i : Nat) + 1 < μ.2.2.1) (hl1 : ((i : Nat), jv x) :: lv.filter (fun q => !(q.1 == (i : Nat)) && (!(q.1 == (i : Nat) + 1) && !(q.1 + 1 == (i : Nat) && q.2.category == 2))) = lv1) (k : AW z μ d Q (pc + 1) lv1 (st) g) : AW z μ d Q pc lv (jv x :: st) g := by
  intro p l e s m args below meth c H locs ls C hP hS hl
  exact lv_lstore_n C.1 C.2.1 hd rfl hl hn hl1 (fun ls hl => k p l e s m args below meth c H locs ls C hP hS hl)

theorem AW.lstore {i : Nat} {x : Int} {lv1 : List (Nat × Value)} (hd : decode μ.2.1 pc = .ok (.lstore i, 2)) (hn : i + 1 < μ.2.2.1) (hl1 : (i, jv x) :: lv.filter (fun q => !(q.1 == i) && (!(q.1 == i + 1) && !(q.1 + 1 == i && q.2.category == 2))) = lv1) (k : AW z μ d Q (pc + 2) lv1 (st) g) : AW z μ d Q pc lv (jv x :: st) g := by
  intro p l e s m args below meth c H locs ls C hP hS hl
  exact lv_lstore C.1 C.2.1 hd hl hn hl1 (fun ls hl => k p l e s m args below meth c H locs ls C hP hS hl)

theorem AW.iinc {i : Nat} {n x : Int} {lv1 : List (Nat × Value)} (q : Nat) (hd : decode μ.2.1 pc = .ok (.iinc i n, 3)) (hq : lv[q]? = some (i, iv x)) (hn : i < μ.2.2.1) (hl1 : (i, iv (x + n)) :: lv.filter (fun q => !(q.1 == i) && !(q.1 + 1 == i && q.2.category == 2)) = lv1) (k : AW z μ d Q (pc + 3) lv1 (st) g) : AW z μ d Q pc lv (st) g := by
  intro p l e s m args below meth c H locs ls C hP hS hl
  exact lv_iinc C.1 C.2.1 hd hl hq (Int32.ofInt_add x n).symm hn hl1 (fun ls hl => k p l e s m args below meth c H locs ls C hP hS hl)

theorem AW.iadd {x y : Int} (hd : decode μ.2.1 pc = .ok (.iadd, 1)) (k : AW z μ d Q (pc + 1) lv (iv (x + y) :: st) g) : AW z μ d Q pc lv (iv y :: iv x :: st) g := by
  intro p l e s m args below meth c H locs ls C hP hS hl
  refine lv_iadd C.1 C.2.1 hd ?_
  rw [← Int32.ofInt_add]
  exact k p l e s m args below meth c H locs ls C hP hS hl

theorem AW.isub {x y : Int} (hd : decode μ.2.1 pc = .ok (.isub, 1)) (k : AW z μ d Q (pc + 1) lv (iv (x - y) :: st) g) : AW z μ d Q pc lv (iv y :: iv x :: st) g := by
  intro p l e s m args below meth c H locs ls C hP hS hl
  refine lv_isub C.1 C.2.1 hd ?_
  rw [← Int32.ofInt_sub]
  exact k p l e s m args below meth c H locs ls C hP hS hl

theorem AW.imul {x y : Int} (hd : decode μ.2.1 pc = .ok (.imul, 1)) (k : AW z μ d Q (pc + 1) lv (iv (x * y) :: st) g) : AW z μ d Q pc lv (iv y :: iv x :: st) g := by
  intro p l e s m args below meth c H locs ls C hP hS hl
  refine lv_imul C.1 C.2.1 hd ?_
  rw [← Int32.ofInt_mul]
  exact k p l e s m args below meth c H locs ls C hP hS hl

theorem AW.ineg {x : Int} (hd : decode μ.2.1 pc = .ok (.ineg, 1)) (k : AW z μ d Q (pc + 1) lv (iv (-x) :: st) g) : AW z μ d Q pc lv (iv x :: st) g := by
  intro p l e s m args below meth c H locs ls C hP hS hl
  refine lv_ineg C.1 C.2.1 hd ?_
  rw [← Int32.ofInt_neg]
  exact k p l e s m args below meth c H locs ls C hP hS hl

theorem AW.idiv {x y : Int} (hd : decode μ.2.1 pc = .ok (.idiv, 1)) (h0 : ¬ nw y = 0) (k : AW z μ d Q (pc + 1) lv (iv ((nw x).tdiv (nw y)) :: st) g) : AW z μ d Q pc lv (iv y :: iv x :: st) g := by
  intro p l e s m args below meth c H locs ls C hP hS hl
  refine lv_idiv C.1 C.2.1 hd (fun q => h0 ((i32_eq0 y).mp q)) ?_
  rw [i32_div]
  exact k p l e s m args below meth c H locs ls C hP hS hl

theorem AW.irem {x y : Int} (hd : decode μ.2.1 pc = .ok (.irem, 1)) (h0 : ¬ nw y = 0) (k : AW z μ d Q (pc + 1) lv (iv ((nw x).tmod (nw y)) :: st) g) : AW z μ d Q pc lv (iv y :: iv x :: st) g := by
  intro p l e s m args below meth c H locs ls C hP hS hl
  refine lv_irem C.1 C.2.1 hd (fun q => h0 ((i32_eq0 y).mp q)) ?_
  rw [i32_rem]
  exact k p l e s m args below meth c H locs ls C hP hS hl

theorem AW.ishl {x y : Int} (hd : decode μ.2.1 pc = .ok (.ishl, 1)) (k : AW z μ d Q (pc + 1) lv (iv (shlI x y) :: st) g) : AW z μ d Q pc lv (iv y :: iv x :: st) g := by
  intro p l e s m args below meth c H locs ls C hP hS hl
  refine lv_ishl C.1 C.2.1 hd ?_
  have h := k p l e s m args below meth c H locs ls C hP hS hl
  unfold iv shlI at h
  rw [Int32.ofInt_toInt] at h
  exact h

theorem AW.ishr {x y : Int} (hd : decode μ.2.1 pc = .ok (.ishr, 1)) (k : AW z μ d Q (pc + 1) lv (iv (shrI x y) :: st) g) : AW z μ d Q pc lv (iv y :: iv x :: st) g := by
  intro p l e s m args below meth c H locs ls C hP hS hl
  refine lv_ishr C.1 C.2.1 hd ?_
  have h := k p l e s m args below meth c H locs ls C hP hS hl
  unfold iv shrI at h
  rw [Int32.ofInt_toInt] at h
  exact h

theorem AW.iand {x y : Int} (hd : decode μ.2.1 pc = .ok (.iand, 1)) (k : AW z μ d Q (pc + 1) lv (iv (andI x y) :: st) g) : AW z μ d Q pc lv (iv y :: iv x :: st) g := by
  intro p l e s m args below meth c H locs ls C hP hS hl
  refine lv_iand C.1 C.2.1 hd ?_
  have h := k p l e s m args below meth c H locs ls C hP hS hl
  unfold iv andI at h
  rw [Int32.ofInt_toInt] at h
  exact h

theorem AW.ior {x y : Int} (hd : decode μ.2.1 pc = .ok (.ior, 1)) (k : AW z μ d Q (pc + 1) lv (iv (orI x y) :: st) g) : AW z μ d Q pc lv (iv y :: iv x :: st) g := by
  intro p l e s m args below meth c H locs ls C hP hS hl
  refine lv_ior C.1 C.2.1 hd ?_
  have h := k p l e s m args below meth c H locs ls C hP hS hl
  unfold iv orI at h
  rw [Int32.ofInt_toInt] at h
  exact h

theorem AW.ixor {x y : Int} (hd : decode μ.2.1 pc = .ok (.ixor, 1)) (k : AW z μ d Q (pc + 1) lv (iv (xorI x y) :: st) g) : AW z μ d Q pc lv (iv y :: iv x :: st) g := by
  intro p l e s m args below meth c H locs ls C hP hS hl
  refine lv_ixor C.1 C.2.1 hd ?_
  have h := k p l e s m args below meth c H locs ls C hP hS hl
  unfold iv xorI at h
  rw [Int32.ofInt_toInt] at h
  exact h

theorem AW.iushr {x y : Int} (hd : decode μ.2.1 pc = .ok (.iushr, 1)) (k : AW z μ d Q (pc + 1) lv (iv (ushrI x y) :: st) g) : AW z μ d Q pc lv (iv y :: iv x :: st) g := by
  intro p l e s m args below meth c H locs ls C hP hS hl
  exact lv_iushr C.1 C.2.1 hd (by unfold ushrI; rw [Int32.ofInt_toInt]) (k p l e s m args below meth c H locs ls C hP hS hl)

theorem AW.i2c {x : Int} (hd : decode μ.2.1 pc = .ok (.i2c, 1)) (k : AW z μ d Q (pc + 1) lv (iv (chrI x) :: st) g) : AW z μ d Q pc lv (iv x :: st) g := by
  intro p l e s m args below meth c H locs ls C hP hS hl
  exact lv_i2c C.1 C.2.1 hd (by unfold chrI; rw [Int32.ofInt_toInt]) (k p l e s m args below meth c H locs ls C hP hS hl)

theorem AW.i2b {x : Int} (hd : decode μ.2.1 pc = .ok (.i2b, 1)) (k : AW z μ d Q (pc + 1) lv (iv (bytI x) :: st) g) : AW z μ d Q pc lv (iv x :: st) g := by
  intro p l e s m args below meth c H locs ls C hP hS hl
  exact lv_i2b C.1 C.2.1 hd (by unfold bytI; rw [Int32.ofInt_toInt]) (k p l e s m args below meth c H locs ls C hP hS hl)

theorem AW.i2l {x : Int} (hd : decode μ.2.1 pc = .ok (.i2l, 1)) (k : AW z μ d Q (pc + 1) lv (jv (nw x) :: st) g) : AW z μ d Q pc lv (iv x :: st) g := by
  intro p l e s m args below meth c H locs ls C hP hS hl
  exact lv_i2l C.1 C.2.1 hd (by rw [← Int64.toInt_inj, Int32.toInt_toInt64, i32_toInt, Int64.toInt_ofInt_of_le (nw_b x).1 (nw_b x).2]) (k p l e s m args below meth c H locs ls C hP hS hl)

theorem AW.l2i {x : Int} (hd : decode μ.2.1 pc = .ok (.l2i, 1)) (k : AW z μ d Q (pc + 1) lv (iv x :: st) g) : AW z μ d Q pc lv (jv x :: st) g := by
  intro p l e s m args below meth c H locs ls C hP hS hl
  exact lv_l2i C.1 C.2.1 hd (Int64.toInt32_ofInt) (k p l e s m args below meth c H locs ls C hP hS hl)

theorem AW.lmul {x y : Int} (hd : decode μ.2.1 pc = .ok (.lmul, 1)) (k : AW z μ d Q (pc + 1) lv (jv (x * y) :: st) g) : AW z μ d Q pc lv (jv y :: jv x :: st) g := by
  intro p l e s m args below meth c H locs ls C hP hS hl
  refine lv_lmul C.1 C.2.1 hd ?_
  rw [← Int64.ofInt_mul]
  exact k p l e s m args below meth c H locs ls C hP hS hl

theorem AW.ldiv {x y : Int} (hd : decode μ.2.1 pc = .ok (.ldiv, 1)) (h0 : ¬ nl y = 0) (k : AW z μ d Q (pc + 1) lv (jv ((nl x).tdiv (nl y)) :: st) g) : AW z μ d Q pc lv (jv y :: jv x :: st) g := by
  intro p l e s m args below meth c H locs ls C hP hS hl
  refine lv_ldiv C.1 C.2.1 hd (fun q => h0 ((i64_eq0 y).mp q)) ?_
  rw [i64_div]
  exact k p l e s m args below meth c H locs ls C hP hS hl

theorem AW.dup {x : Int} (hd : decode μ.2.1 pc = .ok (.dup, 1)) (k : AW z μ d Q (pc + 1) lv (iv x :: iv x :: st) g) : AW z μ d Q pc lv (iv x :: st) g := by
  intro p l e s m args below meth c H locs ls C hP hS hl
  exact lv_dup C.1 C.2.1 hd rfl (k p l e s m args below meth c H locs ls C hP hS hl)

theorem AW.dupr {x : Nat} (hd : decode μ.2.1 pc = .ok (.dup, 1)) (k : AW z μ d Q (pc + 1) lv (.ref x :: .ref x :: st) g) : AW z μ d Q pc lv (.ref x :: st) g := by
  intro p l e s m args below meth c H locs ls C hP hS hl
  exact lv_dup C.1 C.2.1 hd rfl (k p l e s m args below meth c H locs ls C hP hS hl)

theorem AW.dup2 {x : Nat} {y : Int} (hd : decode μ.2.1 pc = .ok (.dup2, 1)) (k : AW z μ d Q (pc + 1) lv (iv y :: .ref x :: iv y :: .ref x :: st) g) : AW z μ d Q pc lv (iv y :: .ref x :: st) g := by
  intro p l e s m args below meth c H locs ls C hP hS hl
  exact lv_dup2_11 C.1 C.2.1 hd rfl rfl (k p l e s m args below meth c H locs ls C hP hS hl)

theorem AW.pop {x : Int} (hd : decode μ.2.1 pc = .ok (.pop, 1)) (k : AW z μ d Q (pc + 1) lv (st) g) : AW z μ d Q pc lv (iv x :: st) g := by
  intro p l e s m args below meth c H locs ls C hP hS hl
  exact lv_pop C.1 C.2.1 hd rfl (k p l e s m args below meth c H locs ls C hP hS hl)

theorem AW.goto {off : Int} {tgt : Nat} (hd : decode μ.2.1 pc = .ok (.goto off, 3)) (ht : (pc : Int) + off = (tgt : Int)) (k : AW z μ d Q (tgt) lv (st) g) : AW z μ d Q pc lv (st) g := by
  intro p l e s m args below meth c H locs ls C hP hS hl
  exact lv_goto C.1 C.2.1 hd ht (k p l e s m args below meth c H locs ls C hP hS hl)

theorem AW.icmp_lt {x y : Int} {off : Int} {tgt : Nat} (hd : decode μ.2.1 pc = .ok (.if_icmp .lt off, 3)) (ht : (pc : Int) + off = (tgt : Int)) (kt : nw x < nw y → AW z μ d Q tgt lv st g) (kf : ¬ nw x < nw y → AW z μ d Q (pc + 3) lv st g) : AW z μ d Q pc lv (iv y :: iv x :: st) g := by
  intro p l e s m args below meth c H locs ls C hP hS hl
  exact lv_icmp_lt C.1 C.2.1 hd ht (fun q => kt ((i32_lt x y).mp q) p l e s m args below meth c H locs ls C hP hS hl) (fun q => kf (fun q2 => q ((i32_lt x y).mpr q2)) p l e s m args below meth c H locs ls C hP hS hl)

theorem AW.icmp_gt {x y : Int} {off : Int} {tgt : Nat} (hd : decode μ.2.1 pc = .ok (.if_icmp .gt off, 3)) (ht : (pc : Int) + off = (tgt : Int)) (kt : nw y < nw x → AW z μ d Q tgt lv st g) (kf : ¬ nw y < nw x → AW z μ d Q (pc + 3) lv st g) : AW z μ d Q pc lv (iv y :: iv x :: st) g := by
  intro p l e s m args below meth c H locs ls C hP hS hl
  exact lv_icmp_gt C.1 C.2.1 hd ht (fun q => kt ((i32_lt y x).mp q) p l e s m args below meth c H locs ls C hP hS hl) (fun q => kf (fun q2 => q ((i32_lt y x).mpr q2)) p l e s m args below meth c H locs ls C hP hS hl)

theorem AW.icmp_le {x y : Int} {off : Int} {tgt : Nat} (hd : decode μ.2.1 pc = .ok (.if_icmp .le off, 3)) (ht : (pc : Int) + off = (tgt : Int)) (kt : nw x ≤ nw y → AW z μ d Q tgt lv st g) (kf : ¬ nw x ≤ nw y → AW z μ d Q (pc + 3) lv st g) : AW z μ d Q pc lv (iv y :: iv x :: st) g := by
  intro p l e s m args below meth c H locs ls C hP hS hl
  exact lv_icmp_le C.1 C.2.1 hd ht (fun q => kt ((i32_le x y).mp q) p l e s m args below meth c H locs ls C hP hS hl) (fun q => kf (fun q2 => q ((i32_le x y).mpr q2)) p l e s m args below meth c H locs ls C hP hS hl)

theorem AW.icmp_ge {x y : Int} {off : Int} {tgt : Nat} (hd : decode μ.2.1 pc = .ok (.if_icmp .ge off, 3)) (ht : (pc : Int) + off = (tgt : Int)) (kt : nw y ≤ nw x → AW z μ d Q tgt lv st g) (kf : ¬ nw y ≤ nw x → AW z μ d Q (pc + 3) lv st g) : AW z μ d Q pc lv (iv y :: iv x :: st) g := by
  intro p l e s m args below meth c H locs ls C hP hS hl
  exact lv_icmp_ge C.1 C.2.1 hd ht (fun q => kt ((i32_le y x).mp q) p l e s m args below meth c H locs ls C hP hS hl) (fun q => kf (fun q2 => q ((i32_le y x).mpr q2)) p l e s m args below meth c H locs ls C hP hS hl)

theorem AW.icmp_eq {x y : Int} {off : Int} {tgt : Nat} (hd : decode μ.2.1 pc = .ok (.if_icmp .eq off, 3)) (ht : (pc : Int) + off = (tgt : Int)) (kt : nw x = nw y → AW z μ d Q tgt lv st g) (kf : ¬ nw x = nw y → AW z μ d Q (pc + 3) lv st g) : AW z μ d Q pc lv (iv y :: iv x :: st) g := by
  intro p l e s m args below meth c H locs ls C hP hS hl
  exact lv_icmp_eq C.1 C.2.1 hd ht (fun q => kt ((i32_eq x y).mp q) p l e s m args below meth c H locs ls C hP hS hl) (fun q => kf (fun q2 => q ((i32_eq x y).mpr q2)) p l e s m args below meth c H locs ls C hP hS hl)

theorem AW.if_lt {x : Int} {off : Int} {tgt : Nat} (hd : decode μ.2.1 pc = .ok (.ifCond .lt off, 3)) (ht : (pc : Int) + off = (tgt : Int)) (kt : nw x < 0 → AW z μ d Q tgt lv st g) (kf : ¬ nw x < 0 → AW z μ d Q (pc + 3) lv st g) : AW z μ d Q pc lv (iv x :: st) g := by
  intro p l e s m args below meth c H locs ls C hP hS hl
  exact lv_if_lt C.1 C.2.1 hd ht (fun q => kt ((i32_lt0 x).mp q) p l e s m args below meth c H locs ls C hP hS hl) (fun q => kf (fun q2 => q ((i32_lt0 x).mpr q2)) p l e s m args below meth c H locs ls C hP hS hl)

theorem AW.if_gt {x : Int} {off : Int} {tgt : Nat} (hd : decode μ.2.1 pc = .ok (.ifCond .gt off, 3)) (ht : (pc : Int) + off = (tgt : Int)) (kt : 0 < nw x → AW z μ d Q tgt lv st g) (kf : ¬ 0 < nw x → AW z μ d Q (pc + 3) lv st g) : AW z μ d Q pc lv (iv x :: st) g := by
  intro p l e s m args below meth c H locs ls C hP hS hl
  exact lv_if_gt C.1 C.2.1 hd ht (fun q => kt ((i32_0lt x).mp q) p l e s m args below meth c H locs ls C hP hS hl) (fun q => kf (fun q2 => q ((i32_0lt x).mpr q2)) p l e s m args below meth c H locs ls C hP hS hl)

theorem AW.if_le {x : Int} {off : Int} {tgt : Nat} (hd : decode μ.2.1 pc = .ok (.ifCond .le off, 3)) (ht : (pc : Int) + off = (tgt : Int)) (kt : nw x ≤ 0 → AW z μ d Q tgt lv st g) (kf : ¬ nw x ≤ 0 → AW z μ d Q (pc + 3) lv st g) : AW z μ d Q pc lv (iv x :: st) g := by
  intro p l e s m args below meth c H locs ls C hP hS hl
  exact lv_if_le C.1 C.2.1 hd ht (fun q => kt ((i32_le0 x).mp q) p l e s m args below meth c H locs ls C hP hS hl) (fun q => kf (fun q2 => q ((i32_le0 x).mpr q2)) p l e s m args below meth c H locs ls C hP hS hl)

theorem AW.if_ge {x : Int} {off : Int} {tgt : Nat} (hd : decode μ.2.1 pc = .ok (.ifCond .ge off, 3)) (ht : (pc : Int) + off = (tgt : Int)) (kt : 0 ≤ nw x → AW z μ d Q tgt lv st g) (kf : ¬ 0 ≤ nw x → AW z μ d Q (pc + 3) lv st g) : AW z μ d Q pc lv (iv x :: st) g := by
  intro p l e s m args below meth c H locs ls C hP hS hl
  exact lv_if_ge C.1 C.2.1 hd ht (fun q => kt ((i32_0le x).mp q) p l e s m args below meth c H locs ls C hP hS hl) (fun q => kf (fun q2 => q ((i32_0le x).mpr q2)) p l e s m args below meth c H locs ls C hP hS hl)

theorem AW.if_eq {x : Int} {off : Int} {tgt : Nat} (hd : decode μ.2.1 pc = .ok (.ifCond .eq off, 3)) (ht : (pc : Int) + off = (tgt : Int)) (kt : nw x = 0 → AW z μ d Q tgt lv st g) (kf : ¬ nw x = 0 → AW z μ d Q (pc + 3) lv st g) : AW z μ d Q pc lv (iv x :: st) g := by
  intro p l e s m args below meth c H locs ls C hP hS hl
  exact lv_if_eq C.1 C.2.1 hd ht (fun q => kt ((i32_eq0 x).mp q) p l e s m args below meth c H locs ls C hP hS hl) (fun q => kf (fun q2 => q ((i32_eq0 x).mpr q2)) p l e s m args below meth c H locs ls C hP hS hl)

theorem AW.icmp_ne {x y : Int} {off : Int} {tgt : Nat} (hd : decode μ.2.1 pc = .ok (.if_icmp .ne off, 3)) (ht : (pc : Int) + off = (tgt : Int)) (kt : ¬ nw x = nw y → AW z μ d Q tgt lv st g) (kf : nw x = nw y → AW z μ d Q (pc + 3) lv st g) : AW z μ d Q pc lv (iv y :: iv x :: st) g := by
  intro p l e s m args below meth c H locs ls C hP hS hl
  exact lv_icmp_ne C.1 C.2.1 hd ht (fun q => kt (fun q2 => q ((i32_eq x y).mpr q2)) p l e s m args below meth c H locs ls C hP hS hl) (fun q => kf ((i32_eq x y).mp q) p l e s m args below meth c H locs ls C hP hS hl)

theorem AW.if_ne {x : Int} {off : Int} {tgt : Nat} (hd : decode μ.2.1 pc = .ok (.ifCond .ne off, 3)) (ht : (pc : Int) + off = (tgt : Int)) (kt : ¬ nw x = 0 → AW z μ d Q tgt lv st g) (kf : nw x = 0 → AW z μ d Q (pc + 3) lv st g) : AW z μ d Q pc lv (iv x :: st) g := by
  intro p l e s m args below meth c H locs ls C hP hS hl
  exact lv_if_ne C.1 C.2.1 hd ht (fun q => kt (fun q2 => q ((i32_eq0 x).mpr q2)) p l e s m args below meth c H locs ls C hP hS hl) (fun q => kf ((i32_eq0 x).mp q) p l e s m args below meth c H locs ls C hP hS hl)

theorem AW.tsOut {x dflt lo hi : Int} {offs : Array Int} {len tgt : Nat} (hd : decode μ.2.1 pc = .ok (.tableswitch dflt lo hi offs, len)) (h : nw x < lo ∨ hi < nw x) (ht : (pc : Int) + dflt = (tgt : Int)) (k : AW z μ d Q (tgt) lv (st) g) : AW z μ d Q pc lv (iv x :: st) g := by
  intro p l e s m args below meth c H locs ls C hP hS hl
  exact lv_tableOut C.1 C.2.1 hd (by rw [i32_toInt]; exact h) ht (k p l e s m args below meth c H locs ls C hP hS hl)

theorem AW.tsIn {x dflt lo hi off : Int} {offs : Array Int} {len tgt : Nat} (v : Int) (hd : decode μ.2.1 pc = .ok (.tableswitch dflt lo hi offs, len)) (hv : nw x = v) (h1 : ¬ v < lo) (h2 : ¬ hi < v) (ho : offs[(v - lo).toNat]? = some off) (ht : (pc : Int) + off = (tgt : Int)) (k : AW z μ d Q (tgt) lv (st) g) : AW z μ d Q pc lv (iv x :: st) g := by
  intro p l e s m args below meth c H locs ls C hP hS hl
  exact lv_tableIn C.1 C.2.1 hd (by rw [i32_toInt, hv]; exact h1) (by rw [i32_toInt, hv]; exact h2) (by rw [i32_toInt, hv]; exact ho) ht (k p l e s m args below meth c H locs ls C hP hS hl)

/-- what the tables say of a field: own class, pool place, cell, slot -/
def AF (own : String) (idx q k : Nat) : Prop := ∃ (ci N : Nat) (C : String) (T : u_T), q < KC ∧ skF q = (ci + 3, N) ∧ vwCl[ci]? = some (C, T, N) ∧ k < N ∧ (∀ w ∈ u_ws C T N, w ∈ lw_gd) ∧ Cond.fieldLink own idx (T k).1 (T k).2.1 (T k).2.2.1 ∈ lw_gd
def AFp (own : String) (idx q k : Nat) (ty : FieldType) : Prop := ∃ (ci N : Nat) (C : String) (T : u_T) (ty0 : Nat → FieldType), q < KC ∧ skF q = (ci + 3, N) ∧ vwCl[ci]? = some (C, T, N) ∧ k < N ∧ (∀ w ∈ u_ws C T N, w ∈ lw_gd) ∧ Cond.fieldLink own idx (T k).1 (T k).2.1 (T k).2.2.1 ∈ lw_gd ∧
  (∀ j, j < N → parseFieldDescriptor (T j).2.2.1 = some (ty0 j)) ∧ (∀ a, a < N → ∀ b, b < N → a ≠ b → (T a).2.1 ≠ (T b).2.1) ∧ (T k).2.2.2 = false ∧ parseFieldDescriptor (T k).2.2.1 = some ty
theorem AW.get {idx q k : Nat} {v : Value} (hF : AF μ.1 idx q k) (hd : decode μ.2.1 pc = .ok (.getfield idx, 3)) (hv : awS z g q k = v) (kk : AW z μ d Q (pc + 3) lv (v :: st) g) : AW z μ d Q pc lv (rv z q :: st) g := by
  intro p l e s m args below meth c H locs ls C hP hS hl
  obtain ⟨ci, N, D, T, h1, h2, h3, h4, h5, h6⟩ := hF
  exact va_get (C := D) (T := T) (N := N) (ci := ci) C.1 C.2.1 C.2.2.2.2.2.1 h5 C.2.2.2.2.1 C.2.2.2.2.2.2.2.1 hP q (by rw [awW_get h1, awE_o h2]) h3 k h4 (C.2.2.2.2.2.1 _ h6) (fun _ h => h) (v := v) (by rw [List.getElem?_map, List.getElem?_range h4]; simp [hv]) hd (kk p l e s m args below meth c H locs ls C hP hS hl)
theorem AW.getI {idx q k : Nat} (hF : AF μ.1 idx q k) (hs : srF q k = 0) (hd : decode μ.2.1 pc = .ok (.getfield idx, 3)) (kk : AW z μ d Q (pc + 3) lv (iv (g q k) :: st) g) : AW z μ d Q pc lv (rv z q :: st) g :=
  AW.get hF hd (by unfold awS; rw [hs]) kk
theorem AW.getR {idx q k j : Nat} (hF : AF μ.1 idx q k) (hs : srF q k = j + 2) (hd : decode μ.2.1 pc = .ok (.getfield idx, 3)) (kk : AW z μ d Q (pc + 3) lv (rv z j :: st) g) : AW z μ d Q pc lv (rv z q :: st) g :=
  AW.get hF hd (by unfold awS; rw [hs]) kk
theorem AW.getM {idx q k j : Nat} (hF : AF μ.1 idx q k) (hs : srF q k = 1) (hd : decode μ.2.1 pc = .ok (.getfield idx, 3)) (hj : (g q k).toNat = j) (kk : AW z μ d Q (pc + 3) lv (rv z j :: st) g) : AW z μ d Q pc lv (rv z q :: st) g :=
  AW.get hF hd (by unfold awS; rw [hs, ← hj]) kk
theorem AW.put {idx q k : Nat} {ty : FieldType} {v : Value} {x : Int} {g1 : AG} (hF : AFp μ.1 idx q k ty) (hn : narrow ty v = v) (hfit : fits ty v = true) (hv : awS z (up g q k x) q k = v) (hd : decode μ.2.1 pc = .ok (.putfield idx, 3)) (hg : g1 = up g q k x) (kk : AW z μ d Q (pc + 3) lv st g1) : AW z μ d Q pc lv (v :: rv z q :: st) g := by
  intro p l e s m args below meth c H locs ls C hP hS hl
  obtain ⟨ci, N, D, T, ty0, h1, h2, h3, h4, h5, h6, h7, h8, h9, h10⟩ := hF
  subst hg
  have hD : va_D (zA z) (awW z g) := awD C.2.2.2.2.2.2.2.2.1
  refine va_put (C := D) (T := T) (N := N) (ci := ci) C.1 C.2.1 C.2.2.2.2.2.1 h5 ty0 h7 h8 C.2.2.2.2.1 C.2.2.2.2.2.2.2.1 hP hD hS q (by rw [awW_get h1, awE_o h2]) h3 k h4 (C.2.2.2.2.2.1 _ h6) (fun _ h => h) h9 h10 hn hfit (by simp [h4]) hd (fun H1 locs1 hP1 _ hS1 => ?_)
  rw [awP_put h2 h4 hv] at hP1
  exact kk p l e s m args below meth c H1 locs1 ls C hP1 hS1 hl
theorem AW.putI {idx q k : Nat} {x : Int} {g1 : AG} (hF : AFp μ.1 idx q k .int) (hs : srF q k = 0) (hd : decode μ.2.1 pc = .ok (.putfield idx, 3)) (hg : g1 = up g q k x) (kk : AW z μ d Q (pc + 3) lv st g1) : AW z μ d Q pc lv (iv x :: rv z q :: st) g :=
  AW.put hF rfl rfl (by unfold awS up; rw [hs]; simp) hd hg kk
theorem AW.putZ {idx q k : Nat} {x : Int} {g1 : AG} (hF : AFp μ.1 idx q k .boolean) (hs : srF q k = 0) (h01 : x = 0 ∨ x = 1) (hd : decode μ.2.1 pc = .ok (.putfield idx, 3)) (hg : g1 = up g q k x) (kk : AW z μ d Q (pc + 3) lv st g1) : AW z μ d Q pc lv (iv x :: rv z q :: st) g :=
  AW.put hF (zok_nar h01) (by rcases h01 with rfl | rfl <;> rfl) (by unfold awS up; rw [hs]; simp) hd hg kk
theorem AW.putM {idx q k j : Nat} {x : Int} {g1 : AG} (hF : AFp μ.1 idx q k (.array .int)) (hs : srF q k = 1) (hj : x.toNat = j) (hd : decode μ.2.1 pc = .ok (.putfield idx, 3)) (hg : g1 = up g q k x) (kk : AW z μ d Q (pc + 3) lv st g1) : AW z μ d Q pc lv (rv z j :: rv z q :: st) g :=
  AW.put hF rfl rfl (by unfold awS up; rw [hs]; simp [hj]) hd hg kk
/-! arrays -/
theorem AW.iald {q n : Nat} {i : Int} (hq : q < KC) (hk : skF q = (0, n)) (hi : 0 ≤ nw i ∧ nw i < n) (hd : decode μ.2.1 pc = .ok (.iaload, 1)) (kk : AW z μ d Q (pc + 1) lv (iv (g q (ix i)) :: st) g) : AW z μ d Q pc lv (iv i :: rv z q :: st) g := by
  intro p l e s m args below meth c H locs ls C hP hS hl
  refine va_iald C.1 C.2.1 C.2.2.2.2.2.2.2.1 hP q 0 (by rw [awW_get hq, awE_i hk]) rfl (i32_in i n hi) hd ?_
  rw [i32_clamp]
  exact kk p l e s m args below meth c H locs ls C hP hS hl
theorem AW.zald {q n : Nat} {i : Int} (hq : q < KC) (hk : skF q = (1, n)) (hi : 0 ≤ nw i ∧ nw i < n) (hd : decode μ.2.1 pc = .ok (.baload, 1)) (kk : AW z μ d Q (pc + 1) lv (iv (g q (ix i)) :: st) g) : AW z μ d Q pc lv (iv i :: rv z q :: st) g := by
  intro p l e s m args below meth c H locs ls C hP hS hl
  refine va_zald C.1 C.2.1 C.2.2.2.2.2.2.2.1 hP q 1 (by rw [awW_get hq, awE_z hk]) rfl (i32_in i n hi) hd ?_
  rw [i32_clamp]
  exact kk p l e s m args below meth c H locs ls C hP hS hl
theorem AW.aald {q n b : Nat} {i : Int} (hq : q < KC) (hk : skF q = (2, n)) (hb : ∀ j, j < n → srF q j = b + j + 2) (hi : 0 ≤ nw i ∧ nw i < n) (hd : decode μ.2.1 pc = .ok (.aaload, 1)) (kk : AW z μ d Q (pc + 1) lv (rv z (b + ix i) :: st) g) : AW z μ d Q pc lv (iv i :: rv z q :: st) g := by
  intro p l e s m args below meth c H locs ls C hP hS hl
  have hin := i32_in i n hi
  have hlt : (Int32.ofInt i).toNatClampNeg < n := Nat.not_le.mp fun q => hin (Or.inr q)
  have hP0 := hP q _ (awW_get hq)
  rw [awE_q hk] at hP0
  refine W.aald (v := rv z (b + ix i)) (ty := .array .int) C.1 C.2.1 hP0 ((C.2.2.2.2.2.2.2.1.2 2 _ rfl).1 n _) rfl (fun q => by cases q) (by show ¬ (_ ∨ (arrV _ _ _).slots.size ≤ _); rw [arrV_size]; exact hin) (by show (arrV _ _ _).slots[_]? = _; rw [arrV_read _ _ hlt, i32_clamp]; rw [i32_clamp] at hlt; simp only [va_rf]; rw [hb _ hlt]; rfl) rfl rfl hd (kk p l e s m args below meth c H locs ls C hP hS hl)
theorem AW.iast {q n : Nat} {i x : Int} {g1 : AG} (hq : q < KC) (hk : skF q = (0, n)) (hi : 0 ≤ nw i ∧ nw i < n) (hd : decode μ.2.1 pc = .ok (.iastore, 1)) (hg : g1 = up g q (ix i) x) (kk : AW z μ d Q (pc + 1) lv st g1) : AW z μ d Q pc lv (iv x :: iv i :: rv z q :: st) g := by
  intro p l e s m args below meth c H locs ls C hP hS hl
  subst hg
  have hD : va_D (zA z) (awW z g) := awD C.2.2.2.2.2.2.2.2.1
  refine va_iast C.1 C.2.1 C.2.2.2.2.2.2.2.1 hP hD hS q 0 (by rw [awW_get hq, awE_i hk]) rfl (i32_in i n hi) hd (fun H1 locs1 hP1 _ hS1 => ?_)
  rw [i32_clamp, awP_arr hk] at hP1
  exact kk p l e s m args below meth c H1 locs1 ls C hP1 hS1 hl
theorem AW.zast {q n : Nat} {i x : Int} {g1 : AG} (hq : q < KC) (hk : skF q = (1, n)) (hi : 0 ≤ nw i ∧ nw i < n) (h01 : x = 0 ∨ x = 1) (hd : decode μ.2.1 pc = .ok (.bastore, 1)) (hg : g1 = up g q (ix i) x) (kk : AW z μ d Q (pc + 1) lv st g1) : AW z μ d Q pc lv (iv x :: iv i :: rv z q :: st) g := by
  intro p l e s m args below meth c H locs ls C hP hS hl
  subst hg
  have hD : va_D (zA z) (awW z g) := awD C.2.2.2.2.2.2.2.2.1
  have e9 : vp_nar .boolean (Int32.ofInt x) = Int32.ofInt x := by rcases h01 with rfl | rfl <;> rfl
  refine va_zast C.1 C.2.1 C.2.2.2.2.2.2.2.1 hP hD hS q 1 (by rw [awW_get hq, awE_z hk]) rfl (i32_in i n hi) hd (fun H1 locs1 hP1 _ hS1 => ?_)
  rw [i32_clamp, e9, awP_arz hk] at hP1
  exact kk p l e s m args below meth c H1 locs1 ls C hP1 hS1 hl
theorem AW.alen {q n : Nat} (hq : q < KC) (hk : skF q = (0, n)) (hd : decode μ.2.1 pc = .ok (.arraylength, 1)) (kk : AW z μ d Q (pc + 1) lv (iv n :: st) g) : AW z μ d Q pc lv (rv z q :: st) g := by
  intro p l e s m args below meth c H locs ls C hP hS hl
  exact va_alen (x := (n, .inl (fun i => Int32.ofInt (g q i)))) C.1 C.2.1 C.2.2.2.2.2.2.2.1 hP q 0 (by rw [awW_get hq, awE_i hk]) rfl Int32.ofInt_eq_ofNat.symm hd (kk p l e s m args below meth c H locs ls C hP hS hl)
/-! ends -/
theorem aqc_of {s t : State} {a : Array Value} {H : Heap} {locs : List Loc} {v : Option Value} (hQ : Q v g) (hP : awP z g H) (hS : va_S (zA z) s.heap H locs) (ht : t.heap = H) : aqc z Q a s (.returned v) t :=
  ⟨⟨v, g, rfl, hQ, by rw [ht]; exact hP⟩, hS.F ht⟩
theorem AW.iret {x : Int} (hr : μ.2.2.2 = some .int) (hd : decode μ.2.1 pc = .ok (.ireturn, 1)) (hQ : Q (some (iv x)) g) : AW z μ d Q pc lv [iv x] g := by
  intro p l e s m args below meth c H locs ls C hP hS hl
  exact W.iret C.1 C.2.1 (C.2.2.1.trans hr) (fun t ht _ => aqc_of hQ hP hS ht) hS.2.2 hd C.2.2.2.2.2.2.1
theorem AW.zret {x : Int} (hr : μ.2.2.2 = some .boolean) (h01 : x = 0 ∨ x = 1) (hd : decode μ.2.1 pc = .ok (.ireturn, 1)) (hQ : Q (some (iv x)) g) : AW z μ d Q pc lv [iv x] g := by
  intro p l e s m args below meth c H locs ls C hP hS hl
  exact W.zret C.1 C.2.1 (C.2.2.1.trans hr) (zok_nar h01) (fun t ht _ => aqc_of hQ hP hS ht) hS.2.2 hd C.2.2.2.2.2.2.1
theorem AW.vret (hr : μ.2.2.2 = none) (hd : decode μ.2.1 pc = .ok (.return_, 1)) (hQ : Q none g) : AW z μ d Q pc lv [] g := by
  intro p l e s m args below meth c H locs ls C hP hS hl
  exact W.vret C.1 C.2.1 (C.2.2.1.trans hr) (fun t ht _ => aqc_of hQ hP hS ht) hS.2.2 hd C.2.2.2.2.2.2.1
/-! calls -/
theorem tbl_good : ∀ w ∈ lw_gd, goodWord w = true := fun w hw => (List.mem_filter.mp hw).2
theorem good_code {y : MethodName} {b : ByteArray} {nL : Nat} {ret : Option FieldType} (h : Cond.code y b nL ret ∈ lw_gd) : GoodIn lw_gd (Cond.code y b nL ret :: lw_gd) := by
  intro w hw
  have hm : w ∈ lw_gd := by
    rcases List.mem_cons.mp hw with rfl | hw
    · exact h
    · exact hw
  exact ⟨hm, good_of_word (tbl_good w hm)⟩
theorem blindK {As : List Value} : FrameBlind (va_Pc As (fun U => awK z U ∧ awP z g U.heap)) := fun _ _ _ _ h => ⟨h.1, h.2.1.calling, h.2.2⟩
/-- what the tables say of a callee -/
def CQ (own : String) (idx : Nat) (y : MethodName) (b : ByteArray) (nL : Nat) (ret : Option FieldType) (n : Nat) : Prop :=
  Cond.methodLink own idx y ∈ lw_gd ∧ Cond.initialized y.cls ∈ lw_gd ∧ Cond.code y b nL ret ∈ lw_gd ∧ (y.cls ≠ "java/lang/invoke/MethodHandle" ∧ y.cls ≠ "java/lang/invoke/VarHandle" ∧ (parseMethodDescriptor y.desc).map (fun d => d.parameters.length) = some n) ∧ nL ≤ 45
theorem CQ.b {own : String} {idx : Nat} {y : MethodName} {b : ByteArray} {nL n D : Nat} {ret : Option FieldType} (h : CQ own idx y b nL ret n) {s : State} {args : Array Value} (hts : ∀ w ∈ lw_gd, w.before args s = true) (hD : D + 1 ≤ d) :
    CallB (rmD d) s args own idx y b nL ret (Cond.code y b nL ret :: lw_gd) (rmD (d - 1)) 0 0 n := by
  obtain ⟨h1, h2, h3, h4, h5⟩ := h
  refine callB_of n hts (good_code h3) rfl rfl rfl (hts _ h2) (hts _ h1) h4 ⟨?_, ?_⟩
  · show d - 1 + 1 ≤ d
    omega
  · show 8 + (nL + 11) + 64 * (d - 1) ≤ 64 * d
    omega
theorem AW.ofRun {p : Program} {l : Launch} {e : Env} {s : State} {m : MethodId} {args : Array Value} {below : List Frame} {meth : Method} {c : Code} {H : Heap} {locs : List Loc} {ls : Array Slot} {st0 : List Value} {a : Array Value} {Q1 : Option Value → AG → Prop}
    (hr : va_Run p l e (rmD d) s m args below meth c H locs 0 0 0 0 (F0 m pc ls st0) st (aqc z Q1 a) (zA z)) (C : awC z μ p s m args meth c) (hS : va_S (zA z) s.heap H locs) (hl : lv_has ls μ.2.2.1 lv)
    (kk : ∀ (v : Option Value) (g1 : AG), Q1 v g1 → AW z μ d Q (pc + 3) lv (v.toList ++ st) g1) : W p l e (rmD d) s m args below meth c H locs 0 0 (MQ below (aqc z Q) args s 0 0 (zA z)) (F0 m pc ls st0) := by
  intro T hT X
  obtain ⟨v, st₀, t, T', L, h0, X', hL, e1, e2, ⟨⟨r, g1, hv, hq, hP1⟩, hz, hk⟩, st⟩ := hr T hT X
  cases hv
  rw [h0] at hz hk
  have hS1 : va_S (zA z) s.heap T'.heap (locs ++ L) := by
    refine ⟨Nat.le_trans hS.1 (by rw [e1]; exact hz), fun q h1 h2 => by rw [e1, hk q (Nat.lt_of_lt_of_le h1 hS.1) h2]; exact hS.2.1 q h1 h2, fun q hq => ?_⟩
    rcases List.mem_append.mp hq with h | h
    · exact hS.2.2 q h
    · exact hL q h
  obtain ⟨t2, a1, b1⟩ := kk v g1 hq p l e s m args below meth c T'.heap (locs ++ L) ls C (by rw [e1]; exact hP1) hS1 hl T' rfl X'
  exact ⟨t2, st t2 a1, b1⟩
/-- a method that answers r (its number, the state behind it) -/
def QD (ret : Option FieldType) (r : Int × AG) : Option Value → AG → Prop := fun v g' => v = ret.map (fun _ => iv r.1) ∧ g' = r.2
def AMf (z : AZ) (y : MethodName) (b : ByteArray) (nL : Nat) (ret : Option FieldType) (D : Nat) (As : List Value) (g : AG) (r : Int × AG) : Prop := ∀ d, D ≤ d → AM z y b nL ret d As g (QD ret r)
/-- an object whose class is the callee's -/
def CR (q : Nat) (y : MethodName) : Prop := q < KC ∧ ∃ (ci N : Nat) (T : u_T), skF q = (ci + 3, N) ∧ vwCl[ci]? = some (y.cls, T, N) ∧ Cond.instanceMethod y ∈ lw_gd ∧ Cond.selects y.cls y y ∈ lw_gd
theorem AW.callV0 {idx q n nL D : Nat} {y : MethodName} {b : ByteArray} {ret : Option FieldType} {As st0 : List Value} {r : Int × AG} (hM : AMf z y b nL ret D (rv z q :: As) g r) (hF : CQ μ.1 idx y b nL ret n) (hR : CR q y) (hD : D + 1 ≤ d) (hn : As.length = n) (hc : (st.map fun v => v.category).sum ≤ 8) (hd : decode μ.2.1 pc = .ok (.invokevirtual idx, 3)) (hst : st0 = As.reverse ++ rv z q :: st)
    (kk : AW z μ d Q (pc + 3) lv ((ret.map fun _ => iv r.1).toList ++ st) r.2) : AW z μ d Q pc lv st0 g := by
  intro p l e s m args below meth c H locs ls C hP hS hl
  obtain ⟨hq, ci, N, T, h1, h2, h3, h4⟩ := hR
  have hts := C.2.2.2.2.2.1
  have hrun := va_runV (p := p) (e := e) (meth := meth) (below := below) (locs := locs) (C := y.cls) (As := As) (rest := st) (g := F0 m pc ls st0) ⟨C.1, C.2.1, C.2.2.2.1, C.2.2.2.2.1, hts⟩ (hM (d - 1) (by omega) l) ⟨hF.b hts hD, hts _ h3, hts _ h4⟩ ⟨blindK, va_recv C.2.2.2.2.2.2.2.1 hP h2 (q0 := q) (by rw [awW_get hq, awE_o h1]), fun U hU hW => ⟨rfl, C.2.2.2.2.2.2.2.at hS hU hW, by rw [hU]; exact hP⟩⟩ rfl hn hl.1 hst (by show 2 * 0 + _ ≤ 8; omega) hd ⟨Nat.zero_le _, Nat.zero_le _⟩
  refine AW.ofRun hrun C hS hl (fun v g1 h => ?_)
  obtain ⟨rfl, rfl⟩ := h
  exact kk
theorem AW.callS0 {idx n nL D : Nat} {y : MethodName} {b : ByteArray} {ret : Option FieldType} {As st0 : List Value} {r : Int × AG} (hM : AMf z y b nL ret D As g r) (hF : CQ μ.1 idx y b nL ret n) (hR : Cond.static y ∈ lw_gd) (hD : D + 1 ≤ d) (hn : As.length = n) (hc : (st.map fun v => v.category).sum ≤ 8) (hd : decode μ.2.1 pc = .ok (.invokestatic idx, 3)) (hst : st0 = As.reverse ++ st)
    (kk : AW z μ d Q (pc + 3) lv ((ret.map fun _ => iv r.1).toList ++ st) r.2) : AW z μ d Q pc lv st0 g := by
  intro p l e s m args below meth c H locs ls C hP hS hl
  have hts := C.2.2.2.2.2.1
  have hrun := va_runS (p := p) (e := e) (meth := meth) (below := below) (locs := locs) (As := As) (rest := st) (g := F0 m pc ls st0) ⟨C.1, C.2.1, C.2.2.2.1, C.2.2.2.2.1, hts⟩ (hM (d - 1) (by omega) l) ⟨hF.b hts hD, hts _ hR⟩ ⟨blindK, fun U hU hW => ⟨rfl, C.2.2.2.2.2.2.2.at hS hU hW, by rw [hU]; exact hP⟩⟩ rfl hn hl.1 hst (by show 2 * 0 + _ ≤ 8; omega) hd ⟨Nat.zero_le _, Nat.zero_le _⟩
  refine AW.ofRun hrun C hS hl (fun v g1 h => ?_)
  obtain ⟨rfl, rfl⟩ := h
  exact kk
/-- .. a nest mate's private static: within -/
theorem AW.callN0 {idx nL D : Nat} {b : ByteArray} {ret : Option FieldType} {As st0 : List Value} {r : Int × AG} (hM : AMf z ⟨"WeekBoats", "within", "(III)Z"⟩ b nL ret D As g r) (hn1 : (μ.1, idx) ∈ nestL) (hi : Cond.initialized "WeekBoats" ∈ lw_gd) (h3 : Cond.code ⟨"WeekBoats", "within", "(III)Z"⟩ b nL ret ∈ lw_gd) (hR : Cond.static ⟨"WeekBoats", "within", "(III)Z"⟩ ∈ lw_gd) (hL : nL ≤ 45) (hD : D + 1 ≤ d) (hn : As.length = 3) (hc : (st.map fun v => v.category).sum ≤ 8) (hd : decode μ.2.1 pc = .ok (.invokestatic idx, 3)) (hst : st0 = As.reverse ++ st)
    (kk : AW z μ d Q (pc + 3) lv ((ret.map fun _ => iv r.1).toList ++ st) r.2) : AW z μ d Q pc lv st0 g := by
  intro p l e s m args below meth c H locs ls C hP hS hl
  have hts := C.2.2.2.2.2.1
  have h1 := C.2.2.2.2.2.2.2.2.2.2.2.1 _ hn1
  have hB : va_CN (rmD d) s args μ.1 idx ⟨"WeekBoats", "within", "(III)Z"⟩ "WeekBoats" b nL ret (Cond.code ⟨"WeekBoats", "within", "(III)Z"⟩ b nL ret :: lw_gd) (rmD (d - 1)) 0 0 3 := va_cnB 3 hts (good_code h3) rfl rfl rfl h1 (hts _ hi) ⟨by decide +kernel, by decide +kernel, by decide +kernel⟩ ⟨by show d - 1 + 1 ≤ d; omega, by show 8 + (nL + 11) + 64 * (d - 1) ≤ 64 * d; omega⟩
  have hrun := va_runSN (p := p) (e := e) (meth := meth) (below := below) (locs := locs) (As := As) (rest := st) (g := F0 m pc ls st0) ⟨C.1, C.2.1, C.2.2.2.1, C.2.2.2.2.1, hts⟩ (hM (d - 1) (by omega) l) ⟨hB, hts _ hR, trivial⟩ ⟨blindK, fun U hU hW => ⟨rfl, C.2.2.2.2.2.2.2.at hS hU hW, by rw [hU]; exact hP⟩⟩ rfl hn hl.1 hst (by show 2 * 0 + _ ≤ 8; omega) hd ⟨Nat.zero_le _, Nat.zero_le _⟩
  refine AW.ofRun hrun C hS hl (fun v g1 h => ?_)
  obtain ⟨rfl, rfl⟩ := h
  exact kk
end RULES
end
section
/-! helpers of the printed walks: a hypothesis 'program = some r' is taken apart as the walk goes on -/
theorem hT {α : Type} {c : Prop} [Decidable c] {A B : Option α} {r : α} (h : (if c then A else B) = some r) (hc : c) : A = some r := (if_pos hc).symm.trans h
theorem hF {α : Type} {c : Prop} [Decidable c] {A B : Option α} {r : α} (h : (if c then A else B) = some r) (hc : ¬ c) : B = some r := (if_neg hc).symm.trans h
theorem hK {α : Type} {c : Prop} [Decidable c] {A : Option α} {r : α} (h : (if c then A else none) = some r) : c ∧ A = some r := by
  by_cases hc : c
  · exact ⟨hc, hT h hc⟩
  · exact absurd (hF h hc) (fun q => by cases q)
theorem hBe {α β : Type} {a : α} {f : α → Option β} {r : β} (h : (some a >>= f) = some r) : ∃ x, x = a ∧ f x = some r := ⟨a, rfl, h⟩
theorem hC {α β : Type} {x : Option α} {f : α → Option β} {r : β} (h : (x >>= f) = some r) : ∃ y, x = some y ∧ f y = some r := by
  cases x with
  | none => cases h
  | some y => exact ⟨y, rfl, h⟩
theorem hS {α : Type} {a r : α} (h : some a = some r) : r = a := (Option.some.inj h).symm
theorem nw_id {a : Int} (h1 : -2147483648 ≤ a) (h2 : a < 2147483648) : nw a = a := by
  unfold nw
  simp only [Int.bmod]
  split <;> omega
theorem lv_pick_at {lv : List (Nat × Value)} {ks : List Nat} {lv1 : List (Nat × Value)} {ls : Array Slot} {n : Nat} (h : lv_has ls n lv) (e : lv_pick lv ks = lv1) : lv_has ls n lv1 := lv_sub h ks e
section RULES2
variable {z : AZ} {μ : AMu} {d pc : Nat} {Q : Option Value → AG → Prop} {lv : List (Nat × Value)} {st : List Value} {g : AG}
theorem AW.sub {lv1 : List (Nat × Value)} (ks : List Nat) (e : lv_pick lv ks = lv1) (k : AW z μ d Q pc lv1 st g) : AW z μ d Q pc lv st g := by
  intro p l e1 s m args below meth c H locs ls C hP hS hl
  exact k p l e1 s m args below meth c H locs ls C hP hS (lv_sub hl ks e)
theorem AW.join {tgt : Nat} {lv1 : List (Nat × Value)} {st1 : List Value} {g1 : AG} (J : AW z μ d Q tgt lv1 st1 g1) (k : AW z μ d Q tgt lv1 st1 g1 → AW z μ d Q pc lv st g) : AW z μ d Q pc lv st g := k J
theorem AW.val {a b : Int} (e : a = b) (k : AW z μ d Q pc lv (iv a :: st) g) : AW z μ d Q pc lv (iv b :: st) g := e ▸ k
theorem AW.aloadr_n {i : Fin 4} {k : Nat} (q : Nat) (hd : decode μ.2.1 pc = .ok (.aload_n i, 1)) (hq : lv[q]? = some ((i : Nat), rv z k)) (kk : AW z μ d Q (pc + 1) lv (rv z k :: st) g) : AW z μ d Q pc lv st g := AW.aload_n q hd hq kk
theorem AW.aloadr {i k : Nat} (q : Nat) (hd : decode μ.2.1 pc = .ok (.aload i, 2)) (hq : lv[q]? = some (i, rv z k)) (kk : AW z μ d Q (pc + 2) lv (rv z k :: st) g) : AW z μ d Q pc lv st g := AW.aload q hd hq kk
theorem AW.aloads_n {i : Fin 4} {k : Nat} (q : Nat) (hd : decode μ.2.1 pc = .ok (.aload_n i, 1)) (hq : lv[q]? = some ((i : Nat), sv z k)) (kk : AW z μ d Q (pc + 1) lv (sv z k :: st) g) : AW z μ d Q pc lv st g := AW.aload_n q hd hq kk
theorem AW.astorer_n {i : Fin 4} {k : Nat} {lv1 : List (Nat × Value)} (hd : decode μ.2.1 pc = .ok (.astore_n i, 1)) (hn : (i : Nat) < μ.2.2.1) (hl1 : ((i : Nat), rv z k) :: lv.filter (fun q => !(q.1 == (i : Nat)) && !(q.1 + 1 == (i : Nat) && q.2.category == 2)) = lv1) (kk : AW z μ d Q (pc + 1) lv1 st g) : AW z μ d Q pc lv (rv z k :: st) g := AW.astore_n hd hn hl1 kk
theorem AW.astorer {i k : Nat} {lv1 : List (Nat × Value)} (hd : decode μ.2.1 pc = .ok (.astore i, 2)) (hn : i < μ.2.2.1) (hl1 : (i, rv z k) :: lv.filter (fun q => !(q.1 == i) && !(q.1 + 1 == i && q.2.category == 2)) = lv1) (kk : AW z μ d Q (pc + 2) lv1 st g) : AW z μ d Q pc lv (rv z k :: st) g := AW.astore hd hn hl1 kk
theorem AW.duprr {k : Nat} (hd : decode μ.2.1 pc = .ok (.dup, 1)) (kk : AW z μ d Q (pc + 1) lv (rv z k :: rv z k :: st) g) : AW z μ d Q pc lv (rv z k :: st) g := AW.dupr hd kk
theorem AW.dup2r {k : Nat} {y : Int} (hd : decode μ.2.1 pc = .ok (.dup2, 1)) (kk : AW z μ d Q (pc + 1) lv (iv y :: rv z k :: iv y :: rv z k :: st) g) : AW z μ d Q pc lv (iv y :: rv z k :: st) g := AW.dup2 hd kk
theorem AW.callVi {idx q n nL D : Nat} {y : MethodName} {b : ByteArray} {ty : FieldType} {As st0 : List Value} {v : Int} {g1 : AG} (hM : AMf z y b nL (some ty) D (rv z q :: As) g (v, g1)) (hF : CQ μ.1 idx y b nL (some ty) n) (hR : CR q y) (hD : D + 1 ≤ d) (hn : As.length = n) (hd : decode μ.2.1 pc = .ok (.invokevirtual idx, 3)) (hst : st0 = As.reverse ++ rv z q :: st) (hc : (st.map fun v => v.category).sum ≤ 8)
    (kk : AW z μ d Q (pc + 3) lv (iv v :: st) g1) : AW z μ d Q pc lv st0 g := AW.callV0 hM hF hR hD hn hc hd hst kk
theorem AW.callVv {idx q n nL D : Nat} {y : MethodName} {b : ByteArray} {As st0 : List Value} {v : Int} {g1 : AG} (hM : AMf z y b nL none D (rv z q :: As) g (v, g1)) (hF : CQ μ.1 idx y b nL none n) (hR : CR q y) (hD : D + 1 ≤ d) (hn : As.length = n) (hd : decode μ.2.1 pc = .ok (.invokevirtual idx, 3)) (hst : st0 = As.reverse ++ rv z q :: st) (hc : (st.map fun v => v.category).sum ≤ 8)
    (kk : AW z μ d Q (pc + 3) lv st g1) : AW z μ d Q pc lv st0 g := AW.callV0 hM hF hR hD hn hc hd hst kk
theorem AW.callSi {idx n nL D : Nat} {y : MethodName} {b : ByteArray} {ty : FieldType} {As st0 : List Value} {v : Int} {g1 : AG} (hM : AMf z y b nL (some ty) D As g (v, g1)) (hF : CQ μ.1 idx y b nL (some ty) n) (hR : Cond.static y ∈ lw_gd) (hD : D + 1 ≤ d) (hn : As.length = n) (hd : decode μ.2.1 pc = .ok (.invokestatic idx, 3)) (hst : st0 = As.reverse ++ st) (hc : (st.map fun v => v.category).sum ≤ 8)
    (kk : AW z μ d Q (pc + 3) lv (iv v :: st) g1) : AW z μ d Q pc lv st0 g := AW.callS0 hM hF hR hD hn hc hd hst kk
theorem AW.callSv {idx n nL D : Nat} {y : MethodName} {b : ByteArray} {As st0 : List Value} {v : Int} {g1 : AG} (hM : AMf z y b nL none D As g (v, g1)) (hF : CQ μ.1 idx y b nL none n) (hR : Cond.static y ∈ lw_gd) (hD : D + 1 ≤ d) (hn : As.length = n) (hd : decode μ.2.1 pc = .ok (.invokestatic idx, 3)) (hst : st0 = As.reverse ++ st) (hc : (st.map fun v => v.category).sum ≤ 8)
    (kk : AW z μ d Q (pc + 3) lv st g1) : AW z μ d Q pc lv st0 g := AW.callS0 hM hF hR hD hn hc hd hst kk
theorem AW.iret1 {ret : Option FieldType} {r : Int × AG} {x : Int} (hr : μ.2.2.2 = some .int) (hd : decode μ.2.1 pc = .ok (.ireturn, 1)) (h : some (x, g) = some r) (he : ret = some .int) : AW z μ d (QD ret r) pc lv [iv x] g := by
  cases h
  subst he
  exact AW.iret hr hd ⟨rfl, rfl⟩
theorem AW.zret1 {ret : Option FieldType} {r : Int × AG} {x : Int} (hr : μ.2.2.2 = some .boolean) (h01 : x = 0 ∨ x = 1) (hd : decode μ.2.1 pc = .ok (.ireturn, 1)) (h : some (x, g) = some r) (he : ret = some .boolean) : AW z μ d (QD ret r) pc lv [iv x] g := by
  cases h
  subst he
  exact AW.zret hr h01 hd ⟨rfl, rfl⟩
theorem AW.vret1 {ret : Option FieldType} {r : Int × AG} (hr : μ.2.2.2 = none) (hd : decode μ.2.1 pc = .ok (.return_, 1)) (h : some ((0 : Int), g) = some r) (he : ret = none) : AW z μ d (QD ret r) pc lv [] g := by
  cases h
  subst he
  exact AW.vret hr hd ⟨rfl, rfl⟩
theorem AW.iret2 {ret : Option FieldType} {r x : Int} (hr : μ.2.2.2 = some .int) (hd : decode μ.2.1 pc = .ok (.ireturn, 1)) (h : some x = some r) (he : ret = some .int) : AW z μ d (QD ret (r, g)) pc lv [iv x] g := by
  cases h
  subst he
  exact AW.iret hr hd ⟨rfl, rfl⟩
theorem AW.zret2 {ret : Option FieldType} {r x : Int} (hr : μ.2.2.2 = some .boolean) (h01 : x = 0 ∨ x = 1) (hd : decode μ.2.1 pc = .ok (.ireturn, 1)) (h : some x = some r) (he : ret = some .boolean) : AW z μ d (QD ret (r, g)) pc lv [iv x] g := by
  cases h
  subst he
  exact AW.zret hr h01 hd ⟨rfl, rfl⟩
theorem AW.copyi {idx ks kd ns nd : Nat} {sp dp n : Int} {g1 : AG} (hF : Cond.methodLink μ.1 idx arraycopyName ∈ lw_gd) (h1 : Cond.native arraycopyName ∈ lw_gd) (h2 : Cond.static arraycopyName ∈ lw_gd) (h3 : Cond.initialized "java/lang/System" ∈ lw_gd) (hs : ks < KC) (hks : skF ks = (0, ns)) (hdd : kd < KC) (hkd : skF kd = (0, nd)) (hb : 0 ≤ nw sp ∧ 0 ≤ nw dp ∧ 0 ≤ nw n ∧ nw sp + nw n ≤ ns ∧ nw dp + nw n ≤ nd) (hc : (st.map fun v => v.category).sum ≤ 8) (h1d : 1 ≤ d)
    (hd : decode μ.2.1 pc = .ok (.invokestatic idx, 3)) (hg : g1 = copyG g ks (ix sp) kd (ix dp) (ix n)) (kk : AW z μ d Q (pc + 3) lv st g1) : AW z μ d Q pc lv (iv n :: iv dp :: rv z kd :: iv sp :: rv z ks :: st) g := by
  intro p l e s m args below meth c H locs ls C hP hS hl
  subst hg
  have hD : va_D (zA z) (awW z g) := awD C.2.2.2.2.2.2.2.2.1
  obtain ⟨b1, b2, b3, b4, b5⟩ := hb
  have n0 : ∀ a : Int, 0 ≤ nw a → ¬ Int32.ofInt a < 0 := fun a ha q => by
    have := (i32_lt0 a).mp q
    omega
  refine va_copyi C.1 C.2.1 (C.2.2.2.1.trans hl.1.symm) C.2.2.2.2.1 (C.2.2.2.2.2.1 _ hF) (C.2.2.2.2.2.1 _ h1) (C.2.2.2.2.2.1 _ h2) (C.2.2.2.2.2.1 _ h3) C.2.2.2.2.2.2.2.1 hP hD hS ks kd 0 0 (by rw [awW_get hs, awE_i hks]) (by rw [awW_get hdd, awE_i hkd]) rfl rfl rfl (n0 _ b1) (n0 _ b2) (n0 _ b3) (by rw [i32_clamp, i32_clamp]; unfold ix; omega) (by rw [i32_clamp, i32_clamp]; unfold ix; omega) (fun _ _ => rfl) h1d (by
      have e9 : nativeFrameWords "java/lang/System" "arraycopy" 5 + 11 ≤ 56 := by decide +kernel
      show _ ≤ 64 * d
      omega) hd (fun H1 locs1 hP1 _ hS1 => ?_)
  rw [i32_clamp, i32_clamp, i32_clamp] at hP1
  have eq9 : (awW z g).set kd (zad z kd, .inl (z.2.1.1, (nd, .inl (va_cpy (fun i => Int32.ofInt (g ks i)) (fun i => Int32.ofInt (g kd i)) (ix sp) (ix dp) (ix n))))) = awW z (copyG g ks (ix sp) kd (ix dp) (ix n)) := by
    refine awW_set ?_ (fun j hj => awE_ne (fun i => by unfold copyG; rw [if_neg (fun q => hj q.1)]))
    rw [awE_i hkd]
    refine congrArg (fun f => Sum.inl (z.2.1.1, (nd, Sum.inl f))) (funext fun i => ?_)
    unfold va_cpy copyG
    by_cases q : ix dp ≤ i ∧ i < ix dp + ix n
    · simp [q]
    · simp [q]
  rw [eq9] at hP1
  exact kk p l e s m args below meth c H1 locs1 ls C hP1 hS1 hl
end RULES2
/-- Math.max, min, abs -/
def mxI (x y : Int) : Int := if nw x < nw y then y else x
def mnI (x y : Int) : Int := if nw y < nw x then y else x
def abI (x : Int) : Int := if 0 ≤ nw x then x else 0 - x
section RULES3
variable {z : AZ} {μ : AMu} {d pc : Nat} {Q : Option Value → AG → Prop} {lv : List (Nat × Value)} {st : List Value} {g : AG}
theorem AW.mmax {idx : Nat} {x y : Int} (hF : Cond.methodLink μ.1 idx Lib.Math.max.name ∈ lw_gd) (h1 : Cond.static Lib.Math.max.name ∈ lw_gd) (h2 : Cond.initialized "java/lang/Math" ∈ lw_gd) (h3 : Cond.code Lib.Math.max.name Lib.Math.max.code 2 (some .int) ∈ lw_gd) (h1d : 1 ≤ d) (hc : (st.map fun v => v.category).sum ≤ 8) (hd : decode μ.2.1 pc = .ok (.invokestatic idx, 3)) (kk : AW z μ d Q (pc + 3) lv (iv (mxI x y) :: st) g) : AW z μ d Q pc lv (iv y :: iv x :: st) g := by
  intro p l e s m args below meth c H locs ls C hP hS hl
  refine va_mmax C.1 C.2.1 (C.2.2.2.1.trans hl.1.symm) C.2.2.2.2.1 (C.2.2.2.2.2.1 _ hF) (C.2.2.2.2.2.1 _ h1) (C.2.2.2.2.2.1 _ h2) (C.2.2.2.2.2.1 _ h3) h1d (by show _ ≤ 64 * d; omega) (Nat.zero_le _) (Nat.zero_le _) hd ?_
  have h := kk p l e s m args below meth c H locs ls C hP hS hl
  unfold iv mxI at h
  by_cases q : nw x < nw y
  · rw [if_pos q] at h
    rw [if_pos ((i32_lt x y).mpr q)]
    exact h
  · rw [if_neg q] at h
    rw [if_neg (fun q2 => q ((i32_lt x y).mp q2))]
    exact h
theorem AW.mmin {idx : Nat} {x y : Int} (hF : Cond.methodLink μ.1 idx Lib.Math.min.name ∈ lw_gd) (h1 : Cond.static Lib.Math.min.name ∈ lw_gd) (h2 : Cond.initialized "java/lang/Math" ∈ lw_gd) (h3 : Cond.code Lib.Math.min.name Lib.Math.min.code 2 (some .int) ∈ lw_gd) (h1d : 1 ≤ d) (hc : (st.map fun v => v.category).sum ≤ 8) (hd : decode μ.2.1 pc = .ok (.invokestatic idx, 3)) (kk : AW z μ d Q (pc + 3) lv (iv (mnI x y) :: st) g) : AW z μ d Q pc lv (iv y :: iv x :: st) g := by
  intro p l e s m args below meth c H locs ls C hP hS hl
  refine va_mmin C.1 C.2.1 (C.2.2.2.1.trans hl.1.symm) C.2.2.2.2.1 (C.2.2.2.2.2.1 _ hF) (C.2.2.2.2.2.1 _ h1) (C.2.2.2.2.2.1 _ h2) (C.2.2.2.2.2.1 _ h3) h1d (by show _ ≤ 64 * d; omega) (Nat.zero_le _) (Nat.zero_le _) hd ?_
  have h := kk p l e s m args below meth c H locs ls C hP hS hl
  unfold iv mnI at h
  by_cases q : nw y < nw x
  · rw [if_pos q] at h
    rw [if_pos ((i32_lt y x).mpr q)]
    exact h
  · rw [if_neg q] at h
    rw [if_neg (fun q2 => q ((i32_lt y x).mp q2))]
    exact h
theorem AW.mabs {idx : Nat} {x : Int} (hF : Cond.methodLink μ.1 idx Lib.Math.abs.name ∈ lw_gd) (h1 : Cond.static Lib.Math.abs.name ∈ lw_gd) (h2 : Cond.initialized "java/lang/Math" ∈ lw_gd) (h3 : Cond.code Lib.Math.abs.name Lib.Math.abs.code 1 (some .int) ∈ lw_gd) (h1d : 1 ≤ d) (hc : (st.map fun v => v.category).sum ≤ 8) (hd : decode μ.2.1 pc = .ok (.invokestatic idx, 3)) (kk : AW z μ d Q (pc + 3) lv (iv (abI x) :: st) g) : AW z μ d Q pc lv (iv x :: st) g := by
  intro p l e s m args below meth c H locs ls C hP hS hl
  refine va_mabs C.1 C.2.1 (C.2.2.2.1.trans hl.1.symm) C.2.2.2.2.1 (C.2.2.2.2.2.1 _ hF) (C.2.2.2.2.2.1 _ h1) (C.2.2.2.2.2.1 _ h2) (C.2.2.2.2.2.1 _ h3) h1d (by show _ ≤ 64 * d; omega) (Nat.zero_le _) (Nat.zero_le _) hd ?_
  have h := kk p l e s m args below meth c H locs ls C hP hS hl
  unfold iv abI at h
  by_cases q : 0 ≤ nw x
  · rw [if_pos q] at h
    rw [if_pos ((i32_0le x).mpr q)]
    exact h
  · rw [if_neg q] at h
    rw [if_neg (fun q2 => q ((i32_0le x).mp q2))]
    rw [Int32.ofInt_sub] at h
    exact h
theorem AW.lsw {x dflt off k : Int} {ps : Array (Int × Int)} {len tgt : Nat} (hd : decode μ.2.1 pc = .ok (.lookupswitch dflt ps, len)) (hp : (ps.toList.zip (ps.toList.drop 1)).all (fun (a, next) => a.1 < next.1) = true) (hk : nw x = k) (ho : Op.lookupswitch.offset ps.toList dflt k = off) (ht : (pc : Int) + off = (tgt : Int)) (kk : AW z μ d Q tgt lv st g) : AW z μ d Q pc lv (iv x :: st) g := by
  intro p l e s m args below meth c H locs ls C hP hS hl
  exact lv_lookup C.1 C.2.1 hd hp (by rw [i32_toInt, hk]; exact ho) ht (kk p l e s m args below meth c H locs ls C hP hS hl)
end RULES3
/-! Arrays.fill -/
theorem fillG_0 (g : AG) (q : Nat) (v : Int) : fillG g q 0 v = g := by
  funext a b
  unfold fillG
  rw [if_neg (by omega)]
theorem fillG_s (g : AG) (q i : Nat) (v : Int) : fillG g q (i + 1) v = up (fillG g q i v) q i v := by
  funext a b
  unfold fillG up
  by_cases h : a = q
  · by_cases h2 : b = i
    · simp [h, h2]
    · by_cases h3 : b < i
      · simp [h, h2, h3, Nat.lt_succ_of_lt h3]
      · simp [h, h2, h3, show ¬ b < i + 1 by omega]
  · simp [h]
theorem fill_loop {z : AZ} {d q n : Nat} {v : Int} {g : AG} (hq : q < KC) (hk : skF q = (0, n)) (hn : (n : Int) < 2147483648) : ∀ (m i : Nat), i + m = n → AW z ("java/util/Arrays", cJ7_fill_53178, 4, none) d (QD none (0, fillG g q n v)) 5 [(2, iv i), (3, iv n), (0, rv z q), (1, iv v)] [] (fillG g q i v)
  | 0, i, h => by
    have e : i = n := by omega
    subst e
    refine AW.iload_n 0 dJ7_fill_53178_5 rfl ?_
    refine AW.iload_n 1 dJ7_fill_53178_6 rfl ?_
    refine AW.icmp_ge (tgt := 20) dJ7_fill_53178_7 (by decide) (fun _ => ?_) (fun c => absurd (Int.le_refl _) c)
    exact AW.vret1 rfl dJ7_fill_53178_20 rfl rfl
  | m + 1, i, h => by
    refine AW.iload_n 0 dJ7_fill_53178_5 rfl ?_
    refine AW.iload_n 1 dJ7_fill_53178_6 rfl ?_
    have e1 : nw (i : Int) = i := nw_id (by omega) (by omega)
    have e2 : nw (n : Int) = n := nw_id (by omega) (by omega)
    refine AW.icmp_ge (tgt := 20) dJ7_fill_53178_7 (by decide) (fun c => absurd c (by rw [e1, e2]; omega)) (fun _ => ?_)
    refine AW.aloadr_n 2 dJ7_fill_53178_10 rfl ?_
    refine AW.iload_n 0 dJ7_fill_53178_11 rfl ?_
    refine AW.iload_n 3 dJ7_fill_53178_12 rfl ?_
    have e3 : ix (i : Int) = i := by unfold ix; rw [e1]; rfl
    refine AW.iast hq hk ⟨by rw [e1]; omega, by rw [e1]; omega⟩ dJ7_fill_53178_13 rfl ?_
    rw [e3, ← fillG_s]
    refine AW.iinc (lv1 := [(2, iv ((i : Int) + 1)), (3, iv n), (0, rv z q), (1, iv v)]) 0 dJ7_fill_53178_14 rfl (by decide) rfl ?_
    refine AW.goto (tgt := 5) dJ7_fill_53178_17 (by decide) ?_
    exact fill_loop hq hk hn m (i + 1) (by omega)
theorem fill_ok {z : AZ} {q n : Nat} {v : Int} {g : AG} (hq : q < KC) (hk : skF q = (0, n)) (hn : (n : Int) < 2147483648) : AMf z ⟨"java/util/Arrays", "fill", "([II)V"⟩ cJ7_fill_53178 4 none 0 [rv z q, iv v] g (0, fillG g q n v) := by
  intro d _
  refine AM.of (by decide +kernel) (Nat.le_of_ble_eq_true rfl) ?_
  show AW z ("java/util/Arrays", cJ7_fill_53178, 4, none) d (QD none (0, fillG g q n v)) 0 [(0, rv z q), (1, iv v)] [] g
  refine AW.iconst dJ7_fill_53178_0 ?_
  refine AW.istore_n (lv1 := [(2, iv 0), (0, rv z q), (1, iv v)]) dJ7_fill_53178_1 (by decide) rfl ?_
  refine AW.aloadr_n 1 dJ7_fill_53178_2 rfl ?_
  refine AW.alen hq hk dJ7_fill_53178_3 ?_
  refine AW.istore_n (lv1 := [(3, iv n), (2, iv 0), (0, rv z q), (1, iv v)]) dJ7_fill_53178_4 (by decide) rfl ?_
  refine AW.sub (lv1 := [(2, iv 0), (3, iv n), (0, rv z q), (1, iv v)]) [1, 0, 2, 3] rfl ?_
  have h := fill_loop (z := z) (d := d) (v := v) (g := g) hq hk hn n 0 (by omega)
  rw [fillG_0] at h
  exact h
/-! the texts: literal i's length, its k-th char, the first place of a char in it (-1: none) -/
def strLen (i : Nat) : Int := ((lenJ.getD i 0 : Nat) : Int)
def strCh (i k : Nat) : Int := ((bytJ.getD i []).getD k 0).toInt
def ixF (c : Int) : List Int32 → Int → Int
  | [], _ => -1
  | b :: l, k => if b.toInt = c then k else ixF c l (k + 1)
def strIx (i : Nat) (c : Int) : Int := ixF (nw c) (bytJ.getD i []) 0
end
