section
/-! plain programs: the ground (starts with rows of kit/laws/BITS.to-paste) -/
def bt (x : Int32) (i : Nat) : Bool := x.toBitVec.getLsbD i
theorem b_ext {x y : Int32} (h : ∀ i, i < 32 → bt x i = bt y i) : x = y := Int32.toBitVec_inj.mp (BitVec.eq_of_getLsbD_eq (fun i hi => h i hi))
theorem b_or (x y : Int32) (i : Nat) : bt (x ||| y) i = (bt x i || bt y i) := by unfold bt; rw [Int32.toBitVec_or, BitVec.getLsbD_or]
theorem b_and (x y : Int32) (i : Nat) : bt (x &&& y) i = (bt x i && bt y i) := by unfold bt; rw [Int32.toBitVec_and, BitVec.getLsbD_and]
theorem b_xor (x y : Int32) (i : Nat) : bt (x ^^^ y) i = (bt x i ^^ bt y i) := by unfold bt; rw [Int32.toBitVec_xor, BitVec.getLsbD_xor]
theorem b_big {x : Int32} {i : Nat} (h : 32 ≤ i) : bt x i = false := BitVec.getLsbD_of_ge _ _ h
theorem b_255 (i : Nat) : bt 255 i = decide (i < 8) := by
  rcases Nat.lt_or_ge i 32 with h | h
  · exact (by decide +kernel : ∀ i, i < 32 → bt 255 i = decide (i < 8)) i h
  · rw [b_big h, decide_eq_false (by omega)]
theorem b_65535 (i : Nat) : bt 65535 i = decide (i < 16) := by
  rcases Nat.lt_or_ge i 32 with h | h
  · exact (by decide +kernel : ∀ i, i < 32 → bt 65535 i = decide (i < 16)) i h
  · rw [b_big h, decide_eq_false (by omega)]
theorem b_m1 : ∀ i, i < 32 → bt (-1) i = true := by decide +kernel
theorem b_0 (i : Nat) : bt 0 i = false := BitVec.getLsbD_zero
theorem s_l : ∀ n, n < 32 → ((nI n &&& 31).toBitVec.smod 32).toNat = n := by decide +kernel
theorem s_u : ∀ n, n < 32 → (((nI n).toUInt32 &&& Int32.toUInt32 31).toBitVec % 32).toNat = n := by decide +kernel
theorem b_shl (n : Nat) (hn : n < 32) (x : Int32) {i : Nat} (hi : i < 32) : bt (x <<< (nI n &&& 31)) i = (decide (n ≤ i) && bt x (i - n)) := by
  unfold bt
  rw [Int32.toBitVec_shiftLeft]
  show (x.toBitVec <<< ((nI n &&& 31).toBitVec.smod 32).toNat).getLsbD i = _
  rw [s_l n hn, BitVec.getLsbD_shiftLeft]
  rcases Nat.lt_or_ge i n with h | h
  · simp [h, Nat.not_le.mpr h]
  · simp [hi, h, Nat.not_lt.mpr h]
theorem b_ushr (n : Nat) (hn : n < 32) (x : Int32) (i : Nat) : bt ((x.toUInt32 >>> ((nI n).toUInt32 &&& Int32.toUInt32 31)).toInt32) i = bt x (n + i) := by
  show (x.toUInt32 >>> ((nI n).toUInt32 &&& Int32.toUInt32 31)).toBitVec.getLsbD i = x.toUInt32.toBitVec.getLsbD (n + i)
  rw [UInt32.toBitVec_shiftRight]
  show (x.toUInt32.toBitVec >>> (((nI n).toUInt32 &&& Int32.toUInt32 31).toBitVec % 32).toNat).getLsbD i = _
  rw [s_u n hn, BitVec.getLsbD_ushiftRight]
theorem b_sshr (n : Nat) (hn : n < 32) (x : Int32) {i : Nat} (hi : i < 32) : bt (x >>> (nI n &&& 31)) i = if n + i < 32 then bt x (n + i) else bt x 31 := by
  unfold bt
  rw [Int32.toBitVec_shiftRight]
  show (x.toBitVec.sshiftRight ((nI n &&& 31).toBitVec.smod 32).toNat).getLsbD i = _
  rw [s_l n hn, BitVec.getLsbD_sshiftRight, BitVec.msb_eq_getLsbD_last]
  simp [hi]
theorem sb {α β : Type} (a : α) (f : α → Option β) : (some a >>= f) = f a := rfl
theorem nb {α β : Type} (f : α → Option β) : ((none : Option α) >>= f) = none := rfl
theorem ix_id {a : Int} (h1 : -2147483648 ≤ a) (h2 : a < 2147483648) : ix a = a.toNat := by unfold ix; rw [nw_id h1 h2]
theorem nw_0 : nw 0 = 0 := nw_id (by decide) (by decide)
theorem nw_1 : nw 1 = 1 := nw_id (by decide) (by decide)
theorem nw_m1 : nw (-1) = -1 := nw_id (by decide) (by decide)
theorem up_at (g : AG) (k i : Nat) (v : Int) (a b : Nat) : up g k i v a b = if a = k ∧ b = i then v else g a b := rfl
theorem fill_at (g : AG) (k n : Nat) (v : Int) (a b : Nat) : fillG g k n v a b = if a = k ∧ b < n then v else g a b := rfl
/-! frames -/
def Fr (W : Nat → Nat → Bool) (g g' : AG) : Prop := ∀ k i, W k i = false → g' k i = g k i
theorem Fr.rf {W : Nat → Nat → Bool} {g : AG} : Fr W g g := fun _ _ _ => rfl
theorem Fr.tr {W : Nat → Nat → Bool} {g g' g'' : AG} (h1 : Fr W g g') (h2 : Fr W g' g'') : Fr W g g'' := fun k i h => (h2 k i h).trans (h1 k i h)
theorem Fr.mo {W W' : Nat → Nat → Bool} {g g' : AG} (h : ∀ k i, W' k i = false → W k i = false) (h1 : Fr W g g') : Fr W' g g' := fun k i q => h1 k i (h k i q)
theorem Fr.up {W : Nat → Nat → Bool} {g g' : AG} {k i : Nat} {v : Int} (h1 : Fr W g g') (hw : W k i = true) : Fr W g (up g' k i v) := by
  intro a b h
  rw [up_at, if_neg (fun q => by rw [q.1, q.2, hw] at h; cases h)]
  exact h1 a b h
theorem Fr.fill {W : Nat → Nat → Bool} {g g' : AG} {k n : Nat} {v : Int} (h1 : Fr W g g') (hw : ∀ i, W k i = true) : Fr W g (fillG g' k n v) := by
  intro a b h
  rw [fill_at, if_neg (fun q => by rw [q.1, hw] at h; cases h)]
  exact h1 a b h
theorem Fr.cell {W : Nat → Nat → Bool} {g g' : AG} (h : Fr W g g') {k : Nat} (hk : ∀ i, W k i = false) : g' k = g k := funext fun i => h k i (hk i)
def rs (R : Nat → Nat → Bool) (g : AG) : AG := fun k i => if R k i = true then g k i else 0
theorem rs_eq {R : Nat → Nat → Bool} {g g' : AG} (h : ∀ k i, R k i = true → g' k i = g k i) : rs R g' = rs R g := by
  funext k i
  unfold rs
  by_cases q : R k i = true
  · rw [if_pos q, if_pos q, h k i q]
  · rw [if_neg q, if_neg q]
/-! bits of an int -/
def tb (x : Int) (i : Nat) : Bool := bt (Int32.ofInt x) i
theorem oI (n : Nat) : Int32.ofInt (n : Int) = nI n := Int32.ofInt_eq_ofNat
theorem tb_toInt (x : Int32) (i : Nat) : tb x.toInt i = bt x i := by unfold tb; rw [Int32.ofInt_toInt]
theorem tb_nw {x y : Int} (h : nw x = nw y) (i : Nat) : tb x i = tb y i := by
  have e : Int32.ofInt x = Int32.ofInt y := by rw [← Int32.toInt_inj, Int32.toInt_ofInt, Int32.toInt_ofInt]; exact h
  unfold tb; rw [e]
theorem tb_ext {x y : Int} (h : ∀ i, i < 32 → tb x i = tb y i) : nw x = nw y := by
  have e : Int32.ofInt x = Int32.ofInt y := b_ext h
  have e2 : (Int32.ofInt x).toInt = (Int32.ofInt y).toInt := by rw [e]
  rw [Int32.toInt_ofInt, Int32.toInt_ofInt] at e2
  exact e2
theorem tb_or (x y : Int) (i : Nat) : tb (orI x y) i = (tb x i || tb y i) := by unfold orI; rw [tb_toInt, b_or]; rfl
theorem tb_and (x y : Int) (i : Nat) : tb (andI x y) i = (tb x i && tb y i) := by unfold andI; rw [tb_toInt, b_and]; rfl
theorem tb_xor (x y : Int) (i : Nat) : tb (xorI x y) i = (tb x i ^^ tb y i) := by unfold xorI; rw [tb_toInt, b_xor]; rfl
theorem tb_0 (i : Nat) : tb 0 i = false := b_0 i
theorem bt_1 : ∀ i, i < 32 → bt 1 i = decide (i = 0) := by decide +kernel
theorem tb_shl (x : Int) (k : Nat) (hk : k < 32) {i : Nat} (hi : i < 32) : tb (shlI x k) i = (decide (k ≤ i) && tb x (i - k)) := by
  unfold shlI; rw [tb_toInt, oI, b_shl k hk _ hi]; rfl
theorem tb_shl1 (k : Nat) (hk : k < 32) {i : Nat} (hi : i < 32) : tb (shlI 1 k) i = decide (i = k) := by
  rw [tb_shl 1 k hk hi]
  show (decide (k ≤ i) && bt 1 (i - k)) = _
  rw [bt_1 _ (by omega)]
  by_cases h : i = k
  · subst h; simp
  · simp [h]; omega
theorem tb_shr (x : Int) (k : Nat) (hk : k < 32) {i : Nat} (hi : i + k < 32) : tb (shrI x k) i = tb x (k + i) := by
  unfold shrI; rw [tb_toInt, oI, b_sshr k hk _ (by omega), if_pos (by omega)]; rfl
theorem tb_1 {i : Nat} (hi : i < 32) : tb 1 i = decide (i = 0) := bt_1 i hi
theorem tb_m1 {i : Nat} (hi : i < 32) : tb (-1) i = true := b_m1 i hi
theorem nw_and (x y : Int) : nw (andI x y) = andI x y := by
  unfold andI
  have h := Int32.le_toInt (Int32.ofInt x &&& Int32.ofInt y)
  have h2 := Int32.toInt_lt (Int32.ofInt x &&& Int32.ofInt y)
  exact nw_id (by omega) (by omega)
theorem nw_or (x y : Int) : nw (orI x y) = orI x y := by
  unfold orI
  have h := Int32.le_toInt (Int32.ofInt x ||| Int32.ofInt y)
  have h2 := Int32.toInt_lt (Int32.ofInt x ||| Int32.ofInt y)
  exact nw_id (by omega) (by omega)
/-- bit k of x, as the machine asks for it -/
theorem bit_q (x : Int) (k : Nat) (hk : k < 32) : nw (andI (shrI x k) 1) = if tb x k then 1 else 0 := by
  have h : ∀ i, i < 32 → tb (andI (shrI x k) 1) i = tb (if tb x k then 1 else 0) i := by
    intro i hi
    rw [tb_and, tb_1 hi]
    by_cases h0 : i = 0
    · subst h0
      rw [tb_shr x k hk (by omega)]
      show (tb x k && true) = _
      cases h : tb x k with
      | false => simp [tb_0]
      | true => simp [tb_1]
    · cases h : tb x k with
      | false => simp [h0, tb_0]
      | true => simp [h0, tb_1 hi]
  have e := tb_ext h
  rw [e]
  split
  · exact nw_1
  · exact nw_0
theorem nwb (x : Int) : -2147483648 ≤ nw x ∧ nw x < 2147483648 := by
  have h1 := Int.bmod_lt (x := x) (m := 4294967296) (by decide)
  have h2 := Int.le_bmod (x := x) (m := 4294967296) (by decide)
  unfold nw
  omega
theorem isIn0 {x a b : Int} (h1 : -2147483648 ≤ x) (h2 : x < 2147483648) (h3 : -2147483648 ≤ a) (h4 : a < 2147483648) (h5 : -2147483648 ≤ b) (h6 : b < 2147483648) : (nw (M_isIn x a b) = 0) = (x < a ∨ b < x) := by
  unfold M_isIn
  rw [nw_id h1 h2, nw_id h3 h4, nw_id h5 h6]
  by_cases q1 : x < a
  · rw [if_pos q1]; simp [nw_0, q1]
  · rw [if_neg q1]
    by_cases q2 : b < x
    · rw [if_pos q2]; simp [nw_0, q2]
    · rw [if_neg q2]; simp [nw_1, q1, q2]
theorem within0 {x a b : Int} (h1 : -2147483648 ≤ x) (h2 : x < 2147483648) (h3 : -2147483648 ≤ a) (h4 : a < 2147483648) (h5 : -2147483648 ≤ b) (h6 : b < 2147483648) : (nw (X_within x a b) = 0) = (x < a ∨ b < x) := isIn0 h1 h2 h3 h4 h5 h6
theorem isPoint0 {x : Int} (h1 : -2147483648 ≤ x) (h2 : x < 2147483648) : (nw (M_isPoint x) = 0) = (x < 0 ∨ 15 < x) := isIn0 h1 h2 (by decide) (by decide) (by decide) (by decide)
theorem isPointX0 {x : Int} (h1 : -2147483648 ≤ x) (h2 : x < 2147483648) : (nw (X_isPoint x) = 0) = (x < 0 ∨ 15 < x) := isIn0 h1 h2 (by decide) (by decide) (by decide) (by decide)
theorem isTime0 {x : Int} (h1 : -2147483648 ≤ x) (h2 : x < 2147483648) : (nw (M_isTime x) = 0) = (x < 0 ∨ 20159 < x) := isIn0 h1 h2 (by decide) (by decide) (by decide) (by decide)
theorem isTimeX0 {x : Int} (h1 : -2147483648 ≤ x) (h2 : x < 2147483648) : (nw (X_isTime x) = 0) = (x < 0 ∨ 20159 < x) := isIn0 h1 h2 (by decide) (by decide) (by decide) (by decide)
theorem isBerths0 {x : Int} (h1 : -2147483648 ≤ x) (h2 : x < 2147483648) : (nw (X_isBerths x) = 0) = (x < 2 ∨ 12 < x) := isIn0 h1 h2 (by decide) (by decide) (by decide) (by decide)
theorem isWeek0 {x : Int} (h1 : -2147483648 ≤ x) (h2 : x < 2147483648) : (nw (X_isWeek x) = 0) = (x < 0 ∨ 9 < x) := isIn0 h1 h2 (by decide) (by decide) (by decide) (by decide)
theorem M_isBoat0 {x : Int} {g : AG} (h1 : -2147483648 ≤ x) (h2 : x < 2147483648) (h3 : 0 ≤ g 117 12) (h4 : g 117 12 ≤ 10) : (nw (M_isBoat x g) = 0) = (x < 0 ∨ g 117 12 - 1 < x) := isIn0 h1 h2 (by decide) (by decide) (by omega) (by omega)
theorem X_isBoat0 {x : Int} {g : AG} (h1 : -2147483648 ≤ x) (h2 : x < 2147483648) (h3 : 0 ≤ g 6 7) (h4 : g 6 7 ≤ 10) : (nw (X_isBoat x g) = 0) = (x < 0 ∨ g 6 7 - 1 < x) := isIn0 h1 h2 (by decide) (by decide) (by omega) (by omega)
theorem tdE {a b : Int} (h : 0 ≤ a) : a.tdiv b = a / b := Int.tdiv_eq_ediv_of_nonneg h
theorem tmE {a b : Int} (h : 0 ≤ a) : a.tmod b = a % b := Int.tmod_eq_emod_of_nonneg h
/-! regions: (cell, 0) a whole cell, (cell, i + 1) one place of it -/
abbrev Reg : Type := List (Nat × Nat)
def inP (p : Nat × Nat) (k i : Nat) : Bool := Nat.beq p.1 k && (Nat.beq p.2 0 || Nat.beq p.2 (i + 1))
def inR : Reg → Nat → Nat → Bool
  | [], _, _ => false
  | p :: R, k, i => inP p k i || inR R k i
def djP (p q : Nat × Nat) : Bool := !(Nat.beq p.1 q.1) || (!(Nat.beq p.2 0) && !(Nat.beq q.2 0) && !(Nat.beq p.2 q.2))
def djR (R W : Reg) : Bool := R.all fun p => W.all fun q => djP p q
theorem inR_iff {R : Reg} {k i : Nat} : inR R k i = true ↔ ∃ p, p ∈ R ∧ inP p k i = true := by
  induction R with
  | nil => simp [inR]
  | cons p R ih => simp [inR, ih]
theorem djP_ok {p q : Nat × Nat} (h : djP p q = true) {k i : Nat} (h1 : inP p k i = true) : inP q k i = false := by
  cases h2 : inP q k i with
  | false => rfl
  | true =>
    exfalso
    unfold inP at h1 h2
    unfold djP at h
    simp only [Bool.and_eq_true, Bool.or_eq_true, Bool.not_eq_true', Nat.beq_eq] at h h1 h2
    have e := h1.1.trans h2.1.symm
    rcases h with h | ⟨⟨h3, h4⟩, h5⟩
    · rw [e] at h; simp at h
    · rcases h1.2 with a | a
      · rw [a] at h3; simp at h3
      · rcases h2.2 with b | b
        · rw [b] at h4; simp at h4
        · rw [a, b] at h5; simp at h5
theorem djR_ok {R W : Reg} (h : djR R W = true) {k i : Nat} (h1 : inR R k i = true) : inR W k i = false := by
  cases h2 : inR W k i with
  | false => rfl
  | true =>
    obtain ⟨p, hp, hp1⟩ := inR_iff.mp h1
    obtain ⟨q, hq, hq1⟩ := inR_iff.mp h2
    have h3 := List.all_eq_true.mp (List.all_eq_true.mp h p hp) q hq
    rw [djP_ok h3 hp1] at hq1
    cases hq1
/-- every place of R is one of W -/
def suR (R W : Reg) : Bool := R.all fun p => W.any fun q => Nat.beq p.1 q.1 && (Nat.beq q.2 0 || Nat.beq p.2 q.2)
theorem suR_ok {R W : Reg} (h : suR R W = true) {k i : Nat} (h1 : inR W k i = false) : inR R k i = false := by
  cases h2 : inR R k i with
  | false => rfl
  | true =>
    exfalso
    obtain ⟨p, hp, hp1⟩ := inR_iff.mp h2
    have h3 := List.all_eq_true.mp h p hp
    obtain ⟨q, hq, hq1⟩ := List.any_eq_true.mp h3
    have h4 : inR W k i = true := inR_iff.mpr ⟨q, hq, by
      unfold inP at hp1 ⊢
      simp only [Bool.and_eq_true, Bool.or_eq_true, Nat.beq_eq] at hp1 hq1 ⊢
      refine ⟨hq1.1.symm.trans hp1.1, ?_⟩
      rcases hq1.2 with a | a
      · exact Or.inl a
      · rcases hp1.2 with b | b
        · exact Or.inl (a.symm.trans b)
        · exact Or.inr (a.symm.trans b)⟩
    rw [h1] at h4
    cases h4
abbrev FR (W : Reg) (g g' : AG) : Prop := Fr (inR W) g g'
theorem FR.mo {R W : Reg} {g g' : AG} (h1 : FR R g g') (h : suR R W = true) : FR W g g' := Fr.mo (fun _ _ q => suR_ok h q) h1
/-- a claim that reads R alone holds behind a change of W alone -/
theorem FR.cg {R W : Reg} {g g' : AG} (h1 : FR W g g') (h : djR R W = true) : ∀ k i, inR R k i = true → g' k i = g k i := fun k i q => h1 k i (djR_ok h q)
theorem inR_whole {R : Reg} {k : Nat} (h : inR R k 0 = true) (h2 : R.all (fun p => Nat.beq p.2 0) = true) (i : Nat) : inR R k i = true := by
  obtain ⟨p, hp, hp1⟩ := inR_iff.mp h
  refine inR_iff.mpr ⟨p, hp, ?_⟩
  have h3 := List.all_eq_true.mp h2 p hp
  unfold inP at hp1 ⊢
  simp only [Bool.and_eq_true, Bool.or_eq_true, Nat.beq_eq] at hp1 h3 ⊢
  exact ⟨hp1.1, Or.inl h3⟩
theorem X_isWay0 {x1 x2 x3 x4 : Int} {g : AG} (h1 : -2147483648 ≤ x1) (h1' : x1 < 2147483648) (h2 : -2147483648 ≤ x2) (h2' : x2 < 2147483648) (h3 : -2147483648 ≤ x3) (h3' : x3 < 2147483648) (h4 : -2147483648 ≤ x4) (h4' : x4 < 2147483648) (h5 : 0 ≤ g 6 7) (h6 : g 6 7 ≤ 10) : (nw (X_isWay x1 x2 x3 x4 g) = 0) = (x1 < 0 ∨ g 6 7 - 1 < x1 ∨ x2 < 0 ∨ 15 < x2 ∨ x3 < 0 ∨ 15 < x3 ∨ x4 < 0 ∨ 20159 < x4) := by
  unfold X_isWay
  simp (disch := omega) only [X_isBoat0, isPointX0, isTimeX0]
  by_cases a : x1 < 0 ∨ g 6 7 - 1 < x1
  · rw [if_pos a]; simp [nw_0]; omega
  rw [if_neg a]
  by_cases b : x2 < 0 ∨ 15 < x2
  · rw [if_pos b]; simp [nw_0]; omega
  rw [if_neg b]
  by_cases c : x3 < 0 ∨ 15 < x3
  · rw [if_pos c]; simp [nw_0]; omega
  rw [if_neg c]
  by_cases d : x4 < 0 ∨ 20159 < x4
  · rw [if_pos d]; simp [nw_0]; omega
  rw [if_neg d]
  simp [nw_1]; omega
/-! sums -/
def sm (f : Nat → Int) : Nat → Int
  | 0 => 0
  | n + 1 => sm f n + f n
theorem sm_cg {f h : Nat → Int} : ∀ (n : Nat), (∀ i, i < n → f i = h i) → sm f n = sm h n
  | 0, _ => rfl
  | n + 1, q => by show sm f n + f n = sm h n + h n; rw [sm_cg n (fun i hi => q i (by omega)), q n (by omega)]
theorem sm_zero {f : Nat → Int} {n : Nat} : ∀ (m : Nat), n ≤ m → (∀ i, n ≤ i → i < m → f i = 0) → sm f m = sm f n
  | 0, h, _ => by rw [show n = 0 by omega]
  | m + 1, h, q => by
    by_cases e : n = m + 1
    · rw [e]
    · show sm f m + f m = sm f n
      rw [sm_zero m (by omega) (fun i h1 h2 => q i h1 (by omega)), q m (by omega) (by omega)]; omega
theorem sm_nn {f : Nat → Int} : ∀ (n : Nat), (∀ i, i < n → 0 ≤ f i) → 0 ≤ sm f n
  | 0, _ => Int.le_refl 0
  | n + 1, q => by have := sm_nn n (fun i hi => q i (by omega)); have := q n (by omega); show 0 ≤ sm f n + f n; omega
theorem sm_ub {f : Nat → Int} {c : Int} : ∀ (n : Nat), (∀ i, i < n → f i ≤ c) → sm f n ≤ n * c
  | 0, _ => by show (0 : Int) ≤ ((0 : Nat) : Int) * c; simp
  | n + 1, q => by
    have h1 := sm_ub n (fun i hi => q i (by omega)); have h2 := q n (by omega)
    show sm f n + f n ≤ ((n + 1 : Nat) : Int) * c
    rw [Int.natCast_add, Int.add_mul]; simp; omega
theorem sm_mono {f h : Nat → Int} : ∀ (n : Nat), (∀ i, i < n → f i ≤ h i) → sm f n ≤ sm h n
  | 0, _ => Int.le_refl 0
  | n + 1, q => by have := sm_mono n (fun i hi => q i (by omega)); have := q n (by omega); show sm f n + f n ≤ sm h n + h n; omega
theorem sm_pre {f : Nat → Int} {n : Nat} : ∀ (m : Nat), n ≤ m → (∀ i, i < m → 0 ≤ f i) → sm f n ≤ sm f m
  | 0, h, _ => by rw [show n = 0 by omega]; exact Int.le_refl _
  | m + 1, h, q => by
    by_cases e : n = m + 1
    · rw [e]; exact Int.le_refl _
    · have := sm_pre (n := n) m (by omega) (fun i hi => q i (by omega)); have := q m (by omega); show sm f n ≤ sm f m + f m; omega
theorem natOf {x : Int} (h : 0 ≤ x) : ∃ n : Nat, x = n := ⟨x.toNat, by omega⟩
end
section
/-! plain programs: the setters -/
def RWay : Reg := [(13, 0), (14, 0), (15, 0), (118, 0), (119, 0), (120, 0)]
def JWay (g : AG) : Prop := ∀ i : Nat, i < 15 → g 118 i = g 13 i ∧ g 119 i = g 14 i ∧ g 120 i = g 15 i ∧ 0 ≤ g 118 i ∧ g 118 i ≤ 9 ∧ 0 ≤ g 119 i ∧ g 119 i ≤ 9 ∧ 1 ≤ g 120 i ∧ g 120 i ≤ 99
theorem JWay.cg {g g' : AG} (h : ∀ k i, inR RWay k i = true → g' k i = g k i) (q : JWay g) : JWay g' := by
  have q1 : JWay (rs (inR RWay) g) := q
  rw [← rs_eq h] at q1
  exact q1
theorem X_stretch_s {x1 x2 x3 x4 : Int} {g : AG} (h1 : I32 x1) (h2 : I32 x2) (h3 : I32 x3) (h4 : I32 x4) :
    X_stretch x1 x2 x3 x4 g = if (0 ≤ x1 ∧ x1 ≤ 14 ∧ 0 ≤ x2 ∧ x2 ≤ 9 ∧ 0 ≤ x3 ∧ x3 ≤ 9 ∧ 1 ≤ x4 ∧ x4 ≤ 99) then some (1, up (up (up g 13 x1.toNat x2) 14 x1.toNat x3) 15 x1.toNat x4) else some (0, g) := by
  unfold I32 at *
  unfold X_stretch
  by_cases h : (0 ≤ x1 ∧ x1 ≤ 14 ∧ 0 ≤ x2 ∧ x2 ≤ 9 ∧ 0 ≤ x3 ∧ x3 ≤ 9 ∧ 1 ≤ x4 ∧ x4 ≤ 99)
  · simp (disch := omega) only [nw_id, ix_id, sb, if_pos, if_neg, within0]
  · simp (disch := omega) only [nw_id, ix_id, sb, if_pos, if_neg, within0]
    ((repeat (first | (split; · with_reducible rfl) | (split; rotate_left 1; · with_reducible rfl))) <;> first | with_reducible rfl | (refine absurd ?_ h; clear h; (repeat' apply And.intro) <;> omega) | omega | ((repeat' split) <;> first | rfl | omega))
theorem M_stretch_s {x1 x2 x3 x4 : Int} {g : AG} (h1 : I32 x1) (h2 : I32 x2) (h3 : I32 x3) (h4 : I32 x4) :
    M_stretch x1 x2 x3 x4 g = if (0 ≤ x1 ∧ x1 ≤ 14 ∧ 0 ≤ x2 ∧ x2 ≤ 9 ∧ 0 ≤ x3 ∧ x3 ≤ 9 ∧ 1 ≤ x4 ∧ x4 ≤ 99) then some (1, up (up (up g 118 x1.toNat x2) 119 x1.toNat x3) 120 x1.toNat x4) else some (0, g) := by
  unfold I32 at *
  unfold M_stretch
  by_cases h : (0 ≤ x1 ∧ x1 ≤ 14 ∧ 0 ≤ x2 ∧ x2 ≤ 9 ∧ 0 ≤ x3 ∧ x3 ≤ 9 ∧ 1 ≤ x4 ∧ x4 ≤ 99)
  · simp (disch := omega) only [nw_id, ix_id, sb, if_pos, if_neg, isIn0]
  · simp (disch := omega) only [nw_id, ix_id, sb, if_pos, if_neg, isIn0]
    ((repeat (first | (split; · with_reducible rfl) | (split; rotate_left 1; · with_reducible rfl))) <;> first | with_reducible rfl | (refine absurd ?_ h; clear h; (repeat' apply And.intro) <;> omega) | omega | ((repeat' split) <;> first | rfl | omega))
theorem sm_stretch {x1 x2 x3 x4 : Int} {g : AG} (h1 : I32 x1) (h2 : I32 x2) (h3 : I32 x3) (h4 : I32 x4) (q : JWay g) :
    ∃ r1 r2, X_stretch x1 x2 x3 x4 g = some r1 ∧ M_stretch x1 x2 x3 x4 r1.2 = some r2 ∧ nw r1.1 = nw r2.1 ∧ JWay r2.2 ∧ FR RWay g r2.2 := by
  rw [X_stretch_s h1 h2 h3 h4]
  by_cases h : (0 ≤ x1 ∧ x1 ≤ 14 ∧ 0 ≤ x2 ∧ x2 ≤ 9 ∧ 0 ≤ x3 ∧ x3 ≤ 9 ∧ 1 ≤ x4 ∧ x4 ≤ 99)
  · rw [if_pos h]
    refine ⟨_, _, rfl, (M_stretch_s h1 h2 h3 h4).trans (if_pos h), rfl, ?_, ?_⟩
    · intro i hi
      have := q i hi
      simp only [up_at]
      by_cases e : i = x1.toNat
      · simp [e]; omega
      · simp [e]; omega
    · exact Fr.up (Fr.up (Fr.up (Fr.up (Fr.up (Fr.up Fr.rf rfl) rfl) rfl) rfl) rfl) rfl
  · rw [if_neg h]
    exact ⟨_, _, rfl, (M_stretch_s h1 h2 h3 h4).trans (if_neg h), rfl, q, Fr.rf⟩
end
section
/-! plain programs: rows put behind others (trips, boats) -/
def RTrip : Reg := [(6, 8), (7, 9), (117, 50), (76, 0), (77, 0), (78, 0), (79, 0), (80, 0), (149, 0), (150, 0), (151, 0), (152, 0), (153, 0)]
def JTrip (g : AG) : Prop := (g 117 49 = g 7 8 ∧ 0 ≤ g 7 8 ∧ g 7 8 ≤ 20) ∧ (∀ k : Nat, k < 20 → g 149 k = g 76 k ∧ g 150 k = g 77 k ∧ g 151 k = g 78 k ∧ g 152 k = g 79 k ∧ g 153 k = g 80 k) ∧ ∀ k : Nat, (k : Int) < g 7 8 → (0 ≤ g 76 k ∧ g 76 k < g 6 7) ∧ (0 ≤ g 77 k ∧ g 77 k ≤ 15) ∧ (0 ≤ g 78 k ∧ g 78 k ≤ 15) ∧ (0 ≤ g 79 k ∧ g 79 k ≤ 20159) ∧ (0 ≤ g 80 k ∧ g 80 k ≤ 20159)
theorem JTrip.cg {g g' : AG} (h : ∀ k i, inR RTrip k i = true → g' k i = g k i) (q : JTrip g) : JTrip g' := by
  have q1 : JTrip (rs (inR RTrip) g) := q
  rw [← rs_eq h] at q1
  exact q1
def TripOk (x1 x2 x3 x4 x5 n k : Int) : Prop := 0 ≤ x1 ∧ x1 ≤ n - 1 ∧ 0 ≤ x2 ∧ x2 ≤ 15 ∧ 0 ≤ x3 ∧ x3 ≤ 15 ∧ 0 ≤ x4 ∧ x4 ≤ 20159 ∧ 0 ≤ x5 ∧ x5 ≤ 20159 ∧ k < 20
theorem X_trip_s {x1 x2 x3 x4 x5 : Int} {g : AG} (h1 : I32 x1) (h2 : I32 x2) (h3 : I32 x3) (h4 : I32 x4) (h5 : I32 x5) (hn : 0 ≤ g 6 7 ∧ g 6 7 ≤ 10) (hk : 0 ≤ g 7 8 ∧ g 7 8 ≤ 20) :
    (TripOk x1 x2 x3 x4 x5 (g 6 7) (g 7 8) → X_trip x1 x2 x3 x4 x5 g = some (g 7 8, up (up (up (up (up (up (g) 76 (g 7 8).toNat x1) 77 (g 7 8).toNat x2) 78 (g 7 8).toNat x3) 79 (g 7 8).toNat x4) 80 (g 7 8).toNat x5) 7 8 (g 7 8 + 1))) ∧ (¬ TripOk x1 x2 x3 x4 x5 (g 6 7) (g 7 8) → X_trip x1 x2 x3 x4 x5 g = some (-1, g)) := by
  unfold I32 TripOk at *
  unfold X_trip Trips_add
  constructor
  · intro h
    simp (disch := omega) only [nw_id, ix_id, sb, if_pos, if_neg, X_isWay0, isTimeX0, up_at]
    simp (disch := omega) only [nw_id, ix_id, sb, if_pos, if_neg, Nat.reduceEqDiff, false_and, and_self, reduceIte, Int.add_sub_cancel]
  · intro h
    simp (disch := omega) only [nw_id, ix_id, sb, if_pos, if_neg, X_isWay0, isTimeX0]
    ((repeat (first | (split; · with_reducible rfl) | (split; rotate_left 1; · with_reducible rfl))) <;> first | with_reducible rfl | (refine absurd ?_ h; clear h; (repeat' apply And.intro) <;> omega) | omega | ((repeat' split) <;> first | rfl | omega))
theorem M_trip_s {x1 x2 x3 x4 x5 : Int} {g : AG} (h1 : I32 x1) (h2 : I32 x2) (h3 : I32 x3) (h4 : I32 x4) (h5 : I32 x5) (hn : 0 ≤ g 117 12 ∧ g 117 12 ≤ 10) (hk : 0 ≤ g 117 49 ∧ g 117 49 ≤ 20) :
    (TripOk x1 x2 x3 x4 x5 (g 117 12) (g 117 49) → M_trip x1 x2 x3 x4 x5 g = some (g 117 49, up (up (up (up (up (up (g) 149 (g 117 49).toNat x1) 150 (g 117 49).toNat x2) 151 (g 117 49).toNat x3) 152 (g 117 49).toNat x4) 153 (g 117 49).toNat x5) 117 49 (g 117 49 + 1))) ∧ (¬ TripOk x1 x2 x3 x4 x5 (g 117 12) (g 117 49) → M_trip x1 x2 x3 x4 x5 g = some (-1, g)) := by
  unfold I32 TripOk at *
  unfold M_trip
  constructor
  · intro h
    simp (disch := omega) only [nw_id, ix_id, sb, if_pos, if_neg, M_isBoat0, isPoint0, isTime0, up_at]
    simp (disch := omega) only [nw_id, ix_id, sb, if_pos, if_neg, Nat.reduceEqDiff, false_and, and_self, reduceIte, Int.add_sub_cancel]
  · intro h
    simp (disch := omega) only [nw_id, ix_id, sb, if_pos, if_neg, M_isBoat0, isPoint0, isTime0]
    ((repeat (first | (split; · with_reducible rfl) | (split; rotate_left 1; · with_reducible rfl))) <;> first | with_reducible rfl | (refine absurd ?_ h; clear h; (repeat' apply And.intro) <;> omega) | omega | ((repeat' split) <;> first | rfl | omega))
theorem sm_trip {x1 x2 x3 x4 x5 : Int} {g : AG} (h1 : I32 x1) (h2 : I32 x2) (h3 : I32 x3) (h4 : I32 x4) (h5 : I32 x5) (hb : g 117 12 = g 6 7 ∧ 0 ≤ g 6 7 ∧ g 6 7 ≤ 10) (q : JTrip g) :
    ∃ r1 r2, X_trip x1 x2 x3 x4 x5 g = some r1 ∧ M_trip x1 x2 x3 x4 x5 r1.2 = some r2 ∧ nw r1.1 = nw r2.1 ∧ JTrip r2.2 ∧ FR [(7, 9), (117, 50), (76, 0), (77, 0), (78, 0), (79, 0), (80, 0), (149, 0), (150, 0), (151, 0), (152, 0), (153, 0)] g r2.2 := by
  obtain ⟨q1, q2, q3⟩ := q
  have hX := X_trip_s (g := g) h1 h2 h3 h4 h5 hb.2 ⟨q1.2.1, q1.2.2⟩
  by_cases h : TripOk x1 x2 x3 x4 x5 (g 6 7) (g 7 8)
  · have eX := hX.1 h
    have hM := (M_trip_s (g := up (up (up (up (up (up (g) 76 (g 7 8).toNat x1) 77 (g 7 8).toNat x2) 78 (g 7 8).toNat x3) 79 (g 7 8).toNat x4) 80 (g 7 8).toNat x5) 7 8 (g 7 8 + 1)) h1 h2 h3 h4 h5 (by simp [up_at]; omega) (by simp [up_at]; omega)).1 (by
      simp only [up_at, Nat.reduceEqDiff, false_and, reduceIte]
      first | rw [hb.1, q1.1]; exact h | rw [q1.1]; exact h)
    refine ⟨_, _, eX, hM, ?_, ⟨?_, ?_, ?_⟩, ?_⟩
    · simp only [up_at, Nat.reduceEqDiff, false_and, reduceIte]
      rw [q1.1]
    · unfold TripOk at h
      simp [up_at]; omega
    · intro k hk
      have := q2 k hk
      simp only [up_at, Nat.reduceEqDiff, false_and, true_and, and_self, reduceIte]
      rw [q1.1]
      by_cases e : k = (g 7 8).toNat
      · simp only [e, reduceIte]; first | omega | simp
      · simp only [e, reduceIte]; omega
    · intro k hk
      unfold TripOk at h
      simp only [up_at, Nat.reduceEqDiff, false_and, true_and, and_self, reduceIte] at hk ⊢
      by_cases e : k = (g 7 8).toNat
      · simp only [e, reduceIte]; omega
      · have := q3 k (by omega)
        simp only [e, reduceIte]; omega
    · refine Fr.up (Fr.up (Fr.up (Fr.up (Fr.up (Fr.up (Fr.up (Fr.up (Fr.up (Fr.up (Fr.up (Fr.up Fr.rf ?_) ?_) ?_) ?_) ?_) ?_) ?_) ?_) ?_) ?_) ?_) ?_ <;> rfl
  · have hM := (M_trip_s (g := g) h1 h2 h3 h4 h5 (by rw [hb.1]; exact hb.2) (by rw [q1.1]; exact q1.2)).2 (by first | rw [hb.1, q1.1]; exact h | rw [q1.1]; exact h)
    exact ⟨_, _, hX.2 h, hM, rfl, ⟨q1, q2, q3⟩, Fr.rf⟩
def RBoat : Reg := [(6, 8), (117, 13), (48, 0), (49, 0), (50, 0), (51, 0), (124, 0), (125, 0), (126, 0), (127, 0)]
def JBoat (g : AG) : Prop := (g 117 12 = g 6 7 ∧ 0 ≤ g 6 7 ∧ g 6 7 ≤ 10) ∧ (∀ k : Nat, k < 10 → g 124 k = g 48 k ∧ g 125 k = g 49 k ∧ g 126 k = g 50 k ∧ g 127 k = g 51 k) ∧ ∀ k : Nat, (k : Int) < g 6 7 → (2 ≤ g 48 k ∧ g 48 k ≤ 12) ∧ (0 ≤ g 49 k ∧ g 49 k ≤ 99) ∧ (0 ≤ g 50 k ∧ g 50 k ≤ 15) ∧ (0 ≤ g 51 k ∧ g 51 k ≤ 60)
theorem JBoat.cg {g g' : AG} (h : ∀ k i, inR RBoat k i = true → g' k i = g k i) (q : JBoat g) : JBoat g' := by
  have q1 : JBoat (rs (inR RBoat) g) := q
  rw [← rs_eq h] at q1
  exact q1
def BoatOk (x1 x2 x3 x4 n k : Int) : Prop := 2 ≤ x1 ∧ x1 ≤ 12 ∧ 0 ≤ x2 ∧ x2 ≤ 99 ∧ 0 ≤ x3 ∧ x3 ≤ 15 ∧ 0 ≤ x4 ∧ x4 ≤ 60 ∧ k < 10
theorem X_boat_s {x1 x2 x3 x4 : Int} {g : AG} (h1 : I32 x1) (h2 : I32 x2) (h3 : I32 x3) (h4 : I32 x4) (hn : 0 ≤ g 6 7 ∧ g 6 7 ≤ 10) (hk : 0 ≤ g 6 7 ∧ g 6 7 ≤ 10) :
    (BoatOk x1 x2 x3 x4 (g 6 7) (g 6 7) → X_boat x1 x2 x3 x4 g = some (g 6 7, up (up (up (up (up (g) 48 (g 6 7).toNat x1) 49 (g 6 7).toNat x2) 50 (g 6 7).toNat x3) 51 (g 6 7).toNat x4) 6 7 (g 6 7 + 1))) ∧ (¬ BoatOk x1 x2 x3 x4 (g 6 7) (g 6 7) → X_boat x1 x2 x3 x4 g = some (-1, g)) := by
  unfold I32 BoatOk at *
  unfold X_boat Boats_add
  constructor
  · intro h
    simp (disch := omega) only [nw_id, ix_id, sb, if_pos, if_neg, isBerths0, isPointX0, within0, up_at]
    simp (disch := omega) only [nw_id, ix_id, sb, if_pos, if_neg, Nat.reduceEqDiff, false_and, and_self, reduceIte, Int.add_sub_cancel]
  · intro h
    simp (disch := omega) only [nw_id, ix_id, sb, if_pos, if_neg, isBerths0, isPointX0, within0]
    ((repeat (first | (split; · with_reducible rfl) | (split; rotate_left 1; · with_reducible rfl))) <;> first | with_reducible rfl | (refine absurd ?_ h; clear h; (repeat' apply And.intro) <;> omega) | omega | ((repeat' split) <;> first | rfl | omega))
theorem M_boat_s {x1 x2 x3 x4 : Int} {g : AG} (h1 : I32 x1) (h2 : I32 x2) (h3 : I32 x3) (h4 : I32 x4) (hn : 0 ≤ g 117 12 ∧ g 117 12 ≤ 10) (hk : 0 ≤ g 117 12 ∧ g 117 12 ≤ 10) :
    (BoatOk x1 x2 x3 x4 (g 117 12) (g 117 12) → M_boat x1 x2 x3 x4 g = some (g 117 12, up (up (up (up (up (g) 124 (g 117 12).toNat x1) 125 (g 117 12).toNat x2) 126 (g 117 12).toNat x3) 127 (g 117 12).toNat x4) 117 12 (g 117 12 + 1))) ∧ (¬ BoatOk x1 x2 x3 x4 (g 117 12) (g 117 12) → M_boat x1 x2 x3 x4 g = some (-1, g)) := by
  unfold I32 BoatOk at *
  unfold M_boat
  constructor
  · intro h
    simp (disch := omega) only [nw_id, ix_id, sb, if_pos, if_neg, isIn0, isPoint0, up_at]
    simp (disch := omega) only [nw_id, ix_id, sb, if_pos, if_neg, Nat.reduceEqDiff, false_and, and_self, reduceIte, Int.add_sub_cancel]
  · intro h
    simp (disch := omega) only [nw_id, ix_id, sb, if_pos, if_neg, isIn0, isPoint0]
    ((repeat (first | (split; · with_reducible rfl) | (split; rotate_left 1; · with_reducible rfl))) <;> first | with_reducible rfl | (refine absurd ?_ h; clear h; (repeat' apply And.intro) <;> omega) | omega | ((repeat' split) <;> first | rfl | omega))
theorem sm_boat {x1 x2 x3 x4 : Int} {g : AG} (h1 : I32 x1) (h2 : I32 x2) (h3 : I32 x3) (h4 : I32 x4) (hb : g 117 12 = g 6 7 ∧ 0 ≤ g 6 7 ∧ g 6 7 ≤ 10) (q : JBoat g) :
    ∃ r1 r2, X_boat x1 x2 x3 x4 g = some r1 ∧ M_boat x1 x2 x3 x4 r1.2 = some r2 ∧ nw r1.1 = nw r2.1 ∧ JBoat r2.2 ∧ FR [(6, 8), (117, 13), (48, 0), (49, 0), (50, 0), (51, 0), (124, 0), (125, 0), (126, 0), (127, 0)] g r2.2 := by
  obtain ⟨q1, q2, q3⟩ := q
  have hX := X_boat_s (g := g) h1 h2 h3 h4 hb.2 ⟨q1.2.1, q1.2.2⟩
  by_cases h : BoatOk x1 x2 x3 x4 (g 6 7) (g 6 7)
  · have eX := hX.1 h
    have hM := (M_boat_s (g := up (up (up (up (up (g) 48 (g 6 7).toNat x1) 49 (g 6 7).toNat x2) 50 (g 6 7).toNat x3) 51 (g 6 7).toNat x4) 6 7 (g 6 7 + 1)) h1 h2 h3 h4 (by simp [up_at]; omega) (by simp [up_at]; omega)).1 (by
      simp only [up_at, Nat.reduceEqDiff, false_and, reduceIte]
      first | rw [hb.1, q1.1]; exact h | rw [q1.1]; exact h)
    refine ⟨_, _, eX, hM, ?_, ⟨?_, ?_, ?_⟩, ?_⟩
    · simp only [up_at, Nat.reduceEqDiff, false_and, reduceIte]
      rw [q1.1]
    · unfold BoatOk at h
      simp [up_at]; omega
    · intro k hk
      have := q2 k hk
      simp only [up_at, Nat.reduceEqDiff, false_and, true_and, and_self, reduceIte]
      rw [q1.1]
      by_cases e : k = (g 6 7).toNat
      · simp only [e, reduceIte]; first | omega | simp
      · simp only [e, reduceIte]; omega
    · intro k hk
      unfold BoatOk at h
      simp only [up_at, Nat.reduceEqDiff, false_and, true_and, and_self, reduceIte] at hk ⊢
      by_cases e : k = (g 6 7).toNat
      · simp only [e, reduceIte]; omega
      · have := q3 k (by omega)
        simp only [e, reduceIte]; omega
    · refine Fr.up (Fr.up (Fr.up (Fr.up (Fr.up (Fr.up (Fr.up (Fr.up (Fr.up (Fr.up Fr.rf ?_) ?_) ?_) ?_) ?_) ?_) ?_) ?_) ?_) ?_ <;> rfl
  · have hM := (M_boat_s (g := g) h1 h2 h3 h4 (by rw [hb.1]; exact hb.2) (by rw [q1.1]; exact q1.2)).2 (by first | rw [hb.1, q1.1]; exact h | rw [q1.1]; exact h)
    exact ⟨_, _, hX.2 h, hM, rfl, ⟨q1, q2, q3⟩, Fr.rf⟩
end
section
/-! plain programs: weights, pumps, jobs, calls -/
def RWgt : Reg := [(107, 0), (180, 0)]
def JWgt (g : AG) : Prop := ∀ p : Nat, p < 16 → g 180 p = g 107 p ∧ 0 ≤ g 107 p ∧ g 107 p ≤ 99
theorem JWgt.cg {g g' : AG} (h : ∀ k i, inR RWgt k i = true → g' k i = g k i) (q : JWgt g) : JWgt g' := by
  have q1 : JWgt (rs (inR RWgt) g) := q
  rw [← rs_eq h] at q1
  exact q1
theorem sm_weight {x1 x2 : Int} {g : AG} (h1 : I32 x1) (h2 : I32 x2) (q : JWgt g) :
    ∃ r1 r2, X_weight x1 x2 g = some r1 ∧ M_weight x1 x2 r1.2 = some r2 ∧ nw r1.1 = nw r2.1 ∧ JWgt r2.2 ∧ FR RWgt g r2.2 := by
  unfold I32 at *
  by_cases h : 0 ≤ x1 ∧ x1 ≤ 15 ∧ 0 ≤ x2 ∧ x2 ≤ 99
  · have eX : X_weight x1 x2 g = some (1, up g 107 x1.toNat x2) := by
      unfold X_weight
      simp (disch := omega) only [nw_id, ix_id, sb, if_pos, if_neg, isPointX0, within0]
    have eM : ∀ g, M_weight x1 x2 g = some (1, up g 180 x1.toNat x2) := by
      intro g
      unfold M_weight
      simp (disch := omega) only [nw_id, ix_id, sb, if_pos, if_neg, isPoint0, isIn0]
    refine ⟨_, _, eX, eM _, rfl, ?_, Fr.up (Fr.up Fr.rf rfl) rfl⟩
    intro p hp
    have := q p hp
    simp only [up_at]
    by_cases e : p = x1.toNat
    · simp [e]; omega
    · simp [e]; omega
  · have eX : X_weight x1 x2 g = some (0, g) := by
      unfold X_weight
      simp (disch := omega) only [nw_id, ix_id, sb, if_pos, if_neg, isPointX0, within0]
      ((repeat (first | (split; · with_reducible rfl) | (split; rotate_left 1; · with_reducible rfl))) <;> first | with_reducible rfl | (refine absurd ?_ h; clear h; (repeat' apply And.intro) <;> omega) | omega | ((repeat' split) <;> first | rfl | omega))
    have eM : M_weight x1 x2 g = some (0, g) := by
      unfold M_weight
      simp (disch := omega) only [nw_id, ix_id, sb, if_pos, if_neg, isPoint0, isIn0]
      ((repeat (first | (split; · with_reducible rfl) | (split; rotate_left 1; · with_reducible rfl))) <;> first | with_reducible rfl | (refine absurd ?_ h; clear h; (repeat' apply And.intro) <;> omega) | omega | ((repeat' split) <;> first | rfl | omega))
    exact ⟨_, _, eX, eM, rfl, q, Fr.rf⟩
def RPump : Reg := [(1, 7), (154, 0)]
def JPump (g : AG) : Prop := ∀ p : Nat, p < 16 → g 154 p = if tb (g 1 6) p = true then 1 else 0
theorem JPump.cg {g g' : AG} (h : ∀ k i, inR RPump k i = true → g' k i = g k i) (q : JPump g) : JPump g' := by
  have q1 : JPump (rs (inR RPump) g) := q
  rw [← rs_eq h] at q1
  exact q1
theorem sm_pump {x1 x2 : Int} {g : AG} (h1 : I32 x1) (h2 : x2 = 0 ∨ x2 = 1) (q : JPump g) :
    ∃ r1 r2, X_pump x1 x2 g = some r1 ∧ M_pump x1 x2 r1.2 = some r2 ∧ nw r1.1 = nw r2.1 ∧ JPump r2.2 ∧ FR RPump g r2.2 := by
  unfold I32 at *
  by_cases h : 0 ≤ x1 ∧ x1 ≤ 15
  · obtain ⟨n, rfl⟩ := natOf h.1
    have eM : ∀ g, M_pump n x2 g = some (1, up g 154 n x2) := by
      intro g
      unfold M_pump
      simp (disch := omega) only [nw_id, ix_id, sb, if_pos, if_neg, isPoint0, Int.toNat_natCast]
    have eX : X_pump n x2 g = some (1, up g 1 6 (if x2 = 0 then andI (g 1 6) (xorI (shlI 1 n) (-1)) else orI (g 1 6) (shlI 1 n))) := by
      unfold X_pump Canal_setPump
      simp (disch := omega) only [nw_id, ix_id, sb, if_pos, if_neg, isPointX0]
      by_cases e : x2 = 0
      · simp (disch := omega) only [nw_id, ix_id, sb, if_pos, if_neg]
      · simp (disch := omega) only [nw_id, ix_id, sb, if_pos, if_neg]
    refine ⟨_, _, eX, eM _, rfl, ?_, Fr.up (Fr.up Fr.rf rfl) rfl⟩
    intro p hp
    have := q p hp
    simp only [up_at, Nat.reduceEqDiff, false_and, true_and, and_self, reduceIte]
    rcases h2 with e | e
    · subst e
      simp only [reduceIte, tb_and, tb_xor, tb_m1 (show p < 32 by omega), tb_shl1 n (by omega) (show p < 32 by omega)]
      by_cases e : p = n
      · simp [e]
      · simp [e, this]
    · subst e
      rw [if_neg (show ¬ (1 : Int) = 0 by decide), tb_or, tb_shl1 n (by omega) (show p < 32 by omega)]
      by_cases e : p = n
      · simp [e]
      · simp [e, this]
  · have eX : X_pump x1 x2 g = some (0, g) := by
      unfold X_pump
      simp (disch := omega) only [nw_id, ix_id, sb, if_pos, if_neg, isPointX0]
    have eM : M_pump x1 x2 g = some (0, g) := by
      unfold M_pump
      simp (disch := omega) only [nw_id, ix_id, sb, if_pos, if_neg, isPoint0]
    exact ⟨_, _, eX, eM, rfl, q, Fr.rf⟩
def RJob : Reg := [(10, 8), (117, 88), (103, 0), (178, 0)]
def JJob (g : AG) : Prop := (g 117 87 = g 10 7 ∧ 0 ≤ g 10 7 ∧ g 10 7 ≤ 8) ∧ ∀ k : Nat, (k : Int) < g 10 7 → g 178 k = g 103 k ∧ 1 ≤ g 103 k ∧ g 103 k ≤ 300
theorem JJob.cg {g g' : AG} (h : ∀ k i, inR RJob k i = true → g' k i = g k i) (q : JJob g) : JJob g' := by
  have q1 : JJob (rs (inR RJob) g) := q
  rw [← rs_eq h] at q1
  exact q1
theorem sm_job {x1 : Int} {g : AG} (h1 : I32 x1) (q : JJob g) :
    ∃ r1 r2, X_job x1 g = some r1 ∧ M_job x1 r1.2 = some r2 ∧ nw r1.1 = nw r2.1 ∧ JJob r2.2 ∧ FR RJob g r2.2 := by
  unfold I32 at *
  obtain ⟨⟨q1, q2, q3⟩, q4⟩ := q
  by_cases h0 : x1 = 0
  · have eX : X_job x1 g = some (0, up g 10 7 0) := by
      unfold X_job
      simp (disch := omega) only [nw_id, ix_id, sb, if_pos, if_neg]
    have eM : ∀ g, M_job x1 g = some (0, up g 117 87 0) := by
      intro g
      unfold M_job
      simp (disch := omega) only [nw_id, ix_id, sb, if_pos, if_neg]
    refine ⟨_, _, eX, eM _, rfl, ⟨by simp [up_at], ?_⟩, Fr.up (Fr.up Fr.rf rfl) rfl⟩
    intro k hk
    simp [up_at] at hk
    omega
  · by_cases h : 1 ≤ x1 ∧ x1 ≤ 300 ∧ g 10 7 < 8
    · obtain ⟨n, hn⟩ := natOf q2
      have eX : X_job x1 g = some (g 10 7 + 1, up (up g 103 n x1) 10 7 (g 10 7 + 1)) := by
        unfold X_job Yard_addJob
        simp (disch := omega) only [nw_id, ix_id, sb, if_pos, if_neg, within0, up_at, Nat.reduceEqDiff, false_and, and_self, reduceIte, hn, Int.toNat_natCast]
      have eM : ∀ g, 0 ≤ g 117 87 → g 117 87 < 8 → M_job x1 g = some (g 117 87 + 1, up (up g 178 (g 117 87).toNat x1) 117 87 (g 117 87 + 1)) := by
        intro g a b
        unfold M_job
        simp (disch := omega) only [nw_id, ix_id, sb, if_pos, if_neg, isIn0, up_at, Nat.reduceEqDiff, false_and, and_self, reduceIte]
      have eM1 := eM (up (up g 103 n x1) 10 7 (g 10 7 + 1)) (by simp [up_at]; omega) (by simp [up_at]; omega)
      simp only [up_at, Nat.reduceEqDiff, false_and, and_self, reduceIte, q1, hn, Int.toNat_natCast] at eM1
      rw [hn] at eX
      refine ⟨_, _, eX, eM1, rfl, ⟨?_, ?_⟩, ?_⟩
      · simp [up_at]; omega
      · intro k hk
        simp only [up_at, Nat.reduceEqDiff, false_and, true_and, and_self, reduceIte] at hk ⊢
        by_cases e : k = n
        · simp only [e, reduceIte]; simp; omega
        · have := q4 k (by omega)
          simp only [e, reduceIte]; omega
      · refine Fr.up (Fr.up (Fr.up (Fr.up Fr.rf ?_) ?_) ?_) ?_ <;> rfl
    · have eX : X_job x1 g = some (-1, g) := by
        unfold X_job Yard_addJob
        simp (disch := omega) only [nw_id, ix_id, sb, if_pos, if_neg, within0]
        ((repeat (first | (split; · with_reducible rfl) | (split; rotate_left 1; · with_reducible rfl))) <;> first | with_reducible rfl | (refine absurd ?_ h; clear h; (repeat' apply And.intro) <;> omega) | omega | ((repeat' split) <;> first | rfl | omega))
      have eM : M_job x1 g = some (-1, g) := by
        unfold M_job
        simp (disch := omega) only [nw_id, ix_id, sb, if_pos, if_neg, isIn0]
        ((repeat (first | (split; · with_reducible rfl) | (split; rotate_left 1; · with_reducible rfl))) <;> first | with_reducible rfl | (refine absurd ?_ h; clear h; (repeat' apply And.intro) <;> omega) | omega | ((repeat' split) <;> first | rfl | omega))
      exact ⟨_, _, eX, eM, rfl, ⟨⟨q1, q2, q3⟩, q4⟩, Fr.rf⟩
def RCall : Reg := [(11, 6), (117, 93), (109, 0), (110, 0), (111, 0), (181, 0), (182, 0), (183, 0)]
def JCall (g : AG) : Prop := (g 117 92 = g 11 5 ∧ 0 ≤ g 11 5 ∧ g 11 5 ≤ 12) ∧ ∀ k : Nat, (k : Int) < g 11 5 → (g 181 k = g 109 k ∧ g 182 k = g 110 k ∧ g 183 k = g 111 k) ∧ (0 ≤ g 109 k ∧ g 109 k ≤ 9999) ∧ (0 ≤ g 110 k ∧ g 110 k ≤ 15) ∧ (1 ≤ g 111 k ∧ g 111 k ≤ 300)
theorem JCall.cg {g g' : AG} (h : ∀ k i, inR RCall k i = true → g' k i = g k i) (q : JCall g) : JCall g' := by
  have q1 : JCall (rs (inR RCall) g) := q
  rw [← rs_eq h] at q1
  exact q1
theorem sm_call {x1 x2 x3 : Int} {g : AG} (h1 : I32 x1) (h2 : I32 x2) (h3 : I32 x3) (q : JCall g) :
    ∃ r1 r2, X_call x1 x2 x3 g = some r1 ∧ M_call x1 x2 x3 r1.2 = some r2 ∧ nw r1.1 = nw r2.1 ∧ JCall r2.2 ∧ FR RCall g r2.2 := by
  unfold I32 at *
  obtain ⟨⟨q1, q2, q3⟩, q4⟩ := q
  by_cases h0 : x3 = 0
  · have eX : X_call x1 x2 x3 g = some (0, up g 11 5 0) := by
      unfold X_call
      simp (disch := omega) only [nw_id, ix_id, sb, if_pos, if_neg]
    have eM : ∀ g, M_call x1 x2 x3 g = some (0, up g 117 92 0) := by
      intro g
      unfold M_call
      simp (disch := omega) only [nw_id, ix_id, sb, if_pos, if_neg]
    refine ⟨_, _, eX, eM _, rfl, ⟨by simp [up_at], ?_⟩, Fr.up (Fr.up Fr.rf rfl) rfl⟩
    intro k hk
    simp [up_at] at hk
    omega
  · obtain ⟨n, hn⟩ := natOf q2
    have hl : 0 < n → (g 181 (n - 1) = g 109 (n - 1)) ∧ 0 ≤ g 109 (n - 1) ∧ g 109 (n - 1) ≤ 9999 := fun a => ⟨(q4 (n - 1) (by omega)).1.1, (q4 (n - 1) (by omega)).2.1⟩
    by_cases h : 0 ≤ x1 ∧ x1 ≤ 9999 ∧ 0 ≤ x2 ∧ x2 ≤ 15 ∧ 1 ≤ x3 ∧ x3 ≤ 300 ∧ g 11 5 < 12 ∧ (n = 0 ∨ g 109 (n - 1) ≤ x1)
    · have eX : X_call x1 x2 x3 g = some (g 11 5 + 1, up (up (up (up g 109 n x1) 110 n x2) 111 n x3) 11 5 (g 11 5 + 1)) := by
        unfold X_call Vans_addCall Vans_addCall_b
        simp (disch := omega) only [nw_id, ix_id, sb, if_pos, if_neg, within0, isPointX0, up_at, Nat.reduceEqDiff, false_and, and_self, reduceIte, hn, Int.toNat_natCast]
        by_cases e : n = 0
        · simp (disch := omega) only [nw_id, ix_id, sb, if_pos, if_neg]
        · have := hl (by omega)
          rw [show ((n : Int) - 1).toNat = n - 1 by omega]
          simp (disch := omega) only [nw_id, ix_id, sb, if_pos, if_neg]
      have eM : ∀ g' : AG, g' 117 92 = n → g' 181 (n - 1) = g 181 (n - 1) → M_call x1 x2 x3 g' = some ((n : Int) + 1, up (up (up (up g' 181 n x1) 182 n x2) 183 n x3) 117 92 ((n : Int) + 1)) := by
        intro g' a b
        unfold M_call M_call_b
        simp (disch := omega) only [nw_id, ix_id, sb, if_pos, if_neg, isIn0, isPoint0, up_at, Nat.reduceEqDiff, false_and, and_self, reduceIte, a, Int.toNat_natCast]
        by_cases e : n = 0
        · simp (disch := omega) only [nw_id, ix_id, sb, if_pos, if_neg]
        · have := hl (by omega)
          rw [show ((n : Int) - 1).toNat = n - 1 by omega]
          simp (disch := omega) only [nw_id, ix_id, sb, if_pos, if_neg]
      have eM1 := eM (up (up (up (up g 109 n x1) 110 n x2) 111 n x3) 11 5 (g 11 5 + 1)) (by simp [up_at]; omega) (by simp [up_at])
      refine ⟨_, _, eX, eM1, by rw [hn], ⟨?_, ?_⟩, ?_⟩
      · simp [up_at]; omega
      · intro k hk
        simp only [up_at, Nat.reduceEqDiff, false_and, true_and, and_self, reduceIte] at hk ⊢
        by_cases e : k = n
        · simp only [e, reduceIte]; simp; omega
        · have := q4 k (by omega)
          simp only [e, reduceIte]; omega
      · refine Fr.up (Fr.up (Fr.up (Fr.up (Fr.up (Fr.up (Fr.up (Fr.up Fr.rf ?_) ?_) ?_) ?_) ?_) ?_) ?_) ?_ <;> rfl
    · have eX : X_call x1 x2 x3 g = some (-1, g) := by
        unfold X_call Vans_addCall
        generalize Vans_addCall_b x1 x2 x3 g = big
        revert h
        by_cases e : n = 0
        · clear hl
          simp (disch := omega) only [nw_id, ix_id, within0, isPointX0, hn]
          intro h
          simp only [sb]
          ((repeat (first | (split; · with_reducible rfl) | (split; rotate_left 1; · with_reducible rfl))) <;> first | with_reducible rfl | (refine absurd ?_ h; clear h; (repeat' apply And.intro) <;> omega) | omega | ((repeat' split) <;> first | rfl | omega))
        · have := hl (by omega)
          clear hl
          simp (disch := omega) only [nw_id, ix_id, within0, isPointX0, hn]
          rw [show ((n : Int) - 1).toNat = n - 1 by omega]
          simp (disch := omega) only [nw_id, ix_id]
          intro h
          simp only [sb]
          ((repeat (first | (split; · with_reducible rfl) | (split; rotate_left 1; · with_reducible rfl))) <;> first | with_reducible rfl | (refine absurd ?_ h; clear h; (repeat' apply And.intro) <;> omega) | omega | ((repeat' split) <;> first | rfl | omega))
      have eM : M_call x1 x2 x3 g = some (-1, g) := by
        unfold M_call
        generalize M_call_b x1 x2 x3 g = big
        revert h
        by_cases e : n = 0
        · clear hl
          simp (disch := omega) only [nw_id, ix_id, isIn0, isPoint0, q1, hn]
          intro h
          ((repeat (first | (split; · with_reducible rfl) | (split; rotate_left 1; · with_reducible rfl))) <;> first | with_reducible rfl | (refine absurd ?_ h; clear h; (repeat' apply And.intro) <;> omega) | omega | ((repeat' split) <;> first | rfl | omega))
        · have := hl (by omega)
          clear hl
          simp (disch := omega) only [nw_id, ix_id, isIn0, isPoint0, q1, hn]
          rw [show ((n : Int) - 1).toNat = n - 1 by omega]
          simp (disch := omega) only [nw_id, ix_id]
          intro h
          ((repeat (first | (split; · with_reducible rfl) | (split; rotate_left 1; · with_reducible rfl))) <;> first | with_reducible rfl | (refine absurd ?_ h; clear h; (repeat' apply And.intro) <;> omega) | omega | ((repeat' split) <;> first | rfl | omega))
      exact ⟨_, _, eX, eM, rfl, ⟨⟨q1, q2, q3⟩, q4⟩, Fr.rf⟩
end
section
/-! plain programs: the tape -/
theorem mask_b (k : Nat) (x : Int32) (m : Int32) (hk : k ≤ 30) (hm : m.toBitVec.toNat = 2 ^ k - 1) : (x &&& m) = Int32.ofInt ((x.toBitVec.toNat % 2 ^ k : Nat) : Int) := by
  have e : x = nI x.toBitVec.toNat := Int32.toBitVec_inj.mp (by show _ = BitVec.ofNat 32 _; simp)
  have h := pk_andN (n := x.toBitVec.toNat) (by exact x.toBitVec.isLt) k hm
  rw [oI, ← h, ← e]
theorem and255 (y : Int) : 0 ≤ andI y 255 ∧ andI y 255 ≤ 255 := by
  unfold andI
  have h : (255 : Int32) = Int32.ofInt 255 := rfl
  rw [← h, mask_b 8 _ 255 (by decide) (by decide), Int32.toInt_ofInt]
  have h1 : (Int32.ofInt y).toBitVec.toNat % 2 ^ 8 < 2 ^ 8 := Nat.mod_lt _ (by decide)
  have e := nw_id (a := (((Int32.ofInt y).toBitVec.toNat % 2 ^ 8 : Nat) : Int)) (by omega) (by omega)
  unfold nw at e
  have e2 : (((Int32.ofInt y).toBitVec.toNat % 2 ^ 8 : Nat) : Int).bmod (2 ^ 32) = (((Int32.ofInt y).toBitVec.toNat % 2 ^ 8 : Nat) : Int) := e
  rw [e2]
  omega
theorem tb_ushr (x : Int) (k : Nat) (hk : k < 32) {i : Nat} (hi : i < 32) : tb (ushrI x k) i = bt (Int32.ofInt x) (k + i) := by
  unfold ushrI; rw [tb_toInt, oI, b_ushr k hk]
theorem tb_255 (i : Nat) : tb 255 i = decide (i < 8) := b_255 i
theorem sh_eq (x : Int) (k : Nat) (hk : k ≤ 24) : andI (shrI x k) 255 = andI (ushrI x k) 255 := by
  rw [← nw_and, ← nw_and (ushrI x k)]
  refine tb_ext (fun i hi => ?_)
  rw [tb_and, tb_and, tb_255, tb_ushr x k (by omega) hi]
  by_cases h : i < 8
  · rw [tb_shr x k (by omega) (by omega)]; rfl
  · simp [h]
def RTape : Reg := [(4, 3), (117, 38), (41, 0), (146, 0)]
def JTape (g : AG) : Prop := (g 117 37 = g 4 2 ∧ 0 ≤ g 4 2 ∧ g 4 2 ≤ 500) ∧ ∀ k : Nat, (k : Int) < g 4 2 → g 146 k = g 41 k ∧ 0 ≤ g 41 k ∧ g 41 k ≤ 255
theorem JTape.cg {g g' : AG} (h : ∀ k i, inR RTape k i = true → g' k i = g k i) (q : JTape g) : JTape g' := by
  have q1 : JTape (rs (inR RTape) g) := q
  rw [← rs_eq h] at q1
  exact q1
theorem sm_end {x1 : Int} {g : AG} (h1 : I32 x1) (q : JTape g) :
    ∃ r1 r2, X_end x1 g = some r1 ∧ M_end x1 r1.2 = some r2 ∧ nw r1.1 = nw r2.1 ∧ JTape r2.2 ∧ FR [(4, 3), (117, 38)] g r2.2 := by
  unfold I32 at *
  obtain ⟨⟨q1, q2, q3⟩, q4⟩ := q
  by_cases h : 0 ≤ x1 ∧ x1 ≤ g 4 2
  · have eX : X_end x1 g = some (1, up g 4 2 x1) := by
      unfold X_end
      simp (disch := omega) only [nw_id, ix_id, sb, if_pos, if_neg, true_and, and_true, false_and]
    have eM : ∀ g' : AG, g' 117 37 = g 4 2 → M_end x1 g' = some (1, up g' 117 37 x1) := by
      intro g' a
      unfold M_end
      simp (disch := omega) only [nw_id, ix_id, sb, if_pos, if_neg, true_and, and_true, false_and, isIn0, a]
    refine ⟨_, _, eX, eM _ (by simp [up_at, q1]), rfl, ⟨by simp [up_at]; omega, ?_⟩, Fr.up (Fr.up Fr.rf rfl) rfl⟩
    intro k hk
    simp [up_at] at hk ⊢
    exact q4 k (by omega)
  · have eX : X_end x1 g = some (0, g) := by
      unfold X_end
      simp (disch := omega) only [nw_id, ix_id, sb, if_pos, if_neg, true_and, and_true, false_and]
      ((repeat (first | (split; · with_reducible rfl) | (split; rotate_left 1; · with_reducible rfl))) <;> first | with_reducible rfl | (refine absurd ?_ h; clear h; (repeat' apply And.intro) <;> omega) | omega | ((repeat' split) <;> first | rfl | omega))
    have eM : M_end x1 g = some (0, g) := by
      unfold M_end
      simp (disch := omega) only [nw_id, ix_id, sb, if_pos, if_neg, true_and, and_true, false_and, isIn0, q1]
    exact ⟨_, _, eX, eM, rfl, ⟨⟨q1, q2, q3⟩, q4⟩, Fr.rf⟩
def putG (g : AG) (L : Nat) (x : Int) : AG := fun a b => if a = 41 ∧ L ≤ b ∧ b < L + 4 then andI (ushrI x (24 - 8 * ((b - L : Nat) : Int))) 255 else if a = 4 ∧ b = 2 then (L : Int) + 4 else g a b
theorem Parser_put_s {x : Int} {g : AG} {L : Nat} (h : g 4 2 = L) (hL : L + 4 ≤ 500) : Parser_put x g = some (0, putG g L x) := by
  have t1 : ((L : Int) + 1).toNat = L + 1 := by omega
  have t2 : ((L : Int) + 1 + 1).toNat = L + 2 := by omega
  have t3 : ((L : Int) + 1 + 1 + 1).toNat = L + 3 := by omega
  unfold Parser_put
  rw [Parser_put_b]
  simp (disch := omega) only [nw_id, ix_id, sb, if_pos, if_neg, true_and, and_true, false_and, up_at, Nat.reduceEqDiff, false_and, and_self, reduceIte, h, Int.toNat_natCast]
  rw [Parser_put_b]
  simp (disch := omega) only [nw_id, ix_id, sb, if_pos, if_neg, true_and, and_true, false_and, up_at, Nat.reduceEqDiff, false_and, and_self, reduceIte, h, Int.toNat_natCast, t1]
  rw [Parser_put_b]
  simp (disch := omega) only [nw_id, ix_id, sb, if_pos, if_neg, true_and, and_true, false_and, up_at, Nat.reduceEqDiff, false_and, and_self, reduceIte, h, Int.toNat_natCast, t1, t2]
  rw [Parser_put_b]
  simp (disch := omega) only [nw_id, ix_id, sb, if_pos, if_neg, true_and, and_true, false_and, up_at, Nat.reduceEqDiff, false_and, and_self, reduceIte, h, Int.toNat_natCast, t1, t2, t3]
  rw [Parser_put_b]
  simp (disch := omega) only [nw_id, ix_id, sb, if_pos, if_neg, true_and, and_true, false_and, up_at, Nat.reduceEqDiff, false_and, and_self, reduceIte, h, Int.toNat_natCast, t1, t2, t3]
  congr 2
  funext a b
  simp only [up_at, putG]
  by_cases e : a = 4
  · subst e
    by_cases e2 : b = 2
    · subst e2; simp; omega
    · simp [e2]
  · simp only [e, false_and, if_false]
    by_cases e1 : a = 41
    · subst e1
      by_cases b0 : b = L
      · subst b0; simp
      by_cases b1 : b = L + 1
      · subst b1; simp
      by_cases b2 : b = L + 2
      · subst b2; simp
      by_cases b3 : b = L + 3
      · subst b3; simp
      simp (disch := omega) only [nw_id, ix_id, sb, if_pos, if_neg, true_and, and_true, false_and]
    · simp [e1]
def fdF (x1 x2 x3 x4 x5 k : Int) : Int := andI (shrI (if 4 ≤ k then (if 8 ≤ k then (if 12 ≤ k then (if 16 ≤ k then x5 else x4) else x3) else x2) else x1) (24 - 8 * (k % 4))) 255
theorem M_feed_b_s (x1 x2 x3 x4 x5 : Int) (L : Nat) (hL : L + 20 ≤ 500) : ∀ (n k : Nat) (g : AG), n + k = 20 → g 117 37 = (L : Int) + k → M_feed_b x1 x2 x3 x4 x5 k g = some ((L : Int) + 20, fun a b => if a = 146 ∧ L + k ≤ b ∧ b < L + 20 then fdF x1 x2 x3 x4 x5 ((b - L : Nat) : Int) else if a = 117 ∧ b = 37 then (L : Int) + 20 else g a b) := by
  intro n
  induction n with
  | zero =>
    intro k g h hg
    rw [M_feed_b]
    simp (disch := omega) only [nw_id, ix_id, sb, if_pos, if_neg, true_and, and_true, false_and]
    rw [hg]
    congr 2
    · omega
    · funext a b
      by_cases e : a = 117 ∧ b = 37
      · obtain ⟨rfl, rfl⟩ := e
        simp (disch := omega) only [nw_id, ix_id, sb, if_pos, if_neg, true_and, and_true, false_and, Nat.reduceEqDiff, false_and, and_self]
        omega
      · simp (disch := omega) only [nw_id, ix_id, sb, if_pos, if_neg, true_and, and_true, false_and]
  | succ n ih =>
    intro k g h hg
    rw [M_feed_b]
    simp (disch := omega) only [nw_id, ix_id, sb, if_pos, if_neg, true_and, and_true, false_and, hg, up_at, Nat.reduceEqDiff, false_and, and_self, reduceIte, tmE]
    have e := ih (k + 1) (up (up g 146 ((L : Int) + k).toNat (fdF x1 x2 x3 x4 x5 k)) 117 37 ((L : Int) + k + 1)) (by omega) (by simp [up_at]; omega)
    rw [show ((k + 1 : Nat) : Int) = (k : Int) + 1 from rfl] at e
    refine e.trans ?_
    congr 2
    funext a b
    simp only [up_at]
    by_cases e1 : a = 117
    · subst e1; simp
      split <;> rfl
    · simp only [e1, false_and, if_false]
      by_cases e2 : a = 146
      · subst e2
        by_cases e3 : b = L + k
        · subst e3
          simp (disch := omega) only [nw_id, ix_id, sb, if_pos, if_neg, true_and, and_true, false_and]
          rw [show ((L + k - L : Nat) : Int) = (k : Int) by omega]
        · by_cases e4 : L + (k + 1) ≤ b ∧ b < L + 20
          · simp (disch := omega) only [nw_id, ix_id, sb, if_pos, if_neg, true_and, and_true, false_and]
          · simp (disch := omega) only [nw_id, ix_id, sb, if_pos, if_neg, true_and, and_true, false_and]
      · simp [e2]
theorem putG_in {g : AG} {L b : Nat} {x : Int} (h1 : L ≤ b) (h2 : b < L + 4) : putG g L x 41 b = andI (ushrI x (24 - 8 * ((b - L : Nat) : Int))) 255 := if_pos ⟨rfl, h1, h2⟩
theorem putG_lt {g : AG} {L b : Nat} {x : Int} (h1 : b < L) : putG g L x 41 b = g 41 b := by
  unfold putG
  rw [if_neg (by omega), if_neg (by omega)]
theorem putG_o {g : AG} {L a b : Nat} {x : Int} (h1 : a ≠ 41) (h2 : a ≠ 4) : putG g L x a b = g a b := by
  unfold putG
  rw [if_neg (by omega), if_neg (by omega)]
theorem fd_key (a b : Int) (h : ∃ (x : Int) (s : Nat), s ≤ 24 ∧ a = andI (shrI x (s : Int)) 255 ∧ b = andI (ushrI x (s : Int)) 255) : a = b ∧ 0 ≤ b ∧ b ≤ 255 := by
  obtain ⟨x, s, hs, rfl, rfl⟩ := h
  exact ⟨sh_eq x s hs, and255 _⟩
theorem fd_read {g : AG} {L : Nat} {x1 x2 x3 x4 x5 : Int} {j : Nat} (hj : j < 20) : fdF x1 x2 x3 x4 x5 (j : Int) = putG (putG (putG (putG (putG g L x1) (L + 4) x2) (L + 8) x3) (L + 12) x4) (L + 16) x5 41 (L + j) ∧ 0 ≤ putG (putG (putG (putG (putG g L x1) (L + 4) x2) (L + 8) x3) (L + 12) x4) (L + 16) x5 41 (L + j) ∧ putG (putG (putG (putG (putG g L x1) (L + 4) x2) (L + 8) x3) (L + 12) x4) (L + 16) x5 41 (L + j) ≤ 255 := by
  have hj : j = 0 ∨ j = 1 ∨ j = 2 ∨ j = 3 ∨ j = 4 ∨ j = 5 ∨ j = 6 ∨ j = 7 ∨ j = 8 ∨ j = 9 ∨ j = 10 ∨ j = 11 ∨ j = 12 ∨ j = 13 ∨ j = 14 ∨ j = 15 ∨ j = 16 ∨ j = 17 ∨ j = 18 ∨ j = 19 := by omega
  refine fd_key _ _ ?_
  rcases hj with e | e | e | e | e | e | e | e | e | e | e | e | e | e | e | e | e | e | e | e <;> subst e
  · exact ⟨x1, 24, by decide, rfl, by rw [putG_lt (by omega), putG_lt (by omega), putG_lt (by omega), putG_lt (by omega), putG_in (by omega) (by omega), show L + 0 - L = 0 by omega]; rfl⟩
  · exact ⟨x1, 16, by decide, rfl, by rw [putG_lt (by omega), putG_lt (by omega), putG_lt (by omega), putG_lt (by omega), putG_in (by omega) (by omega), show L + 1 - L = 1 by omega]; rfl⟩
  · exact ⟨x1, 8, by decide, rfl, by rw [putG_lt (by omega), putG_lt (by omega), putG_lt (by omega), putG_lt (by omega), putG_in (by omega) (by omega), show L + 2 - L = 2 by omega]; rfl⟩
  · exact ⟨x1, 0, by decide, rfl, by rw [putG_lt (by omega), putG_lt (by omega), putG_lt (by omega), putG_lt (by omega), putG_in (by omega) (by omega), show L + 3 - L = 3 by omega]; rfl⟩
  · exact ⟨x2, 24, by decide, rfl, by rw [putG_lt (by omega), putG_lt (by omega), putG_lt (by omega), putG_in (by omega) (by omega), show L + 4 - (L + 4) = 0 by omega]; rfl⟩
  · exact ⟨x2, 16, by decide, rfl, by rw [putG_lt (by omega), putG_lt (by omega), putG_lt (by omega), putG_in (by omega) (by omega), show L + 5 - (L + 4) = 1 by omega]; rfl⟩
  · exact ⟨x2, 8, by decide, rfl, by rw [putG_lt (by omega), putG_lt (by omega), putG_lt (by omega), putG_in (by omega) (by omega), show L + 6 - (L + 4) = 2 by omega]; rfl⟩
  · exact ⟨x2, 0, by decide, rfl, by rw [putG_lt (by omega), putG_lt (by omega), putG_lt (by omega), putG_in (by omega) (by omega), show L + 7 - (L + 4) = 3 by omega]; rfl⟩
  · exact ⟨x3, 24, by decide, rfl, by rw [putG_lt (by omega), putG_lt (by omega), putG_in (by omega) (by omega), show L + 8 - (L + 8) = 0 by omega]; rfl⟩
  · exact ⟨x3, 16, by decide, rfl, by rw [putG_lt (by omega), putG_lt (by omega), putG_in (by omega) (by omega), show L + 9 - (L + 8) = 1 by omega]; rfl⟩
  · exact ⟨x3, 8, by decide, rfl, by rw [putG_lt (by omega), putG_lt (by omega), putG_in (by omega) (by omega), show L + 10 - (L + 8) = 2 by omega]; rfl⟩
  · exact ⟨x3, 0, by decide, rfl, by rw [putG_lt (by omega), putG_lt (by omega), putG_in (by omega) (by omega), show L + 11 - (L + 8) = 3 by omega]; rfl⟩
  · exact ⟨x4, 24, by decide, rfl, by rw [putG_lt (by omega), putG_in (by omega) (by omega), show L + 12 - (L + 12) = 0 by omega]; rfl⟩
  · exact ⟨x4, 16, by decide, rfl, by rw [putG_lt (by omega), putG_in (by omega) (by omega), show L + 13 - (L + 12) = 1 by omega]; rfl⟩
  · exact ⟨x4, 8, by decide, rfl, by rw [putG_lt (by omega), putG_in (by omega) (by omega), show L + 14 - (L + 12) = 2 by omega]; rfl⟩
  · exact ⟨x4, 0, by decide, rfl, by rw [putG_lt (by omega), putG_in (by omega) (by omega), show L + 15 - (L + 12) = 3 by omega]; rfl⟩
  · exact ⟨x5, 24, by decide, rfl, by rw [putG_in (by omega) (by omega), show L + 16 - (L + 16) = 0 by omega]; rfl⟩
  · exact ⟨x5, 16, by decide, rfl, by rw [putG_in (by omega) (by omega), show L + 17 - (L + 16) = 1 by omega]; rfl⟩
  · exact ⟨x5, 8, by decide, rfl, by rw [putG_in (by omega) (by omega), show L + 18 - (L + 16) = 2 by omega]; rfl⟩
  · exact ⟨x5, 0, by decide, rfl, by rw [putG_in (by omega) (by omega), show L + 19 - (L + 16) = 3 by omega]; rfl⟩
theorem sm_feed {x1 x2 x3 x4 x5 : Int} {g : AG} (q : JTape g) :
    ∃ r1 r2, X_feed x1 x2 x3 x4 x5 g = some r1 ∧ M_feed x1 x2 x3 x4 x5 r1.2 = some r2 ∧ nw r1.1 = nw r2.1 ∧ JTape r2.2 ∧ FR RTape g r2.2 := by
  obtain ⟨⟨q1, q2, q3⟩, q4⟩ := q
  obtain ⟨L, hL⟩ := natOf q2
  by_cases h : L + 20 ≤ 500
  · have eX : X_feed x1 x2 x3 x4 x5 g = some ((L : Int) + 20, putG (putG (putG (putG (putG g L x1) (L + 4) x2) (L + 8) x3) (L + 12) x4) (L + 16) x5) := by
      unfold X_feed
      simp (disch := omega) only [nw_id, ix_id, sb, if_pos, if_neg, true_and, and_true, false_and, hL]
      rw [Parser_put_s hL (by omega)]
      simp (disch := omega) only [nw_id, ix_id, sb, if_pos, if_neg, true_and, and_true, false_and]
      rw [Parser_put_s (L := L + 4) (by simp [putG]) (by omega)]
      simp (disch := omega) only [nw_id, ix_id, sb, if_pos, if_neg, true_and, and_true, false_and]
      rw [Parser_put_s (L := L + 8) (by simp [putG]; omega) (by omega)]
      simp (disch := omega) only [nw_id, ix_id, sb, if_pos, if_neg, true_and, and_true, false_and]
      rw [Parser_put_s (L := L + 12) (by simp [putG]; omega) (by omega)]
      simp (disch := omega) only [nw_id, ix_id, sb, if_pos, if_neg, true_and, and_true, false_and]
      rw [Parser_put_s (L := L + 16) (by simp [putG]; omega) (by omega)]
      simp (disch := omega) only [nw_id, ix_id, sb, if_pos, if_neg, true_and, and_true, false_and]
      congr 2
    have eM := M_feed_b_s x1 x2 x3 x4 x5 L h 20 0 (putG (putG (putG (putG (putG g L x1) (L + 4) x2) (L + 8) x3) (L + 12) x4) (L + 16) x5) (by omega) (by simp [putG]; omega)
    have eM1 : ∀ r, M_feed_b x1 x2 x3 x4 x5 0 (putG (putG (putG (putG (putG g L x1) (L + 4) x2) (L + 8) x3) (L + 12) x4) (L + 16) x5) = r → M_feed x1 x2 x3 x4 x5 (putG (putG (putG (putG (putG g L x1) (L + 4) x2) (L + 8) x3) (L + 12) x4) (L + 16) x5) = r := by
      intro r hr
      unfold M_feed
      rw [show (putG (putG (putG (putG (putG g L x1) (L + 4) x2) (L + 8) x3) (L + 12) x4) (L + 16) x5) 117 37 = (L : Int) by simp [putG, q1, hL]]
      simp (disch := omega) only [nw_id, ix_id, sb, if_pos, if_neg, true_and, and_true, false_and]
      exact hr
    refine ⟨_, _, eX, eM1 _ eM, rfl, ⟨?_, ?_⟩, ?_⟩
    · simp [putG]; omega
    · intro k hk
      have hk2 : k < L + 20 := by simp [putG] at hk; omega
      by_cases e : k < L
      · have := q4 k (by omega)
        simp [putG]
        rw [if_neg (by omega), if_neg (by omega), if_neg (by omega), if_neg (by omega), if_neg (by omega), if_neg (by omega)]
        exact this
      · obtain ⟨j, rfl⟩ : ∃ j, k = L + j := ⟨k - L, by omega⟩
        have h5 := fd_read (g := g) (L := L) (x1 := x1) (x2 := x2) (x3 := x3) (x4 := x4) (x5 := x5) (j := j) (by omega)
        dsimp only
        rw [if_pos (show 146 = 146 ∧ L + 0 ≤ L + j ∧ L + j < L + 20 from ⟨rfl, by omega, by omega⟩), if_neg (show ¬ (41 = 146 ∧ L + 0 ≤ L + j ∧ L + j < L + 20) by omega), if_neg (show ¬ (41 = 117 ∧ L + j = 37) by omega), show L + j - L = j by omega]
        exact h5
    · intro a b h
      have n1 : a ≠ 41 := fun e => by subst e; revert h; simp [RTape, inR, inP]
      have n2 : a ≠ 146 := fun e => by subst e; revert h; simp [RTape, inR, inP]
      have n3 : ¬ (a = 4 ∧ b = 2) := fun e => by obtain ⟨e1, e2⟩ := e; subst e1; subst e2; revert h; simp [RTape, inR, inP]
      have n4 : ¬ (a = 117 ∧ b = 37) := fun e => by obtain ⟨e1, e2⟩ := e; subst e1; subst e2; revert h; simp [RTape, inR, inP]
      simp only [putG, n1, n2, n3, n4, false_and, if_false]
  · have eX : X_feed x1 x2 x3 x4 x5 g = some (-1, g) := by
      unfold X_feed
      simp (disch := omega) only [nw_id, ix_id, sb, if_pos, if_neg, true_and, and_true, false_and, hL]
    have eM : M_feed x1 x2 x3 x4 x5 g = some (-1, g) := by
      unfold M_feed
      simp (disch := omega) only [nw_id, ix_id, sb, if_pos, if_neg, true_and, and_true, false_and, q1, hL]
    exact ⟨_, _, eX, eM, rfl, ⟨⟨q1, q2, q3⟩, q4⟩, Fr.rf⟩
end
section
/-! plain programs: logs, the dock's dates, looks -/
def RLog : Reg := [(74, 0), (155, 0), (156, 0), (157, 0), (53, 0), (54, 0), (55, 0), (56, 0), (57, 0), (58, 0), (59, 0), (60, 0), (61, 0), (62, 0), (64, 0), (65, 0), (66, 0), (67, 0), (68, 0), (69, 0), (70, 0), (71, 0), (72, 0), (73, 0)]
def JLog (g : AG) : Prop := (∀ b : Nat, b < 10 → g 155 b = g 74 b ∧ 0 ≤ g 74 b ∧ g 74 b ≤ 10) ∧ ∀ b j : Nat, b < 10 → (j : Int) < g 74 b → g 156 (10 * b + j) = g (53 + b) j ∧ g 157 (10 * b + j) = g (64 + b) j ∧ (0 ≤ g (53 + b) j ∧ g (53 + b) j ≤ 15) ∧ (0 ≤ g (64 + b) j ∧ g (64 + b) j ≤ 20159)
theorem RLog_at : ∀ b : Nat, b < 10 → ∀ j, inR RLog (53 + b) j = true ∧ inR RLog (64 + b) j = true := by
  intro b hb j
  have : b = 0 ∨ b = 1 ∨ b = 2 ∨ b = 3 ∨ b = 4 ∨ b = 5 ∨ b = 6 ∨ b = 7 ∨ b = 8 ∨ b = 9 := by omega
  rcases this with e | e | e | e | e | e | e | e | e | e <;> subst e <;> exact ⟨rfl, rfl⟩
theorem JLog.cg {g g' : AG} (h : ∀ k i, inR RLog k i = true → g' k i = g k i) (q : JLog g) : JLog g' := by
  obtain ⟨q1, q2⟩ := q
  refine ⟨fun b hb => ?_, fun b j hb hj => ?_⟩
  · rw [h 155 b rfl, h 74 b rfl]; exact q1 b hb
  · rw [h 74 b rfl] at hj
    rw [h 156 _ rfl, h 157 _ rfl, h (53 + b) j (RLog_at b hb j).1, h (64 + b) j (RLog_at b hb j).2]
    exact q2 b j hb hj
theorem sm_log {x1 x2 x3 : Int} {g : AG} (h1 : I32 x1) (h2 : I32 x2) (h3 : I32 x3) (hb : g 117 12 = g 6 7 ∧ 0 ≤ g 6 7 ∧ g 6 7 ≤ 10) (q : JLog g) :
    ∃ r1 r2, X_log x1 x2 x3 g = some r1 ∧ M_log x1 x2 x3 r1.2 = some r2 ∧ nw r1.1 = nw r2.1 ∧ JLog r2.2 ∧ FR RLog g r2.2 := by
  unfold I32 at *
  obtain ⟨q1, q4⟩ := q
  by_cases hB : 0 ≤ x1 ∧ x1 < g 6 7
  · obtain ⟨b, rfl⟩ := natOf hB.1
    obtain ⟨p1, p2, p3⟩ := q1 b (by omega)
    obtain ⟨n, hn⟩ := natOf p2
    have hl : 0 < n → (g 157 (10 * b + (n - 1)) = g (64 + b) (n - 1)) ∧ 0 ≤ g (64 + b) (n - 1) ∧ g (64 + b) (n - 1) ≤ 20159 := fun a => by
      have := q4 b (n - 1) (by omega) (by omega)
      exact ⟨this.2.1, this.2.2.2⟩
    have t1 : ((n : Int) - 1).toNat = n - 1 := by omega
    have t2 : (10 * (b : Int) + (n : Int)).toNat = 10 * b + n := by omega
    have t3 : 0 < n → (10 * (b : Int) + (n : Int) - 1).toNat = 10 * b + (n - 1) := by omega
    by_cases h : 0 ≤ x2 ∧ x2 ≤ 15 ∧ 0 ≤ x3 ∧ x3 ≤ 20159 ∧ n < 10 ∧ (n = 0 ∨ g (64 + b) (n - 1) < x3)
    · clear h1 h2 h3
      have eX : X_log b x2 x3 g = some ((n : Int) + 1, up (up (up g (53 + b) n x2) (64 + b) n x3) 74 b ((n : Int) + 1)) := by
        unfold X_log Boats_addLog Boats_addLog_b
        obtain ⟨y1, y2, y3, y4, y5, y6⟩ := h
        by_cases e : n = 0
        · clear hl t1 t2 t3 y6
          simp (disch := omega) only [nw_id, ix_id, sb, if_true, if_false, if_pos, if_neg, true_and, and_true, false_and, and_false, and_self, X_isWay0, hn, Int.toNat_natCast]
        · have := hl (by omega)
          replace y6 := y6.resolve_left e
          have u1 : Unit → ((n : Int) - 1).toNat = n - 1 := fun _ => t1
          clear hl t1 t2 t3
          simp (disch := omega) only [nw_id, ix_id, sb, if_true, if_false, if_pos, if_neg, true_and, and_true, false_and, and_false, and_self, X_isWay0, hn, Int.toNat_natCast, u1 ()]
      have eM : ∀ g' : AG, g' 117 12 = g 6 7 → g' 155 b = n → (0 < n → g' 157 (10 * b + (n - 1)) = g 157 (10 * b + (n - 1))) → M_log b x2 x3 g' = some ((n : Int) + 1, up (up (up g' 156 (10 * b + n) x2) 157 (10 * b + n) x3) 155 b ((n : Int) + 1)) := by
        intro g' a1 a2 a3
        unfold M_log M_log_b
        clear eX
        obtain ⟨y1, y2, y3, y4, y5, y6⟩ := h
        have u2 : Unit → (10 * (b : Int) + (n : Int)).toNat = 10 * b + n := fun _ => t2
        by_cases e : n = 0
        · clear hl t1 t2 t3 a3 y6
          simp (disch := omega) only [nw_id, ix_id, sb, if_true, if_false, if_pos, if_neg, true_and, and_true, false_and, and_false, and_self, M_isBoat0, isPoint0, isTime0, a1, a2, Int.toNat_natCast, u2 (), up_at, and_self, reduceIte]
        · have := hl (by omega)
          replace y6 := y6.resolve_left e
          have u3 : Unit → (10 * (b : Int) + (n : Int) - 1).toNat = 10 * b + (n - 1) := fun _ => t3 (by omega)
          replace a3 := a3 (by omega)
          clear hl t1 t2 t3
          simp (disch := omega) only [nw_id, ix_id, sb, if_true, if_false, if_pos, if_neg, true_and, and_true, false_and, and_false, and_self, M_isBoat0, isPoint0, isTime0, a1, a2, Int.toNat_natCast, u2 (), u3 (), a3, up_at, and_self, reduceIte]
      have eM1 := eM (up (up (up g (53 + b) n x2) (64 + b) n x3) 74 b ((n : Int) + 1)) (by simp (disch := omega) only [nw_id, ix_id, sb, if_true, if_false, if_pos, if_neg, true_and, and_true, false_and, and_false, and_self, up_at, Nat.reduceEqDiff, hb.1]) (by simp (disch := omega) only [nw_id, ix_id, sb, if_true, if_false, if_pos, if_neg, true_and, and_true, false_and, and_false, and_self, up_at, Nat.reduceEqDiff]; omega) (fun _ => by simp (disch := omega) only [nw_id, ix_id, sb, if_true, if_false, if_pos, if_neg, true_and, and_true, false_and, and_false, and_self, up_at, Nat.reduceEqDiff])
      refine ⟨_, _, eX, eM1, rfl, ⟨?_, ?_⟩, ?_⟩
      · intro b' hb'
        have := q1 b' hb'
        obtain ⟨y1, y2, y3, y4, y5, -⟩ := h
        clear hl t1 t2 t3 eX eM eM1
        by_cases e : b' = b
        · subst e; simp (disch := omega) only [nw_id, ix_id, sb, if_true, if_false, if_pos, if_neg, true_and, and_true, false_and, and_false, and_self, up_at, Nat.reduceEqDiff]; omega
        · simp (disch := omega) only [nw_id, ix_id, sb, if_true, if_false, if_pos, if_neg, true_and, and_true, false_and, and_false, and_self, up_at, Nat.reduceEqDiff]; omega
      · intro b' j hb' hj
        obtain ⟨y1, y2, y3, y4, y5, -⟩ := h
        clear t1 t2 t3 eX eM eM1
        by_cases e : b' = b
        · subst e
          have hj2 : j < n + 1 := by revert hj; simp (disch := omega) only [nw_id, ix_id, sb, if_true, if_false, if_pos, if_neg, true_and, and_true, false_and, and_false, and_self, up_at, Nat.reduceEqDiff]; omega
          clear hj
          by_cases e2 : j = n
          · subst e2; clear hl; simp (disch := omega) only [nw_id, ix_id, sb, if_true, if_false, if_pos, if_neg, true_and, and_true, false_and, and_false, and_self, up_at, Nat.reduceEqDiff]; omega
          · have := q4 b' j hb' (by omega)
            clear hl
            simp (disch := omega) only [nw_id, ix_id, sb, if_true, if_false, if_pos, if_neg, true_and, and_true, false_and, and_false, and_self, up_at, Nat.reduceEqDiff]; omega
        · have hj2 : (j : Int) < g 74 b' := by revert hj; simp (disch := omega) only [nw_id, ix_id, sb, if_true, if_false, if_pos, if_neg, true_and, and_true, false_and, and_false, and_self, up_at, Nat.reduceEqDiff]; omega
          have hj3 := q1 b' hb'
          clear hj
          have := q4 b' j hb' hj2
          clear hl
          simp (disch := omega) only [nw_id, ix_id, sb, if_true, if_false, if_pos, if_neg, true_and, and_true, false_and, and_false, and_self, up_at, Nat.reduceEqDiff]; omega
      · have r1 := RLog_at b (by omega) n
        refine Fr.up (Fr.up (Fr.up (Fr.up (Fr.up (Fr.up Fr.rf r1.1) r1.2) rfl) rfl) rfl) rfl
    · have eX : X_log b x2 x3 g = some (-1, g) := by
        unfold X_log Boats_addLog
        generalize Boats_addLog_b b x2 x3 (g 74 (ix b)) g = big
        revert h
        by_cases e : n = 0
        · clear hl t1 t2 t3
          simp (disch := omega) only [nw_id, ix_id, X_isWay0, hn, Int.toNat_natCast]
          intro h
          ((repeat (first | (split; · with_reducible rfl) | (split; rotate_left 1; · with_reducible rfl))) <;> first | with_reducible rfl | (refine absurd ?_ h; clear h; (repeat' apply And.intro) <;> omega) | omega | ((repeat' split) <;> first | rfl | omega))
        · have := hl (by omega)
          have u1 : Unit → ((n : Int) - 1).toNat = n - 1 := fun _ => t1
          clear hl t1 t2 t3
          simp (disch := omega) only [nw_id, ix_id, X_isWay0, hn, Int.toNat_natCast, u1 ()]
          intro h
          ((repeat (first | (split; · with_reducible rfl) | (split; rotate_left 1; · with_reducible rfl))) <;> first | with_reducible rfl | (refine absurd ?_ h; clear h; (repeat' apply And.intro) <;> omega) | omega | ((repeat' split) <;> first | rfl | omega))
      have eM : M_log b x2 x3 g = some (-1, g) := by
        unfold M_log
        generalize M_log_b b x2 x3 g = big
        revert h
        clear eX
        have u2 : Unit → (10 * (b : Int) + (n : Int)).toNat = 10 * b + n := fun _ => t2
        by_cases e : n = 0
        · clear hl t1 t2 t3
          simp (disch := omega) only [nw_id, ix_id, M_isBoat0, isPoint0, isTime0, p1, hn, Int.toNat_natCast, u2 ()]
          intro h
          ((repeat (first | (split; · with_reducible rfl) | (split; rotate_left 1; · with_reducible rfl))) <;> first | with_reducible rfl | (refine absurd ?_ h; clear h; (repeat' apply And.intro) <;> omega) | omega | ((repeat' split) <;> first | rfl | omega))
        · have := hl (by omega)
          have u3 : Unit → (10 * (b : Int) + (n : Int) - 1).toNat = 10 * b + (n - 1) := fun _ => t3 (by omega)
          clear hl t1 t2 t3
          simp (disch := omega) only [nw_id, ix_id, M_isBoat0, isPoint0, isTime0, p1, hn, Int.toNat_natCast, u2 (), u3 ()]
          intro h
          ((repeat (first | (split; · with_reducible rfl) | (split; rotate_left 1; · with_reducible rfl))) <;> first | with_reducible rfl | (refine absurd ?_ h; clear h; (repeat' apply And.intro) <;> omega) | omega | ((repeat' split) <;> first | rfl | omega))
      exact ⟨_, _, eX, eM, rfl, ⟨q1, q4⟩, Fr.rf⟩
  · have eX : X_log x1 x2 x3 g = some (-1, g) := by
      unfold X_log
      simp (disch := omega) only [nw_id, ix_id, sb, if_true, if_false, if_pos, if_neg, true_and, and_true, false_and, and_false, and_self, X_isWay0]
    have eM : M_log x1 x2 x3 g = some (-1, g) := by
      unfold M_log
      simp (disch := omega) only [nw_id, ix_id, sb, if_true, if_false, if_pos, if_neg, true_and, and_true, false_and, and_false, and_self, M_isBoat0]
    exact ⟨_, _, eX, eM, rfl, ⟨q1, q4⟩, Fr.rf⟩
end
section
/-! plain programs: the dock's dates, the stoppages -/
def RYard : Reg := [(97, 0), (98, 0), (173, 0), (174, 0), (6, 8)]
def dkF (g : AG) (k : Nat) : Int := if 0 < g 98 k then 1 else 0
def JYard (g : AG) : Prop := (∀ b : Nat, b < 10 → (0 < g 98 b → g 173 b = g 97 b) ∧ g 174 b = g 98 b ∧ (0 ≤ g 97 b ∧ g 97 b ≤ 999) ∧ (0 ≤ g 98 b ∧ g 98 b ≤ 60)) ∧ (∀ b : Nat, b < 10 → g 6 7 ≤ b → g 98 b = 0) ∧ sm (dkF g) 10 ≤ 7
theorem JYard.cg {g g' : AG} (h : ∀ k i, inR RYard k i = true → g' k i = g k i) (q : JYard g) : JYard g' := by
  obtain ⟨q1, q2, q3⟩ := q
  refine ⟨fun b hb => ?_, fun b hb hb2 => ?_, ?_⟩
  · rw [h 173 b rfl, h 97 b rfl, h 174 b rfl, h 98 b rfl]; exact q1 b hb
  · rw [h 6 7 rfl] at hb2
    rw [h 98 b rfl]; exact q2 b hb hb2
  · rw [show dkF g' = dkF g from funext fun k => by unfold dkF; rw [h 98 k rfl]]; exact q3
theorem othersX {g : AG} {x1 : Nat} (h1 : x1 < 10) : ∀ (n k : Nat) (acc : Int), n + k = 10 → 0 ≤ acc → acc ≤ k → (∀ b : Nat, b < 10 → -2147483648 ≤ g 98 b ∧ g 98 b ≤ 2147483647) → Yard_othersInDock_b x1 g acc k = some (acc + (sm (fun j => if j = x1 then 0 else dkF g j) 10 - sm (fun j => if j = x1 then 0 else dkF g j) k)) := by
  intro n
  induction n with
  | zero =>
    intro k acc h ha ha2 hr
    rw [Yard_othersInDock_b]
    simp (disch := omega) only [nw_id, ix_id, sb, if_true, if_false, if_pos, if_neg, true_and, and_true, false_and, and_false, and_self]
    rw [show k = 10 by omega]
    congr 1; omega
  | succ n ih =>
    intro k acc h ha ha2 hr
    have hk := hr k (by omega)
    rw [Yard_othersInDock_b]
    by_cases e : k = x1
    · subst e
      simp (disch := omega) only [nw_id, ix_id, sb, if_true, if_false, if_pos, if_neg, true_and, and_true, false_and, and_false, and_self]
      have e2 := ih (k + 1) (acc + 0) (by omega) (by omega) (by omega) hr
      rw [show ((k + 1 : Nat) : Int) = (k : Int) + 1 from rfl] at e2
      rw [e2]
      congr 1
      show _ = acc + (_ - sm _ k)
      rw [show sm (fun j => if j = k then 0 else dkF g j) (k + 1) = sm (fun j => if j = k then 0 else dkF g j) k + 0 from by show sm _ k + _ = _; simp]
      omega
    · simp (disch := omega) only [nw_id, ix_id, sb, if_true, if_false, if_pos, if_neg, true_and, and_true, false_and, and_false, and_self, Int.toNat_natCast]
      have e2 := ih (k + 1) (acc + dkF g k) (by omega) (by unfold dkF; split <;> omega) (by unfold dkF; split <;> omega) hr
      rw [show ((k + 1 : Nat) : Int) = (k : Int) + 1 from rfl] at e2
      have e3 : (if g 98 k ≤ 0 then (0 : Int) else 1) = dkF g k := by unfold dkF; split <;> split <;> omega
      rw [e3, e2]
      congr 1
      rw [show sm (fun j => if j = x1 then 0 else dkF g j) (k + 1) = sm (fun j => if j = x1 then 0 else dkF g j) k + dkF g k from by show sm _ k + _ = _; simp [e]]
      omega
theorem othersM {g : AG} {x1 N : Nat} {x2 x3 : Int} (h1 : x1 < 10) (hN : g 117 12 = N) (hN2 : N ≤ 10) : ∀ (n k : Nat) (acc : Int), n + k = N → 0 ≤ acc → acc ≤ k → (∀ b : Nat, b < 10 → -2147483648 ≤ g 174 b ∧ g 174 b ≤ 2147483647) →
    ∃ r, r = acc + (sm (fun j => if j = x1 then 0 else if 0 < g 174 j then 1 else 0) N - sm (fun j => if j = x1 then 0 else if 0 < g 174 j then 1 else 0) k) ∧ M_gas_b x1 x2 x3 1 acc k g = (if nw x3 = 0 then M_gas_b x1 x2 x3 2 r N g else (if nw r = 7 then some (0, g) else M_gas_b x1 x2 x3 2 r N g)) := by
  intro n
  induction n with
  | zero =>
    intro k acc h ha ha2 hr
    refine ⟨_, rfl, ?_⟩
    rw [show acc + (sm (fun j => if j = x1 then 0 else if 0 < g 174 j then 1 else 0) N - sm (fun j => if j = x1 then 0 else if 0 < g 174 j then 1 else 0) k) = acc by rw [show k = N by omega]; omega]
    rw [M_gas_b.eq_1 _ _ _ 1]
    rw [if_pos rfl, hN, if_pos (by rw [nw_id (by omega) (by omega), nw_id (by omega) (by omega)]; omega), show (k : Int) = N by omega]
  | succ n ih =>
    intro k acc h ha ha2 hr
    have hk := hr k (by omega)
    rw [M_gas_b.eq_1 _ _ _ 1]
    by_cases e : k = x1
    · subst e
      obtain ⟨r, hr1, hr2⟩ := ih (k + 1) (acc + 0) (by omega) (by omega) (by omega) hr
      refine ⟨r, ?_, ?_⟩
      · rw [hr1]
        rw [show sm (fun j => if j = k then 0 else if 0 < g 174 j then 1 else 0) (k + 1) = sm (fun j => if j = k then 0 else if 0 < g 174 j then 1 else 0) k + 0 from by show sm _ k + _ = _; simp]
        omega
      · rw [← hr2]
        rw [show ((k + 1 : Nat) : Int) = (k : Int) + 1 from rfl]
        simp (disch := omega) only [hN, nw_id, if_true, if_neg, sb]
    · have e3 : (if g 174 k ≤ 0 then (0 : Int) else 1) = (if 0 < g 174 k then 1 else 0) := by split <;> split <;> omega
      obtain ⟨r, hr1, hr2⟩ := ih (k + 1) (acc + (if 0 < g 174 k then 1 else 0)) (by omega) (by split <;> omega) (by split <;> omega) hr
      refine ⟨r, ?_, ?_⟩
      · rw [hr1]
        rw [show sm (fun j => if j = x1 then 0 else if 0 < g 174 j then 1 else 0) (k + 1) = sm (fun j => if j = x1 then 0 else if 0 < g 174 j then 1 else 0) k + (if 0 < g 174 k then 1 else 0) from by show sm _ k + _ = _; simp [e]]
        omega
      · rw [← hr2]
        rw [show ((k + 1 : Nat) : Int) = (k : Int) + 1 from rfl, ← e3]
        have c1 : ¬ nw (N : Int) ≤ nw (k : Int) := by rw [nw_id (by omega) (by omega), nw_id (by omega) (by omega)]; omega
        have c2 : ¬ nw (k : Int) = nw (x1 : Int) := by rw [nw_id (by omega) (by omega), nw_id (by omega) (by omega)]; omega
        have c3 : 0 ≤ nw (k : Int) ∧ nw (k : Int) < 10 := by rw [nw_id (by omega) (by omega)]; omega
        rw [if_pos rfl, hN, if_neg c1, if_neg c2, if_pos c3, sb, sb, ix_id (by omega) (by omega), Int.toNat_natCast, nw_id hk.1 (by omega)]
theorem sm_gas {x1 x2 x3 : Int} {g : AG} (h1 : I32 x1) (h2 : I32 x2) (h3 : I32 x3) (hb : g 117 12 = g 6 7 ∧ 0 ≤ g 6 7 ∧ g 6 7 ≤ 10) (q : JYard g) :
    ∃ r1 r2, X_gas x1 x2 x3 g = some r1 ∧ M_gas x1 x2 x3 r1.2 = some r2 ∧ ((x3 ≠ 0 ∨ sm (dkF g) 10 < 7) → nw r1.1 = nw r2.1) ∧ JYard r2.2 ∧ FR [(97, 0), (98, 0), (173, 0), (174, 0)] g r2.2 := by
  unfold I32 at *
  obtain ⟨q1, q2, q3⟩ := q
  by_cases h : 0 ≤ x1 ∧ x1 < g 6 7 ∧ 0 ≤ x2 ∧ x2 ≤ 999 ∧ 0 ≤ x3 ∧ x3 ≤ 60
  · obtain ⟨b, rfl⟩ := natOf h.1
    obtain ⟨N, hN⟩ := natOf hb.2.1
    have oX := othersX (g := g) (x1 := b) (by omega) 10 0 0 (by omega) (by omega) (by omega) (fun b hb => by have := q1 b hb; omega)
    have hs : sm (fun j => if j = b then 0 else dkF g j) 10 ≤ 7 := Int.le_trans (sm_mono 10 (fun i hi => by unfold dkF; split <;> split <;> omega)) q3
    have hs0 : 0 ≤ sm (fun j => if j = b then 0 else dkF g j) 10 := sm_nn 10 (fun i hi => by unfold dkF; split <;> (try split) <;> omega)
    have eS : ∀ g' : AG, (∀ j : Nat, j < 10 → g' 174 j = g 98 j) → sm (fun j => if j = b then 0 else if 0 < g' 174 j then 1 else 0) N = sm (fun j => if j = b then 0 else dkF g j) 10 := by
      intro g' hg
      rw [sm_zero (f := fun j => if j = b then 0 else dkF g j) (n := N) 10 (by omega) (fun i hi hi2 => by have := q2 i hi2 (by omega); unfold dkF; simp [this])]
      refine sm_cg N (fun i hi => ?_)
      rw [hg i (by omega)]
      rfl
    have oM : ∀ g' : AG, g' 117 12 = N → (∀ j : Nat, j < 10 → g' 174 j = g 98 j) → M_gas_b b x2 x3 1 0 0 g' = (if nw x3 = 0 then M_gas_b b x2 x3 2 (sm (fun j => if j = b then 0 else dkF g j) 10) N g' else (if nw (sm (fun j => if j = b then 0 else dkF g j) 10) = 7 then some (0, g') else M_gas_b b x2 x3 2 (sm (fun j => if j = b then 0 else dkF g j) 10) N g')) := by
      intro g' a1 a2
      obtain ⟨r, hr1, hr2⟩ := othersM (g := g') (x1 := b) (x2 := x2) (x3 := x3) (by omega) a1 (by omega) N 0 0 (by omega) (by omega) (by omega) (fun j hj => by have := q1 j hj; rw [a2 j hj]; omega)
      rw [eS g' a2] at hr1
      have e : r = sm (fun j => if j = b then 0 else dkF g j) 10 := by rw [hr1]; show 0 + (_ - 0) = _; omega
      rw [← e]
      exact hr2
    have e0 : (0 : Int) + (sm (fun j => if j = b then 0 else dkF g j) 10 - sm (fun j => if j = b then 0 else dkF g j) 0) = sm (fun j => if j = b then 0 else dkF g j) 10 := by show (0 : Int) + (_ - 0) = _; omega
    rw [e0] at oX
    rw [show ((0 : Nat) : Int) = (0 : Int) from rfl] at oX
    have hs6 : sm (fun j => if j = b then 0 else dkF g j) 10 ≤ sm (dkF g) 10 := sm_mono 10 (fun i hi => by unfold dkF; split <;> split <;> omega)
    by_cases h7 : sm (fun j => if j = b then 0 else dkF g j) 10 < 7
    · have eX : X_gas b x2 x3 g = some (1, up (up g 97 b x2) 98 b x3) := by
        unfold X_gas Yard_tellDock Yard_othersInDock
        clear oM eS q3
        have hs9 : sm (fun j => if j = b then 0 else dkF g j) 10 < 7 := by omega
        rw [oX]
        simp (disch := omega) only [nw_id, ix_id, sb, if_true, if_false, if_pos, if_neg, true_and, and_true, false_and, and_false, and_self, X_isBoat0, within0, Int.toNat_natCast]
        simp (disch := omega) only [nw_id, ix_id, sb, if_true, if_false, if_pos, if_neg, true_and, and_true, false_and, and_false, and_self, true_or, or_true]
      have eM : M_gas b x2 x3 (up (up g 97 b x2) 98 b x3) = some (1, up (up (up (up g 97 b x2) 98 b x3) 173 b x2) 174 b x3) := by
        unfold M_gas
        rw [oM _ (by simp [up_at]; omega) (fun j hj => by simp [up_at]; have := q1 j hj; omega)]
        have c1 : nw (M_isBoat b (up (up g 97 b x2) 98 b x3)) = 0 ↔ False := by
          rw [M_isBoat0 (by omega) (by omega) (by simp [up_at]; omega) (by simp [up_at]; omega)]
          simp only [up_at, Nat.reduceEqDiff, false_and, if_false, iff_false]
          omega
        have c2 : ∀ r, M_gas_b b x2 x3 2 r N (up (up g 97 b x2) 98 b x3) = some (1, up (up (up (up g 97 b x2) 98 b x3) 173 b x2) 174 b x3) := by
          intro r
          rw [M_gas_b.eq_1 _ _ _ 2]
          clear oM eS q3 hs hs0 oX c1
          simp (disch := omega) only [nw_id, ix_id, sb, if_true, if_false, if_pos, if_neg, true_and, and_true, false_and, and_false, and_self, Int.toNat_natCast]
        simp only [c1, if_false, c2]
        clear oM eS q3 oX c1 c2
        simp (disch := omega) only [nw_id, ix_id, sb, if_true, if_false, if_pos, if_neg, true_and, and_true, false_and, and_false, and_self, isIn0]
        ((repeat (first | (split; · with_reducible rfl) | (split; rotate_left 1; · with_reducible rfl))) <;> first | with_reducible rfl | (refine absurd ?_ h; clear h; (repeat' apply And.intro) <;> omega) | omega | ((repeat' split) <;> first | rfl | omega))
      refine ⟨_, _, eX, eM, fun _ => rfl, ⟨?_, ?_, ?_⟩, ?_⟩
      · intro j hj
        have := q1 j hj
        clear oM eS q3 oX
        by_cases e : j = b
        · subst e; refine ⟨fun _ => by simp (disch := omega) only [nw_id, ix_id, sb, if_true, if_false, if_pos, if_neg, true_and, and_true, false_and, and_false, and_self, up_at, Nat.reduceEqDiff], ?_⟩; simp (disch := omega) only [nw_id, ix_id, sb, if_true, if_false, if_pos, if_neg, true_and, and_true, false_and, and_false, and_self, up_at, Nat.reduceEqDiff]; omega
        · simp (disch := omega) only [nw_id, ix_id, sb, if_true, if_false, if_pos, if_neg, true_and, and_true, false_and, and_false, and_self, up_at, Nat.reduceEqDiff]; omega
      · intro j hj hj2
        have hj3 : g 6 7 ≤ j := by simp [up_at] at hj2; omega
        have := q2 j hj hj3
        clear oM eS q3 oX
        simp (disch := omega) only [nw_id, ix_id, sb, if_true, if_false, if_pos, if_neg, true_and, and_true, false_and, and_false, and_self, up_at, Nat.reduceEqDiff]; omega
      · have f1 : ∀ j, dkF (up (up (up (up g 97 b x2) 98 b x3) 173 b x2) 174 b x3) j = if j = b then (if 0 < x3 then 1 else 0) else dkF g j := by
          intro j
          unfold dkF
          by_cases e : j = b
          · subst e; simp [up_at]
          · simp [up_at, e]
        have f2 : sm (dkF (up (up (up (up g 97 b x2) 98 b x3) 173 b x2) 174 b x3)) 10 = sm (fun j => if j = b then 0 else dkF g j) 10 + (if 0 < x3 then 1 else 0) := by
          rw [sm_cg (h := fun j => (if j = b then 0 else dkF g j) + (if j = b then (if 0 < x3 then 1 else 0) else 0)) 10 (fun j hj => by rw [f1 j]; split <;> omega)]
          have hb10 : b = 0 ∨ b = 1 ∨ b = 2 ∨ b = 3 ∨ b = 4 ∨ b = 5 ∨ b = 6 ∨ b = 7 ∨ b = 8 ∨ b = 9 := by omega
          rcases hb10 with e | e | e | e | e | e | e | e | e | e <;> subst e <;> simp only [sm] <;> simp <;> omega
        rw [f2]
        split <;> omega
      · refine Fr.up (Fr.up (Fr.up (Fr.up Fr.rf ?_) ?_) ?_) ?_ <;> rfl
    · have hs9 : sm (fun j => if j = b then 0 else dkF g j) 10 = 7 := by omega
      have eX : X_gas b x2 x3 g = some (0, g) := by
        unfold X_gas Yard_tellDock Yard_othersInDock
        rw [oX, hs9]
        clear oM eS q3 hs hs0 oX
        simp (disch := omega) only [nw_id, ix_id, sb, if_true, if_false, if_pos, if_neg, true_and, and_true, false_and, and_false, and_self, X_isBoat0, within0]
        simp (disch := omega) only [nw_id, ix_id, sb, if_true, if_false, if_pos, if_neg, true_and, and_true, false_and, and_false, and_self, true_or, or_true]
      by_cases z : x3 = 0
      · subst z
        have eM : M_gas b x2 0 g = some (1, up (up g 173 b x2) 174 b 0) := by
          unfold M_gas
          rw [oM g (by omega) (fun j hj => (q1 j hj).2.1), hs9]
          have c2 : ∀ r, M_gas_b b x2 0 2 r N g = some (1, up (up g 173 b x2) 174 b 0) := by
            intro r
            rw [M_gas_b.eq_1 _ _ _ 2]
            clear oM eS q3 hs hs0 oX
            simp (disch := omega) only [nw_id, ix_id, sb, if_true, if_false, if_pos, if_neg, true_and, and_true, false_and, and_false, and_self, Int.toNat_natCast]
          simp only [c2]
          clear oM eS q3 hs hs0 oX c2
          simp (disch := omega) only [nw_id, ix_id, sb, if_true, if_false, if_pos, if_neg, true_and, and_true, false_and, and_false, and_self, M_isBoat0, isIn0]
        have q0 : g 98 b = 0 := by
          have f2 : sm (dkF g) 10 = sm (fun j => if j = b then 0 else dkF g j) 10 + dkF g b := by
            rw [sm_cg (h := fun j => (if j = b then 0 else dkF g j) + (if j = b then dkF g j else 0)) 10 (fun j hj => by split <;> omega)]
            have hb10 : b = 0 ∨ b = 1 ∨ b = 2 ∨ b = 3 ∨ b = 4 ∨ b = 5 ∨ b = 6 ∨ b = 7 ∨ b = 8 ∨ b = 9 := by omega
            clear oM eS q3 hs hs0 oX eX eM
            rcases hb10 with e | e | e | e | e | e | e | e | e | e <;> subst e <;> simp only [sm] <;> simp <;> omega
          have f3 := q1 b (by omega)
          have f4 : dkF g b ≤ 0 := by omega
          unfold dkF at f4
          split at f4 <;> omega
        refine ⟨_, _, eX, eM, fun q => ?_, ⟨fun j hj => ?_, fun j hj hj2 => ?_, ?_⟩, Fr.up (Fr.up Fr.rf rfl) rfl⟩
        · exfalso
          rcases q with q | q
          · exact q rfl
          · omega
        · have := q1 j hj
          clear oM eS q3 oX
          by_cases e : j = b
          · subst e
            simp (disch := omega) only [nw_id, ix_id, sb, if_true, if_false, if_pos, if_neg, true_and, and_true, false_and, and_false, and_self, up_at, Nat.reduceEqDiff]
            omega
          · simp (disch := omega) only [nw_id, ix_id, sb, if_true, if_false, if_pos, if_neg, true_and, and_true, false_and, and_false, and_self, up_at, Nat.reduceEqDiff]
            omega
        · have hj3 : g 6 7 ≤ j := by simp [up_at] at hj2; omega
          have := q2 j hj hj3
          simp [up_at, this]
        · rw [show dkF (up (up g 173 b x2) 174 b 0) = dkF g from funext fun k => by unfold dkF; simp [up_at]]
          exact q3
      have eM : M_gas b x2 x3 g = some (0, g) := by
        unfold M_gas
        rw [oM g (by omega) (fun j hj => (q1 j hj).2.1), hs9]
        clear oM eS q3 hs hs0 oX
        simp (disch := omega) only [nw_id, ix_id, sb, if_true, if_false, if_pos, if_neg, true_and, and_true, false_and, and_false, and_self, M_isBoat0, isIn0]
      exact ⟨_, _, eX, eM, fun _ => rfl, ⟨q1, q2, q3⟩, Fr.rf⟩
  · have eX : X_gas x1 x2 x3 g = some (0, g) := by
      unfold X_gas
      revert h
      simp (disch := omega) only [nw_id, ix_id, X_isBoat0, within0]
      intro h
      ((repeat (first | (split; · with_reducible rfl) | (split; rotate_left 1; · with_reducible rfl))) <;> first | with_reducible rfl | (refine absurd ?_ h; clear h; (repeat' apply And.intro) <;> omega) | omega | ((repeat' split) <;> first | rfl | omega))
    have eM : M_gas x1 x2 x3 g = some (0, g) := by
      unfold M_gas
      revert h
      simp (disch := omega) only [nw_id, ix_id, M_isBoat0, isIn0]
      intro h
      ((repeat (first | (split; · with_reducible rfl) | (split; rotate_left 1; · with_reducible rfl))) <;> first | with_reducible rfl | (refine absurd ?_ h; clear h; (repeat' apply And.intro) <;> omega) | omega | ((repeat' split) <;> first | rfl | omega))
    exact ⟨_, _, eX, eM, fun _ => rfl, ⟨q1, q2, q3⟩, Fr.rf⟩
end
section
/-! plain programs: the rules' code, evaluated -/
def stp (s v : Int) (fc : Nat → Int) (st : List Int) : Option (List Int) :=
  if s < 10 then some ((if s = 0 then v else fc s.toNat) :: st)
  else if s = 13 then (match st with | a :: r => some ((nw a).tdiv (nw v) :: r) | [] => none)
  else if s = 17 then (match st with | a :: r => some ((1 - a) :: r) | [] => none)
  else (match st with | b :: a :: r => some (M_both s a b :: r) | _ => none)
def evl (cd fc : Nat → Int) : Nat → Nat → List Int → Option (List Int)
  | 0, _, st => some st
  | n + 1, i, st => (stp (cd (2 * i)) (cd (2 * i + 1)) fc st) >>= fun st1 => if st1.length ≤ 32 then evl cd fc n (i + 1) st1 else none
theorem stp_fc {s v : Int} {fc fc' : Nat → Int} {st : List Int} (h : ∀ k, k < 10 → fc k = fc' k) : stp s v fc st = stp s v fc' st := by
  unfold stp
  by_cases e : s < 10
  · rw [if_pos e, if_pos e, h s.toNat (by omega)]
  · rw [if_neg e, if_neg e]
theorem evl_fc {cd fc fc' : Nat → Int} (h : ∀ k, k < 10 → fc k = fc' k) : ∀ (n i : Nat) (st : List Int), evl cd fc n i st = evl cd fc' n i st
  | 0, _, _ => rfl
  | n + 1, i, st => by
    show (stp _ _ fc st >>= _) = (stp _ _ fc' st >>= _)
    rw [stp_fc h]
    cases stp (cd (2 * i)) (cd (2 * i + 1)) fc' st with
    | none => rfl
    | some st1 =>
      rw [sb, sb]
      by_cases e : st1.length ≤ 32
      · rw [if_pos e, if_pos e]; exact evl_fc h n (i + 1) st1
      · rw [if_neg e, if_neg e]
theorem evl_cd {cd cd' fc : Nat → Int} : ∀ (n i : Nat) (st : List Int), (∀ k, 2 * i ≤ k → k < 2 * (i + n) → cd k = cd' k) → evl cd fc n i st = evl cd' fc n i st
  | 0, _, _, _ => rfl
  | n + 1, i, st, h => by
    show (stp _ _ fc st >>= _) = (stp _ _ fc st >>= _)
    rw [h (2 * i) (by omega) (by omega), h (2 * i + 1) (by omega) (by omega)]
    cases stp (cd' (2 * i)) (cd' (2 * i + 1)) fc st with
    | none => rfl
    | some st1 =>
      rw [sb, sb]
      by_cases e : st1.length ≤ 32
      · rw [if_pos e, if_pos e]; exact evl_cd n (i + 1) st1 (fun k h1 h2 => h k (by omega) (by omega))
      · rw [if_neg e, if_neg e]
theorem evl_app {cd fc : Nat → Int} : ∀ (n m i : Nat) (st st1 : List Int), evl cd fc n i st = some st1 → evl cd fc (n + m) i st = evl cd fc m (i + n) st1
  | 0, m, i, st, st1, h => by
    have e : st = st1 := Option.some.inj h
    rw [e]; simp
  | n + 1, m, i, st, st1, h => by
    rw [show n + 1 + m = (n + m) + 1 by omega]
    show (stp _ _ fc st >>= _) = _
    have h' : (stp (cd (2 * i)) (cd (2 * i + 1)) fc st >>= fun st1 => if st1.length ≤ 32 then evl cd fc n (i + 1) st1 else none) = some st1 := h
    cases e : stp (cd (2 * i)) (cd (2 * i + 1)) fc st with
    | none => rw [e] at h'; cases h'
    | some st2 =>
      rw [e, sb] at h'
      rw [sb]
      by_cases e2 : st2.length ≤ 32
      · rw [if_pos e2] at h' ⊢
        rw [evl_app n m (i + 1) st2 st1 h', show i + 1 + n = i + (n + 1) by omega]
      · rw [if_neg e2] at h'; cases h'
/-- the stack's cells hold the list, its head on top -/
def stk (c : Nat → Int) : List Int → Prop
  | [] => True
  | a :: r => c r.length = a ∧ stk c r
theorem stk_up {g : AG} {k i : Nat} {v : Int} : ∀ {r : List Int}, stk (g k) r → r.length ≤ i → stk (up g k i v k) r
  | [], _, _ => trivial
  | a :: r, h, hi => ⟨by rw [up_at, if_neg (by simp at hi; omega)]; exact h.1, stk_up h.2 (by simp at hi; omega)⟩
theorem stk_push {g : AG} {k : Nat} {v : Int} {r : List Int} (h : stk (g k) r) : stk (up g k r.length v k) (v :: r) := ⟨by rw [up_at, if_pos ⟨rfl, rfl⟩], stk_up h (Nat.le_refl _)⟩
theorem M_comesTo_b_s : ∀ (n i : Nat) (st : List Int) (g : AG) (v : Int), i + n ≤ 510 → (∀ k, k < 1020 → I32 (g 134 k)) → (∀ j : Nat, i ≤ j → j < i + n → 0 ≤ g 134 (2 * j)) → (∀ j : Nat, i ≤ j → j < i + n → g 134 (2 * j) = 13 → ¬ g 134 (2 * j + 1) = 0) → st.length ≤ 32 → stk (g 147) st → evl (g 134) (g 148) n i st = some [v] →
    ∃ g', M_comesTo_b ((i + n : Nat) : Int) st.length i g = some (v, g') ∧ FR [(147, 0)] g g' := by
  intro n
  induction n with
  | zero =>
    intro i st g v h hr h0 h1 hl hs he
    rw [M_comesTo_b]
    simp (disch := omega) only [nw_id, ix_id, sb, if_true, if_false, if_pos, if_neg, true_and, and_true, false_and, and_false, and_self]
    have e : st = [v] := Option.some.inj he
    subst e
    exact ⟨g, by have := hs.1; simp at this; simp [this], Fr.rf⟩
  | succ n ih =>
    intro i st g v h hr h0 h1 hl hs he
    have r1 := hr (2 * i) (by omega)
    have r2 := hr (2 * i + 1) (by omega)
    have a0 := h0 i (by omega) (by omega)
    have a1 := h1 i (by omega) (by omega)
    unfold I32 at r1 r2
    have t1 : (2 * (i : Int)).toNat = 2 * i := by omega
    have t2 : (2 * (i : Int) + 1).toNat = 2 * i + 1 := by omega
    have he1 : (stp (g 134 (2 * i)) (g 134 (2 * i + 1)) (g 148) st >>= fun st1 => if st1.length ≤ 32 then evl (g 134) (g 148) n (i + 1) st1 else none) = some [v] := he
    rw [M_comesTo_b]
    -- what the rest does
    have go : ∀ (st1 : List Int) (g1 : AG) (L : Int), L = st1.length → stk (g1 147) st1 → FR [(147, 0)] g g1 → (if st1.length ≤ 32 then evl (g 134) (g 148) n (i + 1) st1 else none) = some [v] → ∃ g', M_comesTo_b ((i + (n + 1) : Nat) : Int) L ((i : Int) + 1) g1 = some (v, g') ∧ FR [(147, 0)] g g' := by
      intro st1 g1 L hL hs1 hf he2
      by_cases e2 : st1.length ≤ 32
      · rw [if_pos e2] at he2
        have c1 : g1 134 = g 134 := hf.cell (fun _ => rfl)
        have c2 : g1 148 = g 148 := hf.cell (fun _ => rfl)
        obtain ⟨g', hg1, hg2⟩ := ih (i + 1) st1 g1 v (by omega) (by rw [c1]; exact hr) (by rw [c1]; intro j j1 j2; exact h0 j (by omega) (by omega)) (by rw [c1]; intro j j1 j2; exact h1 j (by omega) (by omega)) e2 hs1 (by rw [c1, c2]; exact he2)
        rw [show i + 1 + n = i + (n + 1) by omega, ← hL] at hg1
        exact ⟨g', hg1, hf.tr hg2⟩
      · rw [if_neg e2] at he2; cases he2
    unfold stp at he1
    by_cases c1 : g 134 (2 * i) < 10
    · rw [if_pos c1, sb] at he1
      have t3 : (g 134 (2 * i)).toNat = (g 134 (2 * i)).toNat := rfl
      simp (disch := omega) only [nw_id, ix_id, sb, if_true, if_false, if_pos, if_neg, true_and, and_true, false_and, and_false, and_self, t1, t2, Int.toNat_natCast]
      by_cases c2 : g 134 (2 * i) = 0
      · rw [if_pos c2] at he1
        simp (disch := omega) only [nw_id, ix_id, sb, if_true, if_false, if_pos, if_neg, true_and, and_true, false_and, and_false, and_self]
        refine go _ _ _ ?_ (stk_push hs) (Fr.up Fr.rf rfl) he1
        simp
      · rw [if_neg c2] at he1
        simp (disch := omega) only [nw_id, ix_id, sb, if_true, if_false, if_pos, if_neg, true_and, and_true, false_and, and_false, and_self]
        refine go _ _ _ ?_ (stk_push hs) (Fr.up Fr.rf rfl) he1
        simp
    · rw [if_neg c1] at he1
      by_cases c2 : g 134 (2 * i) = 13
      · rw [if_pos c2] at he1
        have a1 := a1 c2
        cases st with
        | nil => cases he1
        | cons a r =>
          rw [sb] at he1
          have hs1 := hs.1
          simp only [List.length_cons] at hl ⊢
          have t3 : (((r.length + 1 : Nat) : Int) - 1).toNat = r.length := by omega
          simp (disch := omega) only [nw_id, ix_id, sb, if_true, if_false, if_pos, if_neg, true_and, and_true, false_and, and_false, and_self, t1, t2, t3]
          rw [hs1]
          refine go _ _ _ ?_ (stk_push hs.2) (Fr.up Fr.rf rfl) ?_
          · simp
          · rw [nw_id (a := g 134 (2 * i + 1)) (by omega) (by omega)] at he1; exact he1
      · rw [if_neg c2] at he1
        by_cases c3 : g 134 (2 * i) = 17
        · rw [if_pos c3] at he1
          cases st with
          | nil => cases he1
          | cons a r =>
            rw [sb] at he1
            have hs1 := hs.1
            simp only [List.length_cons] at hl ⊢
            have t3 : (((r.length + 1 : Nat) : Int) - 1).toNat = r.length := by omega
            simp (disch := omega) only [nw_id, ix_id, sb, if_true, if_false, if_pos, if_neg, true_and, and_true, false_and, and_false, and_self, t1, t2, t3]
            rw [hs1]
            exact go _ _ _ (by simp) (stk_push hs.2) (Fr.up Fr.rf rfl) he1
        · rw [if_neg c3] at he1
          cases st with
          | nil => cases he1
          | cons b st2 =>
            cases st2 with
            | nil => cases he1
            | cons a r =>
              rw [sb] at he1
              have hs1 := hs.1
              have hs2 := hs.2.1
              simp only [List.length_cons] at hl hs1 ⊢
              have t3 : (((r.length + 1 + 1 : Nat) : Int) + -1).toNat = r.length + 1 := by omega
              have t4 : (((r.length + 1 + 1 : Nat) : Int) + -1 - 1).toNat = r.length := by omega
              simp (disch := omega) only [nw_id, ix_id, sb, if_true, if_false, if_pos, if_neg, true_and, and_true, false_and, and_false, and_self, t1, t2, t3, t4]
              rw [hs1, hs2]
              exact go _ _ _ (by simp; omega) (stk_push hs.2.2) (Fr.up Fr.rf rfl) he1
end
section
/-! plain programs: the class's code, evaluated; the line that serves -/
def opR (s v w c : Int) : Prop := (s = 0 ∧ w = 2 ∧ c = v ∧ 0 ≤ v ∧ v ≤ 9999) ∨ (1 ≤ s ∧ s ≤ 9 ∧ w = 3 ∧ c = s - 1) ∨ (s = 10 ∧ w = 43) ∨ (s = 11 ∧ w = 45) ∨ (s = 12 ∧ w = 42) ∨ (s = 13 ∧ w = 47 ∧ c = v ∧ 1 ≤ v ∧ v ≤ 9999) ∨ (s = 14 ∧ w = 60) ∨ (s = 15 ∧ w = 61) ∨ (s = 16 ∧ w = 62) ∨ (s = 17 ∧ w = 110) ∨ (s = 18 ∧ w = 109) ∨ (s = 19 ∧ w = 108)
theorem opR_s {s v w c : Int} (h : opR s v w c) : 0 ≤ s ∧ s ≤ 19 := by unfold opR at h; omega
theorem both_eq {s v w c a b : Int} (h : opR s v w c) (h1 : ¬ s < 10) (h2 : ¬ s = 13) (h3 : ¬ s = 17) : Rules_both w a b = M_both s a b := by
  unfold opR at h
  rcases h with ⟨rfl, rfl, _⟩ | ⟨_, _, rfl, _⟩ | ⟨rfl, rfl⟩ | ⟨rfl, rfl⟩ | ⟨rfl, rfl⟩ | ⟨rfl, rfl, _⟩ | ⟨rfl, rfl⟩ | ⟨rfl, rfl⟩ | ⟨rfl, rfl⟩ | ⟨rfl, rfl⟩ | ⟨rfl, rfl⟩ | ⟨rfl, rfl⟩ <;> (try omega) <;> (unfold Rules_both M_both; simp (disch := omega) only [nw_id, ix_id, sb, if_true, if_false, if_pos, if_neg, true_and, and_true, false_and, and_false, and_self])
theorem Rules_run_b_s {cd fc : Nat → Int} : ∀ (n i : Nat) (st : List Int) (x5 : Int) (g : AG) (v : Int), i + n ≤ 500 → (∀ j : Nat, i ≤ j → j < i + n → opR (cd (2 * j)) (cd (2 * j + 1)) (g 17 j) (g 18 j)) → (∀ s : Nat, 1 ≤ s → s < 10 → g 27 (s - 1) = fc s) → st.length ≤ 32 → stk (g 28) st → evl cd fc n i st = some [v] →
    ∃ g', Rules_run_b ((i + n : Nat) : Int) 1 st.length i x5 g = some (v, g') ∧ FR [(28, 0)] g g' := by
  intro n
  induction n with
  | zero =>
    intro i st x5 g v h ho hf hl hs he
    rw [Rules_run_b]
    have e : st = [v] := Option.some.inj he
    subst e
    have t : (((([v] : List Int).length : Nat) : Int) - 1).toNat = 0 := by simp
    have h0 := hs.1
    simp only [List.length_cons, List.length_nil] at t h0 ⊢
    simp (disch := omega) only [nw_id, ix_id, sb, if_true, if_false, if_pos, if_neg, true_and, and_true, false_and, and_false, and_self]
    simp only [Nat.zero_add] at t ⊢
    rw [show ((((1 : Nat) : Int) - 1).toNat) = 0 from rfl, h0]
    exact ⟨g, rfl, Fr.rf⟩
  | succ n ih =>
    intro i st x5 g v h ho hf hl hs he
    have hsr := opR_s (ho i (by omega) (by omega))
    have he1 : (stp (cd (2 * i)) (cd (2 * i + 1)) fc st >>= fun st1 => if st1.length ≤ 32 then evl cd fc n (i + 1) st1 else none) = some [v] := he
    have go : ∀ (st1 : List Int) (g1 : AG) (L x6 : Int), L = st1.length → stk (g1 28) st1 → FR [(28, 0)] g g1 → (if st1.length ≤ 32 then evl cd fc n (i + 1) st1 else none) = some [v] → ∃ g', Rules_run_b ((i + (n + 1) : Nat) : Int) 4 L i x6 g1 = some (v, g') ∧ FR [(28, 0)] g g' := by
      intro st1 g1 L x6 hL hs1 hfr he2
      by_cases e2 : st1.length ≤ 32
      · rw [if_pos e2] at he2
        have c1 : g1 17 = g 17 := hfr.cell (fun _ => rfl)
        have c2 : g1 18 = g 18 := hfr.cell (fun _ => rfl)
        have c3 : g1 27 = g 27 := hfr.cell (fun _ => rfl)
        obtain ⟨g', hg1, hg2⟩ := ih (i + 1) st1 x6 g1 v (by omega) (by rw [c1, c2]; intro j j1 j2; exact ho j (by omega) (by omega)) (by rw [c3]; exact hf) e2 hs1 he2
        rw [show i + 1 + n = i + (n + 1) by omega, ← hL] at hg1
        refine ⟨g', ?_, hfr.tr hg2⟩
        rw [Rules_run_b]
        exact hg1
      · rw [if_neg e2] at he2; cases he2
    have hlen : ∀ x : Int, (if (x :: st).length ≤ 32 then evl cd fc n (i + 1) (x :: st) else none) = some [v] → st.length < 32 := by
      intro x hx
      by_cases e2 : (x :: st).length ≤ 32
      · simp at e2; omega
      · rw [if_neg e2] at hx; cases hx
    have n1 : nw (((i + (n + 1) : Nat)) : Int) = ((i + (n + 1) : Nat) : Int) := nw_id (by omega) (by omega)
    have n2 : nw (i : Int) = (i : Int) := nw_id (by omega) (by omega)
    have n3 : ix (i : Int) = i := by rw [ix_id (by omega) (by omega)]; simp
    have n4 : nw (st.length : Int) = (st.length : Int) := nw_id (by omega) (by omega)
    have n5 : ix (st.length : Int) = st.length := by rw [ix_id (by omega) (by omega)]; simp
    have nn : nw (2 : Int) = 2 ∧ nw (3 : Int) = 3 ∧ nw 10 = 10 := ⟨nw_id (by decide) (by decide), nw_id (by decide) (by decide), nw_id (by decide) (by decide)⟩
    have m1 : ¬ ((i + (n + 1) : Nat) : Int) ≤ (i : Int) := by clear n1 n2 n3 n4 n5 nn; omega
    have m2 : 0 ≤ (i : Int) ∧ (i : Int) < 500 := by clear n1 n2 n3 n4 n5 nn; omega
    rw [Rules_run_b, if_pos rfl, n1, n2, n3, if_neg m1, if_pos m2]
    clear n1
    have hop := ho i (by omega) (by omega)
    unfold stp at he1
    by_cases c1 : cd (2 * i) < 10
    · rw [if_pos c1, sb] at he1
      by_cases c2 : cd (2 * i) = 0
      · rw [if_pos c2] at he1
        have hw : g 17 i = 2 ∧ g 18 i = cd (2 * i + 1) := by clear n2 n3 n4 n5 nn; unfold opR at hop; omega
        clear hop
        have hl2 := hlen _ he1
        have m3 : (st.length : Int) < 32 := by clear n2 n3 n4 n5 nn; omega
        have m4 : 0 ≤ (st.length : Int) ∧ (st.length : Int) < 32 := by clear n2 n3 n4 n5 nn; omega
        rw [hw.1, if_pos nn.1, Rules_run_b, if_neg (by decide), if_pos rfl, n4, if_pos m3, if_pos nn.1, n2, n3, if_pos m2, sb, if_pos m4, sb, n5, hw.2]
        exact go _ _ _ _ (by simp) (stk_push hs) (Fr.up Fr.rf rfl) he1
      · rw [if_neg c2] at he1
        have hw : g 17 i = 3 ∧ g 18 i = cd (2 * i) - 1 := by clear n2 n3 n4 n5 nn; unfold opR at hop; omega
        clear hop
        have hl2 := hlen _ he1
        have m3 : (st.length : Int) < 32 := by clear n2 n3 n4 n5 nn; omega
        have m4 : 0 ≤ (st.length : Int) ∧ (st.length : Int) < 32 := by clear n2 n3 n4 n5 nn; omega
        have hfc := hf (cd (2 * i)).toNat (by clear n2 n3 n4 n5 nn; omega) (by clear n2 n3 n4 n5 nn; omega)
        have ha : Rules_askedOf (cd (2 * i) - 1) g = some (fc (cd (2 * i)).toNat) := by
          clear n2 n3 n4 n5 nn
          unfold Rules_askedOf
          simp (disch := omega) only [nw_id, ix_id, sb, if_true, if_false, if_pos, if_neg, true_and, and_true, false_and, and_false, and_self, within0]
          rw [show (cd (2 * i) - 1).toNat = (cd (2 * i)).toNat - 1 by omega, hfc]
        rw [hw.1, if_neg (by rw [nn.2.1]; decide), if_pos nn.2.1, Rules_run_b, if_neg (by decide), if_pos rfl, n4, if_pos m3, if_neg (by rw [nn.2.1]; decide), n2, n3, if_pos m2, hw.2, ha, sb, sb, if_pos m4, sb, n5]
        exact go _ _ _ _ (by simp) (stk_push hs) (Fr.up Fr.rf rfl) he1
    · rw [if_neg c1] at he1
      clear n2 n4 n5 nn
      by_cases c2 : cd (2 * i) = 13
      · rw [if_pos c2] at he1
        have hw : g 17 i = 47 ∧ g 18 i = cd (2 * i + 1) ∧ 1 ≤ cd (2 * i + 1) ∧ cd (2 * i + 1) ≤ 9999 := by clear n3; unfold opR at hop; omega
        clear hop
        cases st with
        | nil => cases he1
        | cons a r =>
          rw [sb] at he1
          have hs1 := hs.1
          simp only [List.length_cons] at hl ⊢
          have t3 : (((r.length + 1 : Nat) : Int) - 1).toNat = r.length := by clear n3; omega
          clear n3
          have ha : ∀ x, Rules_alone 47 x (g 18 i) g = some ((nw x).tdiv (nw (cd (2 * i + 1)))) := by
            intro x
            unfold Rules_alone
            rw [hw.2.1, nw_id (a := cd (2 * i + 1)) (by omega) (by omega)]
            simp (disch := omega) only [nw_id, ix_id, sb, if_true, if_false, if_pos, if_neg, true_and, and_true, false_and, and_false, and_self]
          rw [hw.1]
          simp (disch := omega) only [nw_id, ix_id, sb, if_true, if_false, if_pos, if_neg, true_and, and_true, false_and, and_false, and_self]
          rw [Rules_run_b]
          simp (disch := omega) only [nw_id, ix_id, sb, if_true, if_false, if_pos, if_neg, true_and, and_true, false_and, and_false, and_self, Int.toNat_natCast, t3, ha, hs1]
          rw [nw_id (a := cd (2 * i + 1)) (by omega) (by omega)] at he1
          exact go _ _ _ _ (by simp) (stk_push hs.2) (Fr.up Fr.rf rfl) he1
      · rw [if_neg c2] at he1
        by_cases c3 : cd (2 * i) = 17
        · rw [if_pos c3] at he1
          have hw : g 17 i = 110 := by clear n3; unfold opR at hop; omega
          clear hop
          cases st with
          | nil => cases he1
          | cons a r =>
            rw [sb] at he1
            have hs1 := hs.1
            simp only [List.length_cons] at hl ⊢
            have t3 : (((r.length + 1 : Nat) : Int) - 1).toNat = r.length := by clear n3; omega
            clear n3
            have ha : ∀ x y, Rules_alone 110 x y g = some (1 - x) := by
              intro x y
              unfold Rules_alone
              simp (disch := omega) only [nw_id, ix_id, sb, if_true, if_false, if_pos, if_neg, true_and, and_true, false_and, and_false, and_self]
            rw [hw]
            simp (disch := omega) only [nw_id, ix_id, sb, if_true, if_false, if_pos, if_neg, true_and, and_true, false_and, and_false, and_self]
            rw [Rules_run_b]
            simp (disch := omega) only [nw_id, ix_id, sb, if_true, if_false, if_pos, if_neg, true_and, and_true, false_and, and_false, and_self, Int.toNat_natCast, t3, ha, hs1]
            exact go _ _ _ _ (by simp) (stk_push hs.2) (Fr.up Fr.rf rfl) he1
        · rw [if_neg c3] at he1
          have hb := fun a b => both_eq (a := a) (b := b) hop c1 c2 c3
          have hw : ¬ g 17 i = 2 ∧ ¬ g 17 i = 3 ∧ ¬ g 17 i = 110 ∧ ¬ g 17 i = 47 ∧ 0 ≤ g 17 i ∧ g 17 i ≤ 200 := by clear n3; unfold opR at hop; omega
          clear hop
          cases st with
          | nil => cases he1
          | cons b st2 =>
            cases st2 with
            | nil => cases he1
            | cons a r =>
              rw [sb] at he1
              have hs1 := hs.1
              have hs2 := hs.2.1
              simp only [List.length_cons] at hl hs1 ⊢
              clear n3
              have t3 : (((r.length + 1 + 1 : Nat) : Int) + -1).toNat = r.length + 1 := by omega
              have t4 : (((r.length + 1 + 1 : Nat) : Int) + -1 - 1).toNat = r.length := by omega
              simp (disch := omega) only [nw_id, ix_id, sb, if_true, if_false, if_pos, if_neg, true_and, and_true, false_and, and_false, and_self, t3, t4]
              rw [hs1, hs2, hb]
              exact go _ _ _ _ (by simp; omega) (stk_push hs.2.2) (Fr.up Fr.rf rfl) he1
end
section
/-! plain programs: the rules that stand; the line that serves; the hours of the locks -/
def srvF (kd md en cd fc : Nat → Int) (sort : Int) : Nat → Nat → Int
  | 0, _ => -1
  | n + 1, l => if kd l = sort ∧ (en l = md l ∨ evl cd fc (en l - md l).toNat (md l).toNat [] = some [1]) then (l : Int) else srvF kd md en cd fc sort n (l + 1)
theorem srvF_fc {kd md en cd fc fc' : Nat → Int} {sort : Int} (h : ∀ k, k < 10 → fc k = fc' k) : ∀ (n l : Nat), srvF kd md en cd fc sort n l = srvF kd md en cd fc' sort n l
  | 0, _ => rfl
  | n + 1, l => by
    unfold srvF
    rw [evl_fc h, srvF_fc h n (l + 1)]
theorem srvF_rng {kd md en cd fc : Nat → Int} {sort : Int} : ∀ (n l : Nat), srvF kd md en cd fc sort n l = -1 ∨ ((l : Int) ≤ srvF kd md en cd fc sort n l ∧ srvF kd md en cd fc sort n l < (l + n : Nat) ∧ kd (srvF kd md en cd fc sort n l).toNat = sort)
  | 0, _ => Or.inl rfl
  | n + 1, l => by
    unfold srvF
    by_cases e : kd l = sort ∧ (en l = md l ∨ evl cd fc (en l - md l).toNat (md l).toNat [] = some [1])
    · rw [if_pos e]
      exact Or.inr ⟨Int.le_refl _, by omega, by simp; exact e.1⟩
    · rw [if_neg e]
      rcases srvF_rng (kd := kd) (md := md) (en := en) (cd := cd) (fc := fc) (sort := sort) n (l + 1) with h | ⟨h1, h2, h3⟩
      · exact Or.inl h
      · exact Or.inr ⟨by omega, by omega, h3⟩
def RRule : Reg := [(2, 3), (2, 4), (2, 11), (17, 0), (18, 0), (19, 0), (20, 0), (21, 0), (22, 0), (23, 0), (24, 0), (25, 0), (26, 0), (117, 35), (128, 0), (129, 0), (130, 0), (131, 0), (132, 0), (133, 0), (134, 0), (142, 0), (144, 0)]
def JRuL (g : AG) : Prop := ∀ l : Nat, (l : Int) < g 2 3 → g 19 l = g 128 l + 100 ∧ (0 ≤ g 128 l ∧ g 128 l ≤ 4) ∧ (g 131 l = g 20 l ∧ g 132 l = g 21 l ∧ g 133 l = g 22 l) ∧ (0 ≤ g 20 l ∧ g 20 l ≤ g 21 l ∧ g 21 l ≤ g 22 l ∧ g 22 l ≤ 500)
def JRuH (g : AG) : Prop := ∀ l : Nat, (l : Int) < g 2 3 → g 128 l = 0 → g 129 l = g 23 l ∧ g 130 l = g 24 l ∧ (0 ≤ g 23 l ∧ g 23 l ≤ 24) ∧ (0 ≤ g 24 l ∧ g 24 l ≤ 24)
def JRuV (g : AG) : Prop := ∀ l : Nat, (l : Int) < g 2 3 → 2 ≤ g 128 l → ∀ fc : Nat → Int, ∃ v, evl (g 134) fc (g 21 l - g 20 l).toNat (g 20 l).toNat [] = some [v]
def JRuC (g : AG) : Prop := ∀ l : Nat, (l : Int) < g 2 3 → g 21 l < g 22 l → ∀ fc : Nat → Int, ∃ v, evl (g 134) fc (g 22 l - g 21 l).toNat (g 21 l).toNat [] = some [v] ∧ (v = 0 ∨ v = 1)
def JRuO (g : AG) : Prop := ∀ l : Nat, (l : Int) < g 2 3 → ∀ j : Nat, g 20 l ≤ j → (j : Int) < g 22 l → opR (g 134 (2 * j)) (g 134 (2 * j + 1)) (g 17 j) (g 18 j)
def tnOk (h a b t1 t2 : Int) (q : Bool) : Prop := (h = if q = true then 1 else 0) ∧ (q = true → a = t1 ∧ b = t2) ∧ (q = false → t1 = 0 ∧ t2 = 0) ∧ (0 ≤ t1 ∧ t1 ≤ 24) ∧ (0 ≤ t2 ∧ t2 ≤ 24)
def JRuT (g : AG) : Prop := ∀ i : Nat, i < 15 → tnOk (g 144 (2 * i)) (g 142 (2 * (2 * i))) (g 142 (2 * (2 * i) + 1)) (g 25 i) (g 26 i) (tb (g 2 10) i) ∧ tnOk (g 144 (2 * i + 1)) (g 142 (2 * (2 * i + 1))) (g 142 (2 * (2 * i + 1) + 1)) (g 25 (15 + i)) (g 26 (15 + i)) (tb (g 2 10) (15 + i))
def JRule (g : AG) : Prop := (g 117 34 = g 2 3 ∧ 0 ≤ g 2 3 ∧ g 2 3 ≤ 16) ∧ (∀ k, k < 1020 → I32 (g 134 k)) ∧ JRuL g ∧ JRuH g ∧ JRuV g ∧ JRuC g ∧ JRuO g ∧ JRuT g
theorem JRule.cg {g g' : AG} (h : ∀ k i, inR RRule k i = true → g' k i = g k i) (q : JRule g) : JRule g' := by
  have q1 : JRule (rs (inR RRule) g) := q
  rw [← rs_eq h] at q1
  exact q1
theorem M_comesTo_s {g : AG} {a b v : Int} {fc : Nat → Int} (h0 : 0 ≤ a) (h1 : a ≤ b) (h2 : b ≤ 500) (hr : ∀ k, k < 1020 → I32 (g 134 k)) (ho : ∀ j : Nat, a ≤ j → (j : Int) < b → ∃ w c, opR (g 134 (2 * j)) (g 134 (2 * j + 1)) w c) (hf : ∀ k, k < 10 → g 148 k = fc k) (he : evl (g 134) fc (b - a).toNat a.toNat [] = some [v]) :
    ∃ g', M_comesTo a b g = some (v, g') ∧ FR [(147, 0)] g g' := by
  obtain ⟨i, rfl⟩ := natOf h0
  obtain ⟨n, hn⟩ : ∃ n : Nat, b = ((i + n : Nat) : Int) := ⟨(b - i).toNat, by omega⟩
  subst hn
  rw [show (((i + n : Nat) : Int) - (i : Int)).toNat = n by omega, show ((i : Int)).toNat = i by simp, ← evl_fc hf] at he
  unfold M_comesTo
  refine M_comesTo_b_s n i [] g v (by omega) hr ?_ ?_ (by simp) trivial he
  · intro j j1 j2
    obtain ⟨w, c, h⟩ := ho j (by omega) (by omega)
    exact (opR_s h).1
  · intro j j1 j2 e
    obtain ⟨w, c, h⟩ := ho j (by omega) (by omega)
    unfold opR at h
    omega
theorem Rules_run_s {g : AG} {cd fc : Nat → Int} {a b v : Int} (h0 : 0 ≤ a) (h1 : a ≤ b) (h2 : b ≤ 500) (ho : ∀ j : Nat, a ≤ j → (j : Int) < b → opR (cd (2 * j)) (cd (2 * j + 1)) (g 17 j) (g 18 j)) (hf : ∀ s : Nat, 1 ≤ s → s < 10 → g 27 (s - 1) = fc s) (he : evl cd fc (b - a).toNat a.toNat [] = some [v]) :
    ∃ g', Rules_run a b g = some (v, g') ∧ FR [(28, 0)] g g' := by
  obtain ⟨i, rfl⟩ := natOf h0
  obtain ⟨n, hn⟩ : ∃ n : Nat, b = ((i + n : Nat) : Int) := ⟨(b - i).toNat, by omega⟩
  subst hn
  rw [show (((i + n : Nat) : Int) - (i : Int)).toNat = n by omega, show ((i : Int)).toNat = i by simp] at he
  unfold Rules_run
  exact Rules_run_b_s n i [] 0 g v (by omega) (fun j j1 j2 => ho j (by omega) (by omega)) hf (by simp) trivial he
abbrev srvG (g : AG) (fc : Nat → Int) (sort : Int) (n l : Nat) : Int := srvF (g 128) (g 132) (g 133) (g 134) fc sort n l
theorem M_serves_b_s {sort : Int} (hs : 0 ≤ sort ∧ sort ≤ 4) {fc : Nat → Int} : ∀ (n l : Nat) (g : AG), JRule g → (∀ k, k < 10 → g 148 k = fc k) → ((l + n : Nat) : Int) = g 2 3 → ∃ g', M_serves_b sort 1 l g = some (srvG g fc sort n l, g') ∧ FR [(147, 0)] g g' := by
  intro n
  induction n with
  | zero =>
    intro l g J hf hn
    obtain ⟨⟨j1, j2, j3⟩, _⟩ := J
    rw [M_serves_b]
    simp (disch := omega) only [nw_id, ix_id, sb, if_true, if_false, if_pos, if_neg, true_and, and_true, false_and, and_false, and_self, j1]
    exact ⟨g, rfl, Fr.rf⟩
  | succ n ih =>
    intro l g J hf hn
    have J0 := J
    obtain ⟨⟨j1, j2, j3⟩, jr, jl, jh, jv, jc, jo, jt⟩ := J
    obtain ⟨l1, l2, l3, l4⟩ := jl l (by omega)
    have hll : l < 16 := by omega
    rw [M_serves_b]
    simp (disch := omega) only [nw_id, ix_id, sb, if_true, if_false, if_pos, if_neg, true_and, and_true, false_and, and_false, and_self, j1, Int.toNat_natCast]
    have next : ∀ g1, FR [(147, 0)] g g1 → ¬ (g 128 l = sort ∧ (g 133 l = g 132 l ∨ evl (g 134) fc (g 133 l - g 132 l).toNat (g 132 l).toNat [] = some [1])) → ∃ g', M_serves_b sort 2 l g1 = some (srvG g fc sort (n + 1) l, g') ∧ FR [(147, 0)] g g' := by
      intro g1 h1 hno
      obtain ⟨g', e1, e2⟩ := ih (l + 1) g1 (J0.cg (h1.cg rfl)) (by intro k hk; rw [h1 148 k rfl]; exact hf k hk) (by rw [h1 2 3 rfl]; omega)
      refine ⟨g', ?_, h1.tr e2⟩
      rw [M_serves_b.eq_1 _ 2, if_neg (by decide), if_pos rfl]
      have c1 : g1 128 = g 128 := h1.cell (fun _ => rfl)
      have c2 : g1 132 = g 132 := h1.cell (fun _ => rfl)
      have c3 : g1 133 = g 133 := h1.cell (fun _ => rfl)
      have c4 : g1 134 = g 134 := h1.cell (fun _ => rfl)
      have e3 : srvG g fc sort (n + 1) l = srvG g1 fc sort n (l + 1) := by
        show srvF _ _ _ _ _ _ (n + 1) l = srvF _ _ _ _ _ _ n (l + 1)
        rw [srvF, if_neg hno, c1, c2, c3, c4]
      rw [e3, ← e1]
      rfl
    by_cases c1 : g 128 l = sort
    · simp (disch := omega) only [nw_id, ix_id, sb, if_true, if_false, if_pos, if_neg, true_and, and_true, false_and, and_false, and_self, c1]
      by_cases c2 : g 133 l = g 132 l
      · simp (disch := omega) only [nw_id, ix_id, sb, if_true, if_false, if_pos, if_neg, true_and, and_true, false_and, and_false, and_self]
        refine ⟨g, ?_, Fr.rf⟩
        show _ = some (srvF _ _ _ _ _ _ (n + 1) l, g)
        rw [srvF, if_pos ⟨c1, Or.inl c2⟩]
      · simp (disch := omega) only [nw_id, ix_id, sb, if_true, if_false, if_pos, if_neg, true_and, and_true, false_and, and_false, and_self]
        obtain ⟨v, v1, v2⟩ := jc l (by omega) (by omega) fc
        rw [← l3.2.1, ← l3.2.2] at v1
        obtain ⟨g1, e1, e2⟩ := M_comesTo_s (g := g) (fc := fc) (a := g 132 l) (b := g 133 l) (by omega) (by omega) (by omega) jr (fun j a1 a2 => ⟨_, _, jo l (by omega) j (by omega) (by omega)⟩) hf v1
        rw [e1]
        simp (disch := omega) only [nw_id, ix_id, sb, if_true, if_false, if_pos, if_neg, true_and, and_true, false_and, and_false, and_self]
        by_cases c3 : v = 1
        · subst c3
          simp (disch := omega) only [nw_id, ix_id, sb, if_true, if_false, if_pos, if_neg, true_and, and_true, false_and, and_false, and_self]
          refine ⟨g1, ?_, e2⟩
          show _ = some (srvF _ _ _ _ _ _ (n + 1) l, g1)
          rw [srvF, if_pos ⟨c1, Or.inr v1⟩]
        · have c4 : v = 0 := by omega
          subst c4
          simp (disch := omega) only [nw_id, ix_id, sb, if_true, if_false, if_pos, if_neg, true_and, and_true, false_and, and_false, and_self]
          refine next g1 e2 (fun q => ?_)
          rcases q.2 with q | q
          · exact c2 q
          · rw [v1] at q
            cases q
    · simp (disch := omega) only [nw_id, ix_id, sb, if_true, if_false, if_pos, if_neg, true_and, and_true, false_and, and_false, and_self]
      exact next g Fr.rf (fun q => c1 q.1)
def XRel (g : AG) (kd fr md en cd : Nat → Int) : Prop := (0 ≤ g 2 3 ∧ g 2 3 ≤ 16) ∧ (∀ l : Nat, (l : Int) < g 2 3 → g 19 l = kd l + 100 ∧ (0 ≤ kd l ∧ kd l ≤ 4) ∧ (g 20 l = fr l ∧ g 21 l = md l ∧ g 22 l = en l) ∧ (0 ≤ g 20 l ∧ g 20 l ≤ g 21 l ∧ g 21 l ≤ g 22 l ∧ g 22 l ≤ 500)) ∧
  (∀ l : Nat, (l : Int) < g 2 3 → 2 ≤ kd l → ∀ fc : Nat → Int, ∃ v, evl cd fc (g 21 l - g 20 l).toNat (g 20 l).toNat [] = some [v]) ∧
  (∀ l : Nat, (l : Int) < g 2 3 → g 21 l < g 22 l → ∀ fc : Nat → Int, ∃ v, evl cd fc (g 22 l - g 21 l).toNat (g 21 l).toNat [] = some [v] ∧ (v = 0 ∨ v = 1)) ∧
  (∀ l : Nat, (l : Int) < g 2 3 → ∀ j : Nat, g 20 l ≤ j → (j : Int) < g 22 l → opR (cd (2 * j)) (cd (2 * j + 1)) (g 17 j) (g 18 j))
theorem JRule.xrel {g : AG} (J : JRule g) : XRel g (g 128) (g 131) (g 132) (g 133) (g 134) := by
  obtain ⟨⟨j1, j2, j3⟩, jr, jl, jh, jv, jc, jo, jt⟩ := J
  refine ⟨⟨j2, j3⟩, fun l hl => ?_, jv, jc, jo⟩
  obtain ⟨l1, l2, l3, l4⟩ := jl l hl
  exact ⟨l1, l2, ⟨l3.1.symm, l3.2.1.symm, l3.2.2.symm⟩, l4⟩
theorem XRel.fr {W : Reg} {g g' : AG} {kd fr md en cd : Nat → Int} (h : XRel g kd fr md en cd) (f : FR W g g') (d : djR [(2, 4), (17, 0), (18, 0), (19, 0), (20, 0), (21, 0), (22, 0)] W = true) : XRel g' kd fr md en cd := by
  have c := f.cg d
  have c0 : g' 2 3 = g 2 3 := c 2 3 rfl
  have c1 : g' 17 = g 17 := funext fun i => c 17 i rfl
  have c2 : g' 18 = g 18 := funext fun i => c 18 i rfl
  have c3 : g' 19 = g 19 := funext fun i => c 19 i rfl
  have c4 : g' 20 = g 20 := funext fun i => c 20 i rfl
  have c5 : g' 21 = g 21 := funext fun i => c 21 i rfl
  have c6 : g' 22 = g 22 := funext fun i => c 22 i rfl
  unfold XRel
  rw [c0, c1, c2, c3, c4, c5, c6]
  exact h
theorem X_serving_b_s {sort : Int} (hs : 0 ≤ sort ∧ sort ≤ 4) {fc kd fr md en cd : Nat → Int} : ∀ (n l : Nat) (g : AG), XRel g kd fr md en cd → (∀ s : Nat, 1 ≤ s → s < 10 → g 27 (s - 1) = fc s) → ((l + n : Nat) : Int) = g 2 3 → ∃ g', Rules_serving_b (sort + 100) 1 l g = some (srvF kd md en cd fc sort n l, g') ∧ FR [(28, 0)] g g' := by
  intro n
  induction n with
  | zero =>
    intro l g J hf hn
    obtain ⟨⟨j2, j3⟩, _⟩ := J
    rw [Rules_serving_b]
    simp (disch := omega) only [nw_id, ix_id, sb, if_true, if_false, if_pos, if_neg, true_and, and_true, false_and, and_false, and_self]
    exact ⟨g, rfl, Fr.rf⟩
  | succ n ih =>
    intro l g J hf hn
    have J0 := J
    obtain ⟨⟨j2, j3⟩, jl, jv, jc, jo⟩ := J
    obtain ⟨l1, l2, l3, l4⟩ := jl l (by omega)
    have hll : l < 16 := by omega
    rw [Rules_serving_b]
    simp (disch := omega) only [nw_id, ix_id, sb, if_true, if_false, if_pos, if_neg, true_and, and_true, false_and, and_false, and_self, Int.toNat_natCast]
    have next : ∀ g1, FR [(28, 0)] g g1 → ¬ (kd l = sort ∧ (en l = md l ∨ evl cd fc (en l - md l).toNat (md l).toNat [] = some [1])) → ∃ g', Rules_serving_b (sort + 100) 2 l g1 = some (srvF kd md en cd fc sort (n + 1) l, g') ∧ FR [(28, 0)] g g' := by
      intro g1 h1 hno
      obtain ⟨g', e1, e2⟩ := ih (l + 1) g1 (J0.fr h1 rfl) (by intro k hk hk2; rw [h1 27 (k - 1) rfl]; exact hf k hk hk2) (by rw [h1 2 3 rfl]; omega)
      refine ⟨g', ?_, h1.tr e2⟩
      rw [Rules_serving_b.eq_1 _ 2, if_neg (by decide), if_pos rfl, srvF, if_neg hno, ← e1]
      rfl
    by_cases c1 : kd l = sort
    · simp (disch := omega) only [nw_id, ix_id, sb, if_true, if_false, if_pos, if_neg, true_and, and_true, false_and, and_false, and_self]
      by_cases c2 : en l = md l
      · simp (disch := omega) only [nw_id, ix_id, sb, if_true, if_false, if_pos, if_neg, true_and, and_true, false_and, and_false, and_self]
        refine ⟨g, ?_, Fr.rf⟩
        rw [srvF, if_pos ⟨c1, Or.inl c2⟩]
      · simp (disch := omega) only [nw_id, ix_id, sb, if_true, if_false, if_pos, if_neg, true_and, and_true, false_and, and_false, and_self]
        obtain ⟨v, v1, v2⟩ := jc l (by omega) (by omega) fc
        obtain ⟨g1, e1, e2⟩ := Rules_run_s (g := g) (cd := cd) (fc := fc) (a := g 21 l) (b := g 22 l) (by omega) (by omega) (by omega) (fun j a1 a2 => jo l (by omega) j (by omega) (by omega)) hf v1
        rw [l3.2.1, l3.2.2] at v1
        rw [e1]
        simp (disch := omega) only [nw_id, ix_id, sb, if_true, if_false, if_pos, if_neg, true_and, and_true, false_and, and_false, and_self]
        by_cases c3 : v = 0
        · subst c3
          simp (disch := omega) only [nw_id, ix_id, sb, if_true, if_false, if_pos, if_neg, true_and, and_true, false_and, and_false, and_self]
          refine next g1 e2 (fun q => ?_)
          rcases q.2 with q | q
          · exact c2 q
          · rw [v1] at q
            cases q
        · have c4 : v = 1 := by omega
          subst c4
          simp (disch := omega) only [nw_id, ix_id, sb, if_true, if_false, if_pos, if_neg, true_and, and_true, false_and, and_false, and_self]
          refine ⟨g1, ?_, e2⟩
          rw [srvF, if_pos ⟨c1, Or.inr v1⟩]
    · simp (disch := omega) only [nw_id, ix_id, sb, if_true, if_false, if_pos, if_neg, true_and, and_true, false_and, and_false, and_self]
      exact next g Fr.rf (fun q => c1 q.1)
theorem X_serving_s {sort x : Int} (hs : 0 ≤ sort ∧ sort ≤ 4) (hx : x = sort + 100) {fc kd fr md en cd : Nat → Int} {g : AG} (J : XRel g kd fr md en cd) (hf : ∀ s : Nat, 1 ≤ s → s < 10 → g 27 (s - 1) = fc s) : ∃ g', Rules_serving x g = some (srvF kd md en cd fc sort (g 2 3).toNat 0, g') ∧ FR [(28, 0)] g g' := by
  subst hx
  have := J.1
  exact X_serving_b_s hs (g 2 3).toNat 0 g J hf (by omega)
theorem M_serves_s {sort : Int} (hs : 0 ≤ sort ∧ sort ≤ 4) {fc : Nat → Int} {g : AG} (J : JRule g) (hf : ∀ k, k < 10 → g 148 k = fc k) : ∃ g', M_serves sort g = some (srvG g fc sort (g 2 3).toNat 0, g') ∧ FR [(147, 0)] g g' := by
  have := J.1
  exact M_serves_b_s hs (g 2 3).toNat 0 g J hf (by omega)
theorem XRel.val {g : AG} {kd fr md en cd fc : Nat → Int} (J : XRel g kd fr md en cd) (hf : ∀ s : Nat, 1 ≤ s → s < 10 → g 27 (s - 1) = fc s) {l : Nat} (hl : (l : Int) < g 2 3) (hk : 2 ≤ kd l) : ∃ v g', Rules_valueOf l g = some (v, g') ∧ FR [(28, 0)] g g' ∧ evl cd fc (md l - fr l).toNat (fr l).toNat [] = some [v] := by
  obtain ⟨⟨j2, j3⟩, jl, jv, jc, jo⟩ := J
  obtain ⟨l1, l2, l3, l4⟩ := jl l (by omega)
  obtain ⟨v, v1⟩ := jv l hl hk fc
  obtain ⟨g1, e1, e2⟩ := Rules_run_s (g := g) (cd := cd) (fc := fc) (a := g 20 l) (b := g 21 l) (by omega) (by omega) (by omega) (fun j a1 a2 => jo l (by omega) j (by omega) (by omega)) hf v1
  refine ⟨v, g1, ?_, e2, by rw [← l3.1, ← l3.2.1]; exact v1⟩
  unfold Rules_valueOf
  simp (disch := omega) only [nw_id, ix_id, sb, if_true, if_false, if_pos, if_neg, true_and, and_true, false_and, and_false, and_self, within0, Int.toNat_natCast, e1]
theorem JRule.val {g : AG} {fc : Nat → Int} (J : JRule g) (hf : ∀ k, k < 10 → g 148 k = fc k) {l : Nat} (hl : (l : Int) < g 2 3) (hk : 2 ≤ g 128 l) : ∃ v g', M_comesTo (g 131 l) (g 132 l) g = some (v, g') ∧ FR [(147, 0)] g g' ∧ evl (g 134) fc (g 132 l - g 131 l).toNat (g 131 l).toNat [] = some [v] := by
  obtain ⟨⟨j1, j2, j3⟩, jr, jl, jh, jv, jc, jo, jt⟩ := J
  obtain ⟨l1, l2, l3, l4⟩ := jl l (by omega)
  obtain ⟨v, v1⟩ := jv l hl hk fc
  rw [← l3.1, ← l3.2.1] at v1
  obtain ⟨g1, e1, e2⟩ := M_comesTo_s (g := g) (fc := fc) (a := g 131 l) (b := g 132 l) (by omega) (by omega) (by omega) jr (fun j a1 a2 => ⟨_, _, jo l (by omega) j (by omega) (by omega)⟩) hf v1
  exact ⟨v, g1, e1, e2, v1⟩
end
section
/-! plain programs: what is asked; the hours
-/
def fcDay (day water : Int) : Nat → Int := fun s => if s = 1 then day % 7 else if s = 2 then day / 7 else if s = 3 then water else 0
def fcHarm (day water be ag ta : Int) : Nat → Int := fun s => if s = 1 then day % 7 else if s = 2 then day / 7 else if s = 3 then water else if s = 4 then be else if s = 6 then ag else if s = 9 then ta else 0
def fcPrice (week be aw ag : Int) : Nat → Int := fun s => if s = 2 then week else if s = 4 then be else if s = 5 then aw else if s = 6 then ag else 0
def fcHold (week de sa ag : Int) : Nat → Int := fun s => if s = 2 then week else if s = 7 then de else if s = 8 then sa else if s = 6 then ag else 0
theorem M_forgets_b_s : ∀ (n k : Nat) (g : AG), n + k = 10 → M_forgets_b k g = some (0, fun a b => if a = 148 ∧ k ≤ b ∧ b < 10 then 0 else g a b) := by
  intro n
  induction n with
  | zero =>
    intro k g h
    rw [M_forgets_b]
    simp (disch := omega) only [nw_id, ix_id, sb, if_true, if_false, if_pos, if_neg, true_and, and_true, false_and, and_false, and_self]
  | succ n ih =>
    intro k g h
    rw [M_forgets_b]
    simp (disch := omega) only [nw_id, ix_id, sb, if_true, if_false, if_pos, if_neg, true_and, and_true, false_and, and_false, and_self, Int.toNat_natCast]
    have e := ih (k + 1) (up g 148 k 0) (by omega)
    rw [show ((k + 1 : Nat) : Int) = (k : Int) + 1 from rfl] at e
    rw [e]
    congr 2
    funext a b
    simp only [up_at]
    ((repeat (first | (split; · with_reducible rfl) | (split; rotate_left 1; · with_reducible rfl))) <;> first | with_reducible rfl | (refine absurd ?_ h; clear h; (repeat' apply And.intro) <;> omega) | omega | ((repeat' split) <;> first | rfl | omega))
theorem M_forgets_s (g : AG) : M_forgets g = some (0, fun a b => if a = 148 ∧ b < 10 then 0 else g a b) := by
  unfold M_forgets
  have e := M_forgets_b_s 10 0 g (by omega)
  rw [show ((0 : Nat) : Int) = (0 : Int) from rfl] at e
  rw [e]
  congr 2
  funext a b
  simp
theorem ix_lits : ix 0 = 0 ∧ ix 1 = 1 ∧ ix 2 = 2 ∧ ix 3 = 3 ∧ ix 4 = 4 ∧ ix 5 = 5 ∧ ix 6 = 6 ∧ ix 7 = 7 ∧ ix 8 = 8 ∧ ix 9 = 9 := by
  refine ⟨?_, ?_, ?_, ?_, ?_, ?_, ?_, ?_, ?_, ?_⟩ <;> (rw [ix_id (by decide) (by decide)]; rfl)
theorem M_locksLine_s {g : AG} {day : Int} (J : JRule g) (h0 : 0 ≤ day) (h1 : day < 14) : ∃ g', M_locksLine day g = some (srvG g (fcDay day (g 117 10)) 0 (g 2 3).toNat 0, g') ∧ FR [(147, 0), (148, 0)] g g' := by
  unfold M_locksLine
  rw [M_forgets_s]
  obtain ⟨i0, i1, i2, i3, _⟩ := ix_lits
  rw [i1, i2, i3]
  simp (disch := omega) only [nw_id, ix_id, sb, if_true, if_false, if_pos, if_neg, true_and, and_true, false_and, and_false, and_self, tmE, tdE, up_at, Nat.reduceEqDiff]
  have f : FR [(147, 0), (148, 0)] g (up (up (up (fun a b => if a = 148 ∧ b < 10 then 0 else g a b) 148 1 (day % 7)) 148 2 (day / 7)) 148 3 (g 117 10)) := by
    intro a b hab
    have n1 : a ≠ 148 := fun e => by subst e; revert hab; simp [inR, inP]
    simp only [up_at, n1, false_and, if_false]
  obtain ⟨g', e1, e2⟩ := M_serves_s (sort := 0) (by omega) (fc := fcDay day (g 117 10)) (J.cg (f.cg rfl)) (by
    intro k hk
    unfold fcDay
    simp only [up_at, true_and]
    ((repeat (first | (split; · with_reducible rfl) | (split; rotate_left 1; · with_reducible rfl))) <;> first | with_reducible rfl | (refine absurd ?_ h; clear h; (repeat' apply And.intro) <;> omega) | omega | ((repeat' split) <;> first | rfl | omega)))
  refine ⟨g', ?_, f.tr (e2.mo rfl)⟩
  rw [e1]
  rfl
/-- the hours of the locks on a day, the water told -/
def hrA (g : AG) (w : Int) (d : Nat) : Int := if srvG g (fcDay d w) 0 (g 2 3).toNat 0 = -1 then 0 else g 129 (srvG g (fcDay d w) 0 (g 2 3).toNat 0).toNat
def hrB (g : AG) (w : Int) (d : Nat) : Int := if srvG g (fcDay d w) 0 (g 2 3).toNat 0 = -1 then 24 else g 130 (srvG g (fcDay d w) 0 (g 2 3).toNat 0).toNat
def RWat : Reg := [(1, 6), (117, 11)]
def JWat (g : AG) : Prop := g 117 10 = g 1 5 ∧ 0 ≤ g 1 5 ∧ g 1 5 ≤ 999
theorem JWat.cg {g g' : AG} (h : ∀ k i, inR RWat k i = true → g' k i = g k i) (q : JWat g) : JWat g' := by
  have q1 : JWat (rs (inR RWat) g) := q
  rw [← rs_eq h] at q1
  exact q1
def RHour : Reg := [(44, 0), (45, 0), (117, 11), (2, 4), (128, 0), (129, 0), (130, 0), (132, 0), (133, 0), (134, 0)]
def JHour (g : AG) : Prop := ∀ d : Nat, d < 14 → g 44 d = hrA g (g 117 10) d ∧ g 45 d = hrB g (g 117 10) d
theorem JHour.cg {g g' : AG} (h : ∀ k i, inR RHour k i = true → g' k i = g k i) (q : JHour g) : JHour g' := by
  have q1 : JHour (rs (inR RHour) g) := q
  rw [← rs_eq h] at q1
  exact q1
theorem hr_rng {g : AG} (J : JRule g) (w : Int) (d : Nat) : (0 ≤ hrA g w d ∧ hrA g w d ≤ 24) ∧ (0 ≤ hrB g w d ∧ hrB g w d ≤ 24) := by
  obtain ⟨⟨j1, j2, j3⟩, jr, jl, jh, jv, jc, jo, jt⟩ := J
  have h := srvF_rng (kd := g 128) (md := g 132) (en := g 133) (cd := g 134) (fc := fcDay d w) (sort := 0) (g 2 3).toNat 0
  unfold hrA hrB srvG
  generalize srvF (g 128) (g 132) (g 133) (g 134) (fcDay (↑d) w) 0 (g 2 3).toNat 0 = l at h ⊢
  by_cases e : l = -1
  · simp only [if_pos e]; omega
  · simp only [if_neg e]
    have h2 : 0 ≤ l ∧ l < g 2 3 ∧ g 128 l.toNat = 0 := by
      rcases h with h | ⟨a, b, c⟩
      · exact absurd h e
      · exact ⟨by omega, by omega, c⟩
    have := jh l.toNat (by omega) h2.2.2
    omega
theorem Rules_askDay_s {day w : Int} {g : AG} (h0 : 0 ≤ day) (h1 : day < 14) : ∃ g', Rules_askDay day w g = some (0, g') ∧ FR [(27, 0)] g g' ∧ (∀ s : Nat, 1 ≤ s → s < 10 → g' 27 (s - 1) = fcDay day w s) := by
  unfold Rules_askDay
  obtain ⟨i0, i1, i2, i3, _⟩ := ix_lits
  rw [i0, i1, i2]
  simp (disch := omega) only [nw_id, ix_id, sb, if_true, if_false, if_pos, if_neg, true_and, and_true, false_and, and_false, and_self, tmE, tdE]
  refine ⟨_, rfl, Fr.up (Fr.up (Fr.up (Fr.fill Fr.rf (fun _ => rfl)) rfl) rfl) rfl, ?_⟩
  intro s hs hs2
  unfold fcDay
  simp only [up_at, fill_at, true_and]
  ((repeat (first | (split; · with_reducible rfl) | (split; rotate_left 1; · with_reducible rfl))) <;> first | with_reducible rfl | (refine absurd ?_ h; clear h; (repeat' apply And.intro) <;> omega) | omega | ((repeat' split) <;> first | rfl | omega))
theorem learn_s {kd fr md en cd hA hB : Nat → Int} {w : Int} : ∀ (n k : Nat) (g : AG), n + k = 14 → g 1 5 = w → XRel g kd fr md en cd → (∀ l : Nat, (l : Int) < g 2 3 → kd l = 0 → hA l = g 23 l ∧ hB l = g 24 l) →
    ∃ g', Voyage_learnHours_b k g = some (0, g') ∧ FR [(27, 0), (28, 0), (44, 0), (45, 0)] g g' ∧ (∀ d : Nat, d < k → g' 44 d = g 44 d ∧ g' 45 d = g 45 d) ∧ (∀ d : Nat, k ≤ d → d < 14 → (g' 44 d = if srvF kd md en cd (fcDay d w) 0 (g 2 3).toNat 0 = -1 then 0 else hA (srvF kd md en cd (fcDay d w) 0 (g 2 3).toNat 0).toNat) ∧ (g' 45 d = if srvF kd md en cd (fcDay d w) 0 (g 2 3).toNat 0 = -1 then 24 else hB (srvF kd md en cd (fcDay d w) 0 (g 2 3).toNat 0).toNat)) := by
  intro n
  induction n with
  | zero =>
    intro k g h hw J hh
    rw [Voyage_learnHours_b]
    simp (disch := omega) only [nw_id, ix_id, sb, if_true, if_false, if_pos, if_neg, true_and, and_true, false_and, and_false, and_self]
    exact ⟨g, rfl, Fr.rf, fun d _ => ⟨rfl, rfl⟩, fun d h1 h2 => by omega⟩
  | succ n ih =>
    intro k g h hw J hh
    rw [Voyage_learnHours_b]
    obtain ⟨g1, e1, f1, a1⟩ := Rules_askDay_s (day := (k : Int)) (w := w) (g := g) (by omega) (by omega)
    obtain ⟨g2, e2, f2⟩ := X_serving_s (sort := 0) (x := 100) (by omega) (by omega) (J.fr f1 rfl) a1
    rw [f1 2 3 rfl] at e2
    rw [hw, e1]
    simp (disch := omega) only [nw_id, ix_id, sb, if_true, if_false, if_pos, if_neg, true_and, and_true, false_and, and_false, and_self, e2, Int.toNat_natCast]
    have hr := srvF_rng (kd := kd) (md := md) (en := en) (cd := cd) (fc := fcDay k w) (sort := 0) (g 2 3).toNat 0
    have J0 := J.1
    have fs : FR [(27, 0), (28, 0), (44, 0), (45, 0)] g g2 := (f1.mo rfl).tr (f2.mo rfl)
    have hd : ∀ (v : Int), srvF kd md en cd (fcDay k w) 0 (g 2 3).toNat 0 = v → ∃ gl, ((if nw v = -1 then some (0, g2) else if 0 ≤ nw v ∧ nw v < 16 then some (g2 23 (ix v), g2) else none) = some ((if v = -1 then 0 else hA v.toNat), g2)) ∧ (∀ g9 : AG, g9 24 = g2 24 → (if nw v = -1 then some (24, g9) else if 0 ≤ nw v ∧ nw v < 16 then some (g9 24 (ix v), g9) else none) = some ((if v = -1 then 24 else hB v.toNat), g9)) ∧ gl = v := by
      intro v hv
      rw [hv] at hr
      refine ⟨v, ?_, ?_, rfl⟩
      · rcases hr with hr | ⟨r1, r2, r3⟩
        · subst hr
          rw [nw_m1]; rfl
        · have q := hh v.toNat (by omega) r3
          have q2 : g2 23 = g 23 := fs.cell (fun _ => rfl)
          simp (disch := omega) only [nw_id, ix_id, sb, if_true, if_false, if_pos, if_neg, true_and, and_true, false_and, and_false, and_self, q2]
          rw [q.1]
      · intro g9 h9
        rcases hr with hr | ⟨r1, r2, r3⟩
        · subst hr
          rw [nw_m1]; rfl
        · have q := hh v.toNat (by omega) r3
          have q2 : g2 24 = g 24 := fs.cell (fun _ => rfl)
          simp (disch := omega) only [nw_id, ix_id, sb, if_true, if_false, if_pos, if_neg, true_and, and_true, false_and, and_false, and_self, h9, q2]
          rw [q.2]
    obtain ⟨_, d1, d2, _⟩ := hd _ rfl
    rw [d1, sb]
    dsimp only
    rw [d2 _ (funext fun i => by simp [up_at]), sb]
    dsimp only
    obtain ⟨g', e3, f3, p3, q3⟩ := ih (k + 1) (up (up g2 44 k (if srvF kd md en cd (fcDay k w) 0 (g 2 3).toNat 0 = -1 then 0 else hA (srvF kd md en cd (fcDay k w) 0 (g 2 3).toNat 0).toNat)) 45 k (if srvF kd md en cd (fcDay k w) 0 (g 2 3).toNat 0 = -1 then 24 else hB (srvF kd md en cd (fcDay k w) 0 (g 2 3).toNat 0).toNat)) (by omega) (by simp [up_at]; rw [fs 1 5 rfl, hw]) ((J.fr fs rfl).fr (W := [(44, 0), (45, 0)]) (Fr.up (Fr.up Fr.rf rfl) rfl) rfl) (by
      intro l hl hk
      simp only [up_at, Nat.reduceEqDiff, false_and, if_false] at hl ⊢
      rw [fs 2 3 rfl] at hl
      rw [fs 23 l rfl, fs 24 l rfl]
      exact hh l hl hk)
    rw [show ((k + 1 : Nat) : Int) = (k : Int) + 1 from rfl] at e3
    refine ⟨g', e3, fs.tr ((Fr.up (Fr.up Fr.rf rfl) rfl).tr f3), ?_, ?_⟩
    · intro d hd
      have p := p3 d (by omega)
      have fs2 : FR [(27, 0), (28, 0)] g g2 := (f1.mo rfl).tr (f2.mo rfl)
      rw [p.1, p.2]
      simp only [up_at, Nat.reduceEqDiff, false_and, true_and, if_false]
      rw [if_neg (by omega), if_neg (by omega), fs2 44 d rfl, fs2 45 d rfl]
      exact ⟨rfl, rfl⟩
    · intro d hd1 hd2
      by_cases e : d = k
      · subst e
        have p := p3 d (by omega)
        rw [p.1, p.2]
        simp only [up_at, Nat.reduceEqDiff, false_and, true_and, if_false, if_true]
      · have q := q3 d (by omega) hd2
        simp only [up_at, Nat.reduceEqDiff, false_and, if_false] at q
        rw [fs 2 3 rfl] at q
        exact q
end
section
/-! plain programs: water, open, price, held, harm of a lock -/
theorem sm_water {x1 : Int} {g : AG} (h1 : I32 x1) (J : JRule g) (q : JWat g) (H : JHour g) :
    ∃ r1 r2, X_water x1 g = some r1 ∧ M_water x1 r1.2 = some r2 ∧ nw r1.1 = nw r2.1 ∧ JWat r2.2 ∧ JHour r2.2 ∧ FR [(1, 6), (117, 11), (27, 0), (28, 0), (44, 0), (45, 0)] g r2.2 := by
  unfold I32 at *
  by_cases h : 0 ≤ x1 ∧ x1 ≤ 999
  · have f0 : FR [(1, 6)] g (up g 1 5 x1) := Fr.up Fr.rf rfl
    have J1 := J.cg (f0.cg rfl)
    obtain ⟨g1, e1, f1, _, a1⟩ := learn_s (w := x1) (hA := g 129) (hB := g 130) 14 0 (up g 1 5 x1) (by omega) (by simp [up_at]) J1.xrel (by
      intro l hl hk
      have := J.2.2.2.1 l (by rw [f0 2 3 rfl] at hl; exact hl) (by rw [f0 128 l rfl] at hk; exact hk)
      rw [f0 23 l rfl, f0 24 l rfl]
      omega)
    have eX : X_water x1 g = some (1, g1) := by
      unfold X_water Voyage_learnHours
      rw [show ((0 : Nat) : Int) = (0 : Int) from rfl] at e1
      simp (disch := omega) only [nw_id, ix_id, sb, if_true, if_false, if_pos, if_neg, true_and, and_true, false_and, and_false, and_self, within0, e1]
    have eM : M_water x1 g1 = some (1, up g1 117 10 x1) := by
      unfold M_water
      simp (disch := omega) only [nw_id, ix_id, sb, if_true, if_false, if_pos, if_neg, true_and, and_true, false_and, and_false, and_self, isIn0]
    have fT : FR [(1, 6), (117, 11), (27, 0), (28, 0), (44, 0), (45, 0)] g (up g1 117 10 x1) := Fr.up ((f0.mo rfl).tr (f1.mo rfl)) rfl
    refine ⟨_, _, eX, eM, rfl, ?_, ?_, fT⟩
    · have p : FR [(27, 0), (28, 0), (44, 0), (45, 0)] (up g 1 5 x1) g1 := f1
      refine ⟨?_, ?_, ?_⟩ <;> simp [up_at] <;> rw [p 1 5 rfl] <;> simp [up_at] <;> omega
    · intro d hd
      have a := a1 d (by omega) hd
      have c : ∀ k, (k = 128 ∨ k = 129 ∨ k = 130 ∨ k = 132 ∨ k = 133 ∨ k = 134) → up g1 117 10 x1 k = g k := by
        rintro k (e | e | e | e | e | e) <;> subst e <;> exact fT.cell (fun _ => rfl)
      have c1 : (up g 1 5 x1) 128 = g 128 := f0.cell (fun _ => rfl)
      have c2 : (up g 1 5 x1) 132 = g 132 := f0.cell (fun _ => rfl)
      have c3 : (up g 1 5 x1) 133 = g 133 := f0.cell (fun _ => rfl)
      have c4 : (up g 1 5 x1) 134 = g 134 := f0.cell (fun _ => rfl)
      have c5 : (up g 1 5 x1) 2 3 = g 2 3 := f0 2 3 rfl
      rw [c1, c2, c3, c4, c5] at a
      unfold hrA hrB srvG
      dsimp only
      have c0 : up g1 117 10 x1 2 3 = g 2 3 := fT 2 3 rfl
      simp only [c 128 (by simp), c 129 (by simp), c 130 (by simp), c 132 (by simp), c 133 (by simp), c 134 (by simp), c0]
      simp only [up_at, Nat.reduceEqDiff, false_and, if_false, true_and, if_true]
      exact a
  · have eX : X_water x1 g = some (0, g) := by
      unfold X_water
      simp (disch := omega) only [nw_id, ix_id, sb, if_true, if_false, if_pos, if_neg, true_and, and_true, false_and, and_false, and_self, within0]
    have eM : M_water x1 g = some (0, g) := by
      unfold M_water
      simp (disch := omega) only [nw_id, ix_id, sb, if_true, if_false, if_pos, if_neg, true_and, and_true, false_and, and_false, and_self, isIn0]
    exact ⟨_, _, eX, eM, rfl, q, H, Fr.rf⟩
theorem M_open_s {x1 x2 : Int} {g : AG} (h1 : 0 ≤ x1 ∧ x1 ≤ 13) (h2 : 0 ≤ x2 ∧ x2 ≤ 1) (J : JRule g) : ∃ g', M_open x1 x2 g = some (if x2 = 0 then hrA g (g 117 10) x1.toNat else hrB g (g 117 10) x1.toNat, g') ∧ FR [(147, 0), (148, 0)] g g' := by
  obtain ⟨g1, e1, f1⟩ := M_locksLine_s (day := x1) J h1.1 (by omega)
  have hr := srvF_rng (kd := g 128) (md := g 132) (en := g 133) (cd := g 134) (fc := fcDay x1 (g 117 10)) (sort := 0) (g 2 3).toNat 0
  have J0 := J.1
  refine ⟨g1, ?_, f1⟩
  unfold M_open
  unfold hrA hrB
  rw [show ((x1.toNat : Nat) : Int) = x1 by omega]
  unfold srvG at e1 ⊢
  have c1 : g1 129 = g 129 := f1.cell (fun _ => rfl)
  have c2 : g1 130 = g 130 := f1.cell (fun _ => rfl)
  simp (disch := omega) only [nw_id, ix_id, sb, if_true, if_false, if_pos, if_neg, true_and, and_true, false_and, and_false, and_self, isIn0, e1]
  generalize srvF (g 128) (g 132) (g 133) (g 134) (fcDay x1 (g 117 10)) 0 (g 2 3).toNat 0 = l at hr ⊢
  by_cases e : l = -1
  · subst e
    simp (disch := omega) only [nw_id, ix_id, sb, if_true, if_false, if_pos, if_neg, true_and, and_true, false_and, and_false, and_self]
  · have hr2 : 0 ≤ l ∧ l < 16 := by rcases hr with hr | ⟨a, b, c⟩ <;> omega
    clear hr
    simp (disch := omega) only [nw_id, ix_id, sb, if_true, if_false, if_pos, if_neg, true_and, and_true, false_and, and_false, and_self, c1, c2]
    by_cases e2 : x2 = 0
    · simp (disch := omega) only [nw_id, ix_id, sb, if_true, if_false, if_pos, if_neg, true_and, and_true, false_and, and_false, and_self]
    · simp (disch := omega) only [nw_id, ix_id, sb, if_true, if_false, if_pos, if_neg, true_and, and_true, false_and, and_false, and_self]
theorem sm_open {x1 x2 : Int} {g : AG} (h1 : I32 x1) (h2 : I32 x2) (J : JRule g) (H : JHour g) :
    ∃ v1 r2, X_open x1 x2 g = some v1 ∧ M_open x1 x2 g = some r2 ∧ nw v1 = nw r2.1 ∧ FR [(147, 0), (148, 0)] g r2.2 := by
  unfold I32 at *
  by_cases h : 0 ≤ x1 ∧ x1 ≤ 13 ∧ 0 ≤ x2 ∧ x2 ≤ 1
  · obtain ⟨g1, e1, f1⟩ := M_open_s (x1 := x1) (x2 := x2) (g := g) (by omega) (by omega) J
    have H1 := H x1.toNat (by omega)
    refine ⟨_, _, ?_, e1, rfl, f1⟩
    unfold X_open
    by_cases e2 : x2 = 0
    · simp (disch := omega) only [nw_id, ix_id, sb, if_true, if_false, if_pos, if_neg, true_and, and_true, false_and, and_false, and_self, within0]
      rw [H1.1]
    · simp (disch := omega) only [nw_id, ix_id, sb, if_true, if_false, if_pos, if_neg, true_and, and_true, false_and, and_false, and_self, within0]
      rw [H1.2]
  · have eX : X_open x1 x2 g = some (-1) := by
      unfold X_open
      revert h
      simp (disch := omega) only [nw_id, ix_id, within0]
      intro h
      ((repeat (first | (split; · with_reducible rfl) | (split; rotate_left 1; · with_reducible rfl))) <;> first | with_reducible rfl | (refine absurd ?_ h; clear h; (repeat' apply And.intro) <;> omega) | omega | ((repeat' split) <;> first | rfl | omega))
    have eM : M_open x1 x2 g = some (-1, g) := by
      unfold M_open
      by_cases e1 : x1 < 0 ∨ 13 < x1
      · simp (disch := omega) only [nw_id, ix_id, sb, if_true, if_false, if_pos, if_neg, true_and, and_true, false_and, and_false, and_self, isIn0]
      · simp (disch := omega) only [nw_id, ix_id, sb, if_true, if_false, if_pos, if_neg, true_and, and_true, false_and, and_false, and_self, isIn0]
    exact ⟨_, _, eX, eM, rfl, Fr.rf⟩
theorem Rules_askWeek_s {wk : Int} {g : AG} : ∃ g', Rules_askWeek wk g = some (0, g') ∧ FR [(27, 0)] g g' ∧ (∀ i : Nat, i < 9 → g' 27 i = if i = 1 then wk else 0) := by
  unfold Rules_askWeek
  rw [ix_lits.2.1]
  simp (disch := omega) only [nw_id, ix_id, sb, if_true, if_false, if_pos, if_neg, true_and, and_true, false_and, and_false, and_self]
  refine ⟨_, rfl, Fr.up (Fr.fill Fr.rf (fun _ => rfl)) rfl, ?_⟩
  intro i hi
  simp only [up_at, fill_at, true_and]
  ((repeat (first | (split; · with_reducible rfl) | (split; rotate_left 1; · with_reducible rfl))) <;> first | with_reducible rfl | (refine absurd ?_ h; clear h; (repeat' apply And.intro) <;> omega) | omega | ((repeat' split) <;> first | rfl | omega))
theorem X_priceLine_s {b : Nat} {wk aw : Int} {g : AG} (hb : b < 10) (ha : aw = 0 ∨ aw = 1) (J : JRule g) : ∃ g', Boats_priceLine b wk aw g = some (srvG g (fcPrice wk (g 48 b) aw (g 49 b)) 2 (g 2 3).toNat 0, g') ∧ FR [(27, 0), (28, 0)] g g' ∧ (∀ s : Nat, 1 ≤ s → s < 10 → g' 27 (s - 1) = fcPrice wk (g 48 b) aw (g 49 b) s) := by
  obtain ⟨g1, e1, f1, a1⟩ := Rules_askWeek_s (wk := wk) (g := g)
  have f2 : FR [(27, 0)] g (up (up (up g1 27 3 (g 48 b)) 27 4 aw) 27 5 (g 49 b)) := Fr.up (Fr.up (Fr.up f1 rfl) rfl) rfl
  have a2 : ∀ s : Nat, 1 ≤ s → s < 10 → (up (up (up g1 27 3 (g 48 b)) 27 4 aw) 27 5 (g 49 b)) 27 (s - 1) = fcPrice wk (g 48 b) aw (g 49 b) s := by
    intro s hs hs2
    have := a1 (s - 1) (by omega)
    unfold fcPrice
    simp only [up_at, true_and, this]
    ((repeat (first | (split; · with_reducible rfl) | (split; rotate_left 1; · with_reducible rfl))) <;> first | with_reducible rfl | (refine absurd ?_ h; clear h; (repeat' apply And.intro) <;> omega) | omega | ((repeat' split) <;> first | rfl | omega))
  obtain ⟨g2, e2, f3⟩ := X_serving_s (sort := 2) (x := 102) (by omega) (by omega) ((J.xrel).fr f2 rfl) a2
  refine ⟨g2, ?_, (f2.mo rfl).tr (f3.mo rfl), ?_⟩
  · unfold Boats_priceLine
    have c1 : g1 48 b = g 48 b := f1 48 b rfl
    have c2 : g1 49 b = g 49 b := f1 49 b rfl
    have c3 : (if nw aw = 0 then (0 : Int) else 1) = aw := by rcases ha with rfl | rfl <;> simp (disch := omega) only [nw_id, ix_id, sb, if_true, if_false, if_pos, if_neg, true_and, and_true, false_and, and_false, and_self]
    rw [e1, sb, if_pos (by rw [nw_id (by omega) (by omega)]; omega), ix_lits.2.2.2.1, ix_lits.2.2.2.2.1, ix_lits.2.2.2.2.2.1, ix_id (by omega) (by omega), Int.toNat_natCast]
    dsimp only
    rw [c1, sb, sb, c3, sb]
    rw [show (up (up g1 27 3 (g 48 b)) 27 4 aw) 49 b = g 49 b by simp [up_at, c2], sb, e2, sb, f2 2 3 rfl]
  · intro s hs hs2
    rw [f3 27 (s - 1) rfl]
    exact a2 s hs hs2
/-- M's facts for a price -/
theorem M_priceFc {b : Nat} {wk aw : Int} {g : AG} : ∃ g1, g1 = up (up (up (up (fun a b => if a = 148 ∧ b < 10 then 0 else g a b) 148 2 wk) 148 4 (g 124 b)) 148 5 aw) 148 6 (g 125 b) ∧ FR [(148, 0)] g g1 ∧ (∀ k, k < 10 → g1 148 k = fcPrice wk (g 124 b) aw (g 125 b) k) := by
  refine ⟨_, rfl, ?_, ?_⟩
  · intro a b hab
    have n1 : a ≠ 148 := fun e => by subst e; revert hab; simp [inR, inP]
    simp only [up_at, n1, false_and, if_false]
  · intro k hk
    unfold fcPrice
    simp only [up_at, true_and]
    ((repeat (first | (split; · with_reducible rfl) | (split; rotate_left 1; · with_reducible rfl))) <;> first | with_reducible rfl | (refine absurd ?_ h; clear h; (repeat' apply And.intro) <;> omega) | omega | ((repeat' split) <;> first | rfl | omega))
def JBoR (g : AG) : Prop := g 117 12 = g 6 7 ∧ 0 ≤ g 6 7 ∧ g 6 7 ≤ 10
theorem M_price_s {b : Nat} {wk aw : Int} {g : AG} (hb : (b : Int) < g 6 7) (hB : JBoR g) (hw : 0 ≤ wk ∧ wk ≤ 9) (ha : aw = 0 ∨ aw = 1) (J : JRule g) :
    (srvG g (fcPrice wk (g 124 b) aw (g 125 b)) 2 (g 2 3).toNat 0 = -1 → ∃ g', M_price b wk aw g = some (-1000000, g') ∧ FR [(147, 0), (148, 0), (117, 101)] g g' ∧ g' 117 100 = 0) ∧
    (¬ srvG g (fcPrice wk (g 124 b) aw (g 125 b)) 2 (g 2 3).toNat 0 = -1 → ∃ l v g', srvG g (fcPrice wk (g 124 b) aw (g 125 b)) 2 (g 2 3).toNat 0 = (l : Nat) ∧ (l : Int) < g 2 3 ∧ g 128 l = 2 ∧ evl (g 134) (fcPrice wk (g 124 b) aw (g 125 b)) (g 132 l - g 131 l).toNat (g 131 l).toNat [] = some [v] ∧ M_price b wk aw g = some (v, g') ∧ FR [(147, 0), (148, 0), (117, 101)] g g' ∧ g' 117 100 = 1) := by
  obtain ⟨g1, rfl, f1, a1⟩ := M_priceFc (b := b) (wk := wk) (aw := aw) (g := g)
  obtain ⟨g2, e2, f2⟩ := M_serves_s (sort := 2) (by omega) (J.cg (f1.cg rfl)) a1
  have hB0 := hB
  obtain ⟨b1, b2, b3⟩ := hB
  have J0 := J.1
  have fT : FR [(147, 0), (148, 0)] g g2 := (f1.mo rfl).tr (f2.mo rfl)
  have c3 : (if nw aw = 0 then (0 : Int) else 1) = aw := by rcases ha with rfl | rfl <;> simp (disch := omega) only [nw_id, ix_id, sb, if_true, if_false, if_pos, if_neg, true_and, and_true, false_and, and_false, and_self]
  have k1 : ∀ G : AG, G = up (up (up (up (fun a b => if a = 148 ∧ b < 10 then 0 else g a b) 148 2 wk) 148 4 (g 124 b)) 148 5 aw) 148 6 (g 125 b) → G 128 = g 128 ∧ G 132 = g 132 ∧ G 133 = g 133 ∧ G 134 = g 134 ∧ G 2 3 = g 2 3 := by
    intro G hG
    rw [hG]
    exact ⟨f1.cell (fun _ => rfl), f1.cell (fun _ => rfl), f1.cell (fun _ => rfl), f1.cell (fun _ => rfl), f1 2 3 rfl⟩
  obtain ⟨k2, k3, k4, k5, k6⟩ := k1 _ rfl
  unfold srvG at e2
  rw [k2, k3, k4, k5, k6] at e2
  have hr := srvF_rng (kd := g 128) (md := g 132) (en := g 133) (cd := g 134) (fc := fcPrice wk (g 124 b) aw (g 125 b)) (sort := 2) (g 2 3).toNat 0
  have pre : ∀ r, M_price b wk aw g = r ↔ ((M_serves 2 (up (up (up (up (fun a b => if a = 148 ∧ b < 10 then 0 else g a b) 148 2 wk) 148 4 (g 124 b)) 148 5 aw) 148 6 (g 125 b))) >>= fun r16 => some (if nw r16.1 = -1 then 0 else 1) >>= fun t18 => some (up r16.2 117 100 t18) >>= fun g20 => (if nw r16.1 = -1 then some (-1000000, g20) else if 0 ≤ nw r16.1 ∧ nw r16.1 < 16 then (M_comesTo (g20 131 (ix r16.1)) (g20 132 (ix r16.1)) g20 >>= fun r24 => some (r24.1, r24.2)) else none) >>= fun r26 => some (r26.1, r26.2)) = r := by
    intro r
    unfold M_price
    rw [M_forgets_s, ix_lits.2.2.1, ix_lits.2.2.2.2.1, ix_lits.2.2.2.2.2.1, ix_lits.2.2.2.2.2.2.1]
    simp (disch := omega) only [M_isBoat0, isIn0, if_neg, sb, nw_id (a := (b : Int)), if_pos, ix_id (a := (b : Int)), Int.toNat_natCast, c3]
    simp only [up_at, Nat.reduceEqDiff, false_and, if_false]
  unfold srvG
  constructor
  · intro e
    rw [e] at e2
    refine ⟨up g2 117 100 0, ?_, Fr.up (fT.mo rfl) rfl, by simp [up_at]⟩
    rw [pre, e2, sb, nw_m1]
    rfl
  · intro e
    generalize srvF (g 128) (g 132) (g 133) (g 134) (fcPrice wk (g 124 b) aw (g 125 b)) 2 (g 2 3).toNat 0 = s at hr e e2 ⊢
    have hr2 : 0 ≤ s ∧ s < g 2 3 ∧ g 128 s.toNat = 2 := by
      rcases hr with hr | ⟨a, b, c⟩
      · exact absurd hr e
      · exact ⟨by omega, by omega, c⟩
    clear hr
    obtain ⟨l, rfl⟩ := natOf hr2.1
    rw [Int.toNat_natCast] at hr2
    have f3 : FR [(147, 0), (148, 0), (117, 101)] g (up g2 117 100 1) := Fr.up (fT.mo rfl) rfl
    obtain ⟨v, g3, e3, f4, v1⟩ := (J.cg (f3.cg rfl)).val (fc := fcPrice wk (g 124 b) aw (g 125 b)) (by
      intro k hk
      have := a1 k hk
      rw [show (up g2 117 100 1) 148 k = g2 148 k by simp [up_at], f2 148 k rfl]
      exact this) (l := l) (by rw [f3 2 3 rfl]; exact hr2.2.1) (by rw [f3 128 l rfl]; omega)
    have q1 : (up g2 117 100 1) 134 = g 134 := f3.cell (fun _ => rfl)
    have q2 : (up g2 117 100 1) 132 l = g 132 l := f3 132 l rfl
    have q3 : (up g2 117 100 1) 131 l = g 131 l := f3 131 l rfl
    refine ⟨l, v, g3, rfl, hr2.2.1, hr2.2.2, ?_, ?_, f3.tr (f4.mo rfl), ?_⟩
    · rw [q1, q2, q3] at v1; exact v1
    · rw [pre, e2, sb]
      simp (disch := omega) only [nw_id (a := (l : Int)), if_neg, sb, if_pos, ix_id (a := (l : Int)), Int.toNat_natCast, e3]
    · rw [f4 117 100 rfl]; simp [up_at]

theorem X_price_s {b : Nat} {wk aw : Int} {g : AG} (hb : (b : Int) < g 6 7) (hB : JBoR g) (hw : 0 ≤ wk ∧ wk ≤ 9) (ha : aw = 0 ∨ aw = 1) (J : JRule g) :
    (srvG g (fcPrice wk (g 48 b) aw (g 49 b)) 2 (g 2 3).toNat 0 = -1 → ∃ g', X_price b wk aw g = some (-1000000, g') ∧ FR [(27, 0), (28, 0)] g g') ∧
    (∀ l : Nat, srvG g (fcPrice wk (g 48 b) aw (g 49 b)) 2 (g 2 3).toNat 0 = l → (l : Int) < g 2 3 → g 128 l = 2 → ∀ v, evl (g 134) (fcPrice wk (g 48 b) aw (g 49 b)) (g 132 l - g 131 l).toNat (g 131 l).toNat [] = some [v] → ∃ g', X_price b wk aw g = some (v, g') ∧ FR [(27, 0), (28, 0)] g g') := by
  obtain ⟨b1, b2, b3⟩ := hB
  obtain ⟨g1, e1, f1, a1⟩ := X_priceLine_s (b := b) (wk := wk) (aw := aw) (by omega) ha J
  have J0 := J.1
  constructor
  · intro e
    rw [e] at e1
    refine ⟨g1, ?_, f1⟩
    unfold X_price
    have c1 : ¬ nw (X_isBoat b g) = 0 := by rw [X_isBoat0 (by omega) (by omega) b2 b3]; omega
    have c2 : ¬ nw (X_isWeek wk) = 0 := by clear c1; rw [isWeek0 (by omega) (by omega)]; omega
    rw [if_neg c1, if_neg c2, e1, sb, nw_m1, if_pos rfl, sb]
  · intro l e hl hk v hv
    rw [e] at e1
    obtain ⟨v', g2, e2, f2, hv'⟩ := (J.xrel.fr f1 rfl).val a1 (l := l) (by rw [f1 2 3 rfl]; exact hl) (by omega)
    rw [hv] at hv'
    cases hv'
    refine ⟨g2, ?_, f1.tr (f2.mo rfl)⟩
    unfold X_price
    have c3 : ¬ nw (l : Int) = -1 := by rw [nw_id (by omega) (by omega)]; omega
    have c1 : ¬ nw (X_isBoat b g) = 0 := by clear c3; rw [X_isBoat0 (by omega) (by omega) b2 b3]; omega
    have c2 : ¬ nw (X_isWeek wk) = 0 := by clear c1 c3; rw [isWeek0 (by omega) (by omega)]; omega
    rw [if_neg c1, if_neg c2, e1, sb, if_neg c3, e2, sb, sb]
def JBoV (g : AG) : Prop := ∀ b : Nat, b < 10 → g 124 b = g 48 b ∧ g 125 b = g 49 b ∧ g 126 b = g 50 b ∧ g 127 b = g 51 b
theorem sm_price {x1 x2 x3 : Int} {g : AG} (h1 : I32 x1) (h2 : I32 x2) (h3 : x3 = 0 ∨ x3 = 1) (J : JRule g) (hB : JBoR g) (hV : JBoV g) :
    ∃ r1 r2, X_price x1 x2 x3 g = some r1 ∧ M_price x1 x2 x3 r1.2 = some r2 ∧ nw r1.1 = nw r2.1 ∧ FR [(27, 0), (28, 0), (147, 0), (148, 0), (117, 101)] g r2.2 := by
  unfold I32 at *
  have hB0 := hB
  obtain ⟨b1, b2, b3⟩ := hB
  by_cases h : 0 ≤ x1 ∧ x1 < g 6 7 ∧ 0 ≤ x2 ∧ x2 ≤ 9
  · obtain ⟨b, rfl⟩ := natOf h.1
    have V := hV b (by omega)
    have key : ∀ g1 : AG, FR [(27, 0), (28, 0)] g g1 → (srvG g (fcPrice x2 (g 48 b) x3 (g 49 b)) 2 (g 2 3).toNat 0 = -1 → ∃ g', M_price b x2 x3 g1 = some (-1000000, g') ∧ FR [(147, 0), (148, 0), (117, 101)] g1 g') ∧ (¬ srvG g (fcPrice x2 (g 48 b) x3 (g 49 b)) 2 (g 2 3).toNat 0 = -1 → ∃ l v g', srvG g (fcPrice x2 (g 48 b) x3 (g 49 b)) 2 (g 2 3).toNat 0 = (l : Nat) ∧ (l : Int) < g 2 3 ∧ g 128 l = 2 ∧ evl (g 134) (fcPrice x2 (g 48 b) x3 (g 49 b)) (g 132 l - g 131 l).toNat (g 131 l).toNat [] = some [v] ∧ M_price b x2 x3 g1 = some (v, g') ∧ FR [(147, 0), (148, 0), (117, 101)] g1 g') := by
      intro g1 f1
      have m := M_price_s (b := b) (wk := x2) (aw := x3) (g := g1) (by rw [f1 6 7 rfl]; omega) ⟨by rw [f1 117 12 rfl, f1 6 7 rfl]; exact b1, by rw [f1 6 7 rfl]; exact b2, by rw [f1 6 7 rfl]; exact b3⟩ (by omega) h3 (J.cg (f1.cg rfl))
      have c1 : g1 128 = g 128 := f1.cell (fun _ => rfl)
      have c2 : g1 132 = g 132 := f1.cell (fun _ => rfl)
      have c3 : g1 133 = g 133 := f1.cell (fun _ => rfl)
      have c4 : g1 134 = g 134 := f1.cell (fun _ => rfl)
      have c5 : g1 131 = g 131 := f1.cell (fun _ => rfl)
      unfold srvG at m ⊢
      rw [c1, c2, c3, c4, c5, f1 2 3 rfl, f1 124 b rfl, f1 125 b rfl, V.1, V.2.1] at m
      refine ⟨fun e => ?_, fun e => ?_⟩
      · obtain ⟨g', p1, p2, p3⟩ := m.1 e
        exact ⟨g', p1, p2⟩
      · obtain ⟨l, v, g', p1, p2, p3, p4, p5, p6, p7⟩ := m.2 e
        exact ⟨l, v, g', p1, p2, p3, p4, p5, p6⟩
    have hx := X_price_s (b := b) (wk := x2) (aw := x3) (g := g) (by omega) hB0 (by omega) h3 J
    by_cases e : srvG g (fcPrice x2 (g 48 b) x3 (g 49 b)) 2 (g 2 3).toNat 0 = -1
    · obtain ⟨g1, e1, f1⟩ := hx.1 e
      obtain ⟨g2, e2, f2⟩ := (key g1 f1).1 e
      exact ⟨_, _, e1, e2, rfl, (f1.mo rfl).tr (f2.mo rfl)⟩
    · obtain ⟨l, v, _, p1, p2, p3, p4, _, _⟩ := (key g Fr.rf).2 e
      obtain ⟨g1, e1, f1⟩ := hx.2 l p1 p2 p3 v p4
      obtain ⟨l', v', g2, q1, q2, q3, q4, q5, q6⟩ := (key g1 f1).2 e
      rw [p1] at q1
      have : l = l' := by omega
      subst this
      rw [p4] at q4
      cases q4
      exact ⟨_, _, e1, q5, rfl, (f1.mo rfl).tr (q6.mo rfl)⟩
  · have eX : X_price x1 x2 x3 g = some (-1000000, g) := by
      unfold X_price
      by_cases e : x1 < 0 ∨ g 6 7 - 1 < x1
      · simp (disch := omega) only [nw_id, ix_id, sb, if_true, if_false, if_pos, if_neg, true_and, and_true, false_and, and_false, and_self, X_isBoat0]
      · simp (disch := omega) only [nw_id, ix_id, sb, if_true, if_false, if_pos, if_neg, true_and, and_true, false_and, and_false, and_self, X_isBoat0, isWeek0]
    have eM : M_price x1 x2 x3 g = some (-1000000, g) := by
      unfold M_price
      by_cases e : x1 < 0 ∨ g 6 7 - 1 < x1
      · simp (disch := omega) only [nw_id, ix_id, sb, if_true, if_false, if_pos, if_neg, true_and, and_true, false_and, and_false, and_self, M_isBoat0]
      · simp (disch := omega) only [nw_id, ix_id, sb, if_true, if_false, if_pos, if_neg, true_and, and_true, false_and, and_false, and_self, M_isBoat0, isIn0]
    exact ⟨_, _, eX, eM, rfl, Fr.rf⟩
end
