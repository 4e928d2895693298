/-! plain programs: the ground (starts with rows of kit/laws/BITS.to-paste) -/
def bt (x : Int32) (i : Nat) : Bool := x.toBitVec.getLsbD i
theorem b_ext {x y : Int32} (h : ∀ i, i < 32 → bt x i = bt y i) : x = y := Int32.toBitVec_inj.mp (BitVec.eq_of_getLsbD_eq (fun i hi => h i hi))
theorem b_or (x y : Int32) (i : Nat) : bt (x ||| y) i = (bt x i || bt y i) := by unfold bt; rw [Int32.toBitVec_or, BitVec.getLsbD_or]
theorem b_and (x y : Int32) (i : Nat) : bt (x &&& y) i = (bt x i && bt y i) := by unfold bt; rw [Int32.toBitVec_and, BitVec.getLsbD_and]
theorem b_xor (x y : Int32) (i : Nat) : bt (x ^^^ y) i = (bt x i ^^ bt y i) := by unfold bt; rw [Int32.toBitVec_xor, BitVec.getLsbD_xor]
theorem b_big {x : Int32} {i : Nat} (h : 32 ≤ i) : bt x i = false := BitVec.getLsbD_of_ge _ _ h
theorem b_255 (i : Nat) : bt 255 i = decide (i < 8) := by
  rcases Nat.lt_or_ge i 32 with h | h
  · exact (by decide +kernel : ∀ i, i < 32 → bt 255 i = decide (i < 8)) i h
  · rw [b_big h, decide_eq_false (by omega)]
theorem b_65535 (i : Nat) : bt 65535 i = decide (i < 16) := by
  rcases Nat.lt_or_ge i 32 with h | h
  · exact (by decide +kernel : ∀ i, i < 32 → bt 65535 i = decide (i < 16)) i h
  · rw [b_big h, decide_eq_false (by omega)]
theorem b_m1 : ∀ i, i < 32 → bt (-1) i = true := by decide +kernel
theorem b_0 (i : Nat) : bt 0 i = false := BitVec.getLsbD_zero
theorem s_l : ∀ n, n < 32 → ((nI n &&& 31).toBitVec.smod 32).toNat = n := by decide +kernel
theorem s_u : ∀ n, n < 32 → (((nI n).toUInt32 &&& Int32.toUInt32 31).toBitVec % 32).toNat = n := by decide +kernel
theorem b_shl (n : Nat) (hn : n < 32) (x : Int32) {i : Nat} (hi : i < 32) : bt (x <<< (nI n &&& 31)) i = (decide (n ≤ i) && bt x (i - n)) := by
  unfold bt
  rw [Int32.toBitVec_shiftLeft]
  show (x.toBitVec <<< ((nI n &&& 31).toBitVec.smod 32).toNat).getLsbD i = _
  rw [s_l n hn, BitVec.getLsbD_shiftLeft]
  rcases Nat.lt_or_ge i n with h | h
  · simp [h, Nat.not_le.mpr h]
  · simp [hi, h, Nat.not_lt.mpr h]
theorem b_ushr (n : Nat) (hn : n < 32) (x : Int32) (i : Nat) : bt ((x.toUInt32 >>> ((nI n).toUInt32 &&& Int32.toUInt32 31)).toInt32) i = bt x (n + i) := by
  show (x.toUInt32 >>> ((nI n).toUInt32 &&& Int32.toUInt32 31)).toBitVec.getLsbD i = x.toUInt32.toBitVec.getLsbD (n + i)
  rw [UInt32.toBitVec_shiftRight]
  show (x.toUInt32.toBitVec >>> (((nI n).toUInt32 &&& Int32.toUInt32 31).toBitVec % 32).toNat).getLsbD i = _
  rw [s_u n hn, BitVec.getLsbD_ushiftRight]
theorem b_sshr (n : Nat) (hn : n < 32) (x : Int32) {i : Nat} (hi : i < 32) : bt (x >>> (nI n &&& 31)) i = if n + i < 32 then bt x (n + i) else bt x 31 := by
  unfold bt
  rw [Int32.toBitVec_shiftRight]
  show (x.toBitVec.sshiftRight ((nI n &&& 31).toBitVec.smod 32).toNat).getLsbD i = _
  rw [s_l n hn, BitVec.getLsbD_sshiftRight, BitVec.msb_eq_getLsbD_last]
  simp [hi]
theorem sb {α β : Type} (a : α) (f : α → Option β) : (some a >>= f) = f a := rfl
theorem nb {α β : Type} (f : α → Option β) : ((none : Option α) >>= f) = none := rfl
theorem ix_id {a : Int} (h1 : -2147483648 ≤ a) (h2 : a < 2147483648) : ix a = a.toNat := by unfold ix; rw [nw_id h1 h2]
theorem nw_0 : nw 0 = 0 := nw_id (by decide) (by decide)
theorem nw_1 : nw 1 = 1 := nw_id (by decide) (by decide)
theorem nw_m1 : nw (-1) = -1 := nw_id (by decide) (by decide)
theorem up_at (g : AG) (k i : Nat) (v : Int) (a b : Nat) : up g k i v a b = if a = k ∧ b = i then v else g a b := rfl
theorem fill_at (g : AG) (k n : Nat) (v : Int) (a b : Nat) : fillG g k n v a b = if a = k ∧ b < n then v else g a b := rfl
/-! frames -/
def Fr (W : Nat → Nat → Bool) (g g' : AG) : Prop := ∀ k i, W k i = false → g' k i = g k i
theorem Fr.rf {W : Nat → Nat → Bool} {g : AG} : Fr W g g := fun _ _ _ => rfl
theorem Fr.tr {W : Nat → Nat → Bool} {g g' g'' : AG} (h1 : Fr W g g') (h2 : Fr W g' g'') : Fr W g g'' := fun k i h => (h2 k i h).trans (h1 k i h)
theorem Fr.mo {W W' : Nat → Nat → Bool} {g g' : AG} (h : ∀ k i, W' k i = false → W k i = false) (h1 : Fr W g g') : Fr W' g g' := fun k i q => h1 k i (h k i q)
theorem Fr.up {W : Nat → Nat → Bool} {g g' : AG} {k i : Nat} {v : Int} (h1 : Fr W g g') (hw : W k i = true) : Fr W g (up g' k i v) := by
  intro a b h
  rw [up_at, if_neg (fun q => by rw [q.1, q.2, hw] at h; cases h)]
  exact h1 a b h
theorem Fr.fill {W : Nat → Nat → Bool} {g g' : AG} {k n : Nat} {v : Int} (h1 : Fr W g g') (hw : ∀ i, W k i = true) : Fr W g (fillG g' k n v) := by
  intro a b h
  rw [fill_at, if_neg (fun q => by rw [q.1, hw] at h; cases h)]
  exact h1 a b h
theorem Fr.cell {W : Nat → Nat → Bool} {g g' : AG} (h : Fr W g g') {k : Nat} (hk : ∀ i, W k i = false) : g' k = g k := funext fun i => h k i (hk i)
def rs (R : Nat → Nat → Bool) (g : AG) : AG := fun k i => if R k i = true then g k i else 0
theorem rs_eq {R : Nat → Nat → Bool} {g g' : AG} (h : ∀ k i, R k i = true → g' k i = g k i) : rs R g' = rs R g := by
  funext k i
  unfold rs
  by_cases q : R k i = true
  · rw [if_pos q, if_pos q, h k i q]
  · rw [if_neg q, if_neg q]
/-! bits of an int -/
def tb (x : Int) (i : Nat) : Bool := bt (Int32.ofInt x) i
theorem oI (n : Nat) : Int32.ofInt (n : Int) = nI n := Int32.ofInt_eq_ofNat
theorem tb_toInt (x : Int32) (i : Nat) : tb x.toInt i = bt x i := by unfold tb; rw [Int32.ofInt_toInt]
theorem tb_nw {x y : Int} (h : nw x = nw y) (i : Nat) : tb x i = tb y i := by
  have e : Int32.ofInt x = Int32.ofInt y := by rw [← Int32.toInt_inj, Int32.toInt_ofInt, Int32.toInt_ofInt]; exact h
  unfold tb; rw [e]
theorem tb_ext {x y : Int} (h : ∀ i, i < 32 → tb x i = tb y i) : nw x = nw y := by
  have e : Int32.ofInt x = Int32.ofInt y := b_ext h
  have e2 : (Int32.ofInt x).toInt = (Int32.ofInt y).toInt := by rw [e]
  rw [Int32.toInt_ofInt, Int32.toInt_ofInt] at e2
  exact e2
theorem tb_or (x y : Int) (i : Nat) : tb (orI x y) i = (tb x i || tb y i) := by unfold orI; rw [tb_toInt, b_or]; rfl
theorem tb_and (x y : Int) (i : Nat) : tb (andI x y) i = (tb x i && tb y i) := by unfold andI; rw [tb_toInt, b_and]; rfl
theorem tb_xor (x y : Int) (i : Nat) : tb (xorI x y) i = (tb x i ^^ tb y i) := by unfold xorI; rw [tb_toInt, b_xor]; rfl
theorem tb_0 (i : Nat) : tb 0 i = false := b_0 i
theorem bt_1 : ∀ i, i < 32 → bt 1 i = decide (i = 0) := by decide +kernel
theorem tb_shl (x : Int) (k : Nat) (hk : k < 32) {i : Nat} (hi : i < 32) : tb (shlI x k) i = (decide (k ≤ i) && tb x (i - k)) := by
  unfold shlI; rw [tb_toInt, oI, b_shl k hk _ hi]; rfl
theorem tb_shl1 (k : Nat) (hk : k < 32) {i : Nat} (hi : i < 32) : tb (shlI 1 k) i = decide (i = k) := by
  rw [tb_shl 1 k hk hi]
  show (decide (k ≤ i) && bt 1 (i - k)) = _
  rw [bt_1 _ (by omega)]
  by_cases h : i = k
  · subst h; simp
  · simp [h]; omega
theorem tb_shr (x : Int) (k : Nat) (hk : k < 32) {i : Nat} (hi : i + k < 32) : tb (shrI x k) i = tb x (k + i) := by
  unfold shrI; rw [tb_toInt, oI, b_sshr k hk _ (by omega), if_pos (by omega)]; rfl
theorem tb_1 {i : Nat} (hi : i < 32) : tb 1 i = decide (i = 0) := bt_1 i hi
theorem tb_m1 {i : Nat} (hi : i < 32) : tb (-1) i = true := b_m1 i hi
theorem nw_and (x y : Int) : nw (andI x y) = andI x y := by
  unfold andI
  have h := Int32.le_toInt (Int32.ofInt x &&& Int32.ofInt y)
  have h2 := Int32.toInt_lt (Int32.ofInt x &&& Int32.ofInt y)
  exact nw_id (by omega) (by omega)
theorem nw_or (x y : Int) : nw (orI x y) = orI x y := by
  unfold orI
  have h := Int32.le_toInt (Int32.ofInt x ||| Int32.ofInt y)
  have h2 := Int32.toInt_lt (Int32.ofInt x ||| Int32.ofInt y)
  exact nw_id (by omega) (by omega)
/-- bit k of x, as the machine asks for it -/
theorem bit_q (x : Int) (k : Nat) (hk : k < 32) : nw (andI (shrI x k) 1) = if tb x k then 1 else 0 := by
  have h : ∀ i, i < 32 → tb (andI (shrI x k) 1) i = tb (if tb x k then 1 else 0) i := by
    intro i hi
    rw [tb_and, tb_1 hi]
    by_cases h0 : i = 0
    · subst h0
      rw [tb_shr x k hk (by omega)]
      show (tb x k && true) = _
      cases h : tb x k with
      | false => simp [tb_0]
      | true => simp [tb_1]
    · cases h : tb x k with
      | false => simp [h0, tb_0]
      | true => simp [h0, tb_1 hi]
  have e := tb_ext h
  rw [e]
  split
  · exact nw_1
  · exact nw_0
theorem nwb (x : Int) : -2147483648 ≤ nw x ∧ nw x < 2147483648 := by
  have h1 := Int.bmod_lt (x := x) (m := 4294967296) (by decide)
  have h2 := Int.le_bmod (x := x) (m := 4294967296) (by decide)
  unfold nw
  omega
theorem isIn0 {x a b : Int} (h1 : -2147483648 ≤ x) (h2 : x < 2147483648) (h3 : -2147483648 ≤ a) (h4 : a < 2147483648) (h5 : -2147483648 ≤ b) (h6 : b < 2147483648) : (nw (M_isIn x a b) = 0) = (x < a ∨ b < x) := by
  unfold M_isIn
  rw [nw_id h1 h2, nw_id h3 h4, nw_id h5 h6]
  by_cases q1 : x < a
  · rw [if_pos q1]; simp [nw_0, q1]
  · rw [if_neg q1]
    by_cases q2 : b < x
    · rw [if_pos q2]; simp [nw_0, q2]
    · rw [if_neg q2]; simp [nw_1, q1, q2]
theorem within0 {x a b : Int} (h1 : -2147483648 ≤ x) (h2 : x < 2147483648) (h3 : -2147483648 ≤ a) (h4 : a < 2147483648) (h5 : -2147483648 ≤ b) (h6 : b < 2147483648) : (nw (X_within x a b) = 0) = (x < a ∨ b < x) := isIn0 h1 h2 h3 h4 h5 h6
theorem isPoint0 {x : Int} (h1 : -2147483648 ≤ x) (h2 : x < 2147483648) : (nw (M_isPoint x) = 0) = (x < 0 ∨ 15 < x) := isIn0 h1 h2 (by decide) (by decide) (by decide) (by decide)
theorem isPointX0 {x : Int} (h1 : -2147483648 ≤ x) (h2 : x < 2147483648) : (nw (X_isPoint x) = 0) = (x < 0 ∨ 15 < x) := isIn0 h1 h2 (by decide) (by decide) (by decide) (by decide)
theorem isTime0 {x : Int} (h1 : -2147483648 ≤ x) (h2 : x < 2147483648) : (nw (M_isTime x) = 0) = (x < 0 ∨ 20159 < x) := isIn0 h1 h2 (by decide) (by decide) (by decide) (by decide)
theorem isTimeX0 {x : Int} (h1 : -2147483648 ≤ x) (h2 : x < 2147483648) : (nw (X_isTime x) = 0) = (x < 0 ∨ 20159 < x) := isIn0 h1 h2 (by decide) (by decide) (by decide) (by decide)
theorem isBerths0 {x : Int} (h1 : -2147483648 ≤ x) (h2 : x < 2147483648) : (nw (X_isBerths x) = 0) = (x < 2 ∨ 12 < x) := isIn0 h1 h2 (by decide) (by decide) (by decide) (by decide)
theorem isWeek0 {x : Int} (h1 : -2147483648 ≤ x) (h2 : x < 2147483648) : (nw (X_isWeek x) = 0) = (x < 0 ∨ 9 < x) := isIn0 h1 h2 (by decide) (by decide) (by decide) (by decide)
theorem M_isBoat0 {x : Int} {g : AG} (h1 : -2147483648 ≤ x) (h2 : x < 2147483648) (h3 : 0 ≤ g 117 12) (h4 : g 117 12 ≤ 10) : (nw (M_isBoat x g) = 0) = (x < 0 ∨ g 117 12 - 1 < x) := isIn0 h1 h2 (by decide) (by decide) (by omega) (by omega)
theorem X_isBoat0 {x : Int} {g : AG} (h1 : -2147483648 ≤ x) (h2 : x < 2147483648) (h3 : 0 ≤ g 6 7) (h4 : g 6 7 ≤ 10) : (nw (X_isBoat x g) = 0) = (x < 0 ∨ g 6 7 - 1 < x) := isIn0 h1 h2 (by decide) (by decide) (by omega) (by omega)
theorem tdE {a b : Int} (h : 0 ≤ a) : a.tdiv b = a / b := Int.tdiv_eq_ediv_of_nonneg h
theorem tmE {a b : Int} (h : 0 ≤ a) : a.tmod b = a % b := Int.tmod_eq_emod_of_nonneg h
/-! regions: (cell, 0) a whole cell, (cell, i + 1) one place of it -/
abbrev Reg : Type := List (Nat × Nat)
def inP (p : Nat × Nat) (k i : Nat) : Bool := Nat.beq p.1 k && (Nat.beq p.2 0 || Nat.beq p.2 (i + 1))
def inR : Reg → Nat → Nat → Bool
  | [], _, _ => false
  | p :: R, k, i => inP p k i || inR R k i
def djP (p q : Nat × Nat) : Bool := !(Nat.beq p.1 q.1) || (!(Nat.beq p.2 0) && !(Nat.beq q.2 0) && !(Nat.beq p.2 q.2))
def djR (R W : Reg) : Bool := R.all fun p => W.all fun q => djP p q
theorem inR_iff {R : Reg} {k i : Nat} : inR R k i = true ↔ ∃ p, p ∈ R ∧ inP p k i = true := by
  induction R with
  | nil => simp [inR]
  | cons p R ih => simp [inR, ih]
theorem djP_ok {p q : Nat × Nat} (h : djP p q = true) {k i : Nat} (h1 : inP p k i = true) : inP q k i = false := by
  cases h2 : inP q k i with
  | false => rfl
  | true =>
    exfalso
    unfold inP at h1 h2
    unfold djP at h
    simp only [Bool.and_eq_true, Bool.or_eq_true, Bool.not_eq_true', Nat.beq_eq] at h h1 h2
    have e := h1.1.trans h2.1.symm
    rcases h with h | ⟨⟨h3, h4⟩, h5⟩
    · rw [e] at h; simp at h
    · rcases h1.2 with a | a
      · rw [a] at h3; simp at h3
      · rcases h2.2 with b | b
        · rw [b] at h4; simp at h4
        · rw [a, b] at h5; simp at h5
theorem djR_ok {R W : Reg} (h : djR R W = true) {k i : Nat} (h1 : inR R k i = true) : inR W k i = false := by
  cases h2 : inR W k i with
  | false => rfl
  | true =>
    obtain ⟨p, hp, hp1⟩ := inR_iff.mp h1
    obtain ⟨q, hq, hq1⟩ := inR_iff.mp h2
    have h3 := List.all_eq_true.mp (List.all_eq_true.mp h p hp) q hq
    rw [djP_ok h3 hp1] at hq1
    cases hq1
/-- every place of R is one of W -/
def suR (R W : Reg) : Bool := R.all fun p => W.any fun q => Nat.beq p.1 q.1 && (Nat.beq q.2 0 || Nat.beq p.2 q.2)
theorem suR_ok {R W : Reg} (h : suR R W = true) {k i : Nat} (h1 : inR W k i = false) : inR R k i = false := by
  cases h2 : inR R k i with
  | false => rfl
  | true =>
    exfalso
    obtain ⟨p, hp, hp1⟩ := inR_iff.mp h2
    have h3 := List.all_eq_true.mp h p hp
    obtain ⟨q, hq, hq1⟩ := List.any_eq_true.mp h3
    have h4 : inR W k i = true := inR_iff.mpr ⟨q, hq, by
      unfold inP at hp1 ⊢
      simp only [Bool.and_eq_true, Bool.or_eq_true, Nat.beq_eq] at hp1 hq1 ⊢
      refine ⟨hq1.1.symm.trans hp1.1, ?_⟩
      rcases hq1.2 with a | a
      · exact Or.inl a
      · rcases hp1.2 with b | b
        · exact Or.inl (a.symm.trans b)
        · exact Or.inr (a.symm.trans b)⟩
    rw [h1] at h4
    cases h4
abbrev FR (W : Reg) (g g' : AG) : Prop := Fr (inR W) g g'
theorem FR.mo {R W : Reg} {g g' : AG} (h1 : FR R g g') (h : suR R W = true) : FR W g g' := Fr.mo (fun _ _ q => suR_ok h q) h1
/-- a claim that reads R alone holds behind a change of W alone -/
theorem FR.cg {R W : Reg} {g g' : AG} (h1 : FR W g g') (h : djR R W = true) : ∀ k i, inR R k i = true → g' k i = g k i := fun k i q => h1 k i (djR_ok h q)
theorem inR_whole {R : Reg} {k : Nat} (h : inR R k 0 = true) (h2 : R.all (fun p => Nat.beq p.2 0) = true) (i : Nat) : inR R k i = true := by
  obtain ⟨p, hp, hp1⟩ := inR_iff.mp h
  refine inR_iff.mpr ⟨p, hp, ?_⟩
  have h3 := List.all_eq_true.mp h2 p hp
  unfold inP at hp1 ⊢
  simp only [Bool.and_eq_true, Bool.or_eq_true, Nat.beq_eq] at hp1 h3 ⊢
  exact ⟨hp1.1, Or.inl h3⟩
theorem X_isWay0 {x1 x2 x3 x4 : Int} {g : AG} (h1 : -2147483648 ≤ x1) (h1' : x1 < 2147483648) (h2 : -2147483648 ≤ x2) (h2' : x2 < 2147483648) (h3 : -2147483648 ≤ x3) (h3' : x3 < 2147483648) (h4 : -2147483648 ≤ x4) (h4' : x4 < 2147483648) (h5 : 0 ≤ g 6 7) (h6 : g 6 7 ≤ 10) : (nw (X_isWay x1 x2 x3 x4 g) = 0) = (x1 < 0 ∨ g 6 7 - 1 < x1 ∨ x2 < 0 ∨ 15 < x2 ∨ x3 < 0 ∨ 15 < x3 ∨ x4 < 0 ∨ 20159 < x4) := by
  unfold X_isWay
  simp (disch := omega) only [X_isBoat0, isPointX0, isTimeX0]
  by_cases a : x1 < 0 ∨ g 6 7 - 1 < x1
  · rw [if_pos a]; simp [nw_0]; omega
  rw [if_neg a]
  by_cases b : x2 < 0 ∨ 15 < x2
  · rw [if_pos b]; simp [nw_0]; omega
  rw [if_neg b]
  by_cases c : x3 < 0 ∨ 15 < x3
  · rw [if_pos c]; simp [nw_0]; omega
  rw [if_neg c]
  by_cases d : x4 < 0 ∨ 20159 < x4
  · rw [if_pos d]; simp [nw_0]; omega
  rw [if_neg d]
  simp [nw_1]; omega
/-! sums -/
def sm (f : Nat → Int) : Nat → Int
  | 0 => 0
  | n + 1 => sm f n + f n
theorem sm_cg {f h : Nat → Int} : ∀ (n : Nat), (∀ i, i < n → f i = h i) → sm f n = sm h n
  | 0, _ => rfl
  | n + 1, q => by show sm f n + f n = sm h n + h n; rw [sm_cg n (fun i hi => q i (by omega)), q n (by omega)]
theorem sm_zero {f : Nat → Int} {n : Nat} : ∀ (m : Nat), n ≤ m → (∀ i, n ≤ i → i < m → f i = 0) → sm f m = sm f n
  | 0, h, _ => by rw [show n = 0 by omega]
  | m + 1, h, q => by
    by_cases e : n = m + 1
    · rw [e]
    · show sm f m + f m = sm f n
      rw [sm_zero m (by omega) (fun i h1 h2 => q i h1 (by omega)), q m (by omega) (by omega)]; omega
theorem sm_nn {f : Nat → Int} : ∀ (n : Nat), (∀ i, i < n → 0 ≤ f i) → 0 ≤ sm f n
  | 0, _ => Int.le_refl 0
  | n + 1, q => by have := sm_nn n (fun i hi => q i (by omega)); have := q n (by omega); show 0 ≤ sm f n + f n; omega
theorem sm_ub {f : Nat → Int} {c : Int} : ∀ (n : Nat), (∀ i, i < n → f i ≤ c) → sm f n ≤ n * c
  | 0, _ => by show (0 : Int) ≤ ((0 : Nat) : Int) * c; simp
  | n + 1, q => by
    have h1 := sm_ub n (fun i hi => q i (by omega)); have h2 := q n (by omega)
    show sm f n + f n ≤ ((n + 1 : Nat) : Int) * c
    rw [Int.natCast_add, Int.add_mul]; simp; omega
theorem sm_mono {f h : Nat → Int} : ∀ (n : Nat), (∀ i, i < n → f i ≤ h i) → sm f n ≤ sm h n
  | 0, _ => Int.le_refl 0
  | n + 1, q => by have := sm_mono n (fun i hi => q i (by omega)); have := q n (by omega); show sm f n + f n ≤ sm h n + h n; omega
theorem sm_pre {f : Nat → Int} {n : Nat} : ∀ (m : Nat), n ≤ m → (∀ i, i < m → 0 ≤ f i) → sm f n ≤ sm f m
  | 0, h, _ => by rw [show n = 0 by omega]; exact Int.le_refl _
  | m + 1, h, q => by
    by_cases e : n = m + 1
    · rw [e]; exact Int.le_refl _
    · have := sm_pre (n := n) m (by omega) (fun i hi => q i (by omega)); have := q m (by omega); show sm f n ≤ sm f m + f m; omega
theorem natOf {x : Int} (h : 0 ≤ x) : ∃ n : Nat, x = n := ⟨x.toNat, by omega⟩
