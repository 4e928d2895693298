/-! plain programs: the rain, the class's day -/
abbrev RX : Reg := [(12, 0), (115, 0), (116, 0)]
theorem PQ.x {p q : Nat} (h : PQ p q) (i : Nat) : inR RX q i = true := by rcases h with ⟨a, b⟩ | ⟨a, b⟩ <;> rw [b] <;> rfl
theorem PQ.s {p q : Nat} (h : PQ p q) : PQ q p := by rcases h with ⟨a, b⟩ | ⟨a, b⟩; exact Or.inr ⟨b, a⟩; exact Or.inl ⟨b, a⟩
theorem X_ph2 {u r gn sh : Nat} (hs : sh ≤ 999) {f : Nat → Int} {p q : Nat} (pq : PQ p q) : ∀ (n k : Nat) (g : AG), k + n = 1000 → g 12 0 = p → g 12 1 = q → (∀ j : Nat, j < k → g q j = rday u r gn sh f j) → (∀ j : Nat, k ≤ j → j < 1000 → g q j = rP u r gn f 1000 j) → g 12 2 = sm (rday u r gn sh f) k → ∃ g', Rain_passDay_b u r gn sh 2 k g = some (0, g') ∧ FR RX g g' ∧ g' 12 0 = q ∧ g' 12 1 = p ∧ (∀ j : Nat, j < 1000 → g' q j = rday u r gn sh f j) ∧ g' 12 2 = sm (rday u r gn sh f) 1000 := by
  obtain ⟨cp, cq, ne, n1, n2⟩ := pq.r
  intro n
  induction n with
  | zero =>
    intro k g e h0 h1 hd hr hS
    have : k = 1000 := by omega
    subst this
    have c0 : 1000 ≤ nw ((1000 : Nat) : Int) := by rw [nw_id (by decide) (by decide)]; decide
    refine ⟨up (up g 12 0 (g 12 1)) 12 1 (g 12 0), ?_, Fr.up (Fr.up Fr.rf rfl) rfl, ?_, ?_, ?_, ?_⟩
    · rw [Rain_passDay_b.eq_1 _ _ _ _ 2 _ g, if_neg (by decide), if_pos rfl, if_pos c0, if_pos (by rw [h0]; exact cp), if_pos (by rw [h1]; exact cq), sb, sb]
    · simp [up_at, h1]
    · simp [up_at, h0]
    · intro j hj
      rw [up_at, if_neg (fun z => n2 z.1), up_at, if_neg (fun z => n2 z.1)]
      exact hd j hj
    · simp [up_at, hS]
  | succ n ih =>
    intro k g e h0 h1 hd hr hS
    have hk : k < 1000 := by omega
    have c0 : ¬ 1000 ≤ nw (k : Int) := by rw [nw_id (by omega) (by omega)]; omega
    have c1 : 0 ≤ nw (k : Int) ∧ nw (k : Int) < 1000 := by clear c0; rw [nw_id (by omega) (by omega)]; omega
    have c2 : ix (k : Int) = k := by clear c0 c1; rw [ix_id (by omega) (by omega), Int.toNat_natCast]
    have cs : (if nw (sh : Int) ≤ nw (k : Int) then some (rP u r gn f 1000 k, g) else some (0, g)) = some (rday u r gn sh f k, g) := by
      rw [show nw (sh : Int) = sh from nw_id (by clear c0 c1 c2; omega) (by clear c0 c1 c2; omega), show nw (k : Int) = k from nw_id (by clear c0 c1 c2; omega) (by clear c0 c1 c2; omega)]
      clear c0 c1 c2
      unfold rday
      by_cases z : sh ≤ k
      · rw [if_pos (by omega), if_pos z]
      · rw [if_neg (by omega), if_neg z]
    obtain ⟨ga, hga⟩ : ∃ ga : AG, ga = up g q k (rday u r gn sh f k) := ⟨_, rfl⟩
    have a12 : ∀ i, ga 12 i = g 12 i := fun i => by rw [hga, up_at, if_neg (fun z => n2 z.1.symm)]
    have aq : ga q k = rday u r gn sh f k := by rw [hga, up_at, if_pos ⟨rfl, rfl⟩]
    obtain ⟨gb, hgb⟩ : ∃ gb : AG, gb = up ga 12 2 (ga 12 2 + ga q k) := ⟨_, rfl⟩
    have fb : FR RX g gb := by rw [hgb, hga]; exact Fr.up (Fr.up Fr.rf (pq.x _)) rfl
    have bq : ∀ j, gb q j = if j = k then rday u r gn sh f k else g q j := by
      intro j
      rw [hgb, up_at, if_neg (fun z => n2 z.1), hga, up_at]
      by_cases z : j = k
      · rw [if_pos ⟨rfl, z⟩, if_pos z]
      · rw [if_neg (fun w => z w.2), if_neg z]
    obtain ⟨g', e1, e2, e3, e4, e5, e6⟩ := ih (k + 1) gb (by clear c0 c1 c2 cs; omega)
      (by rw [hgb, up_at, if_neg (by decide), a12]; exact h0) (by rw [hgb, up_at, if_neg (by decide), a12]; exact h1)
      (fun j hj => by
        rw [bq]
        by_cases z : j = k
        · rw [if_pos z, z]
        · rw [if_neg z]; exact hd j (by clear c0 c1 c2 cs; omega))
      (fun j h1 h2 => by rw [bq, if_neg (by clear c0 c1 c2 cs; omega)]; exact hr j (by clear c0 c1 c2 cs; omega) h2)
      (by rw [hgb, up_at, if_pos ⟨rfl, rfl⟩, a12, hS, aq]; rfl)
    refine ⟨g', ?_, fb.tr e2, e3, e4, e5, e6⟩
    rw [show ((k + 1 : Nat) : Int) = (k : Int) + 1 from rfl] at e1
    rw [← e1, Rain_passDay_b.eq_1 _ _ _ _ 2 k g, if_neg (by decide), if_pos rfl, if_neg c0, h1, if_pos cq, if_pos cq, if_pos c1, c2, Int.toNat_natCast, hr k (Nat.le_refl k) hk, cs, sb]
    dsimp only
    rw [if_pos c1, sb, ← hga, a12 1, h1, if_pos cq, Int.toNat_natCast, ← hgb, sb]
def XRn (g : AG) (f : Nat → Int) (p q : Nat) : Prop := g 12 0 = p ∧ g 12 1 = q ∧ (∀ i : Nat, i < 1000 → g p i = f i) ∧ g 12 2 = sm f 1000
theorem X_day {u r gn sh : Nat} (hu : u ≤ 99) (hr : r ≤ 100) (hg : gn ≤ 99) (hs : sh ≤ 999) {f : Nat → Int} (h : FOk f) {p q : Nat} (pq : PQ p q) {g : AG} (X : XRn g f p q) : ∃ g', Rain_passDay u r gn sh g = some (0, g') ∧ FR RX g g' ∧ XRn g' (rday u r gn sh f) q p := by
  obtain ⟨x0, x1, x2, x3⟩ := X
  obtain ⟨cp, cq, ne, n1, n2⟩ := pq.r
  have z12 : ∀ i, (fillG g q 1000 0) 12 i = g 12 i := fun i => by rw [fill_at, if_neg (fun z => n2 z.1.symm)]
  obtain ⟨g1, e1, f1, p1, q1⟩ := X_ph1 (sh := sh) hu hr hg h pq 1000 0 (fillG g q 1000 0) rfl (by rw [z12]; exact x0) (by rw [z12]; exact x1) (fun i hi => by rw [fill_at, if_neg (fun z => ne z.1)]; exact x2 i hi) (fun j hj => by rw [fill_at, if_pos ⟨rfl, hj⟩]; rfl)
  have w12 : ∀ i, g1 12 i = g 12 i := fun i => by rw [f1 12 i rfl, z12]
  obtain ⟨g2, e2, f2, a0, a1, a2, a3⟩ := X_ph2 (u := u) (r := r) (gn := gn) hs (f := f) pq 1000 0 (up g1 12 2 0) rfl (by rw [up_at, if_neg (by decide), w12]; exact x0) (by rw [up_at, if_neg (by decide), w12]; exact x1) (fun j hj => by omega) (fun j _ hj => by rw [up_at, if_neg (fun z => n2 z.1)]; exact q1 j hj) (by rw [up_at, if_pos ⟨rfl, rfl⟩]; rfl)
  refine ⟨g2, ?_, ?_, a0, a1, a2, a3⟩
  · unfold Rain_passDay
    rw [x1, if_pos cq, Int.toNat_natCast, sb]
    have e1' : Rain_passDay_b u r gn sh 1 0 (fillG g q 1000 0) = _ := e1
    have e2' : Rain_passDay_b u r gn sh 2 0 (up g1 12 2 0) = _ := e2
    rw [e1', Rain_passDay_b.eq_1 _ _ _ _ 1 _ g1, if_pos rfl, if_pos (by rw [nw_id (by decide) (by decide)]; decide), sb, e2']
  · have fA : FR RX g (fillG g q 1000 0) := Fr.fill Fr.rf (pq.x)
    have fB : FR RX g1 (up g1 12 2 0) := Fr.up Fr.rf rfl
    exact ((fA.tr (FR.mo f1 rfl)).tr fB).tr f2
theorem X_start {sh w : Nat} (hs : sh ≤ 999) (hw : w ≤ 999) {p q : Nat} (pq : PQ p q) {g : AG} (x0 : g 12 0 = p) (x1 : g 12 1 = q) : ∃ g', Rain_start w sh g = some (0, g') ∧ FR RX g g' ∧ XRn g' (fun i => if w = i then (if sh ≤ w then 1000000 else 0) else 0) p q := by
  obtain ⟨cp, cq, ne, n1, n2⟩ := pq.r
  have c1 : 0 ≤ nw (w : Int) ∧ nw (w : Int) < 1000 := by rw [nw_id (by omega) (by omega)]; omega
  have c2 : ix (w : Int) = w := by clear c1; rw [ix_id (by omega) (by omega), Int.toNat_natCast]
  have cs : (if nw (sh : Int) ≤ nw (w : Int) then (1000000 : Int) else 0) = if sh ≤ w then 1000000 else 0 := by
    rw [show nw (sh : Int) = sh from nw_id (by clear c1 c2; omega) (by clear c1 c2; omega), show nw (w : Int) = w from nw_id (by clear c1 c2; omega) (by clear c1 c2; omega)]
    clear c1 c2
    by_cases z : sh ≤ w
    · rw [if_pos (by omega), if_pos z]
    · rw [if_neg (by omega), if_neg z]
  have z12 : ∀ i, (fillG g p 1000 0) 12 i = g 12 i := fun i => by rw [fill_at, if_neg (fun z => n1 z.1.symm)]
  obtain ⟨ga, hga⟩ : ∃ ga : AG, ga = up (fillG g p 1000 0) 12 2 (if sh ≤ w then 1000000 else 0) := ⟨_, rfl⟩
  have a0 : ga 12 0 = p := by rw [hga, up_at, if_neg (by decide), z12]; exact x0
  have a1 : ga 12 1 = q := by rw [hga, up_at, if_neg (by decide), z12]; exact x1
  have a2 : ga 12 2 = if sh ≤ w then 1000000 else 0 := by rw [hga, up_at, if_pos ⟨rfl, rfl⟩]
  refine ⟨up ga p w (ga 12 2), ?_, ?_, ?_, ?_, ?_, ?_⟩
  · unfold Rain_start
    rw [x0, if_pos cp, Int.toNat_natCast, sb, cs, sb, sb, ← hga, a0, if_pos cp, if_pos c1, Int.toNat_natCast, c2, sb]
  · rw [hga]
    exact Fr.up (Fr.up (Fr.fill Fr.rf (pq.s.x)) rfl) (pq.s.x _)
  · rw [up_at, if_neg (fun z => n1 z.1.symm)]; exact a0
  · rw [up_at, if_neg (fun z => n1 z.1.symm)]; exact a1
  · intro i hi
    rw [up_at, a2]
    dsimp only
    by_cases z : w = i
    · rw [if_pos ⟨rfl, z.symm⟩, if_pos z]
    · rw [if_neg (fun y => z y.2.symm), if_neg z, hga, up_at, if_neg (fun y => n1 y.1), fill_at, if_pos ⟨rfl, hi⟩]
  · rw [up_at, if_neg (fun z => n1 z.1.symm), a2, sm_one _ (c := w), if_pos (show w < 1000 by clear c1 c2 cs; omega)]
