section
/-! plain programs: the rain, day by day -/
def rlo (u i : Nat) : Nat := i - u
def rhi (u gn i : Nat) : Nat := min 999 (i - u + gn)
def rsh (r : Nat) (f : Nat → Int) (i : Nat) : Int := f i * r / 100
def rad (u r gn : Nat) (f : Nat → Int) (i j : Nat) : Int := (if rhi u gn i = j then rsh r f i else 0) + (if rlo u i = j then f i - rsh r f i else 0)
def rP (u r gn : Nat) (f : Nat → Int) (k j : Nat) : Int := sm (fun i => rad u r gn f i j) k
def rday (u r gn sh : Nat) (f : Nat → Int) (j : Nat) : Int := if sh ≤ j then rP u r gn f 1000 j else 0
def FOk (f : Nat → Int) : Prop := (∀ i, i < 1000 → 0 ≤ f i) ∧ sm f 1000 ≤ 1000000
theorem sm_add2 (a b : Nat → Int) : ∀ n, sm (fun j => a j + b j) n = sm a n + sm b n
  | 0 => rfl
  | n + 1 => by show sm (fun j => a j + b j) n + (a n + b n) = (sm a n + a n) + (sm b n + b n); rw [sm_add2 a b n]; omega
theorem sm_z : ∀ n, sm (fun _ => 0) n = 0
  | 0 => rfl
  | n + 1 => by show sm (fun _ => 0) n + 0 = 0; rw [sm_z n]; rfl
theorem sm_one (v : Int) {c : Nat} : ∀ n, sm (fun j => if c = j then v else 0) n = if c < n then v else 0
  | 0 => by rw [if_neg (by omega)]; rfl
  | n + 1 => by
    show sm (fun j => if c = j then v else 0) n + (if c = n then v else 0) = _
    rw [sm_one v n]
    by_cases h1 : c < n
    · rw [if_pos h1, if_neg (by omega), if_pos (by omega)]; omega
    · by_cases h2 : c = n
      · rw [if_neg h1, if_pos h2, if_pos (by omega)]; omega
      · rw [if_neg h1, if_neg h2, if_neg (by omega)]; rfl
theorem sm_swap (F : Nat → Nat → Int) (m : Nat) : ∀ n, sm (fun j => sm (fun i => F i j) n) m = sm (fun i => sm (fun j => F i j) m) n
  | 0 => sm_z m
  | n + 1 => by
    show sm (fun j => sm (fun i => F i j) n + F n j) m = sm (fun i => sm (fun j => F i j) m) n + sm (fun j => F n j) m
    rw [sm_add2 (fun j => sm (fun i => F i j) n) (fun j => F n j) m, sm_swap F m n]
theorem f_ub {f : Nat → Int} (h : FOk f) {i : Nat} (hi : i < 1000) : f i ≤ 1000000 := by
  have a := sm_pre (f := f) (n := i + 1) 1000 (by omega) h.1
  have b : sm f (i + 1) = sm f i + f i := rfl
  have c := sm_nn (f := f) i (fun j hj => h.1 j (by omega))
  have d := h.2
  omega
theorem rsh_rng {r : Nat} (hr : r ≤ 100) {f : Nat → Int} (h : FOk f) {i : Nat} (hi : i < 1000) : 0 ≤ rsh r f i ∧ rsh r f i ≤ f i ∧ 0 ≤ f i * r ∧ f i * r ≤ 100000000 := by
  have a := h.1 i hi
  have b := f_ub h hi
  have c0 : 0 ≤ f i * (r : Int) := Int.mul_nonneg a (by omega)
  have c1 : f i * (r : Int) ≤ f i * 100 := Int.mul_le_mul_of_nonneg_left (by omega) a
  unfold rsh
  generalize f i * (r : Int) = q at *
  omega
theorem rad_nn {u r gn : Nat} (hr : r ≤ 100) {f : Nat → Int} (h : FOk f) {i j : Nat} (hi : i < 1000) : 0 ≤ rad u r gn f i j := by
  have a := rsh_rng hr h hi
  have b := h.1 i hi
  unfold rad
  split <;> split <;> omega
theorem rP_nn {u r gn : Nat} (hr : r ≤ 100) {f : Nat → Int} (h : FOk f) {k j : Nat} (hk : k ≤ 1000) : 0 ≤ rP u r gn f k j := sm_nn k (fun i hi => rad_nn hr h (by omega))
theorem rad_sum {u r gn : Nat} {f : Nat → Int} {i : Nat} (hi : i < 1000) : sm (fun j => rad u r gn f i j) 1000 = f i := by
  unfold rad
  rw [sm_add2 (fun j => if rhi u gn i = j then rsh r f i else 0) (fun j => if rlo u i = j then f i - rsh r f i else 0) 1000, sm_one, sm_one, if_pos (by unfold rhi; omega), if_pos (by unfold rlo; omega)]
  omega
theorem rP_sum {u r gn : Nat} {f : Nat → Int} : sm (fun j => rP u r gn f 1000 j) 1000 = sm f 1000 := by
  unfold rP
  rw [sm_swap (fun i j => rad u r gn f i j) 1000 1000]
  exact sm_cg 1000 (fun i hi => rad_sum hi)
theorem rday_ok {u r gn sh : Nat} (hr : r ≤ 100) {f : Nat → Int} (h : FOk f) : FOk (rday u r gn sh f) := by
  refine ⟨fun i hi => ?_, ?_⟩
  · unfold rday
    have := rP_nn (u := u) (gn := gn) hr h (j := i) (Nat.le_refl 1000)
    split <;> omega
  · have a := sm_mono (f := rday u r gn sh f) (h := fun j => rP u r gn f 1000 j) 1000 (fun i hi => by
      have := rP_nn (u := u) (gn := gn) hr h (j := i) (Nat.le_refl 1000)
      unfold rday
      split <;> omega)
    rw [rP_sum] at a
    have := h.2
    omega
abbrev RR : Reg := [(115, 0), (116, 0)]
abbrev PQ (p q : Nat) : Prop := (p = 115 ∧ q = 116) ∨ (p = 116 ∧ q = 115)
theorem PQ.w {p q : Nat} (h : PQ p q) (i : Nat) : inR RR q i = true := by rcases h with ⟨a, b⟩ | ⟨a, b⟩ <;> rw [b] <;> rfl
theorem PQ.r {p q : Nat} (h : PQ p q) : ((p : Int) = 115 ∨ (p : Int) = 116) ∧ ((q : Int) = 115 ∨ (q : Int) = 116) ∧ p ≠ q ∧ p ≠ 12 ∧ q ≠ 12 := by rcases h with ⟨a, b⟩ | ⟨a, b⟩ <;> subst a <;> subst b <;> decide
theorem X_ph1 {u r gn sh : Nat} (hu : u ≤ 99) (hr : r ≤ 100) (hg : gn ≤ 99) {f : Nat → Int} (h : FOk f) {p q : Nat} (pq : PQ p q) : ∀ (n k : Nat) (g : AG), k + n = 1000 → g 12 0 = p → g 12 1 = q → (∀ i : Nat, i < 1000 → g p i = f i) → (∀ j : Nat, j < 1000 → g q j = rP u r gn f k j) → ∃ g', Rain_passDay_b u r gn sh 1 k g = Rain_passDay_b u r gn sh 1 1000 g' ∧ FR RR g g' ∧ (∀ i : Nat, g' p i = g p i) ∧ ∀ j : Nat, j < 1000 → g' q j = rP u r gn f 1000 j := by
  obtain ⟨cp, cq, ne, n1, n2⟩ := pq.r
  intro n
  induction n with
  | zero =>
    intro k g e _ _ _ hq
    have : k = 1000 := by omega
    subst this
    exact ⟨g, rfl, Fr.rf, fun _ => rfl, hq⟩
  | succ n ih =>
    intro k g e h0 h1 hp hq
    have hk : k < 1000 := by omega
    have s := rsh_rng hr h hk
    have fb := f_ub h hk
    have stp : ∀ j, rP u r gn f (k + 1) j = rP u r gn f k j + rad u r gn f k j := fun j => rfl
    have c0 : ¬ 1000 ≤ nw (k : Int) := by rw [nw_id (by omega) (by omega)]; omega
    have c1 : 0 ≤ nw (k : Int) ∧ nw (k : Int) < 1000 := by clear c0; rw [nw_id (by omega) (by omega)]; omega
    have c2 : ix (k : Int) = k := by clear c0 c1; rw [ix_id (by omega) (by omega), Int.toNat_natCast]
    have c3 : nw (f k) = f k := by clear c0 c1 c2; exact nw_id (by omega) (by omega)
    by_cases z : f k ≤ 0
    · have fz : f k = 0 := by have := h.1 k hk; clear c0 c1 c2 c3; omega
      have rz : ∀ j, rad u r gn f k j = 0 := by
        intro j
        unfold rad rsh
        rw [fz]
        simp
      obtain ⟨g', e1, e2, e3, e4⟩ := ih (k + 1) g (by clear c0 c1 c2 c3; omega) h0 h1 hp (fun j hj => by rw [stp, rz, Int.add_zero]; exact hq j hj)
      refine ⟨g', ?_, e2, e3, e4⟩
      rw [show ((k + 1 : Nat) : Int) = (k : Int) + 1 from rfl] at e1
      rw [← e1, Rain_passDay_b.eq_1 _ _ _ _ 1 k g, if_pos rfl, if_neg c0, h0, if_pos cp, if_pos c1, c2, Int.toNat_natCast, hp k hk, c3, if_pos z, sb]
    · have lo : mxI 0 ((k : Int) - u) = (rlo u k : Nat) := by
        clear c0 c1 c2 c3
        rw [mxI_s (by omega) (by omega) (by omega) (by omega)]
        unfold rlo
        omega
      have hi : mnI 999 (((rlo u k : Nat) : Int) + gn) = (rhi u gn k : Nat) := by
        clear c0 c1 c2 c3 lo
        have : rlo u k ≤ 1000 := by unfold rlo; omega
        rw [mnI_s (by omega) (by omega) (by omega) (by omega)]
        unfold rhi rlo
        omega
      have lb : rlo u k < 1000 := by clear c0 c1 c2 c3 lo hi; unfold rlo; omega
      have hb : rhi u gn k < 1000 := by clear c0 c1 c2 c3 lo hi; unfold rhi; omega
      have l1 : 0 ≤ nw ((rlo u k : Nat) : Int) ∧ nw ((rlo u k : Nat) : Int) < 1000 := by clear c0 c1 c2 c3 lo hi; rw [nw_id (by omega) (by omega)]; omega
      have l2 : ix ((rlo u k : Nat) : Int) = rlo u k := by clear c0 c1 c2 c3 lo hi l1; rw [ix_id (by omega) (by omega), Int.toNat_natCast]
      have m1 : 0 ≤ nw ((rhi u gn k : Nat) : Int) ∧ nw ((rhi u gn k : Nat) : Int) < 1000 := by clear c0 c1 c2 c3 lo hi l1 l2; rw [nw_id (by omega) (by omega)]; omega
      have m2 : ix ((rhi u gn k : Nat) : Int) = rhi u gn k := by clear c0 c1 c2 c3 lo hi l1 l2 m1; rw [ix_id (by omega) (by omega), Int.toNat_natCast]
      have aE : (nw (f k * (r : Int))).tdiv 100 = rsh r f k := by
        clear c0 c1 c2 c3 lo hi l1 l2 m1 m2
        rw [nw_id (by omega) (by omega), Int.tdiv_eq_ediv_of_nonneg s.2.2.1]
        rfl
      obtain ⟨ga, hga⟩ : ∃ ga : AG, ga = up g q (rhi u gn k) (g q (rhi u gn k) + rsh r f k) := ⟨_, rfl⟩
      obtain ⟨gb, hgb⟩ : ∃ gb : AG, gb = up ga q (rlo u k) (ga q (rlo u k) + (f k - rsh r f k)) := ⟨_, rfl⟩
      have a12 : ∀ i, ga 12 i = g 12 i := fun i => by rw [hga, up_at, if_neg (fun z => n2 z.1.symm)]
      have ap : ∀ i, ga p i = g p i := fun i => by rw [hga, up_at, if_neg (fun z => ne z.1)]
      have b12 : ∀ i, gb 12 i = g 12 i := fun i => by rw [hgb, up_at, if_neg (fun z => n2 z.1.symm), a12]
      have bp : ∀ i, gb p i = g p i := fun i => by rw [hgb, up_at, if_neg (fun z => ne z.1), ap]
      have fb : FR RR g gb := by rw [hgb, hga]; exact Fr.up (Fr.up Fr.rf (pq.w _)) (pq.w _)
      have qb : ∀ j : Nat, j < 1000 → gb q j = rP u r gn f (k + 1) j := by
        intro j hj
        rw [stp, ← hq j hj, hgb, hga]
        clear c0 c1 c2 c3 lo hi l1 l2 m1 m2 aE
        unfold rad
        simp only [up_at, true_and]
        by_cases w1 : rlo u k = j
        · by_cases w2 : rhi u gn k = j
          · rw [if_pos w1.symm, if_pos (by omega), if_pos w2, if_pos w1, w2]; omega
          · rw [if_pos w1.symm, if_neg (by omega), if_neg w2, if_pos w1, w1]; omega
        · by_cases w2 : rhi u gn k = j
          · rw [if_neg (fun e => w1 e.symm), if_pos w2.symm, if_pos w2, if_neg w1, w2]; omega
          · rw [if_neg (fun e => w1 e.symm), if_neg (fun e => w2 e.symm), if_neg w2, if_neg w1]; omega
      obtain ⟨g', e1, e2, e3, e4⟩ := ih (k + 1) gb (by clear c0 c1 c2 c3 lo hi l1 l2 m1 m2 aE; omega) (by rw [b12]; exact h0) (by rw [b12]; exact h1) (fun i hi => by rw [bp]; exact hp i hi) qb
      refine ⟨g', ?_, fb.tr e2, fun i => by rw [e3, bp], e4⟩
      rw [show ((k + 1 : Nat) : Int) = (k : Int) + 1 from rfl] at e1
      rw [← e1, Rain_passDay_b.eq_1 _ _ _ _ 1 k g, if_pos rfl, if_neg c0, h0, if_pos cp, if_pos c1, c2, Int.toNat_natCast, hp k hk, c3, if_neg z, if_pos cp, h1, if_pos cq, lo, hi, if_pos m1, m2, Int.toNat_natCast, aE, sb, ← hga, a12, a12, h1, h0, if_pos cq, if_pos l1, if_pos cp, l2, Int.toNat_natCast, Int.toNat_natCast, ap, hp k hk, ← hgb, sb, sb]
end
section
/-! plain programs: the rain, the class's day -/
abbrev RX : Reg := [(12, 0), (115, 0), (116, 0)]
theorem PQ.x {p q : Nat} (h : PQ p q) (i : Nat) : inR RX q i = true := by rcases h with ⟨a, b⟩ | ⟨a, b⟩ <;> rw [b] <;> rfl
theorem PQ.s {p q : Nat} (h : PQ p q) : PQ q p := by rcases h with ⟨a, b⟩ | ⟨a, b⟩; exact Or.inr ⟨b, a⟩; exact Or.inl ⟨b, a⟩
theorem X_ph2 {u r gn sh : Nat} (hs : sh ≤ 999) {f : Nat → Int} {p q : Nat} (pq : PQ p q) : ∀ (n k : Nat) (g : AG), k + n = 1000 → g 12 0 = p → g 12 1 = q → (∀ j : Nat, j < k → g q j = rday u r gn sh f j) → (∀ j : Nat, k ≤ j → j < 1000 → g q j = rP u r gn f 1000 j) → g 12 2 = sm (rday u r gn sh f) k → ∃ g', Rain_passDay_b u r gn sh 2 k g = some (0, g') ∧ FR RX g g' ∧ g' 12 0 = q ∧ g' 12 1 = p ∧ (∀ j : Nat, j < 1000 → g' q j = rday u r gn sh f j) ∧ g' 12 2 = sm (rday u r gn sh f) 1000 := by
  obtain ⟨cp, cq, ne, n1, n2⟩ := pq.r
  intro n
  induction n with
  | zero =>
    intro k g e h0 h1 hd hr hS
    have : k = 1000 := by omega
    subst this
    have c0 : 1000 ≤ nw ((1000 : Nat) : Int) := by rw [nw_id (by decide) (by decide)]; decide
    refine ⟨up (up g 12 0 (g 12 1)) 12 1 (g 12 0), ?_, Fr.up (Fr.up Fr.rf rfl) rfl, ?_, ?_, ?_, ?_⟩
    · rw [Rain_passDay_b.eq_1 _ _ _ _ 2 _ g, if_neg (by decide), if_pos rfl, if_pos c0, if_pos (by rw [h0]; exact cp), if_pos (by rw [h1]; exact cq), sb, sb]
    · simp [up_at, h1]
    · simp [up_at, h0]
    · intro j hj
      rw [up_at, if_neg (fun z => n2 z.1), up_at, if_neg (fun z => n2 z.1)]
      exact hd j hj
    · simp [up_at, hS]
  | succ n ih =>
    intro k g e h0 h1 hd hr hS
    have hk : k < 1000 := by omega
    have c0 : ¬ 1000 ≤ nw (k : Int) := by rw [nw_id (by omega) (by omega)]; omega
    have c1 : 0 ≤ nw (k : Int) ∧ nw (k : Int) < 1000 := by clear c0; rw [nw_id (by omega) (by omega)]; omega
    have c2 : ix (k : Int) = k := by clear c0 c1; rw [ix_id (by omega) (by omega), Int.toNat_natCast]
    have cs : (if nw (sh : Int) ≤ nw (k : Int) then some (rP u r gn f 1000 k, g) else some (0, g)) = some (rday u r gn sh f k, g) := by
      rw [show nw (sh : Int) = sh from nw_id (by clear c0 c1 c2; omega) (by clear c0 c1 c2; omega), show nw (k : Int) = k from nw_id (by clear c0 c1 c2; omega) (by clear c0 c1 c2; omega)]
      clear c0 c1 c2
      unfold rday
      by_cases z : sh ≤ k
      · rw [if_pos (by omega), if_pos z]
      · rw [if_neg (by omega), if_neg z]
    obtain ⟨ga, hga⟩ : ∃ ga : AG, ga = up g q k (rday u r gn sh f k) := ⟨_, rfl⟩
    have a12 : ∀ i, ga 12 i = g 12 i := fun i => by rw [hga, up_at, if_neg (fun z => n2 z.1.symm)]
    have aq : ga q k = rday u r gn sh f k := by rw [hga, up_at, if_pos ⟨rfl, rfl⟩]
    obtain ⟨gb, hgb⟩ : ∃ gb : AG, gb = up ga 12 2 (ga 12 2 + ga q k) := ⟨_, rfl⟩
    have fb : FR RX g gb := by rw [hgb, hga]; exact Fr.up (Fr.up Fr.rf (pq.x _)) rfl
    have bq : ∀ j, gb q j = if j = k then rday u r gn sh f k else g q j := by
      intro j
      rw [hgb, up_at, if_neg (fun z => n2 z.1), hga, up_at]
      by_cases z : j = k
      · rw [if_pos ⟨rfl, z⟩, if_pos z]
      · rw [if_neg (fun w => z w.2), if_neg z]
    obtain ⟨g', e1, e2, e3, e4, e5, e6⟩ := ih (k + 1) gb (by clear c0 c1 c2 cs; omega)
      (by rw [hgb, up_at, if_neg (by decide), a12]; exact h0) (by rw [hgb, up_at, if_neg (by decide), a12]; exact h1)
      (fun j hj => by
        rw [bq]
        by_cases z : j = k
        · rw [if_pos z, z]
        · rw [if_neg z]; exact hd j (by clear c0 c1 c2 cs; omega))
      (fun j h1 h2 => by rw [bq, if_neg (by clear c0 c1 c2 cs; omega)]; exact hr j (by clear c0 c1 c2 cs; omega) h2)
      (by rw [hgb, up_at, if_pos ⟨rfl, rfl⟩, a12, hS, aq]; rfl)
    refine ⟨g', ?_, fb.tr e2, e3, e4, e5, e6⟩
    rw [show ((k + 1 : Nat) : Int) = (k : Int) + 1 from rfl] at e1
    rw [← e1, Rain_passDay_b.eq_1 _ _ _ _ 2 k g, if_neg (by decide), if_pos rfl, if_neg c0, h1, if_pos cq, if_pos cq, if_pos c1, c2, Int.toNat_natCast, hr k (Nat.le_refl k) hk, cs, sb]
    dsimp only
    rw [if_pos c1, sb, ← hga, a12 1, h1, if_pos cq, Int.toNat_natCast, ← hgb, sb]
def XRn (g : AG) (f : Nat → Int) (p q : Nat) : Prop := g 12 0 = p ∧ g 12 1 = q ∧ (∀ i : Nat, i < 1000 → g p i = f i) ∧ g 12 2 = sm f 1000
theorem X_day {u r gn sh : Nat} (hu : u ≤ 99) (hr : r ≤ 100) (hg : gn ≤ 99) (hs : sh ≤ 999) {f : Nat → Int} (h : FOk f) {p q : Nat} (pq : PQ p q) {g : AG} (X : XRn g f p q) : ∃ g', Rain_passDay u r gn sh g = some (0, g') ∧ FR RX g g' ∧ XRn g' (rday u r gn sh f) q p := by
  obtain ⟨x0, x1, x2, x3⟩ := X
  obtain ⟨cp, cq, ne, n1, n2⟩ := pq.r
  have z12 : ∀ i, (fillG g q 1000 0) 12 i = g 12 i := fun i => by rw [fill_at, if_neg (fun z => n2 z.1.symm)]
  obtain ⟨g1, e1, f1, p1, q1⟩ := X_ph1 (sh := sh) hu hr hg h pq 1000 0 (fillG g q 1000 0) rfl (by rw [z12]; exact x0) (by rw [z12]; exact x1) (fun i hi => by rw [fill_at, if_neg (fun z => ne z.1)]; exact x2 i hi) (fun j hj => by rw [fill_at, if_pos ⟨rfl, hj⟩]; rfl)
  have w12 : ∀ i, g1 12 i = g 12 i := fun i => by rw [f1 12 i rfl, z12]
  obtain ⟨g2, e2, f2, a0, a1, a2, a3⟩ := X_ph2 (u := u) (r := r) (gn := gn) hs (f := f) pq 1000 0 (up g1 12 2 0) rfl (by rw [up_at, if_neg (by decide), w12]; exact x0) (by rw [up_at, if_neg (by decide), w12]; exact x1) (fun j hj => by omega) (fun j _ hj => by rw [up_at, if_neg (fun z => n2 z.1)]; exact q1 j hj) (by rw [up_at, if_pos ⟨rfl, rfl⟩]; rfl)
  refine ⟨g2, ?_, ?_, a0, a1, a2, a3⟩
  · unfold Rain_passDay
    rw [x1, if_pos cq, Int.toNat_natCast, sb]
    have e1' : Rain_passDay_b u r gn sh 1 0 (fillG g q 1000 0) = _ := e1
    have e2' : Rain_passDay_b u r gn sh 2 0 (up g1 12 2 0) = _ := e2
    rw [e1', Rain_passDay_b.eq_1 _ _ _ _ 1 _ g1, if_pos rfl, if_pos (by rw [nw_id (by decide) (by decide)]; decide), sb, e2']
  · have fA : FR RX g (fillG g q 1000 0) := Fr.fill Fr.rf (pq.x)
    have fB : FR RX g1 (up g1 12 2 0) := Fr.up Fr.rf rfl
    exact ((fA.tr (FR.mo f1 rfl)).tr fB).tr f2
theorem X_start {sh w : Nat} (hs : sh ≤ 999) (hw : w ≤ 999) {p q : Nat} (pq : PQ p q) {g : AG} (x0 : g 12 0 = p) (x1 : g 12 1 = q) : ∃ g', Rain_start w sh g = some (0, g') ∧ FR RX g g' ∧ XRn g' (fun i => if w = i then (if sh ≤ w then 1000000 else 0) else 0) p q := by
  obtain ⟨cp, cq, ne, n1, n2⟩ := pq.r
  have c1 : 0 ≤ nw (w : Int) ∧ nw (w : Int) < 1000 := by rw [nw_id (by omega) (by omega)]; omega
  have c2 : ix (w : Int) = w := by clear c1; rw [ix_id (by omega) (by omega), Int.toNat_natCast]
  have cs : (if nw (sh : Int) ≤ nw (w : Int) then (1000000 : Int) else 0) = if sh ≤ w then 1000000 else 0 := by
    rw [show nw (sh : Int) = sh from nw_id (by clear c1 c2; omega) (by clear c1 c2; omega), show nw (w : Int) = w from nw_id (by clear c1 c2; omega) (by clear c1 c2; omega)]
    clear c1 c2
    by_cases z : sh ≤ w
    · rw [if_pos (by omega), if_pos z]
    · rw [if_neg (by omega), if_neg z]
  have z12 : ∀ i, (fillG g p 1000 0) 12 i = g 12 i := fun i => by rw [fill_at, if_neg (fun z => n1 z.1.symm)]
  obtain ⟨ga, hga⟩ : ∃ ga : AG, ga = up (fillG g p 1000 0) 12 2 (if sh ≤ w then 1000000 else 0) := ⟨_, rfl⟩
  have a0 : ga 12 0 = p := by rw [hga, up_at, if_neg (by decide), z12]; exact x0
  have a1 : ga 12 1 = q := by rw [hga, up_at, if_neg (by decide), z12]; exact x1
  have a2 : ga 12 2 = if sh ≤ w then 1000000 else 0 := by rw [hga, up_at, if_pos ⟨rfl, rfl⟩]
  refine ⟨up ga p w (ga 12 2), ?_, ?_, ?_, ?_, ?_, ?_⟩
  · unfold Rain_start
    rw [x0, if_pos cp, Int.toNat_natCast, sb, cs, sb, sb, ← hga, a0, if_pos cp, if_pos c1, Int.toNat_natCast, c2, sb]
  · rw [hga]
    exact Fr.up (Fr.up (Fr.fill Fr.rf (pq.s.x)) rfl) (pq.s.x _)
  · rw [up_at, if_neg (fun z => n1 z.1.symm)]; exact a0
  · rw [up_at, if_neg (fun z => n1 z.1.symm)]; exact a1
  · intro i hi
    rw [up_at, a2]
    dsimp only
    by_cases z : w = i
    · rw [if_pos ⟨rfl, z.symm⟩, if_pos z]
    · rw [if_neg (fun y => z y.2.symm), if_neg z, hga, up_at, if_neg (fun y => n1 y.1), fill_at, if_pos ⟨rfl, hi⟩]
  · rw [up_at, if_neg (fun z => n1 z.1.symm), a2, sm_one _ (c := w), if_pos (show w < 1000 by clear c1 c2 cs; omega)]
end
section
/-! plain programs: the rain, the reference's day -/
abbrev RM : Reg := [(186, 0), (187, 0)]
theorem M_falls_s {i sh : Nat} {v : Int} (hi : i ≤ 2000) (hs : sh ≤ 999) {g : AG} : M_falls i sh v g = some (0, if min 999 i < sh then g else up g 187 (min 999 i) (g 187 (min 999 i) + v)) := by
  have e1 : (if nw (i : Int) ≤ 999 then (i : Int) else 999) = ((min 999 i : Nat) : Int) := by
    rw [nw_id (by omega) (by omega)]
    split <;> omega
  have n1 : nw ((min 999 i : Nat) : Int) = ((min 999 i : Nat) : Int) := by clear e1; exact nw_id (by omega) (by omega)
  have n2 : nw (sh : Int) = sh := by clear e1 n1; exact nw_id (by omega) (by omega)
  have n3 : ix ((min 999 i : Nat) : Int) = min 999 i := by clear e1 n1 n2; rw [ix_id (by omega) (by omega), Int.toNat_natCast]
  unfold M_falls
  rw [e1, sb, n1, n2, n3]
  clear e1 n1 n2 n3
  by_cases z : min 999 i < sh
  · rw [if_pos (by omega), if_pos z, sb]
  · rw [if_neg (by omega), if_pos (by omega), if_neg z, sb, sb]
theorem M_ph1 {u r gn sh : Nat} : ∀ (n k : Nat) (g : AG), k + n = 1000 → (∀ j : Nat, j < k → g 187 j = 0) → ∃ g', M_aDay_b u r gn sh 1 k g = M_aDay_b u r gn sh 2 0 g' ∧ FR [(187, 0)] g g' ∧ ∀ j : Nat, j < 1000 → g' 187 j = 0 := by
  intro n
  induction n with
  | zero =>
    intro k g e hz
    have : k = 1000 := by omega
    subst this
    refine ⟨g, ?_, Fr.rf, hz⟩
    rw [M_aDay_b.eq_1 _ _ _ _ 1 _ g, if_pos rfl, if_pos (by rw [nw_id (by decide) (by decide)]; decide)]
  | succ n ih =>
    intro k g e hz
    have c0 : ¬ 1000 ≤ nw (k : Int) := by rw [nw_id (by omega) (by omega)]; omega
    have c1 : 0 ≤ nw (k : Int) ∧ nw (k : Int) < 1000 := by clear c0; rw [nw_id (by omega) (by omega)]; omega
    have c2 : ix (k : Int) = k := by clear c0 c1; rw [ix_id (by omega) (by omega), Int.toNat_natCast]
    obtain ⟨g', e1, e2, e3⟩ := ih (k + 1) (up g 187 k 0) (by clear c0 c1 c2; omega) (fun j hj => by
      rw [up_at]
      by_cases z : j = k
      · rw [if_pos ⟨rfl, z⟩]
      · rw [if_neg (fun w => z w.2)]; exact hz j (by clear c0 c1 c2; omega))
    refine ⟨g', ?_, (Fr.up Fr.rf rfl : FR [(187, 0)] g _).tr e2, e3⟩
    rw [show ((k + 1 : Nat) : Int) = (k : Int) + 1 from rfl] at e1
    rw [← e1, M_aDay_b.eq_1 _ _ _ _ 1 k g, if_pos rfl, if_neg c0, if_pos c1, c2, sb]
theorem M_ph2 {u r gn sh : Nat} (hu : u ≤ 99) (hr : r ≤ 100) (hg : gn ≤ 99) (hs : sh ≤ 999) {f : Nat → Int} (h : FOk f) : ∀ (n k : Nat) (g : AG), k + n = 1000 → (∀ i : Nat, i < 1000 → g 186 i = f i) → (∀ j : Nat, j < 1000 → g 187 j = if sh ≤ j then rP u r gn f k j else 0) → ∃ g', M_aDay_b u r gn sh 2 k g = M_aDay_b u r gn sh 3 0 g' ∧ FR [(187, 0)] g g' ∧ ∀ j : Nat, j < 1000 → g' 187 j = rday u r gn sh f j := by
  intro n
  induction n with
  | zero =>
    intro k g e hp hq
    have : k = 1000 := by omega
    subst this
    refine ⟨g, ?_, Fr.rf, hq⟩
    rw [M_aDay_b.eq_1 _ _ _ _ 2 _ g, if_neg (by decide), if_pos rfl, if_pos (by rw [nw_id (by decide) (by decide)]; decide)]
  | succ n ih =>
    intro k g e hp hq
    have hk : k < 1000 := by omega
    have s := rsh_rng hr h hk
    have fb := f_ub h hk
    have stp : ∀ j, rP u r gn f (k + 1) j = rP u r gn f k j + rad u r gn f k j := fun j => rfl
    have c0 : ¬ 1000 ≤ nw (k : Int) := by rw [nw_id (by omega) (by omega)]; omega
    have c1 : 0 ≤ nw (k : Int) ∧ nw (k : Int) < 1000 := by clear c0; rw [nw_id (by omega) (by omega)]; omega
    have c2 : ix (k : Int) = k := by clear c0 c1; rw [ix_id (by omega) (by omega), Int.toNat_natCast]
    have c3 : nw (f k) = f k := by clear c0 c1 c2; exact nw_id (by omega) (by omega)
    by_cases z : f k = 0
    · have rz : ∀ j, rad u r gn f k j = 0 := by
        intro j
        unfold rad rsh
        rw [z]
        simp
      obtain ⟨g', e1, e2, e3⟩ := ih (k + 1) g (by clear c0 c1 c2 c3; omega) hp (fun j hj => by rw [stp, rz, Int.add_zero]; exact hq j hj)
      refine ⟨g', ?_, e2, e3⟩
      rw [show ((k + 1 : Nat) : Int) = (k : Int) + 1 from rfl] at e1
      rw [← e1, M_aDay_b.eq_1 _ _ _ _ 2 k g, if_neg (by decide), if_pos rfl, if_neg c0, if_pos c1, c2, hp k hk, c3, if_pos z, sb]
    · have lo : (if nw (u : Int) ≤ nw (k : Int) then ((k : Int) - u) else 0) = (rlo u k : Nat) := by
        rw [show nw (u : Int) = u from nw_id (by clear c0 c1 c2 c3; omega) (by clear c0 c1 c2 c3; omega), show nw (k : Int) = k from nw_id (by clear c0 c1 c2 c3; omega) (by clear c0 c1 c2 c3; omega)]
        clear c0 c1 c2 c3
        unfold rlo
        split <;> omega
      have lb : rlo u k < 1000 := by clear c0 c1 c2 c3 lo; unfold rlo; omega
      have hi : min 999 (rlo u k + gn) = rhi u gn k := rfl
      have l2 : min 999 (rlo u k) = rlo u k := by clear c0 c1 c2 c3 lo; omega
      have aE : (nl ((nw (f k)) * (nw (r : Int)))).tdiv 100 = rsh r f k := by
        rw [c3, show nw (r : Int) = r from nw_id (by clear c0 c1 c2 c3 lo; omega) (by clear c0 c1 c2 c3 lo; omega)]
        clear c0 c1 c2 c3 lo
        have nE : nl (f k * (r : Int)) = f k * (r : Int) := by
          unfold nl
          exact Int.bmod_eq_of_le (by omega) (by omega)
        rw [nE, Int.tdiv_eq_ediv_of_nonneg s.2.2.1]
        rfl
      have m1 := M_falls_s (i := rlo u k + gn) (sh := sh) (v := rsh r f k) (g := g) (by clear c0 c1 c2 c3 lo; omega) hs
      rw [hi, show ((rlo u k + gn : Nat) : Int) = ((rlo u k : Nat) : Int) + gn from rfl] at m1
      obtain ⟨ga, hga⟩ : ∃ ga : AG, ga = if rhi u gn k < sh then g else up g 187 (rhi u gn k) (g 187 (rhi u gn k) + rsh r f k) := ⟨_, rfl⟩
      rw [← hga] at m1
      have m2 := M_falls_s (i := rlo u k) (sh := sh) (v := f k - rsh r f k) (g := ga) (by clear c0 c1 c2 c3 lo; omega) hs
      rw [l2] at m2
      obtain ⟨gb, hgb⟩ : ∃ gb : AG, gb = if rlo u k < sh then ga else up ga 187 (rlo u k) (ga 187 (rlo u k) + (f k - rsh r f k)) := ⟨_, rfl⟩
      rw [← hgb] at m2
      have fa : FR [(187, 0)] g ga := by
        rw [hga]
        split
        · exact Fr.rf
        · exact Fr.up Fr.rf rfl
      have fb2 : FR [(187, 0)] ga gb := by
        rw [hgb]
        split
        · exact Fr.rf
        · exact Fr.up Fr.rf rfl
      have qa : ∀ j : Nat, ga 187 j = g 187 j + if rhi u gn k = j then (if sh ≤ j then rsh r f k else 0) else 0 := by
        intro j
        rw [hga]
        clear c0 c1 c2 c3 lo m1 m2 hga hgb fa fb2 hi l2
        by_cases y : rhi u gn k < sh
        · rw [if_pos y]
          by_cases w : rhi u gn k = j
          · rw [if_pos w, if_neg (by omega)]; omega
          · rw [if_neg w]; omega
        · rw [if_neg y, up_at]
          by_cases w : rhi u gn k = j
          · rw [if_pos ⟨rfl, w.symm⟩, if_pos w, if_pos (by omega), w]
          · rw [if_neg (fun v => w v.2.symm), if_neg w]; omega
      have qb : ∀ j : Nat, gb 187 j = ga 187 j + if rlo u k = j then (if sh ≤ j then f k - rsh r f k else 0) else 0 := by
        intro j
        rw [hgb]
        clear c0 c1 c2 c3 lo m1 m2 hga hgb fa fb2 hi l2 qa
        by_cases y : rlo u k < sh
        · rw [if_pos y]
          by_cases w : rlo u k = j
          · rw [if_pos w, if_neg (by omega)]; omega
          · rw [if_neg w]; omega
        · rw [if_neg y, up_at]
          by_cases w : rlo u k = j
          · rw [if_pos ⟨rfl, w.symm⟩, if_pos w, if_pos (by omega), w]
          · rw [if_neg (fun v => w v.2.symm), if_neg w]; omega
      obtain ⟨g', e1, e2, e3⟩ := ih (k + 1) gb (by clear c0 c1 c2 c3 lo; omega) (fun i hi => by rw [fb2 186 i rfl, fa 186 i rfl]; exact hp i hi) (fun j hj => by
        rw [stp, qb, qa, hq j hj]
        clear c0 c1 c2 c3 lo m1 m2 hga hgb fa fb2 hi l2 qa qb
        unfold rad
        by_cases y : sh ≤ j
        · simp only [if_pos y]; omega
        · simp only [if_neg y]; split <;> split <;> rfl)
      refine ⟨g', ?_, (fa.tr fb2).tr e2, e3⟩
      rw [show ((k + 1 : Nat) : Int) = (k : Int) + 1 from rfl] at e1
      rw [← e1, M_aDay_b.eq_1 _ _ _ _ 2 k g, if_neg (by decide), if_pos rfl, if_neg c0, if_pos c1, c2, hp k hk, if_neg (by rw [c3]; exact z), lo, sb, aE, m1, sb]
      dsimp only
      rw [fa 186 k rfl, hp k hk, m2, sb, sb]
theorem M_ph3 {u r gn sh : Nat} {h : Nat → Int} : ∀ (n k : Nat) (g : AG), k + n = 1000 → (∀ j : Nat, j < k → g 186 j = h j) → (∀ j : Nat, j < 1000 → g 187 j = h j) → ∃ g', M_aDay_b u r gn sh 3 k g = some (0, g') ∧ FR RM g g' ∧ ∀ j : Nat, j < 1000 → g' 186 j = h j := by
  intro n
  induction n with
  | zero =>
    intro k g e hz hq
    have : k = 1000 := by omega
    subst this
    refine ⟨g, ?_, Fr.rf, hz⟩
    rw [M_aDay_b.eq_1 _ _ _ _ 3 _ g, if_neg (by decide), if_neg (by decide), if_pos rfl, if_pos (by rw [nw_id (by decide) (by decide)]; decide)]
  | succ n ih =>
    intro k g e hz hq
    have c0 : ¬ 1000 ≤ nw (k : Int) := by rw [nw_id (by omega) (by omega)]; omega
    have c1 : 0 ≤ nw (k : Int) ∧ nw (k : Int) < 1000 := by clear c0; rw [nw_id (by omega) (by omega)]; omega
    have c2 : ix (k : Int) = k := by clear c0 c1; rw [ix_id (by omega) (by omega), Int.toNat_natCast]
    obtain ⟨g', e1, e2, e3⟩ := ih (k + 1) (up g 186 k (g 187 k)) (by clear c0 c1 c2; omega) (fun j hj => by
      rw [up_at]
      by_cases z : j = k
      · rw [if_pos ⟨rfl, z⟩, z]; exact hq k (by clear c0 c1 c2; omega)
      · rw [if_neg (fun w => z w.2)]; exact hz j (by clear c0 c1 c2; omega)) (fun j hj => by rw [up_at, if_neg (fun w => absurd w.1 (by decide))]; exact hq j hj)
    refine ⟨g', ?_, (Fr.up Fr.rf rfl : FR RM g _).tr e2, e3⟩
    rw [show ((k + 1 : Nat) : Int) = (k : Int) + 1 from rfl] at e1
    rw [← e1, M_aDay_b.eq_1 _ _ _ _ 3 k g, if_neg (by decide), if_neg (by decide), if_pos rfl, if_neg c0, if_pos c1, c2, sb]
theorem M_day {u r gn sh : Nat} (hu : u ≤ 99) (hr : r ≤ 100) (hg : gn ≤ 99) (hs : sh ≤ 999) {f : Nat → Int} (h : FOk f) {g : AG} (hp : ∀ i : Nat, i < 1000 → g 186 i = f i) : ∃ g', M_aDay u r gn sh g = some (0, g') ∧ FR RM g g' ∧ ∀ i : Nat, i < 1000 → g' 186 i = rday u r gn sh f i := by
  obtain ⟨g1, e1, f1, z1⟩ := M_ph1 (u := u) (r := r) (gn := gn) (sh := sh) 1000 0 g rfl (fun j hj => by omega)
  obtain ⟨g2, e2, f2, z2⟩ := M_ph2 hu hr hg hs h 1000 0 g1 rfl (fun i hi => by rw [f1 186 i rfl]; exact hp i hi) (fun j hj => by rw [z1 j hj]; split <;> rfl)
  obtain ⟨g3, e3, f3, z3⟩ := M_ph3 (u := u) (r := r) (gn := gn) (sh := sh) 1000 0 g2 rfl (fun j hj => by omega) z2
  refine ⟨g3, ?_, ((FR.mo f1 rfl).tr (FR.mo f2 rfl)).tr f3, z3⟩
  unfold M_aDay
  have e1' : M_aDay_b u r gn sh 1 0 g = _ := e1
  have e2' : M_aDay_b u r gn sh 2 0 g1 = _ := e2
  have e3' : M_aDay_b u r gn sh 3 0 g2 = _ := e3
  rw [e1', e2', e3']
theorem M_kept_s {f : Nat → Int} {g : AG} (hp : ∀ i : Nat, i < 1000 → g 186 i = f i) : ∀ (n k : Nat) (a : Int), k + n = 1000 → a = sm f k → M_kept_b g a k = some (sm f 1000) := by
  intro n
  induction n with
  | zero =>
    intro k a e ha
    have : k = 1000 := by omega
    subst this
    rw [M_kept_b, if_pos (by rw [nw_id (by decide) (by decide)]; decide), ha]
  | succ n ih =>
    intro k a e ha
    have c0 : ¬ 1000 ≤ nw (k : Int) := by rw [nw_id (by omega) (by omega)]; omega
    have c1 : 0 ≤ nw (k : Int) ∧ nw (k : Int) < 1000 := by clear c0; rw [nw_id (by omega) (by omega)]; omega
    have c2 : ix (k : Int) = k := by clear c0 c1; rw [ix_id (by omega) (by omega), Int.toNat_natCast]
    have e1 := ih (k + 1) (a + f k) (by clear c0 c1 c2; omega) (by rw [ha]; rfl)
    rw [show ((k + 1 : Nat) : Int) = (k : Int) + 1 from rfl] at e1
    rw [← e1, M_kept_b, if_neg c0, if_pos c1, c2, hp k (by clear c0 c1 c2; omega)]
end
section
/-! plain programs: what is left, when it shuts -/
def JRain (g : AG) : Prop := ∃ p q : Nat, PQ p q ∧ g 12 0 = p ∧ g 12 1 = q
theorem rday_le {u r gn sh : Nat} (hr : r ≤ 100) {f : Nat → Int} (h : FOk f) : sm (rday u r gn sh f) 1000 ≤ sm f 1000 := by
  have a := sm_mono (f := rday u r gn sh f) (h := fun j => rP u r gn f 1000 j) 1000 (fun i hi => by
    have := rP_nn (u := u) (gn := gn) hr h (j := i) (Nat.le_refl 1000)
    unfold rday
    split <;> omega)
  rw [rP_sum] at a
  exact a
theorem wea0 {x1 x2 x3 x4 : Int} (h1 : I32 x1) (h2 : I32 x2) (h3 : I32 x3) (h4 : I32 x4) : (nw (M_canAsk x1 x2 x3 x4) = 0) = ¬ ((0 ≤ x1 ∧ x1 ≤ 99) ∧ (0 ≤ x2 ∧ x2 ≤ 100) ∧ (0 ≤ x3 ∧ x3 ≤ 99) ∧ (0 ≤ x4 ∧ x4 ≤ 999)) := by
  unfold I32 at *
  have e1 : (nw (M_isIn x1 0 99) = 0) = (x1 < 0 ∨ 99 < x1) := isIn0 (by omega) (by omega) (by decide) (by decide) (by decide) (by decide)
  have e2 : (nw (M_isIn x2 0 100) = 0) = (x2 < 0 ∨ 100 < x2) := isIn0 (by omega) (by omega) (by decide) (by decide) (by decide) (by decide)
  have e3 : (nw (M_isIn x3 0 99) = 0) = (x3 < 0 ∨ 99 < x3) := isIn0 (by omega) (by omega) (by decide) (by decide) (by decide) (by decide)
  have e4 : (nw (M_isIn x4 0 999) = 0) = (x4 < 0 ∨ 999 < x4) := isIn0 (by omega) (by omega) (by decide) (by decide) (by decide) (by decide)
  unfold M_canAsk
  by_cases z1 : x1 < 0 ∨ 99 < x1
  · rw [if_pos (by rw [e1]; exact z1), nw_0]; simp; omega
  rw [if_neg (by rw [e1]; exact z1)]
  by_cases z2 : x2 < 0 ∨ 100 < x2
  · rw [if_pos (by rw [e2]; exact z2), nw_0]; simp; omega
  rw [if_neg (by rw [e2]; exact z2)]
  by_cases z3 : x3 < 0 ∨ 99 < x3
  · rw [if_pos (by rw [e3]; exact z3), nw_0]; simp; omega
  rw [if_neg (by rw [e3]; exact z3)]
  by_cases z4 : x4 < 0 ∨ 999 < x4
  · rw [if_pos (by rw [e4]; exact z4), nw_0]; simp; omega
  rw [if_neg (by rw [e4]; exact z4), nw_1]
  clear e1 e2 e3 e4
  simp; omega
def rF (u r gn sh : Nat) (f : Nat → Int) : Nat → Nat → Int
  | 0 => f
  | k + 1 => rday u r gn sh (rF u r gn sh f k)
theorem rF_ok {u r gn sh : Nat} (hr : r ≤ 100) {f : Nat → Int} (h : FOk f) : ∀ k, FOk (rF u r gn sh f k)
  | 0 => h
  | k + 1 => rday_ok hr (rF_ok hr h k)
theorem rF_le {u r gn sh : Nat} (hr : r ≤ 100) {f : Nat → Int} (h : FOk f) : ∀ k, sm (rF u r gn sh f k) 1000 ≤ sm f 1000
  | 0 => Int.le_refl _
  | k + 1 => Int.le_trans (rday_le hr (rF_ok hr h k)) (rF_le hr h k)
theorem X_left_s {u r gn sh N : Nat} (hu : u ≤ 99) (hr : r ≤ 100) (hg : gn ≤ 99) (hs : sh ≤ 999) (hN : N ≤ 60) {f : Nat → Int} (h : FOk f) : ∀ (n k : Nat) (g : AG) (p q : Nat), k + n = N → PQ p q → XRn g (rF u r gn sh f k) p q → ∃ g', X_left_b u r gn sh N k g = some (sm (rF u r gn sh f N) 1000, g') ∧ FR RX g g' ∧ JRain g' := by
  intro n
  induction n with
  | zero =>
    intro k g p q e pq X
    have : k = N := by omega
    subst this
    refine ⟨g, ?_, Fr.rf, p, q, pq, X.1, X.2.1⟩
    rw [X_left_b, if_pos (by exact Int.le_refl _), X.2.2.2]
  | succ n ih =>
    intro k g p q e pq X
    have c0 : ¬ nw (N : Int) ≤ nw (k : Int) := by rw [nw_id (by omega) (by omega), nw_id (by omega) (by omega)]; omega
    obtain ⟨g1, e1, f1, X1⟩ := X_day hu hr hg hs (rF_ok (u := u) (gn := gn) (sh := sh) hr h k) pq X
    obtain ⟨g2, e2, f2, J2⟩ := ih (k + 1) g1 q p (by clear c0; omega) pq.s X1
    rw [show ((k + 1 : Nat) : Int) = (k : Int) + 1 from rfl] at e2
    refine ⟨g2, ?_, f1.tr f2, J2⟩
    rw [← e2, X_left_b, if_neg c0, e1, sb]
theorem M_left_s {u r gn sh N : Nat} (hu : u ≤ 99) (hr : r ≤ 100) (hg : gn ≤ 99) (hs : sh ≤ 999) (hN : N ≤ 60) {f : Nat → Int} (h : FOk f) : ∀ (n k : Nat) (g : AG), k + n = N → (∀ i : Nat, i < 1000 → g 186 i = rF u r gn sh f k i) → ∃ g', M_left_b u r gn sh N k g = some (sm (rF u r gn sh f N) 1000, g') ∧ FR RM g g' := by
  intro n
  induction n with
  | zero =>
    intro k g e X
    have : k = N := by omega
    subst this
    refine ⟨g, ?_, Fr.rf⟩
    have kp : M_kept g = some (sm (rF u r gn sh f k) 1000) := M_kept_s X 1000 0 0 rfl rfl
    rw [M_left_b, if_pos (by exact Int.le_refl _), kp, sb]
  | succ n ih =>
    intro k g e X
    have c0 : ¬ nw (N : Int) ≤ nw (k : Int) := by rw [nw_id (by omega) (by omega), nw_id (by omega) (by omega)]; omega
    obtain ⟨g1, e1, f1, X1⟩ := M_day hu hr hg hs (rF_ok (u := u) (gn := gn) (sh := sh) hr h k) X
    obtain ⟨g2, e2, f2⟩ := ih (k + 1) g1 (by clear c0; omega) X1
    rw [show ((k + 1 : Nat) : Int) = (k : Int) + 1 from rfl] at e2
    refine ⟨g2, ?_, f1.tr f2⟩
    rw [← e2, M_left_b, if_neg c0, e1, sb]
theorem M_starts_s {w : Nat} (hw : w ≤ 999) : ∀ (n k : Nat) (g : AG), k + n = 1000 → g 117 10 = w → (∀ j : Nat, j < k → g 186 j = if w = j then 1000000 else 0) → ∃ g', M_starts_b k g = some (0, g') ∧ FR RM g g' ∧ ∀ j : Nat, j < 1000 → g' 186 j = if w = j then 1000000 else 0 := by
  intro n
  induction n with
  | zero =>
    intro k g e hW hz
    have : k = 1000 := by omega
    subst this
    refine ⟨g, ?_, Fr.rf, hz⟩
    rw [M_starts_b, if_pos (by rw [nw_id (by decide) (by decide)]; decide)]
  | succ n ih =>
    intro k g e hW hz
    have c0 : ¬ 1000 ≤ nw (k : Int) := by rw [nw_id (by omega) (by omega)]; omega
    have c1 : 0 ≤ nw (k : Int) ∧ nw (k : Int) < 1000 := by clear c0; rw [nw_id (by omega) (by omega)]; omega
    have c2 : ix (k : Int) = k := by clear c0 c1; rw [ix_id (by omega) (by omega), Int.toNat_natCast]
    have cv : (if nw (k : Int) = nw (g 117 10) then (1000000 : Int) else 0) = if w = k then 1000000 else 0 := by
      rw [hW, show nw (k : Int) = k from nw_id (by clear c0 c1 c2; omega) (by clear c0 c1 c2; omega), show nw (w : Int) = w from nw_id (by clear c0 c1 c2; omega) (by clear c0 c1 c2; omega)]
      clear c0 c1 c2
      by_cases z : w = k
      · rw [if_pos (by omega), if_pos z]
      · rw [if_neg (by omega), if_neg z]
    obtain ⟨g', e1, e2, e3⟩ := ih (k + 1) (up g 186 k (if w = k then 1000000 else 0)) (by clear c0 c1 c2 cv; omega) hW (fun j hj => by
      rw [up_at]
      by_cases z : j = k
      · rw [if_pos ⟨rfl, z⟩, z]
      · rw [if_neg (fun w => z w.2)]; exact hz j (by clear c0 c1 c2 cv; omega))
    refine ⟨g', ?_, (Fr.up Fr.rf rfl : FR RM g _).tr e2, e3⟩
    rw [show ((k + 1 : Nat) : Int) = (k : Int) + 1 from rfl] at e1
    rw [← e1, M_starts_b, if_neg c0, cv, sb, if_pos c1, c2, sb]
abbrev RW : Reg := [(12, 0), (115, 0), (116, 0), (186, 0), (187, 0)]
abbrev f0 (w sh : Nat) : Nat → Int := fun i => if w = i then (if sh ≤ w then 1000000 else 0) else 0
theorem f0_sum {w sh : Nat} (hw : w ≤ 999) : sm (f0 w sh) 1000 = if sh ≤ w then 1000000 else 0 := by
  show sm (fun i => if w = i then (if sh ≤ w then 1000000 else 0) else 0) 1000 = _
  rw [sm_one _ (c := w), if_pos (show w < 1000 by omega)]
theorem f0_ok {w sh : Nat} (hw : w ≤ 999) : FOk (f0 w sh) := by
  refine ⟨fun i hi => ?_, ?_⟩
  · show 0 ≤ if w = i then (if sh ≤ w then (1000000 : Int) else 0) else 0
    split <;> (try split) <;> omega
  · rw [f0_sum hw]
    split <;> omega
theorem sm_left {x1 x2 x3 x4 x5 : Int} {g : AG} (h1 : I32 x1) (h2 : I32 x2) (h3 : I32 x3) (h4 : I32 x4) (h5 : I32 x5) (W : JWat g) (R : JRain g) :
    ∃ r1 r2, X_left x1 x2 x3 x4 x5 g = some r1 ∧ M_left x1 x2 x3 x4 x5 r1.2 = some r2 ∧ nw r1.1 = nw r2.1 ∧ FR RW g r2.2 ∧ JRain r2.2 := by
  have we := wea0 h1 h2 h3 h4
  have wx : (nw (X_isWeather x1 x2 x3 x4) = 0) = _ := we
  have i5 : (nw (M_isIn x5 0 60) = 0) = (x5 < 0 ∨ 60 < x5) := by unfold I32 at *; exact isIn0 (by omega) (by omega) (by decide) (by decide) (by decide) (by decide)
  have w5 : (nw (X_within x5 0 60) = 0) = (x5 < 0 ∨ 60 < x5) := i5
  by_cases ok : ¬ ((0 ≤ x1 ∧ x1 ≤ 99) ∧ (0 ≤ x2 ∧ x2 ≤ 100) ∧ (0 ≤ x3 ∧ x3 ≤ 99) ∧ (0 ≤ x4 ∧ x4 ≤ 999))
  · refine ⟨(-1, g), (-1, g), ?_, ?_, rfl, Fr.rf, R⟩
    · unfold X_left; rw [if_pos (by rw [wx]; exact ok)]
    · unfold M_left; dsimp only; rw [if_pos (by rw [we]; exact ok)]
  replace ok := Decidable.not_not.1 ok
  by_cases o5 : x5 < 0 ∨ 60 < x5
  · refine ⟨(-1, g), (-1, g), ?_, ?_, rfl, Fr.rf, R⟩
    · unfold X_left; rw [if_neg (by rw [wx]; exact fun z => z ok), if_pos (by rw [w5]; exact o5)]
    · unfold M_left; dsimp only; rw [if_neg (by rw [we]; exact fun z => z ok), if_pos (by rw [i5]; exact o5)]
  obtain ⟨u, rfl⟩ := natOf ok.1.1
  obtain ⟨r, rfl⟩ := natOf ok.2.1.1
  obtain ⟨gn, rfl⟩ := natOf ok.2.2.1.1
  obtain ⟨sh, rfl⟩ := natOf ok.2.2.2.1
  obtain ⟨N, rfl⟩ := natOf (show 0 ≤ x5 by clear we wx i5 w5; omega)
  obtain ⟨W1, W2, W3⟩ := W
  obtain ⟨w, hw⟩ := natOf W2
  obtain ⟨p, q, pq, x0, x1⟩ := R
  have hw9 : w ≤ 999 := by clear we wx i5 w5; omega
  obtain ⟨hu, hr, hg, hs, hN⟩ : u ≤ 99 ∧ r ≤ 100 ∧ gn ≤ 99 ∧ sh ≤ 999 ∧ N ≤ 60 := by clear we wx i5 w5; omega
  obtain ⟨g1, e1, f1, X1⟩ := X_start hs hw9 pq x0 x1
  have fo := f0_ok (sh := sh) hw9
  obtain ⟨g2, e2, f2, J2⟩ := X_left_s hu hr hg hs hN fo N 0 g1 p q (by clear we wx i5 w5; omega) pq X1
  have xE : X_left u r gn sh N g = some (sm (rF u r gn sh (f0 w sh) N) 1000, g2) := by
    unfold X_left
    have e2' : X_left_b u r gn sh N 0 g1 = _ := e2
    rw [if_neg (by rw [wx]; exact fun z => z ok), if_neg (by rw [w5]; exact o5), hw, e1, sb, e2']
  have fX : FR RW g g2 := FR.mo (f1.tr f2) rfl
  have m10 : g2 117 10 = w := by rw [fX 117 10 rfl, W1, hw]
  have cc : (nw (sh : Int) ≤ nw (g2 117 10)) = (sh ≤ w) := by
    rw [m10, show nw (sh : Int) = sh from nw_id (by clear we wx i5 w5; omega) (by clear we wx i5 w5; omega), show nw (w : Int) = w from nw_id (by clear we wx i5 w5; omega) (by clear we wx i5 w5; omega)]
    exact propext ⟨fun z => by clear we wx i5 w5; omega, fun z => by clear we wx i5 w5; omega⟩
  by_cases z : sh ≤ w
  · obtain ⟨g3, e3, f3, z3⟩ := M_starts_s hw9 1000 0 g2 rfl m10 (fun j hj => by omega)
    obtain ⟨g4, e4, f4⟩ := M_left_s hu hr hg hs hN fo N 0 g3 (by clear we wx i5 w5 cc; omega) (fun i hi => by
      rw [z3 i hi]
      show _ = if w = i then (if sh ≤ w then (1000000 : Int) else 0) else 0
      rw [if_pos z])
    have fM : FR RW g2 g4 := FR.mo (f3.tr f4) rfl
    refine ⟨_, (sm (rF u r gn sh (f0 w sh) N) 1000, g4), xE, ?_, rfl, fX.tr fM, ?_⟩
    · unfold M_left M_starts
      dsimp only
      have e3' : M_starts_b 0 g2 = _ := e3
      have e4' : M_left_b u r gn sh N 0 g3 = _ := e4
      rw [if_neg (by rw [we]; exact fun z => z ok), if_neg (by rw [i5]; exact o5), if_pos (by rw [cc]; exact z), e3', sb, e4']
    · obtain ⟨p, q, a, b, c⟩ := J2
      exact ⟨p, q, a, by show g4 12 0 = _; rw [(f3.tr f4) 12 0 rfl]; exact b, by show g4 12 1 = _; rw [(f3.tr f4) 12 1 rfl]; exact c⟩
  · refine ⟨_, (0, g2), xE, ?_, ?_, fX, J2⟩
    · unfold M_left
      dsimp only
      rw [if_neg (by rw [we]; exact fun z => z ok), if_neg (by rw [i5]; exact o5), if_neg (by rw [cc]; exact z)]
    · have a := rF_le (u := u) (gn := gn) (sh := sh) hr fo N
      have b := sm_nn (f := rF u r gn sh (f0 w sh) N) 1000 (rF_ok hr fo N).1
      rw [f0_sum hw9, if_neg z] at a
      show nw (sm (rF u r gn sh (f0 w sh) N) 1000) = nw 0
      exact congrArg nw (Int.le_antisymm a b)
end
section
/-! plain programs: when it shuts -/
def shR (u r gn sh : Nat) (f : Nat → Int) : Nat → Nat → Int
  | 0, _ => -1
  | n + 1, k => if 500000 ≤ sm (rF u r gn sh f k) 1000 then shR u r gn sh f n (k + 1) else k
theorem X_shuts_s {u r gn sh : Nat} (hu : u ≤ 99) (hr : r ≤ 100) (hg : gn ≤ 99) (hs : sh ≤ 999) {f : Nat → Int} (h : FOk f) : ∀ (n k : Nat) (g : AG) (p q : Nat), k + n = 61 → PQ p q → XRn g (rF u r gn sh f k) p q → ∃ g', X_shuts_b u r gn sh k g = some (shR u r gn sh f n k, g') ∧ FR RX g g' ∧ JRain g' := by
  intro n
  induction n with
  | zero =>
    intro k g p q e pq X
    have : k = 61 := by omega
    subst this
    refine ⟨g, ?_, Fr.rf, p, q, pq, X.1, X.2.1⟩
    rw [X_shuts_b, if_pos (by rw [nw_id (by decide) (by decide)]; decide)]
    rfl
  | succ n ih =>
    intro k g p q e pq X
    have c0 : ¬ 60 < nw (k : Int) := by rw [nw_id (by omega) (by omega)]; omega
    have fk := rF_ok (u := u) (gn := gn) (sh := sh) hr h k
    have b0 := sm_nn (f := rF u r gn sh f k) 1000 fk.1
    have cn : nw (g 12 2) = sm (rF u r gn sh f k) 1000 := by
      rw [X.2.2.2]
      have := fk.2
      clear c0
      exact nw_id (by omega) (by omega)
    by_cases z : 500000 ≤ sm (rF u r gn sh f k) 1000
    · obtain ⟨g1, e1, f1, X1⟩ := X_day hu hr hg hs fk pq X
      obtain ⟨g2, e2, f2, J2⟩ := ih (k + 1) g1 q p (by clear c0 cn; omega) pq.s X1
      rw [show ((k + 1 : Nat) : Int) = (k : Int) + 1 from rfl] at e2
      refine ⟨g2, ?_, f1.tr f2, J2⟩
      rw [X_shuts_b, if_neg c0, if_pos (by rw [cn]; exact z), e1, sb, e2]
      show _ = some ((if 500000 ≤ sm (rF u r gn sh f k) 1000 then shR u r gn sh f n (k + 1) else k), g2)
      rw [if_pos z]
    · refine ⟨g, ?_, Fr.rf, p, q, pq, X.1, X.2.1⟩
      rw [X_shuts_b, if_neg c0, if_neg (by rw [cn]; exact z)]
      show _ = some ((if 500000 ≤ sm (rF u r gn sh f k) 1000 then shR u r gn sh f n (k + 1) else k), g)
      rw [if_neg z]
theorem M_shuts_s {u r gn sh : Nat} (hu : u ≤ 99) (hr : r ≤ 100) (hg : gn ≤ 99) (hs : sh ≤ 999) {f : Nat → Int} (h : FOk f) : ∀ (n k : Nat) (g : AG), k + 1 + n = 61 → (∀ i : Nat, i < 1000 → g 186 i = rF u r gn sh f k i) → ∃ g', M_shuts_b u r gn sh ((k + 1 : Nat) : Int) g = some (shR u r gn sh f n (k + 1), g') ∧ FR RM g g' := by
  intro n
  induction n with
  | zero =>
    intro k g e X
    have : k = 60 := by omega
    subst this
    refine ⟨g, ?_, Fr.rf⟩
    rw [M_shuts_b, if_pos (by rw [nw_id (by decide) (by decide)]; decide)]
    rfl
  | succ n ih =>
    intro k g e X
    have c0 : ¬ 60 < nw ((k + 1 : Nat) : Int) := by rw [nw_id (by omega) (by omega)]; omega
    obtain ⟨g1, e1, f1, X1⟩ := M_day hu hr hg hs (rF_ok (u := u) (gn := gn) (sh := sh) hr h k) X
    have fk := rF_ok (u := u) (gn := gn) (sh := sh) hr h (k + 1)
    have b0 := sm_nn (f := rF u r gn sh f (k + 1)) 1000 fk.1
    have kp : M_kept g1 = some (sm (rF u r gn sh f (k + 1)) 1000) := M_kept_s (f := rF u r gn sh f (k + 1)) X1 1000 0 0 rfl rfl
    have cn : nw (sm (rF u r gn sh f (k + 1)) 1000) = sm (rF u r gn sh f (k + 1)) 1000 := by
      have := fk.2
      clear c0
      exact nw_id (by omega) (by omega)
    by_cases z : 500000 ≤ sm (rF u r gn sh f (k + 1)) 1000
    · obtain ⟨g2, e2, f2⟩ := ih (k + 1) g1 (by clear c0 cn; omega) X1
      rw [show ((k + 1 + 1 : Nat) : Int) = ((k + 1 : Nat) : Int) + 1 from rfl] at e2
      refine ⟨g2, ?_, f1.tr f2⟩
      rw [M_shuts_b, if_neg c0, e1, sb, kp, sb, if_pos (by rw [cn]; exact z), e2]
      show _ = some ((if 500000 ≤ sm (rF u r gn sh f (k + 1)) 1000 then shR u r gn sh f n (k + 1 + 1) else ((k + 1 : Nat) : Int)), g2)
      rw [if_pos z]
    · refine ⟨g1, ?_, f1⟩
      rw [M_shuts_b, if_neg c0, e1, sb, kp, sb, if_neg (by rw [cn]; exact z)]
      show _ = some ((if 500000 ≤ sm (rF u r gn sh f (k + 1)) 1000 then shR u r gn sh f n (k + 1 + 1) else ((k + 1 : Nat) : Int)), g1)
      rw [if_neg z]
theorem sm_shuts {x1 x2 x3 x4 : Int} {g : AG} (h1 : I32 x1) (h2 : I32 x2) (h3 : I32 x3) (h4 : I32 x4) (W : JWat g) (R : JRain g) :
    ∃ r1 r2, X_shuts x1 x2 x3 x4 g = some r1 ∧ M_shuts x1 x2 x3 x4 r1.2 = some r2 ∧ nw r1.1 = nw r2.1 ∧ FR RW g r2.2 ∧ JRain r2.2 := by
  have we := wea0 h1 h2 h3 h4
  have wx : (nw (X_isWeather x1 x2 x3 x4) = 0) = _ := we
  by_cases ok : ¬ ((0 ≤ x1 ∧ x1 ≤ 99) ∧ (0 ≤ x2 ∧ x2 ≤ 100) ∧ (0 ≤ x3 ∧ x3 ≤ 99) ∧ (0 ≤ x4 ∧ x4 ≤ 999))
  · refine ⟨(-1, g), (-1, g), ?_, ?_, rfl, Fr.rf, R⟩
    · unfold X_shuts; rw [if_pos (by rw [wx]; exact ok)]
    · unfold M_shuts; dsimp only; rw [if_pos (by rw [we]; exact ok)]
  replace ok := Decidable.not_not.1 ok
  obtain ⟨u, rfl⟩ := natOf ok.1.1
  obtain ⟨r, rfl⟩ := natOf ok.2.1.1
  obtain ⟨gn, rfl⟩ := natOf ok.2.2.1.1
  obtain ⟨sh, rfl⟩ := natOf ok.2.2.2.1
  obtain ⟨W1, W2, W3⟩ := W
  obtain ⟨w, hw⟩ := natOf W2
  obtain ⟨p, q, pq, x0, x1⟩ := R
  have hw9 : w ≤ 999 := by clear we wx; omega
  obtain ⟨hu, hr, hg, hs⟩ : u ≤ 99 ∧ r ≤ 100 ∧ gn ≤ 99 ∧ sh ≤ 999 := by clear we wx; omega
  obtain ⟨g1, e1, f1, X1⟩ := X_start hs hw9 pq x0 x1
  have fo := f0_ok (sh := sh) hw9
  obtain ⟨g2, e2, f2, J2⟩ := X_shuts_s hu hr hg hs fo 61 0 g1 p q rfl pq X1
  have xE : X_shuts u r gn sh g = some (shR u r gn sh (f0 w sh) 61 0, g2) := by
    unfold X_shuts
    have e2' : X_shuts_b u r gn sh 0 g1 = _ := e2
    rw [if_neg (by rw [wx]; exact fun z => z ok), hw, e1, sb, e2']
  have fX : FR RW g g2 := FR.mo (f1.tr f2) rfl
  have m10 : g2 117 10 = w := by rw [fX 117 10 rfl, W1, hw]
  have cc : (nw (sh : Int) ≤ nw (g2 117 10)) = (sh ≤ w) := by
    rw [m10, show nw (sh : Int) = sh from nw_id (by clear we wx; omega) (by clear we wx; omega), show nw (w : Int) = w from nw_id (by clear we wx; omega) (by clear we wx; omega)]
    exact propext ⟨fun z => by clear we wx; omega, fun z => by clear we wx; omega⟩
  have s0 : shR u r gn sh (f0 w sh) 61 0 = if 500000 ≤ sm (f0 w sh) 1000 then shR u r gn sh (f0 w sh) 60 1 else ((0 : Nat) : Int) := rfl
  rw [f0_sum hw9] at s0
  obtain ⟨V, hV⟩ : ∃ V, V = shR u r gn sh (f0 w sh) 61 0 := ⟨_, rfl⟩
  rw [← hV] at xE s0
  clear hV e2
  by_cases z : sh ≤ w
  · obtain ⟨g3, e3, f3, z3⟩ := M_starts_s hw9 1000 0 g2 rfl m10 (fun j hj => by omega)
    obtain ⟨g4, e4, f4⟩ := M_shuts_s hu hr hg hs fo 60 0 g3 rfl (fun i hi => by
      rw [z3 i hi]
      show _ = if w = i then (if sh ≤ w then (1000000 : Int) else 0) else 0
      rw [if_pos z])
    rw [if_pos z, if_pos (by decide)] at s0
    have fM : FR RW g2 g4 := FR.mo (f3.tr f4) rfl
    refine ⟨(V, g2), (shR u r gn sh (f0 w sh) 60 1, g4), xE, ?_, ?_, fX.tr fM, ?_⟩
    · unfold M_shuts M_starts
      dsimp only
      have e3' : M_starts_b 0 g2 = _ := e3
      have e4' : M_shuts_b u r gn sh 1 g3 = _ := e4
      rw [if_neg (by rw [we]; exact fun z => z ok), if_pos (by rw [cc]; exact z), e3', sb, e4']
    · dsimp only; rw [s0]
    · obtain ⟨p, q, a, b, c⟩ := J2
      exact ⟨p, q, a, by show g4 12 0 = _; rw [(f3.tr f4) 12 0 rfl]; exact b, by show g4 12 1 = _; rw [(f3.tr f4) 12 1 rfl]; exact c⟩
  · rw [if_neg z, if_neg (by decide)] at s0
    refine ⟨(V, g2), (0, g2), xE, ?_, ?_, fX, J2⟩
    · unfold M_shuts
      dsimp only
      rw [if_neg (by rw [we]; exact fun z => z ok), if_neg (by rw [cc]; exact z)]
    · dsimp only; rw [s0]; rfl
end
section
/-! plain programs: a new boat keeps trips and yard -/
theorem JTrip.mono {g g' : AG} (h : ∀ k i, inR [(7, 9), (117, 50), (76, 0), (77, 0), (78, 0), (79, 0), (80, 0), (149, 0), (150, 0), (151, 0), (152, 0), (153, 0)] k i = true → g' k i = g k i) (le : g 6 7 ≤ g' 6 7) (q : JTrip g) : JTrip g' := by
  obtain ⟨q1, q2, q3⟩ := q
  unfold JTrip
  rw [h 117 49 rfl, h 7 8 rfl]
  refine ⟨q1, fun k hk => ?_, fun k hk => ?_⟩
  · rw [h 149 k rfl, h 150 k rfl, h 151 k rfl, h 152 k rfl, h 153 k rfl, h 76 k rfl, h 77 k rfl, h 78 k rfl, h 79 k rfl, h 80 k rfl]
    exact q2 k hk
  · have := q3 k hk
    rw [h 76 k rfl, h 77 k rfl, h 78 k rfl, h 79 k rfl, h 80 k rfl]
    exact ⟨⟨this.1.1, by omega⟩, this.2⟩
theorem JYard.mono {g g' : AG} (h : ∀ k i, inR [(97, 0), (98, 0), (173, 0), (174, 0)] k i = true → g' k i = g k i) (le : g 6 7 ≤ g' 6 7) (q : JYard g) : JYard g' := by
  obtain ⟨q1, q2, q3⟩ := q
  refine ⟨fun b hb => ?_, fun b hb hb2 => ?_, ?_⟩
  · rw [h 173 b rfl, h 97 b rfl, h 174 b rfl, h 98 b rfl]; exact q1 b hb
  · rw [h 98 b rfl]; exact q2 b hb (by omega)
  · rw [show dkF g' = dkF g from funext fun k => by unfold dkF; rw [h 98 k rfl]]; exact q3
theorem boat_up {x1 x2 x3 x4 : Int} {g : AG} (h1 : I32 x1) (h2 : I32 x2) (h3 : I32 x3) (h4 : I32 x4) (hb : g 117 12 = g 6 7 ∧ 0 ≤ g 6 7 ∧ g 6 7 ≤ 10) {r1 r2 : Int × AG} (e1 : X_boat x1 x2 x3 x4 g = some r1) (e2 : M_boat x1 x2 x3 x4 r1.2 = some r2) : g 6 7 ≤ r2.2 6 7 := by
  have X := X_boat_s (g := g) h1 h2 h3 h4 hb.2 hb.2
  have p : r1.2 117 12 = g 117 12 ∧ g 6 7 ≤ r1.2 6 7 := by
    by_cases o : BoatOk x1 x2 x3 x4 (g 6 7) (g 6 7)
    · have a := X.1 o
      rw [e1] at a
      rw [Option.some.inj a]
      simp [up_at]
      omega
    · have a := X.2 o
      rw [e1] at a
      rw [Option.some.inj a]
      exact ⟨rfl, Int.le_refl _⟩
  have M := M_boat_s (g := r1.2) h1 h2 h3 h4 (by rw [p.1, hb.1]; exact hb.2) (by rw [p.1, hb.1]; exact hb.2)
  have s : r2.2 6 7 = r1.2 6 7 := by
    by_cases o : BoatOk x1 x2 x3 x4 (r1.2 117 12) (r1.2 117 12)
    · have a := M.1 o
      rw [e2] at a
      rw [Option.some.inj a]
      simp [up_at]
    · have a := M.2 o
      rw [e2] at a
      rw [Option.some.inj a]
  rw [s]
  exact p.2
end
section
/-! plain programs: stoppages told -/
theorem stpN_snoc (a b c : Nat → Int) (i d : Int) : ∀ n s, stpN a b c i d (n + 1) s = (stpN a b c i d n s || decide (a (s + n) = i ∧ b (s + n) ≤ d ∧ d ≤ c (s + n)))
  | 0, s => by
    show (decide (a s = i ∧ b s ≤ d ∧ d ≤ c s) || false) = (false || decide (a (s + 0) = i ∧ b (s + 0) ≤ d ∧ d ≤ c (s + 0)))
    rw [Bool.or_false, Bool.false_or]
    rfl
  | n + 1, s => by
    show (decide (a s = i ∧ b s ≤ d ∧ d ≤ c s) || stpN a b c i d (n + 1) (s + 1)) = ((decide (a s = i ∧ b s ≤ d ∧ d ≤ c s) || stpN a b c i d n (s + 1)) || _)
    rw [stpN_snoc a b c i d n (s + 1), Bool.or_assoc, show s + 1 + n = s + (n + 1) by omega]
theorem stpN_cg {a b c a' b' c' : Nat → Int} {i d : Int} : ∀ n s, (∀ t, s ≤ t → t < s + n → a' t = a t ∧ b' t = b t ∧ c' t = c t) → stpN a' b' c' i d n s = stpN a b c i d n s
  | 0, _, _ => rfl
  | n + 1, s, h => by
    have q := h s (Nat.le_refl s) (by omega)
    show (decide (a' s = i ∧ b' s ≤ d ∧ d ≤ c' s) || stpN a' b' c' i d n (s + 1)) = _
    rw [q.1, q.2.1, q.2.2, stpN_cg n (s + 1) (fun t h1 h2 => h t (by omega) (by omega))]
    rfl
theorem X_stop_s {i e : Nat} (hi : i < 15) (he : e ≤ 13) : ∀ (n k : Nat) (g : AG), k + n = e + 1 → ∃ g', Canal_stop_b i e k g = some (0, g') ∧ FR [(1, 5), (16, 0)] g g' ∧ g' 1 4 = g 1 4 + 1 ∧ ∀ j d : Nat, d < 14 → tb (g' 16 j) d = (tb (g 16 j) d || decide (j = i ∧ k ≤ d ∧ d ≤ e)) := by
  intro n
  induction n with
  | zero =>
    intro k g h
    have : k = e + 1 := by omega
    subst this
    refine ⟨up g 1 4 (g 1 4 + 1), ?_, Fr.up Fr.rf rfl, by rw [up_at, if_pos ⟨rfl, rfl⟩], fun j d hd => ?_⟩
    · rw [Canal_stop_b, if_pos (by rw [nw_id (by omega) (by omega), nw_id (by omega) (by omega)]; omega), sb]
    · rw [up_at, if_neg (fun z => absurd z.1 (by decide)), show decide (j = i ∧ e + 1 ≤ d ∧ d ≤ e) = false from decide_eq_false (by omega), Bool.or_false]
  | succ n ih =>
    intro k g h
    have c0 : ¬ nw (e : Int) < nw (k : Int) := by rw [nw_id (by omega) (by omega), nw_id (by omega) (by omega)]; omega
    have c1 : 0 ≤ nw (i : Int) ∧ nw (i : Int) < 15 := by clear c0; rw [nw_id (by omega) (by omega)]; omega
    have c2 : ix (i : Int) = i := by clear c0 c1; rw [ix_id (by omega) (by omega), Int.toNat_natCast]
    obtain ⟨g', e1, f1, p1, q1⟩ := ih (k + 1) (up g 16 i (orI (g 16 i) (shlI 1 k))) (by clear c0 c1 c2; omega)
    refine ⟨g', ?_, (Fr.up Fr.rf rfl : FR [(1, 5), (16, 0)] g _).tr f1, ?_, fun j d hd => ?_⟩
    · rw [show ((k + 1 : Nat) : Int) = (k : Int) + 1 from rfl] at e1
      rw [← e1, Canal_stop_b, if_neg c0, if_pos c1, c2, sb]
    · rw [p1, up_at, if_neg (fun z => absurd z.1 (by decide))]
    · rw [q1 j d hd, up_at]
      clear c0 c1 c2
      by_cases z : j = i
      · rw [if_pos ⟨rfl, z⟩, tb_or, tb_shl1 k (by omega) (show d < 32 by omega), z, Bool.or_assoc]
        congr 1
        by_cases y : d = k
        · rw [decide_eq_true y, Bool.true_or, eq_comm, decide_eq_true_eq]; omega
        · rw [decide_eq_false y, Bool.false_or]
          exact decide_eq_decide.2 (by omega)
      · rw [if_neg (fun w => z w.2)]
        congr 1
        exact decide_eq_decide.2 (by omega)
theorem sm_stoppage {x1 x2 x3 : Int} {g : AG} (h1 : I32 x1) (h2 : I32 x2) (h3 : I32 x3) (S : JStop g) :
    ∃ r1 r2, X_stoppage x1 x2 x3 g = some r1 ∧ M_stoppage x1 x2 x3 r1.2 = some r2 ∧ nw r1.1 = nw r2.1 ∧ JStop r2.2 ∧ FR RStop g r2.2 := by
  have S0 := S
  obtain ⟨s1, ⟨s2, s3⟩, s4⟩ := S
  unfold I32 at *
  have n1 : nw x1 = x1 := nw_id (by omega) (by omega)
  have i1 : (nw (M_isIn x1 0 14) = 0) = (x1 < 0 ∨ 14 < x1) := by clear n1; exact isIn0 (by omega) (by omega) (by decide) (by decide) (by decide) (by decide)
  have w1 : (nw (X_within x1 0 14) = 0) = (x1 < 0 ∨ 14 < x1) := i1
  have i2 : (nw (M_isIn x2 0 13) = 0) = (x2 < 0 ∨ 13 < x2) := by clear n1 i1 w1; exact isIn0 (by omega) (by omega) (by decide) (by decide) (by decide) (by decide)
  have i3 : (nw (M_isIn x3 x2 13) = 0) = (x3 < x2 ∨ 13 < x3) := by clear n1 i1 w1 i2; exact isIn0 (by omega) (by omega) (by omega) (by omega) (by decide) (by decide)
  have n2 : nw x2 = x2 := by clear n1 i1 w1 i2 i3; exact nw_id (by omega) (by omega)
  have n3 : nw x3 = x3 := by clear n1 i1 w1 i2 i3 n2; exact nw_id (by omega) (by omega)
  have n4 : nw (g 1 4) = g 1 4 := by clear n1 i1 w1 i2 i3 n2 n3; exact nw_id (by omega) (by omega)
  by_cases m : x1 = -1
  · refine ⟨(0, up (fillG g 16 15 0) 1 4 0), (0, up (up (fillG g 16 15 0) 1 4 0) 117 11 0), ?_, ?_, rfl, ⟨?_, ⟨?_, ?_⟩, ?_⟩, Fr.up (Fr.up (Fr.fill Fr.rf (fun _ => rfl)) rfl) rfl⟩
    · unfold X_stoppage Canal_reopen
      rw [if_pos (by rw [n1]; exact m), sb, sb, sb]
    · unfold M_stoppage
      dsimp only
      rw [if_pos (by rw [n1]; exact m), sb]
    · simp [up_at]
    · simp [up_at]
    · intro s hs
      simp [up_at] at hs
      omega
    · intro i d hi hd
      have e0 : (up (up (fillG g 16 15 0) 1 4 0) 117 11 0) 16 i = 0 := by
        rw [up_at, if_neg (fun z => absurd z.1 (by decide)), up_at, if_neg (fun z => absurd z.1 (by decide)), fill_at, if_pos ⟨rfl, hi⟩]
      dsimp only
      rw [e0, tb_0]
      rfl
  by_cases ok : (0 ≤ x1 ∧ x1 ≤ 14) ∧ 0 ≤ x2 ∧ x2 ≤ x3 ∧ x3 ≤ 13 ∧ g 1 4 < 8
  · obtain ⟨i, hi⟩ := natOf ok.1.1
    obtain ⟨a, ha⟩ := natOf ok.2.1
    obtain ⟨e, he⟩ := natOf (show 0 ≤ x3 by clear n1 i1 w1 i2 i3 n2 n3 n4; omega)
    obtain ⟨N, hN⟩ := natOf s2.1
    have b1 : i < 15 := by clear n1 i1 w1 i2 i3 n2 n3 n4; omega
    have b2 : e ≤ 13 := by clear n1 i1 w1 i2 i3 n2 n3 n4; omega
    have b3 : a ≤ e := by clear n1 i1 w1 i2 i3 n2 n3 n4; omega
    have b4 : N < 8 := by clear n1 i1 w1 i2 i3 n2 n3 n4; omega
    obtain ⟨gX, eX, fX, pX, qX⟩ := X_stop_s b1 b2 (e + 1 - a) a g (by clear n1 i1 w1 i2 i3 n2 n3 n4; omega)
    have k11 : gX 117 11 = N := by rw [fX 117 11 rfl]; exact hN
    obtain ⟨gM, hM⟩ : ∃ gM : AG, gM = up (up (up (up gX 121 N x1) 122 N x2) 123 N x3) 117 11 ((N : Int) + 1) := ⟨_, rfl⟩
    have fM : FR RStop gX gM := by rw [hM]; exact Fr.up (Fr.up (Fr.up (Fr.up Fr.rf rfl) rfl) rfl) rfl
    have m11 : gM 117 11 = (N : Int) + 1 := by rw [hM, up_at, if_pos ⟨rfl, rfl⟩]
    have m14 : gM 1 4 = (N : Int) + 1 := by rw [hM]; simp only [up_at, Nat.reduceEqDiff, false_and, if_false]; rw [pX, ← s1, hN]
    have m16 : ∀ j, gM 16 j = gX 16 j := fun j => by rw [hM]; simp only [up_at, Nat.reduceEqDiff, false_and, if_false]
    have mA : ∀ j, gM 121 j = if j = N then x1 else g 121 j := fun j => by rw [hM]; simp only [up_at, Nat.reduceEqDiff, false_and, true_and, if_false]; rw [fX 121 j rfl]
    have mB : ∀ j, gM 122 j = if j = N then x2 else g 122 j := fun j => by rw [hM]; simp only [up_at, Nat.reduceEqDiff, false_and, true_and, if_false]; rw [fX 122 j rfl]
    have mC : ∀ j, gM 123 j = if j = N then x3 else g 123 j := fun j => by rw [hM]; simp only [up_at, Nat.reduceEqDiff, false_and, true_and, if_false]; rw [fX 123 j rfl]
    refine ⟨(gX 1 4, gX), ((N : Int) + 1, gM), ?_, ?_, ?_, ⟨?_, ⟨?_, ?_⟩, ?_⟩, (FR.mo fX rfl).tr fM⟩
    · unfold X_stoppage Canal_stop
      rw [if_neg (by rw [n1]; exact m), if_neg (by rw [w1]; clear n1 i1 w1 i2 i3 n2 n3 n4; omega), if_neg (by rw [n2]; clear n1 i1 w1 i2 i3 n2 n3 n4; omega), if_neg (by rw [n2, n3]; clear n1 i1 w1 i2 i3 n2 n3 n4; omega), if_pos (by rw [n3]; clear n1 i1 w1 i2 i3 n2 n3 n4; omega), if_pos (by rw [n4]; exact ok.2.2.2.2), hi, ha, he, eX, sb]
    · unfold M_stoppage
      dsimp only
      have d0 : 0 ≤ nw (N : Int) ∧ nw (N : Int) < 8 := by clear n1 i1 w1 i2 i3 n2 n3 n4; rw [nw_id (by omega) (by omega)]; omega
      have d1 : ix (N : Int) = N := by clear d0 n1 i1 w1 i2 i3 n2 n3 n4; rw [ix_id (by omega) (by omega), Int.toNat_natCast]
      have d2 : ¬ nw (N : Int) = 8 := by clear d0 d1 n1 i1 w1 i2 i3 n2 n3 n4; rw [nw_id (by omega) (by omega)]; omega
      have u1 : (up gX 121 N x1) 117 11 = N := by rw [up_at, if_neg (fun z => absurd z.1 (by decide))]; exact k11
      have u2 : (up (up gX 121 N x1) 122 N x2) 117 11 = N := by rw [up_at, if_neg (fun z => absurd z.1 (by decide))]; exact u1
      have u3 : (up (up (up gX 121 N x1) 122 N x2) 123 N x3) 117 11 = N := by rw [up_at, if_neg (fun z => absurd z.1 (by decide))]; exact u2
      rw [if_neg (by rw [n1]; exact m), if_neg (by rw [i1]; clear d0 d1 d2 n1 i1 w1 i2 i3 n2 n3 n4; omega), if_neg (by rw [i2]; clear d0 d1 d2 n1 i1 w1 i2 i3 n2 n3 n4; omega), if_neg (by rw [i3]; clear d0 d1 d2 n1 i1 w1 i2 i3 n2 n3 n4; omega), if_neg (by rw [k11]; exact d2), if_pos (by rw [k11]; exact d0), k11, d1, sb, if_pos (by rw [u1]; exact d0), u1, d1, sb, if_pos (by rw [u2]; exact d0), u2, d1, sb, u3, sb, ← hM, m11]
    · show nw (gX 1 4) = nw ((N : Int) + 1)
      rw [pX, ← s1, hN]
    · dsimp only; rw [m11, m14]
    · dsimp only; rw [m11]; clear n1 i1 w1 i2 i3 n2 n3 n4; omega
    · intro s hs
      dsimp only at hs ⊢
      rw [m11] at hs
      rw [mA, mB, mC]
      clear n1 i1 w1 i2 i3 n2 n3 n4
      by_cases z : s = N
      · rw [if_pos z, if_pos z, if_pos z]; omega
      · rw [if_neg z, if_neg z, if_neg z]; exact s3 s (by omega)
    · intro j d hj hd
      dsimp only
      rw [m16, qX j d hd, s4 j d hj hd]
      have cgN : stpN (gM 121) (gM 122) (gM 123) (j : Int) (d : Int) N 0 = stpN (g 121) (g 122) (g 123) (j : Int) (d : Int) N 0 := stpN_cg N 0 (fun t _ ht => by
        rw [mA, mB, mC, if_neg (by omega), if_neg (by omega), if_neg (by omega)]; exact ⟨rfl, rfl, rfl⟩)
      unfold stpM
      rw [m11, hN, show ((N : Int) + 1).toNat = N + 1 by clear n1 i1 w1 i2 i3 n2 n3 n4; omega, Int.toNat_natCast, stpN_snoc, cgN]
      rw [Nat.zero_add, mA, mB, mC, if_pos rfl, if_pos rfl, if_pos rfl]
      clear n1 i1 w1 i2 i3 n2 n3 n4
      congr 1
      exact decide_eq_decide.2 (by omega)
  · refine ⟨(-1, g), (-1, g), ?_, ?_, rfl, S0, Fr.rf⟩
    · unfold X_stoppage
      rw [if_neg (by rw [n1]; exact m)]
      by_cases z1 : x1 < 0 ∨ 14 < x1
      · rw [if_pos (by rw [w1]; exact z1)]
      rw [if_neg (by rw [w1]; exact z1), n2, n3, n4]
      clear n1 i1 w1 i2 i3 n2 n3 n4
      by_cases z2 : x2 < 0
      · rw [if_pos z2]
      rw [if_neg z2]
      by_cases z3 : x3 < x2
      · rw [if_pos z3]
      rw [if_neg z3]
      by_cases z4 : x3 < 14
      · rw [if_pos z4, if_neg (by omega)]
      rw [if_neg z4]
    · unfold M_stoppage
      dsimp only
      rw [if_neg (by rw [n1]; exact m)]
      by_cases z1 : x1 < 0 ∨ 14 < x1
      · rw [if_pos (by rw [i1]; exact z1)]
      rw [if_neg (by rw [i1]; exact z1)]
      by_cases z2 : x2 < 0 ∨ 13 < x2
      · rw [if_pos (by rw [i2]; exact z2)]
      rw [if_neg (by rw [i2]; exact z2)]
      by_cases z3 : x3 < x2 ∨ 13 < x3
      · rw [if_pos (by rw [i3]; exact z3)]
      rw [if_neg (by rw [i3]; exact z3), if_pos (by rw [s1, n4]; clear n1 i1 w1 i2 i3 n2 n3 n4; omega)]
end
section
/-! plain programs: the queue at a lock, what is sought -/
theorem nwN (k : Nat) (h : k < 2147483648) : nw (k : Int) = k := nw_id (by omega) (by omega)
theorem ixN (k : Nat) (h : k < 2147483648) : ix (k : Int) = k := by rw [ix_id (by omega) (by omega), Int.toNat_natCast]
def qTW (cm wy : Nat → Int) (o : Nat → Nat) : Nat → Int × Int
  | 0 => (0, 0)
  | i + 1 => (max (cm (o i)) (qTW cm wy o i).1 + (if 0 < i ∧ wy (o i) = wy (o (i - 1)) then 20 else 15), (qTW cm wy o i).2 + (max (cm (o i)) (qTW cm wy o i).1 - cm (o i)))
theorem qTW_succ {cm wy : Nat → Int} {o : Nat → Nat} {i : Nat} : qTW cm wy o (i + 1) = (max (cm (o i)) (qTW cm wy o i).1 + (if 0 < i ∧ wy (o i) = wy (o (i - 1)) then 20 else 15), (qTW cm wy o i).2 + (max (cm (o i)) (qTW cm wy o i).1 - cm (o i))) := rfl
abbrev QS : Type := Option (Int × (Nat → Nat))
def ud (o : Nat → Nat) (i b : Nat) : Nat → Nat := fun j => if j = i then b else o j
theorem ud_lt {o : Nat → Nat} {i b j : Nat} (h : j < i) : ud o i b j = o j := by unfold ud; rw [if_neg (by omega)]
theorem ud_at {o : Nat → Nat} {i b : Nat} : ud o i b i = b := by unfold ud; rw [if_pos rfl]
theorem ud_all {o : Nat → Nat} {i b c : Nat} (h : ∀ j, j < i → o j < c) (hb : b < c) : ∀ j, j < i + 1 → ud o i b j < c := by
  intro j hj
  unfold ud
  split
  · exact hb
  · exact h j (by omega)
def qLeaf (cm wy : Nat → Int) (c : Nat) (o : Nat → Nat) (s : QS) : QS :=
  match s with
  | none => some ((qTW cm wy o c).2, o)
  | some p => if (qTW cm wy o c).2 < p.1 then some ((qTW cm wy o c).2, o) else some p
def qLoop {S : Type} (rec : Nat → S → S) (m : Int) : Nat → Nat → S → S
  | 0, _, s => s
  | k + 1, b, s => qLoop rec m k (b + 1) (if tb m b = true then s else rec b s)
def qS (cm wy : Nat → Int) (c : Nat) : Nat → Nat → Int → (Nat → Nat) → QS → QS
  | 0, _, _, o, s => qLeaf cm wy c o s
  | n + 1, i, m, o, s => qLoop (fun b s => qS cm wy c n (i + 1) (orI m (shlI 1 (b : Int))) (ud o i b) s) m c 0 s
theorem qTW_cg {cm wy : Nat → Int} {o o' : Nat → Nat} : ∀ i : Nat, (∀ j, j < i → o j = o' j) → qTW cm wy o i = qTW cm wy o' i
  | 0, _ => rfl
  | i + 1, h => by
    have e := qTW_cg (cm := cm) (wy := wy) i (fun j hj => h j (by omega))
    rw [qTW_succ, qTW_succ, e, h i (by omega)]
    by_cases z : 0 < i
    · rw [h (i - 1) (by omega)]
    · simp only [z, false_and]
def QOk (cm : Nat → Int) (c : Nat) : Prop := c ≤ 7 ∧ ∀ j, j < c → 0 ≤ cm j ∧ cm j ≤ 9999
theorem qTW_rng {cm wy : Nat → Int} {c : Nat} (C : QOk cm c) {o : Nat → Nat} : ∀ i : Nat, i ≤ c → (∀ j, j < i → o j < c) → (0 ≤ (qTW cm wy o i).1 ∧ (qTW cm wy o i).1 ≤ 9999 + 20 * i) ∧ 0 ≤ (qTW cm wy o i).2 ∧ (qTW cm wy o i).2 ≤ 10300 * i
  | 0, _, _ => by unfold qTW; omega
  | i + 1, hi, h => by
    have e := qTW_rng (wy := wy) C i (by omega) (fun j hj => h j (by omega))
    have h2 := C.2 (o i) (h i (by omega))
    have h3 := C.1
    rw [qTW_succ]
    dsimp only
    refine ⟨⟨?_, ?_⟩, ?_, ?_⟩
    · split <;> omega
    · split <;> omega
    · omega
    · omega
theorem qTW_mono {cm wy : Nat → Int} {o : Nat → Nat} (i : Nat) : (qTW cm wy o i).2 ≤ (qTW cm wy o (i + 1)).2 := by
  show _ ≤ (qTW cm wy o i).2 + (max (cm (o i)) (qTW cm wy o i).1 - cm (o i))
  omega
theorem qLoop_same {S : Type} {rec : Nat → S → S} {m : Int} {s : S} (h : ∀ b, rec b s = s) : ∀ k b : Nat, qLoop rec m k b s = s
  | 0, _ => rfl
  | k + 1, b => by
    unfold qLoop
    rw [h b, ite_self]
    exact qLoop_same h k (b + 1)
theorem qLoop_ind {S : Type} {rec : Nat → S → S} {m : Int} {P : S → Prop} {c : Nat} (h : ∀ b s, b < c → P s → P (rec b s)) : ∀ (k b : Nat) (s : S), b + k ≤ c → P s → P (qLoop rec m k b s)
  | 0, _, _, _, p => p
  | k + 1, b, s, hb, p => by
    unfold qLoop
    refine qLoop_ind h k (b + 1) _ (by omega) ?_
    split
    · exact p
    · exact h b s (by omega) p
theorem qS_prune {cm wy : Nat → Int} {c : Nat} : ∀ (n i : Nat) (m : Int) (o : Nat → Nat) (p : Int × (Nat → Nat)), i + n = c → p.1 ≤ (qTW cm wy o i).2 → qS cm wy c n i m o (some p) = some p
  | 0, i, m, o, p, h, hp => by
    unfold qS qLeaf
    dsimp only
    rw [show c = i by omega, if_neg (by omega)]
  | n + 1, i, m, o, p, h, hp => by
    unfold qS
    refine qLoop_same (fun b => ?_) c 0
    refine qS_prune n (i + 1) _ _ p (by omega) ?_
    have e1 := qTW_mono (cm := cm) (wy := wy) (o := ud o i b) i
    have e2 := qTW_cg (cm := cm) (wy := wy) (o := ud o i b) (o' := o) i (fun j hj => ud_lt hj)
    rw [e2] at e1
    omega
def QGood (cm wy : Nat → Int) (c : Nat) (s : QS) : Prop := ∀ p, s = some p → p.1 = (qTW cm wy p.2 c).2 ∧ ∀ j, j < c → p.2 j < c
theorem qS_good {cm wy : Nat → Int} {c : Nat} : ∀ (n i : Nat) (m : Int) (o : Nat → Nat) (s : QS), i + n = c → (∀ j, j < i → o j < c) → QGood cm wy c s → QGood cm wy c (qS cm wy c n i m o s)
  | 0, i, m, o, s, h, ho, G => by
    have leafG : QGood cm wy c (some ((qTW cm wy o c).2, o)) := by
      intro p hp
      have := Option.some.inj hp
      subst this
      exact ⟨rfl, fun j hj => ho j (by omega)⟩
    unfold qS qLeaf
    cases s with
    | none => exact leafG
    | some q =>
      dsimp only
      split
      · exact leafG
      · exact G
  | n + 1, i, m, o, s, h, ho, G => by
    unfold qS
    refine qLoop_ind (P := QGood cm wy c) (c := c) (fun b s hb G => ?_) c 0 s (by omega) G
    exact qS_good n (i + 1) _ _ s (by omega) (ud_all ho hb) G
theorem qS_some {cm wy : Nat → Int} {c : Nat} : ∀ (n i : Nat) (m : Int) (o : Nat → Nat) (s : QS), i + n = c → s ≠ none → qS cm wy c n i m o s ≠ none
  | 0, i, m, o, s, h, hs => by
    unfold qS qLeaf
    cases s with
    | none => exact absurd rfl hs
    | some q =>
      dsimp only
      split <;> exact fun e => by cases e
  | n + 1, i, m, o, s, h, hs => by
    unfold qS
    exact qLoop_ind (P := fun s => s ≠ none) (c := c) (fun b s _ hs => qS_some n (i + 1) _ _ s (by omega) hs) c 0 s (by omega) hs
/-- the order as they come, up to i -/
def qId (i : Nat) : Nat → Nat := fun j => if j < i then j else 0
theorem qId_ud (i : Nat) : ud (qId i) i i = qId (i + 1) := by
  funext j
  unfold ud qId
  by_cases e : j = i
  · subst e; rw [if_pos rfl, if_pos (by omega)]
  · rw [if_neg e]
    by_cases e2 : j < i
    · rw [if_pos e2, if_pos (by omega)]
    · rw [if_neg e2, if_neg (by omega)]
theorem qLoop_skip {S : Type} {rec : Nat → S → S} {m : Int} {s : S} : ∀ (d k b : Nat), (∀ j, b ≤ j → j < b + d → tb m j = true) → qLoop rec m (d + k) b s = qLoop rec m k (b + d) s
  | 0, k, b, _ => by rw [show (0 : Nat) + k = k by omega]; rfl
  | d + 1, k, b, h => by
    rw [show d + 1 + k = (d + k) + 1 by omega]
    show qLoop rec m (d + k) (b + 1) (if tb m b = true then s else rec b s) = _
    rw [if_pos (h b (by omega) (by omega)), qLoop_skip d k (b + 1) (fun j h1 h2 => h j (by omega) (by omega)), show b + 1 + d = b + (d + 1) by omega]
theorem qS_left {cm wy : Nat → Int} {c : Nat} (hc : c ≤ 7) : ∀ (n i : Nat) (m : Int), i + n = c → (∀ j, j < 32 → tb m j = decide (j < i)) → qS cm wy c n i m (qId i) none = qS cm wy c n i m (qId i) (some ((qTW cm wy (qId c) c).2, qId c))
  | 0, i, m, h, hm => by
    unfold qS qLeaf
    dsimp only
    rw [show i = c by omega, if_neg (by omega)]
  | n + 1, i, m, h, hm => by
    unfold qS
    have e : ∀ s : QS, qLoop (fun b s => qS cm wy c n (i + 1) (orI m (shlI 1 (b : Int))) (ud (qId i) i b) s) m c 0 s = qLoop (fun b s => qS cm wy c n (i + 1) (orI m (shlI 1 (b : Int))) (ud (qId i) i b) s) m n (i + 1) (qS cm wy c n (i + 1) (orI m (shlI 1 (i : Int))) (ud (qId i) i i) s) := by
      intro s
      have e1 := qLoop_skip (rec := fun b s => qS cm wy c n (i + 1) (orI m (shlI 1 (b : Int))) (ud (qId i) i b) s) (m := m) (s := s) i (n + 1) 0 (fun j _ h2 => by rw [hm j (by omega)]; simp; omega)
      rw [show i + (n + 1) = c by omega] at e1
      rw [e1, show (0 : Nat) + i = i by omega]
      have e2 : tb m i = false := by rw [hm i (by omega)]; simp
      show qLoop _ m n (i + 1) (if tb m i = true then s else _) = _
      rw [e2, if_neg (by decide)]
    rw [e, e, qId_ud]
    rw [qS_left hc n (i + 1) (orI m (shlI 1 (i : Int))) (by omega) (fun j hj => by
      rw [tb_or, tb_shl1 i (by omega) hj, hm j hj]
      by_cases a : j < i
      · simp [a]; omega
      · by_cases b : j = i
        · subst b; simp
        · simp [a, b]; omega)]
end
section
/-! plain programs: the queue at a lock, the reference -/
def MQu (g : AG) (cm wy : Nat → Int) (c : Nat) : Prop := g 117 59 = c ∧ ∀ j, j < c → g 158 j = cm j ∧ g 159 j = wy j ∧ 0 ≤ wy j ∧ wy j ≤ 1
def MB (g : AG) (c : Nat) (s : QS) : Prop := (s = none ∧ g 117 64 = -1) ∨ ∃ p, s = some p ∧ g 117 64 = p.1 ∧ (0 ≤ p.1 ∧ p.1 ≤ 100000) ∧ ∀ j, j < c → g 161 j = p.2 j
abbrev RMO : Reg := [(117, 65), (160, 0), (161, 0)]
theorem MQu.fr {g g' : AG} {cm wy : Nat → Int} {c : Nat} (h : MQu g cm wy c) (f : FR RMO g g') : MQu g' cm wy c := by
  refine ⟨by rw [f 117 59 rfl]; exact h.1, fun j hj => ?_⟩
  rw [f 158 j rfl, f 159 j rfl]
  exact h.2 j hj
theorem M_waits_b_s {g : AG} {cm wy : Nat → Int} {c : Nat} (C : QOk cm c) (Q : MQu g cm wy c) {o : Nat → Nat} (ho : ∀ j, j < c → o j < c) (h160 : ∀ j, j < c → g 160 j = o j) : ∀ (n k : Nat), k + n = c → M_waits_b g (qTW cm wy o k).1 (qTW cm wy o k).2 k = some (qTW cm wy o c).2 := by
  intro n
  induction n with
  | zero =>
    intro k h
    have hc := C.1
    rw [M_waits_b, if_pos (by rw [Q.1, nwN _ (by (try clear n0); (try clear n1); (try clear n2); (try clear n3); (try clear n4); (try clear n5); (try clear n6); (try clear m2); omega), nwN _ (by (try clear n0); (try clear n1); (try clear n2); (try clear n3); (try clear n4); (try clear n5); (try clear n6); (try clear m2); omega)]; omega), show k = c by (try clear n0); (try clear n1); (try clear n2); (try clear n3); (try clear n4); (try clear n5); (try clear n6); (try clear m2); omega]
  | succ n ih =>
    intro k h
    have hc := C.1
    have hok := ho k (by (try clear n0); (try clear n1); (try clear n2); (try clear n3); (try clear n4); (try clear n5); (try clear n6); (try clear m2); omega)
    have r := qTW_rng (wy := wy) C k (by (try clear n0); (try clear n1); (try clear n2); (try clear n3); (try clear n4); (try clear n5); (try clear n6); (try clear m2); omega) (fun j hj => ho j (by (try clear n0); (try clear n1); (try clear n2); (try clear n3); (try clear n4); (try clear n5); (try clear n6); (try clear m2); omega))
    have q := Q.2 (o k) hok
    have cb := C.2 (o k) hok
    have e2 := ih (k + 1) (by (try clear n0); (try clear n1); (try clear n2); (try clear n3); (try clear n4); (try clear n5); (try clear n6); (try clear m2); omega)
    have n0 : nw (g 117 59) = c := by rw [Q.1, nwN _ (by (try clear n0); (try clear n1); (try clear n2); (try clear n3); (try clear n4); (try clear n5); (try clear n6); (try clear m2); omega)]
    have n1 : nw (k : Int) = k := nwN _ (by (try clear n0); (try clear n1); (try clear n2); (try clear n3); (try clear n4); (try clear n5); (try clear n6); (try clear m2); omega)
    have n2 : ix (k : Int) = k := ixN _ (by (try clear n0); (try clear n1); (try clear n2); (try clear n3); (try clear n4); (try clear n5); (try clear n6); (try clear m2); omega)
    have n3 : nw ((o k : Nat) : Int) = (o k : Nat) := nwN _ (by (try clear n0); (try clear n1); (try clear n2); (try clear n3); (try clear n4); (try clear n5); (try clear n6); (try clear m2); omega)
    have n4 : ix ((o k : Nat) : Int) = o k := ixN _ (by (try clear n0); (try clear n1); (try clear n2); (try clear n3); (try clear n4); (try clear n5); (try clear n6); (try clear m2); omega)
    have n5 : nw (cm (o k)) = cm (o k) := by clear n0 n1 n2 n3 n4; exact nw_id (by (try clear n0); (try clear n1); (try clear n2); (try clear n3); (try clear n4); (try clear n5); (try clear n6); (try clear m2); omega) (by (try clear n0); (try clear n1); (try clear n2); (try clear n3); (try clear n4); (try clear n5); (try clear n6); (try clear m2); omega)
    have n6 : nw (qTW cm wy o k).1 = (qTW cm wy o k).1 := by clear n0 n1 n2 n3 n4 n5; exact nw_id (by (try clear n0); (try clear n1); (try clear n2); (try clear n3); (try clear n4); (try clear n5); (try clear n6); (try clear m2); omega) (by (try clear n0); (try clear n1); (try clear n2); (try clear n3); (try clear n4); (try clear n5); (try clear n6); (try clear m2); omega)
    rw [M_waits_b, n0, n1, n2, h160 k (by (try clear n0); (try clear n1); (try clear n2); (try clear n3); (try clear n4); (try clear n5); (try clear n6); (try clear m2); omega), n3, n4, q.1, q.2.1, n5, n6]
    clear n0 n1 n2 n3 n4 n5 n6
    rw [if_neg (by (try clear n0); (try clear n1); (try clear n2); (try clear n3); (try clear n4); (try clear n5); (try clear n6); (try clear m2); omega), if_pos (by (try clear n0); (try clear n1); (try clear n2); (try clear n3); (try clear n4); (try clear n5); (try clear n6); (try clear m2); omega), if_pos (by (try clear n0); (try clear n1); (try clear n2); (try clear n3); (try clear n4); (try clear n5); (try clear n6); (try clear m2); omega)]
    have m1 : (if cm (o k) ≤ (qTW cm wy o k).1 then some (qTW cm wy o k).1 else some (cm (o k))) = some (max (cm (o k)) (qTW cm wy o k).1) := by
      split
      · rw [show max (cm (o k)) (qTW cm wy o k).1 = (qTW cm wy o k).1 by (try clear n0); (try clear n1); (try clear n2); (try clear n3); (try clear n4); (try clear n5); (try clear n6); (try clear m2); omega]
      · rw [show max (cm (o k)) (qTW cm wy o k).1 = cm (o k) by (try clear n0); (try clear n1); (try clear n2); (try clear n3); (try clear n4); (try clear n5); (try clear n6); (try clear m2); omega]
    rw [m1, sb]
    have m2 : ∀ f : Int → Option Int, f (if 0 < k ∧ wy (o k) = wy (o (k - 1)) then 5 else 0) = some (qTW cm wy o c).2 → ((if (k : Int) ≤ 0 then some 0 else if 0 ≤ nw ((k : Int) - 1) ∧ nw ((k : Int) - 1) < 7 then if 0 ≤ nw (g 160 (ix ((k : Int) - 1))) ∧ nw (g 160 (ix ((k : Int) - 1))) < 7 then (some (if nw (g 159 (ix (g 160 (ix ((k : Int) - 1))))) = nw (wy (o k)) then (5 : Int) else 0) >>= fun t10 => some t10) else none else none) >>= f) = some (qTW cm wy o c).2 := by
      intro f hf
      by_cases z : k = 0
      · rw [if_pos (by (try clear n0); (try clear n1); (try clear n2); (try clear n3); (try clear n4); (try clear n5); (try clear n6); (try clear m2); omega), sb]
        rw [if_neg (by (try clear n0); (try clear n1); (try clear n2); (try clear n3); (try clear n4); (try clear n5); (try clear n6); (try clear m2); omega)] at hf
        exact hf
      · have hp := ho (k - 1) (by (try clear n0); (try clear n1); (try clear n2); (try clear n3); (try clear n4); (try clear n5); (try clear n6); (try clear m2); omega)
        have n1 : nw ((k : Int) - 1) = (k - 1 : Nat) := by rw [show (k : Int) - 1 = ((k - 1 : Nat) : Int) by (try clear n0); (try clear n1); (try clear n2); (try clear n3); (try clear n4); (try clear n5); (try clear n6); (try clear m2); omega]; exact nwN _ (by (try clear n0); (try clear n1); (try clear n2); (try clear n3); (try clear n4); (try clear n5); (try clear n6); (try clear m2); omega)
        have n2 : ix ((k : Int) - 1) = k - 1 := by rw [show (k : Int) - 1 = ((k - 1 : Nat) : Int) by (try clear n0); (try clear n1); (try clear n2); (try clear n3); (try clear n4); (try clear n5); (try clear n6); (try clear m2); omega]; exact ixN _ (by (try clear n0); (try clear n1); (try clear n2); (try clear n3); (try clear n4); (try clear n5); (try clear n6); (try clear m2); omega)
        have n3 : nw ((o (k - 1) : Nat) : Int) = (o (k - 1) : Nat) := nwN _ (by (try clear n0); (try clear n1); (try clear n2); (try clear n3); (try clear n4); (try clear n5); (try clear n6); (try clear m2); omega)
        have n4 : ix ((o (k - 1) : Nat) : Int) = o (k - 1) := ixN _ (by (try clear n0); (try clear n1); (try clear n2); (try clear n3); (try clear n4); (try clear n5); (try clear n6); (try clear m2); omega)
        have w1 := Q.2 (o (k - 1)) hp
        rw [n1, n2, h160 (k - 1) (by (try clear n0); (try clear n1); (try clear n2); (try clear n3); (try clear n4); (try clear n5); (try clear n6); (try clear m2); omega), n3, n4, w1.2.1]
        clear n1 n2 n3 n4
        have n5 : nw (wy (o (k - 1))) = wy (o (k - 1)) := nw_id (by (try clear n0); (try clear n1); (try clear n2); (try clear n3); (try clear n4); (try clear n5); (try clear n6); (try clear m2); omega) (by (try clear n0); (try clear n1); (try clear n2); (try clear n3); (try clear n4); (try clear n5); (try clear n6); (try clear m2); omega)
        have n6 : nw (wy (o k)) = wy (o k) := by clear n5; exact nw_id (by (try clear n0); (try clear n1); (try clear n2); (try clear n3); (try clear n4); (try clear n5); (try clear n6); (try clear m2); omega) (by (try clear n0); (try clear n1); (try clear n2); (try clear n3); (try clear n4); (try clear n5); (try clear n6); (try clear m2); omega)
        rw [n5, n6]
        clear n5 n6
        rw [if_neg (by (try clear n0); (try clear n1); (try clear n2); (try clear n3); (try clear n4); (try clear n5); (try clear n6); (try clear m2); omega), if_pos (by (try clear n0); (try clear n1); (try clear n2); (try clear n3); (try clear n4); (try clear n5); (try clear n6); (try clear m2); omega), if_pos (by (try clear n0); (try clear n1); (try clear n2); (try clear n3); (try clear n4); (try clear n5); (try clear n6); (try clear m2); omega), sb, sb]
        have e : (if wy (o (k - 1)) = wy (o k) then (5 : Int) else 0) = (if 0 < k ∧ wy (o k) = wy (o (k - 1)) then 5 else 0) := by
          split <;> split <;> first | rfl | omega
        rw [e]
        exact hf
    refine m2 _ ?_
    rw [show ((k + 1 : Nat) : Int) = (k : Int) + 1 from rfl] at e2
    rw [← e2]
    rw [qTW_succ]
    dsimp only
    congr 1
    split <;> omega
theorem M_waits_s {g : AG} {cm wy : Nat → Int} {c : Nat} (C : QOk cm c) (Q : MQu g cm wy c) {o : Nat → Nat} (ho : ∀ j, j < c → o j < c) (h160 : ∀ j, j < c → g 160 j = o j) : M_waits g = some (qTW cm wy o c).2 := M_waits_b_s C Q ho h160 c 0 (by omega)
theorem M_copy_s {c : Nat} (hc : c ≤ 7) {rec : Int → Int → AG → Option (Int × AG)} {a b v : Int} : ∀ (n k : Nat) (g : AG), k + n = c → g 117 59 = c → ∃ g', M_orders_b rec a b 2 v k g = some (0, g') ∧ FR [(161, 0)] g g' ∧ (∀ j, k ≤ j → j < c → g' 161 j = g 160 j) ∧ ∀ j, j < k → g' 161 j = g 161 j := by
  intro n
  induction n with
  | zero =>
    intro k g h hg
    refine ⟨g, ?_, Fr.rf, fun j h1 h2 => by (try clear n0); (try clear n1); (try clear n2); omega, fun j _ => rfl⟩
    rw [M_orders_b.eq_1 _ _ _ 2, if_neg (by decide), if_pos rfl, if_pos (by rw [hg, nwN _ (by (try clear n0); (try clear n1); (try clear n2); omega), nwN _ (by (try clear n0); (try clear n1); (try clear n2); omega)]; omega)]
  | succ n ih =>
    intro k g h hg
    obtain ⟨g', e, f, p1, p2⟩ := ih (k + 1) (up g 161 k (g 160 k)) (by (try clear n0); (try clear n1); (try clear n2); omega) (by simp [up_at]; exact hg)
    refine ⟨g', ?_, (Fr.up Fr.rf rfl).tr f, ?_, ?_⟩
    · have n0 : nw (g 117 59) = c := by rw [hg, nwN _ (by (try clear n0); (try clear n1); (try clear n2); omega)]
      have n1 : nw (k : Int) = k := nwN _ (by (try clear n0); (try clear n1); (try clear n2); omega)
      have n2 : ix (k : Int) = k := ixN _ (by (try clear n0); (try clear n1); (try clear n2); omega)
      rw [M_orders_b.eq_1 _ _ _ 2, n0, n1, n2]
      clear n0 n1 n2
      rw [if_neg (by decide), if_pos rfl, if_neg (by (try clear n0); (try clear n1); (try clear n2); omega), if_pos (by (try clear n0); (try clear n1); (try clear n2); omega), sb]
      exact e
    · intro j h1 h2
      by_cases z : j = k
      · subst z; rw [p2 j (by (try clear n0); (try clear n1); (try clear n2); omega), up_at, if_pos ⟨rfl, rfl⟩]
      · rw [p1 j (by (try clear n0); (try clear n1); (try clear n2); omega) h2, up_at, if_neg (by (try clear n0); (try clear n1); (try clear n2); omega)]
    · intro j hj
      rw [p2 j (by (try clear n0); (try clear n1); (try clear n2); omega), up_at, if_neg (by (try clear n0); (try clear n1); (try clear n2); omega)]
theorem M_orders_t {cm wy : Nat → Int} {c : Nat} (C : QOk cm c) : ∀ (n f i : Nat) (m : Int) (o : Nat → Nat) (s : QS) (g : AG), i + n = c → n + 1 ≤ f → MQu g cm wy c → (∀ j, j < i → o j < c) → (∀ j, j < i → g 160 j = o j) → MB g c s → ∃ g', M_orders f i m g = some (0, g') ∧ FR RMO g g' ∧ (∀ j, j < i → g' 160 j = g 160 j) ∧ MB g' c (qS cm wy c n i m o s) := by
  intro n
  induction n with
  | zero =>
    intro f i m o s g h hf Q ho h160 B
    obtain ⟨f, rfl⟩ : ∃ f', f = f' + 1 := ⟨f - 1, by (try clear n0); (try clear n1); (try clear n2); (try clear top); (try clear n3); (try clear n4); (try clear hbit); omega⟩
    have hc := C.1
    have ei : i = c := by (try clear n0); (try clear n1); (try clear n2); (try clear top); (try clear n3); (try clear n4); (try clear hbit); omega
    subst ei
    have w := M_waits_s C Q ho h160
    have r := qTW_rng (wy := wy) C i (by (try clear n0); (try clear n1); (try clear n2); (try clear top); (try clear n3); (try clear n4); (try clear hbit); omega) ho
    have n0 : nw (g 117 59) = i := by rw [Q.1, nwN _ (by (try clear n0); (try clear n1); (try clear n2); (try clear top); (try clear n3); (try clear n4); (try clear hbit); omega)]
    have n1 : nw (i : Int) = i := nwN _ (by (try clear n0); (try clear n1); (try clear n2); (try clear top); (try clear n3); (try clear n4); (try clear hbit); omega)
    have n2 : nw (qTW cm wy o i).2 = (qTW cm wy o i).2 := by clear n0 n1; exact nw_id (by (try clear n0); (try clear n1); (try clear n2); (try clear top); (try clear n3); (try clear n4); (try clear hbit); omega) (by (try clear n0); (try clear n1); (try clear n2); (try clear top); (try clear n3); (try clear n4); (try clear hbit); omega)
    have top : M_orders (f + 1) i m g = (if nw (g 117 64) = -1 then M_orders_b (M_orders f) 0 0 1 (qTW cm wy o i).2 0 g else if (qTW cm wy o i).2 < nw (g 117 64) then M_orders_b (M_orders f) 0 0 1 (qTW cm wy o i).2 0 g else some (0, g)) := by
      show M_orders_s (M_orders f) i m g = _
      unfold M_orders_s
      rw [n0, n1, if_pos rfl, w, sb, n2]
    clear n0 n1 n2
    have take : ∃ g', M_orders_b (M_orders f) 0 0 1 (qTW cm wy o i).2 0 g = some (0, g') ∧ FR RMO g g' ∧ (∀ j, j < i → g' 160 j = g 160 j) ∧ MB g' i (some ((qTW cm wy o i).2, o)) := by
      obtain ⟨g', e, ff, p1, p2⟩ := M_copy_s (c := i) hc (rec := M_orders f) (a := 0) (b := 0) (v := (qTW cm wy o i).2) i 0 (up g 117 64 (qTW cm wy o i).2) (by (try clear n0); (try clear n1); (try clear n2); (try clear top); (try clear n3); (try clear n4); (try clear hbit); omega) (by rw [up_at, if_neg (by (try clear n0); (try clear n1); (try clear n2); (try clear top); (try clear n3); (try clear n4); (try clear hbit); omega)]; exact Q.1)
      refine ⟨g', ?_, FR.mo (W := RMO) ((Fr.up (W := inR RMO) Fr.rf rfl).tr (FR.mo ff rfl)) rfl, fun j hj => ?_, ?_⟩
      · rw [M_orders_b.eq_1 _ _ _ 1, if_pos rfl, sb]
        exact e
      · rw [ff 160 j rfl, up_at, if_neg (by (try clear n0); (try clear n1); (try clear n2); (try clear top); (try clear n3); (try clear n4); (try clear hbit); omega)]
      · refine Or.inr ⟨_, rfl, ?_, ?_, ?_⟩
        · rw [ff 117 64 rfl, up_at, if_pos ⟨rfl, rfl⟩]
        · dsimp only; (try clear n0); (try clear n1); (try clear n2); (try clear top); (try clear n3); (try clear n4); (try clear hbit); omega
        · intro j hj
          rw [p1 j (by (try clear n0); (try clear n1); (try clear n2); (try clear top); (try clear n3); (try clear n4); (try clear hbit); omega) hj, up_at, if_neg (by (try clear n0); (try clear n1); (try clear n2); (try clear top); (try clear n3); (try clear n4); (try clear hbit); omega)]
          exact h160 j hj
    rw [top]
    unfold qS qLeaf
    rcases B with ⟨e1, e2⟩ | ⟨p, e1, e2, e3, e4⟩
    · subst e1
      rw [e2, nw_m1, if_pos rfl]
      exact take
    · subst e1
      have n3 : nw p.1 = p.1 := nw_id (by (try clear n0); (try clear n1); (try clear n2); (try clear top); (try clear n3); (try clear n4); (try clear hbit); omega) (by (try clear n0); (try clear n1); (try clear n2); (try clear top); (try clear n3); (try clear n4); (try clear hbit); omega)
      rw [e2, n3]
      clear n3
      dsimp only
      rw [if_neg (by (try clear n0); (try clear n1); (try clear n2); (try clear top); (try clear n3); (try clear n4); (try clear hbit); omega)]
      by_cases z : (qTW cm wy o i).2 < p.1
      · rw [if_pos z, if_pos z]
        exact take
      · rw [if_neg z, if_neg z]
        exact ⟨g, rfl, Fr.rf, fun j _ => rfl, Or.inr ⟨p, rfl, e2, e3, e4⟩⟩
  | succ n ih =>
    intro f i m o s g h hf Q ho h160 B
    obtain ⟨f, rfl⟩ : ∃ f', f = f' + 1 := ⟨f - 1, by (try clear n0); (try clear n1); (try clear n2); (try clear top); (try clear n3); (try clear n4); (try clear hbit); omega⟩
    have hc := C.1
    have n0 : nw (g 117 59) = c := by rw [Q.1, nwN _ (by (try clear n0); (try clear n1); (try clear n2); (try clear top); (try clear n3); (try clear n4); (try clear hbit); omega)]
    have n1 : nw (i : Int) = i := nwN _ (by (try clear n0); (try clear n1); (try clear n2); (try clear top); (try clear n3); (try clear n4); (try clear hbit); omega)
    have n2 : ix (i : Int) = i := ixN _ (by (try clear n0); (try clear n1); (try clear n2); (try clear top); (try clear n3); (try clear n4); (try clear hbit); omega)
    have top : M_orders (f + 1) i m g = M_orders_b (M_orders f) i m 3 0 0 g := by
      show M_orders_s (M_orders f) i m g = _
      unfold M_orders_s
      rw [n0, n1, if_neg (by (try clear n0); (try clear n1); (try clear n2); (try clear top); (try clear n3); (try clear n4); (try clear hbit); omega)]
    rw [top]
    clear top n0
    unfold qS
    have loop : ∀ (k b : Nat) (s : QS) (g1 : AG), b + k = c → MQu g1 cm wy c → (∀ j, j < i → g1 160 j = o j) → MB g1 c s → ∃ g', M_orders_b (M_orders f) i m 3 b 0 g1 = some (0, g') ∧ FR RMO g1 g' ∧ (∀ j, j < i → g' 160 j = g1 160 j) ∧ MB g' c (qLoop (fun b s => qS cm wy c n (i + 1) (orI m (shlI 1 (b : Int))) (ud o i b) s) m k b s) := by
      intro k
      induction k with
      | zero =>
        intro b s g1 hb Q1 h1 B1
        refine ⟨g1, ?_, Fr.rf, fun j _ => rfl, B1⟩
        have n3 : nw (g1 117 59) = c := by rw [Q1.1, nwN _ (by (try clear n0); (try clear n1); (try clear n2); (try clear top); (try clear n3); (try clear n4); (try clear hbit); omega)]
        have n4 : nw (b : Int) = b := nwN _ (by (try clear n0); (try clear n1); (try clear n2); (try clear top); (try clear n3); (try clear n4); (try clear hbit); omega)
        rw [M_orders_b.eq_1 _ _ _ 3, n3, n4, if_neg (by decide), if_neg (by decide), if_pos rfl, if_pos (by (try clear n0); (try clear n1); (try clear n2); (try clear top); (try clear n3); (try clear n4); (try clear hbit); omega)]
      | succ k ihk =>
        intro b s g1 hb Q1 h1 B1
        have n3 : nw (g1 117 59) = c := by rw [Q1.1, nwN _ (by (try clear n0); (try clear n1); (try clear n2); (try clear top); (try clear n3); (try clear n4); (try clear hbit); omega)]
        have n4 : nw (b : Int) = b := nwN _ (by (try clear n0); (try clear n1); (try clear n2); (try clear top); (try clear n3); (try clear n4); (try clear hbit); omega)
        have hbit := bit_q m b (by (try clear n0); (try clear n1); (try clear n2); (try clear top); (try clear n3); (try clear n4); (try clear hbit); omega)
        unfold qLoop
        rw [M_orders_b.eq_1 _ _ _ 3, n3, n4, hbit, n1, n2]
        rw [if_neg (by decide), if_neg (by decide), if_pos rfl, if_neg (by (try clear n0); (try clear n1); (try clear n2); (try clear top); (try clear n3); (try clear n4); (try clear hbit); omega)]
        clear n3 n4 hbit
        by_cases t : tb m b = true
        · rw [if_pos t, if_pos rfl, if_pos t, sb]
          obtain ⟨g', e, ff, p, q⟩ := ihk (b + 1) s g1 (by (try clear n0); (try clear n1); (try clear n2); (try clear top); (try clear n3); (try clear n4); (try clear hbit); omega) Q1 h1 B1
          exact ⟨g', e, ff, p, q⟩
        · rw [if_neg t, if_neg (by decide), if_neg t]
          have f1 : FR RMO g1 (up g1 160 i b) := Fr.up Fr.rf rfl
          obtain ⟨g2, e2, f2, p2, q2⟩ := ih f (i + 1) (orI m (shlI 1 (b : Int))) (ud o i b) s (up g1 160 i b) (by (try clear n0); (try clear n1); (try clear n2); (try clear top); (try clear n3); (try clear n4); (try clear hbit); omega) (by (try clear n0); (try clear n1); (try clear n2); (try clear top); (try clear n3); (try clear n4); (try clear hbit); omega) (Q1.fr f1) (ud_all ho (by (try clear n0); (try clear n1); (try clear n2); (try clear top); (try clear n3); (try clear n4); (try clear hbit); omega)) (fun j hj => by
            rw [up_at]
            by_cases z : j = i
            · subst z; rw [if_pos ⟨rfl, rfl⟩, ud_at]
            · rw [if_neg (by (try clear n0); (try clear n1); (try clear n2); (try clear top); (try clear n3); (try clear n4); (try clear hbit); omega), ud_lt (by (try clear n0); (try clear n1); (try clear n2); (try clear top); (try clear n3); (try clear n4); (try clear hbit); omega)]; exact h1 j (by (try clear n0); (try clear n1); (try clear n2); (try clear top); (try clear n3); (try clear n4); (try clear hbit); omega)) (by
            rcases B1 with ⟨b1, b2⟩ | ⟨p, b1, b2, b3, b4⟩
            · exact Or.inl ⟨b1, by rw [up_at, if_neg (by (try clear n0); (try clear n1); (try clear n2); (try clear top); (try clear n3); (try clear n4); (try clear hbit); omega)]; exact b2⟩
            · exact Or.inr ⟨p, b1, by rw [up_at, if_neg (by (try clear n0); (try clear n1); (try clear n2); (try clear top); (try clear n3); (try clear n4); (try clear hbit); omega)]; exact b2, b3, fun j hj => by rw [up_at, if_neg (by (try clear n0); (try clear n1); (try clear n2); (try clear top); (try clear n3); (try clear n4); (try clear hbit); omega)]; exact b4 j hj⟩)
          have f12 := f1.tr f2
          have k12 : ∀ j, j < i → g2 160 j = g1 160 j := fun j hj => by
            rw [p2 j (by (try clear n0); (try clear n1); (try clear n2); (try clear top); (try clear n3); (try clear n4); (try clear hbit); omega), up_at, if_neg (by (try clear n0); (try clear n1); (try clear n2); (try clear top); (try clear n3); (try clear n4); (try clear hbit); omega)]
          obtain ⟨g3, e3, f3, p3, q3⟩ := ihk (b + 1) _ g2 (by (try clear n0); (try clear n1); (try clear n2); (try clear top); (try clear n3); (try clear n4); (try clear hbit); omega) (Q1.fr f12) (fun j hj => by rw [k12 j hj]; exact h1 j hj) q2
          refine ⟨g3, ?_, f12.tr f3, fun j hj => by rw [p3 j hj, k12 j hj], q3⟩
          rw [if_pos (by (try clear n0); (try clear n1); (try clear n2); (try clear top); (try clear n3); (try clear n4); (try clear hbit); omega), sb]
          rw [show ((i + 1 : Nat) : Int) = (i : Int) + 1 from rfl] at e2
          rw [e2, sb, sb]
          exact e3
    exact loop c 0 s g (by (try clear n0); (try clear n1); (try clear n2); (try clear top); (try clear n3); (try clear n4); (try clear hbit); omega) Q h160 B
end
section
/-! plain programs: the queue at a lock, the class -/
def XQu (g : AG) (cm wy : Nat → Int) (c : Nat) : Prop := g 8 2 = c ∧ ∀ j, j < c → g 81 j = cm j ∧ g 82 j = wy j ∧ 0 ≤ wy j ∧ wy j ≤ 1
def XB (g : AG) (c : Nat) (p : Int × (Nat → Nat)) : Prop := g 8 4 = p.1 ∧ (0 ≤ p.1 ∧ p.1 ≤ 100000) ∧ ∀ j, j < c → g 84 j = p.2 j
abbrev RXO : Reg := [(8, 5), (83, 0), (84, 0)]
theorem XQu.fr {g g' : AG} {cm wy : Nat → Int} {c : Nat} (h : XQu g cm wy c) (f : FR RXO g g') : XQu g' cm wy c := by
  refine ⟨by rw [f 8 2 rfl]; exact h.1, fun j hj => ?_⟩
  rw [f 81 j rfl, f 82 j rfl]
  exact h.2 j hj
theorem qTW_ud {cm wy : Nat → Int} {o : Nat → Nat} {i b : Nat} : qTW cm wy (ud o i b) (i + 1) = (max (cm b) (qTW cm wy o i).1 + (if 0 < i ∧ wy b = wy (o (i - 1)) then 20 else 15), (qTW cm wy o i).2 + (max (cm b) (qTW cm wy o i).1 - cm b)) := by
  have e := qTW_cg (cm := cm) (wy := wy) (o := ud o i b) (o' := o) i (fun j hj => ud_lt hj)
  rw [qTW_succ, e, ud_at]
  by_cases z : 0 < i
  · rw [ud_lt (show i - 1 < i by omega)]
  · simp only [z, false_and]
theorem minutes83_s {g : AG} {wy : Nat → Int} {c : Nat} (hc : c ≤ 7) (Q : ∀ j, j < c → g 82 j = wy j ∧ 0 ≤ wy j ∧ wy j ≤ 1) {o : Nat → Nat} {i : Nat} (hi : i < c) (ho : ∀ j, j < i + 1 → o j < c) (h83 : ∀ j, j < i + 1 → g 83 j = o j) : LockQueue_minutesOf_8_83 i g = some (if 0 < i ∧ wy (o i) = wy (o (i - 1)) then 20 else 15) := by
  unfold LockQueue_minutesOf_8_83
  have n1 : nw (i : Int) = i := nwN _ (by (try clear n1); (try clear n2); (try clear n3); (try clear n4); (try clear n5); (try clear n6); (try clear n7); (try clear n8); omega)
  have n2 : ix (i : Int) = i := ixN _ (by (try clear n1); (try clear n2); (try clear n3); (try clear n4); (try clear n5); (try clear n6); (try clear n7); (try clear n8); omega)
  rw [n1, n2]
  clear n1 n2
  by_cases z : i = 0
  · rw [if_pos (by (try clear n1); (try clear n2); (try clear n3); (try clear n4); (try clear n5); (try clear n6); (try clear n7); (try clear n8); omega), sb, if_neg (by (try clear n1); (try clear n2); (try clear n3); (try clear n4); (try clear n5); (try clear n6); (try clear n7); (try clear n8); omega)]
  · have h1 := ho i (by (try clear n1); (try clear n2); (try clear n3); (try clear n4); (try clear n5); (try clear n6); (try clear n7); (try clear n8); omega)
    have h2 := ho (i - 1) (by (try clear n1); (try clear n2); (try clear n3); (try clear n4); (try clear n5); (try clear n6); (try clear n7); (try clear n8); omega)
    have w1 := Q _ h1
    have w2 := Q _ h2
    have n1 : nw ((i : Int) - 1) = (i - 1 : Nat) := by rw [show (i : Int) - 1 = ((i - 1 : Nat) : Int) by (try clear n1); (try clear n2); (try clear n3); (try clear n4); (try clear n5); (try clear n6); (try clear n7); (try clear n8); omega]; exact nwN _ (by (try clear n1); (try clear n2); (try clear n3); (try clear n4); (try clear n5); (try clear n6); (try clear n7); (try clear n8); omega)
    have n2 : ix ((i : Int) - 1) = i - 1 := by rw [show (i : Int) - 1 = ((i - 1 : Nat) : Int) by (try clear n1); (try clear n2); (try clear n3); (try clear n4); (try clear n5); (try clear n6); (try clear n7); (try clear n8); omega]; exact ixN _ (by (try clear n1); (try clear n2); (try clear n3); (try clear n4); (try clear n5); (try clear n6); (try clear n7); (try clear n8); omega)
    have n3 : nw ((o i : Nat) : Int) = (o i : Nat) := nwN _ (by (try clear n1); (try clear n2); (try clear n3); (try clear n4); (try clear n5); (try clear n6); (try clear n7); (try clear n8); omega)
    have n4 : ix ((o i : Nat) : Int) = o i := ixN _ (by (try clear n1); (try clear n2); (try clear n3); (try clear n4); (try clear n5); (try clear n6); (try clear n7); (try clear n8); omega)
    have n5 : nw ((o (i - 1) : Nat) : Int) = (o (i - 1) : Nat) := nwN _ (by (try clear n1); (try clear n2); (try clear n3); (try clear n4); (try clear n5); (try clear n6); (try clear n7); (try clear n8); omega)
    have n6 : ix ((o (i - 1) : Nat) : Int) = o (i - 1) := ixN _ (by (try clear n1); (try clear n2); (try clear n3); (try clear n4); (try clear n5); (try clear n6); (try clear n7); (try clear n8); omega)
    rw [n1, n2, h83 i (by (try clear n1); (try clear n2); (try clear n3); (try clear n4); (try clear n5); (try clear n6); (try clear n7); (try clear n8); omega), h83 (i - 1) (by (try clear n1); (try clear n2); (try clear n3); (try clear n4); (try clear n5); (try clear n6); (try clear n7); (try clear n8); omega), n3, n4, n5, n6, w1.1, w2.1]
    clear n1 n2 n3 n4 n5 n6
    have n7 : nw (wy (o i)) = wy (o i) := nw_id (by (try clear n1); (try clear n2); (try clear n3); (try clear n4); (try clear n5); (try clear n6); (try clear n7); (try clear n8); omega) (by (try clear n1); (try clear n2); (try clear n3); (try clear n4); (try clear n5); (try clear n6); (try clear n7); (try clear n8); omega)
    have n8 : nw (wy (o (i - 1))) = wy (o (i - 1)) := by clear n7; exact nw_id (by (try clear n1); (try clear n2); (try clear n3); (try clear n4); (try clear n5); (try clear n6); (try clear n7); (try clear n8); omega) (by (try clear n1); (try clear n2); (try clear n3); (try clear n4); (try clear n5); (try clear n6); (try clear n7); (try clear n8); omega)
    rw [n7, n8]
    clear n7 n8
    rw [if_neg (by (try clear n1); (try clear n2); (try clear n3); (try clear n4); (try clear n5); (try clear n6); (try clear n7); (try clear n8); omega), if_pos (by (try clear n1); (try clear n2); (try clear n3); (try clear n4); (try clear n5); (try clear n6); (try clear n7); (try clear n8); omega), if_pos (by (try clear n1); (try clear n2); (try clear n3); (try clear n4); (try clear n5); (try clear n6); (try clear n7); (try clear n8); omega), if_pos (by (try clear n1); (try clear n2); (try clear n3); (try clear n4); (try clear n5); (try clear n6); (try clear n7); (try clear n8); omega), if_pos (by (try clear n1); (try clear n2); (try clear n3); (try clear n4); (try clear n5); (try clear n6); (try clear n7); (try clear n8); omega), sb, sb]
    congr 1
    split <;> split <;> first | rfl | omega
theorem minutes84_s {g : AG} {wy : Nat → Int} {c : Nat} (hc : c ≤ 7) (Q : ∀ j, j < c → g 82 j = wy j ∧ 0 ≤ wy j ∧ wy j ≤ 1) {o : Nat → Nat} {i : Nat} (hi : i < c) (ho : ∀ j, j < i + 1 → o j < c) (h83 : ∀ j, j < i + 1 → g 84 j = o j) : LockQueue_minutesOf_8_84 i g = some (if 0 < i ∧ wy (o i) = wy (o (i - 1)) then 20 else 15) := by
  unfold LockQueue_minutesOf_8_84
  have n1 : nw (i : Int) = i := nwN _ (by (try clear n1); (try clear n2); (try clear n3); (try clear n4); (try clear n5); (try clear n6); (try clear n7); (try clear n8); omega)
  have n2 : ix (i : Int) = i := ixN _ (by (try clear n1); (try clear n2); (try clear n3); (try clear n4); (try clear n5); (try clear n6); (try clear n7); (try clear n8); omega)
  rw [n1, n2]
  clear n1 n2
  by_cases z : i = 0
  · rw [if_pos (by (try clear n1); (try clear n2); (try clear n3); (try clear n4); (try clear n5); (try clear n6); (try clear n7); (try clear n8); omega), sb, if_neg (by (try clear n1); (try clear n2); (try clear n3); (try clear n4); (try clear n5); (try clear n6); (try clear n7); (try clear n8); omega)]
  · have h1 := ho i (by (try clear n1); (try clear n2); (try clear n3); (try clear n4); (try clear n5); (try clear n6); (try clear n7); (try clear n8); omega)
    have h2 := ho (i - 1) (by (try clear n1); (try clear n2); (try clear n3); (try clear n4); (try clear n5); (try clear n6); (try clear n7); (try clear n8); omega)
    have w1 := Q _ h1
    have w2 := Q _ h2
    have n1 : nw ((i : Int) - 1) = (i - 1 : Nat) := by rw [show (i : Int) - 1 = ((i - 1 : Nat) : Int) by (try clear n1); (try clear n2); (try clear n3); (try clear n4); (try clear n5); (try clear n6); (try clear n7); (try clear n8); omega]; exact nwN _ (by (try clear n1); (try clear n2); (try clear n3); (try clear n4); (try clear n5); (try clear n6); (try clear n7); (try clear n8); omega)
    have n2 : ix ((i : Int) - 1) = i - 1 := by rw [show (i : Int) - 1 = ((i - 1 : Nat) : Int) by (try clear n1); (try clear n2); (try clear n3); (try clear n4); (try clear n5); (try clear n6); (try clear n7); (try clear n8); omega]; exact ixN _ (by (try clear n1); (try clear n2); (try clear n3); (try clear n4); (try clear n5); (try clear n6); (try clear n7); (try clear n8); omega)
    have n3 : nw ((o i : Nat) : Int) = (o i : Nat) := nwN _ (by (try clear n1); (try clear n2); (try clear n3); (try clear n4); (try clear n5); (try clear n6); (try clear n7); (try clear n8); omega)
    have n4 : ix ((o i : Nat) : Int) = o i := ixN _ (by (try clear n1); (try clear n2); (try clear n3); (try clear n4); (try clear n5); (try clear n6); (try clear n7); (try clear n8); omega)
    have n5 : nw ((o (i - 1) : Nat) : Int) = (o (i - 1) : Nat) := nwN _ (by (try clear n1); (try clear n2); (try clear n3); (try clear n4); (try clear n5); (try clear n6); (try clear n7); (try clear n8); omega)
    have n6 : ix ((o (i - 1) : Nat) : Int) = o (i - 1) := ixN _ (by (try clear n1); (try clear n2); (try clear n3); (try clear n4); (try clear n5); (try clear n6); (try clear n7); (try clear n8); omega)
    rw [n1, n2, h83 i (by (try clear n1); (try clear n2); (try clear n3); (try clear n4); (try clear n5); (try clear n6); (try clear n7); (try clear n8); omega), h83 (i - 1) (by (try clear n1); (try clear n2); (try clear n3); (try clear n4); (try clear n5); (try clear n6); (try clear n7); (try clear n8); omega), n3, n4, n5, n6, w1.1, w2.1]
    clear n1 n2 n3 n4 n5 n6
    have n7 : nw (wy (o i)) = wy (o i) := nw_id (by (try clear n1); (try clear n2); (try clear n3); (try clear n4); (try clear n5); (try clear n6); (try clear n7); (try clear n8); omega) (by (try clear n1); (try clear n2); (try clear n3); (try clear n4); (try clear n5); (try clear n6); (try clear n7); (try clear n8); omega)
    have n8 : nw (wy (o (i - 1))) = wy (o (i - 1)) := by clear n7; exact nw_id (by (try clear n1); (try clear n2); (try clear n3); (try clear n4); (try clear n5); (try clear n6); (try clear n7); (try clear n8); omega) (by (try clear n1); (try clear n2); (try clear n3); (try clear n4); (try clear n5); (try clear n6); (try clear n7); (try clear n8); omega)
    rw [n7, n8]
    clear n7 n8
    rw [if_neg (by (try clear n1); (try clear n2); (try clear n3); (try clear n4); (try clear n5); (try clear n6); (try clear n7); (try clear n8); omega), if_pos (by (try clear n1); (try clear n2); (try clear n3); (try clear n4); (try clear n5); (try clear n6); (try clear n7); (try clear n8); omega), if_pos (by (try clear n1); (try clear n2); (try clear n3); (try clear n4); (try clear n5); (try clear n6); (try clear n7); (try clear n8); omega), if_pos (by (try clear n1); (try clear n2); (try clear n3); (try clear n4); (try clear n5); (try clear n6); (try clear n7); (try clear n8); omega), if_pos (by (try clear n1); (try clear n2); (try clear n3); (try clear n4); (try clear n5); (try clear n6); (try clear n7); (try clear n8); omega), sb, sb]
    congr 1
    split <;> split <;> first | rfl | omega
theorem X_waitOf_s {g : AG} {cm wy : Nat → Int} {c : Nat} (C : QOk cm c) (Q : XQu g cm wy c) {o : Nat → Nat} (ho : ∀ j, j < c → o j < c) (h84 : ∀ j, j < c → g 84 j = o j) : ∀ (n k : Nat), k + n = c → LockQueue_waitOf_b g (qTW cm wy o k).2 (qTW cm wy o k).1 k = some (qTW cm wy o c).2 := by
  intro n
  induction n with
  | zero =>
    intro k h
    have hc := C.1
    rw [LockQueue_waitOf_b, if_pos (by rw [Q.1, nwN _ (by (try clear n0); (try clear n1); (try clear n2); (try clear n3); (try clear n4); omega), nwN _ (by (try clear n0); (try clear n1); (try clear n2); (try clear n3); (try clear n4); omega)]; omega), show k = c by (try clear n0); (try clear n1); (try clear n2); (try clear n3); (try clear n4); omega]
  | succ n ih =>
    intro k h
    have hc := C.1
    have hok := ho k (by (try clear n0); (try clear n1); (try clear n2); (try clear n3); (try clear n4); omega)
    have r := qTW_rng (wy := wy) C k (by (try clear n0); (try clear n1); (try clear n2); (try clear n3); (try clear n4); omega) (fun j hj => ho j (by (try clear n0); (try clear n1); (try clear n2); (try clear n3); (try clear n4); omega))
    have q := Q.2 (o k) hok
    have cb := C.2 (o k) hok
    have e2 := ih (k + 1) (by (try clear n0); (try clear n1); (try clear n2); (try clear n3); (try clear n4); omega)
    have mm := minutes84_s (g := g) hc (fun j hj => (Q.2 j hj).2) (o := o) (i := k) (by (try clear n0); (try clear n1); (try clear n2); (try clear n3); (try clear n4); omega) (fun j hj => ho j (by (try clear n0); (try clear n1); (try clear n2); (try clear n3); (try clear n4); omega)) (fun j hj => h84 j (by (try clear n0); (try clear n1); (try clear n2); (try clear n3); (try clear n4); omega))
    have mx : mxI (cm (o k)) (qTW cm wy o k).1 = max (cm (o k)) (qTW cm wy o k).1 := mxI_s (by (try clear n0); (try clear n1); (try clear n2); (try clear n3); (try clear n4); omega) (by (try clear n0); (try clear n1); (try clear n2); (try clear n3); (try clear n4); omega) (by (try clear n0); (try clear n1); (try clear n2); (try clear n3); (try clear n4); omega) (by (try clear n0); (try clear n1); (try clear n2); (try clear n3); (try clear n4); omega)
    have n0 : nw (g 8 2) = c := by rw [Q.1, nwN _ (by (try clear n0); (try clear n1); (try clear n2); (try clear n3); (try clear n4); omega)]
    have n1 : nw (k : Int) = k := nwN _ (by (try clear n0); (try clear n1); (try clear n2); (try clear n3); (try clear n4); omega)
    have n2 : ix (k : Int) = k := ixN _ (by (try clear n0); (try clear n1); (try clear n2); (try clear n3); (try clear n4); omega)
    have n3 : nw ((o k : Nat) : Int) = (o k : Nat) := nwN _ (by (try clear n0); (try clear n1); (try clear n2); (try clear n3); (try clear n4); omega)
    have n4 : ix ((o k : Nat) : Int) = o k := ixN _ (by (try clear n0); (try clear n1); (try clear n2); (try clear n3); (try clear n4); omega)
    rw [LockQueue_waitOf_b, n0, n1, n2, h84 k (by (try clear n0); (try clear n1); (try clear n2); (try clear n3); (try clear n4); omega), n3, n4, q.1, mx]
    clear n0 n1 n2 n3 n4
    rw [if_neg (by (try clear n0); (try clear n1); (try clear n2); (try clear n3); (try clear n4); omega), if_pos (by (try clear n0); (try clear n1); (try clear n2); (try clear n3); (try clear n4); omega), if_pos (by (try clear n0); (try clear n1); (try clear n2); (try clear n3); (try clear n4); omega), sb, mm, sb]
    rw [show ((k + 1 : Nat) : Int) = (k : Int) + 1 from rfl] at e2
    exact e2
theorem X_put_t {cm wy : Nat → Int} {c : Nat} (C : QOk cm c) : ∀ (n f i : Nat) (m : Int) (o : Nat → Nat) (p : Int × (Nat → Nat)) (g : AG), i + n = c → n + 1 ≤ f → XQu g cm wy c → (∀ j, j < i → o j < c) → (∀ j, j < i → g 83 j = o j) → XB g c p → (0 < n ∨ (qTW cm wy o i).2 < p.1) → ∃ g', LockQueue_putNext f i m (qTW cm wy o i).1 (qTW cm wy o i).2 g = some (0, g') ∧ FR RXO g g' ∧ (∀ j, j < i → g' 83 j = g 83 j) ∧ ∃ p', qS cm wy c n i m o (some p) = some p' ∧ XB g' c p' := by
  intro n
  induction n with
  | zero =>
    intro f i m o p g h hf Q ho h83 B hw
    obtain ⟨f, rfl⟩ : ∃ f', f = f' + 1 := ⟨f - 1, by (try clear n0); (try clear n1); (try clear n2); (try clear n3); (try clear n4); (try clear n5); (try clear n6); (try clear n7); (try clear hbit); omega⟩
    have hc := C.1
    have ei : i = c := by (try clear n0); (try clear n1); (try clear n2); (try clear n3); (try clear n4); (try clear n5); (try clear n6); (try clear n7); (try clear hbit); omega
    subst ei
    have r := qTW_rng (wy := wy) C i (by (try clear n0); (try clear n1); (try clear n2); (try clear n3); (try clear n4); (try clear n5); (try clear n6); (try clear n7); (try clear hbit); omega) ho
    have n0 : nw (g 8 2) = i := by rw [Q.1, nwN _ (by (try clear n0); (try clear n1); (try clear n2); (try clear n3); (try clear n4); (try clear n5); (try clear n6); (try clear n7); (try clear hbit); omega)]
    have n1 : nw (i : Int) = i := nwN _ (by (try clear n0); (try clear n1); (try clear n2); (try clear n3); (try clear n4); (try clear n5); (try clear n6); (try clear n7); (try clear hbit); omega)
    have n2 : ix (g 8 2) = i := by rw [Q.1, ixN _ (by (try clear n0); (try clear n1); (try clear n2); (try clear n3); (try clear n4); (try clear n5); (try clear n6); (try clear n7); (try clear hbit); omega)]
    have n3 : ix 0 = 0 := ixN 0 (by (try clear n0); (try clear n1); (try clear n2); (try clear n3); (try clear n4); (try clear n5); (try clear n6); (try clear n7); (try clear hbit); omega)
    obtain ⟨g', hg'⟩ : ∃ g' : AG, g' = copyG (up g 8 4 (qTW cm wy o i).2) 83 0 84 0 i := ⟨_, rfl⟩
    have top : LockQueue_putNext (f + 1) i m (qTW cm wy o i).1 (qTW cm wy o i).2 g = some (0, g') := by
      show LockQueue_putNext_s (LockQueue_putNext f) i m _ _ g = _
      unfold LockQueue_putNext_s
      have u : (up g 8 4 (qTW cm wy o i).2) 8 2 = g 8 2 := by rw [up_at, if_neg (by (try clear n0); (try clear n1); (try clear n2); (try clear n3); (try clear n4); (try clear n5); (try clear n6); (try clear n7); (try clear hbit); omega)]
      rw [n0, n1, if_neg (by (try clear n0); (try clear n1); (try clear n2); (try clear n3); (try clear n4); (try clear n5); (try clear n6); (try clear n7); (try clear hbit); omega), sb, u, n0, n2, n3]
      clear n0 n1 n2 n3
      rw [if_pos (by (try clear n0); (try clear n1); (try clear n2); (try clear n3); (try clear n4); (try clear n5); (try clear n6); (try clear n7); (try clear hbit); omega), sb, hg']
    clear n0 n1 n2 n3
    have fr : FR RXO g g' := by
      rw [hg']
      intro a b hab
      have z : ¬ (a = 84 ∧ 0 ≤ b ∧ b < 0 + i) := fun q => by rw [q.1] at hab; cases hab
      show (if a = 84 ∧ 0 ≤ b ∧ b < 0 + i then _ else _) = _
      rw [if_neg z, up_at, if_neg (fun q => by rw [q.1, q.2] at hab; cases hab)]
    refine ⟨g', top, fr, fun j hj => ?_, ((qTW cm wy o i).2, o), ?_, ?_, ?_, ?_⟩
    · rw [hg']
      show (if 83 = 84 ∧ 0 ≤ j ∧ j < 0 + i then _ else _) = _
      rw [if_neg (by (try clear n0); (try clear n1); (try clear n2); (try clear n3); (try clear n4); (try clear n5); (try clear n6); (try clear n7); (try clear hbit); omega), up_at, if_neg (by (try clear n0); (try clear n1); (try clear n2); (try clear n3); (try clear n4); (try clear n5); (try clear n6); (try clear n7); (try clear hbit); omega)]
    · unfold qS qLeaf
      dsimp only
      rw [if_pos (by (try clear n0); (try clear n1); (try clear n2); (try clear n3); (try clear n4); (try clear n5); (try clear n6); (try clear n7); (try clear hbit); omega)]
    · rw [hg']
      show (if 8 = 84 ∧ 0 ≤ 4 ∧ 4 < 0 + i then _ else _) = _
      rw [if_neg (by (try clear n0); (try clear n1); (try clear n2); (try clear n3); (try clear n4); (try clear n5); (try clear n6); (try clear n7); (try clear hbit); omega), up_at, if_pos ⟨rfl, rfl⟩]
    · dsimp only; (try clear n0); (try clear n1); (try clear n2); (try clear n3); (try clear n4); (try clear n5); (try clear n6); (try clear n7); (try clear hbit); omega
    · intro j hj
      rw [hg']
      show (if 84 = 84 ∧ 0 ≤ j ∧ j < 0 + i then _ else _) = _
      rw [if_pos (by (try clear n0); (try clear n1); (try clear n2); (try clear n3); (try clear n4); (try clear n5); (try clear n6); (try clear n7); (try clear hbit); omega), up_at, if_neg (by (try clear n0); (try clear n1); (try clear n2); (try clear n3); (try clear n4); (try clear n5); (try clear n6); (try clear n7); (try clear hbit); omega), show 0 + (j - 0) = j by (try clear n0); (try clear n1); (try clear n2); (try clear n3); (try clear n4); (try clear n5); (try clear n6); (try clear n7); (try clear hbit); omega]
      exact h83 j hj
  | succ n ih =>
    intro f i m o p g h hf Q ho h83 B hw
    obtain ⟨f, rfl⟩ : ∃ f', f = f' + 1 := ⟨f - 1, by (try clear n0); (try clear n1); (try clear n2); (try clear n3); (try clear n4); (try clear n5); (try clear n6); (try clear n7); (try clear hbit); omega⟩
    have hc := C.1
    have r := qTW_rng (wy := wy) C i (by (try clear n0); (try clear n1); (try clear n2); (try clear n3); (try clear n4); (try clear n5); (try clear n6); (try clear n7); (try clear hbit); omega) ho
    have n0 : nw (g 8 2) = c := by rw [Q.1, nwN _ (by (try clear n0); (try clear n1); (try clear n2); (try clear n3); (try clear n4); (try clear n5); (try clear n6); (try clear n7); (try clear hbit); omega)]
    have n1 : nw (i : Int) = i := nwN _ (by (try clear n0); (try clear n1); (try clear n2); (try clear n3); (try clear n4); (try clear n5); (try clear n6); (try clear n7); (try clear hbit); omega)
    have n2 : ix (i : Int) = i := ixN _ (by (try clear n0); (try clear n1); (try clear n2); (try clear n3); (try clear n4); (try clear n5); (try clear n6); (try clear n7); (try clear hbit); omega)
    have top : LockQueue_putNext (f + 1) i m (qTW cm wy o i).1 (qTW cm wy o i).2 g = LockQueue_putNext_b (LockQueue_putNext f) i m (qTW cm wy o i).1 (qTW cm wy o i).2 0 g := by
      show LockQueue_putNext_s (LockQueue_putNext f) i m _ _ g = _
      unfold LockQueue_putNext_s
      rw [n0, n1, if_pos (by (try clear n0); (try clear n1); (try clear n2); (try clear n3); (try clear n4); (try clear n5); (try clear n6); (try clear n7); (try clear hbit); omega)]
    rw [top]
    clear top n0
    unfold qS
    have loop : ∀ (k b : Nat) (p : Int × (Nat → Nat)) (g1 : AG), b + k = c → XQu g1 cm wy c → (∀ j, j < i → g1 83 j = o j) → XB g1 c p → ∃ g', LockQueue_putNext_b (LockQueue_putNext f) i m (qTW cm wy o i).1 (qTW cm wy o i).2 b g1 = some (0, g') ∧ FR RXO g1 g' ∧ (∀ j, j < i → g' 83 j = g1 83 j) ∧ ∃ p', qLoop (fun b s => qS cm wy c n (i + 1) (orI m (shlI 1 (b : Int))) (ud o i b) s) m k b (some p) = some p' ∧ XB g' c p' := by
      intro k
      induction k with
      | zero =>
        intro b p g1 hb Q1 h1 B1
        refine ⟨g1, ?_, Fr.rf, fun j _ => rfl, p, rfl, B1⟩
        have n3 : nw (g1 8 2) = c := by rw [Q1.1, nwN _ (by (try clear n0); (try clear n1); (try clear n2); (try clear n3); (try clear n4); (try clear n5); (try clear n6); (try clear n7); (try clear hbit); omega)]
        have n4 : nw (b : Int) = b := nwN _ (by (try clear n0); (try clear n1); (try clear n2); (try clear n3); (try clear n4); (try clear n5); (try clear n6); (try clear n7); (try clear hbit); omega)
        rw [LockQueue_putNext_b, n3, n4, if_pos (by (try clear n0); (try clear n1); (try clear n2); (try clear n3); (try clear n4); (try clear n5); (try clear n6); (try clear n7); (try clear hbit); omega)]
      | succ k ihk =>
        intro b p g1 hb Q1 h1 B1
        have hbc : b < c := by (try clear n0); (try clear n1); (try clear n2); (try clear n3); (try clear n4); (try clear n5); (try clear n6); (try clear n7); (try clear hbit); omega
        have cb := C.2 b hbc
        have qb := Q1.2 b hbc
        have uT := qTW_ud (cm := cm) (wy := wy) (o := o) (i := i) (b := b)
        have ru := qTW_rng (wy := wy) C (o := ud o i b) (i + 1) (by (try clear n0); (try clear n1); (try clear n2); (try clear n3); (try clear n4); (try clear n5); (try clear n6); (try clear n7); (try clear hbit); omega) (ud_all ho hbc)
        have n3 : nw (g1 8 2) = c := by rw [Q1.1, nwN _ (by (try clear n0); (try clear n1); (try clear n2); (try clear n3); (try clear n4); (try clear n5); (try clear n6); (try clear n7); (try clear hbit); omega)]
        have n4 : nw (b : Int) = b := nwN _ (by (try clear n0); (try clear n1); (try clear n2); (try clear n3); (try clear n4); (try clear n5); (try clear n6); (try clear n7); (try clear hbit); omega)
        have n5 : ix (b : Int) = b := ixN _ (by (try clear n0); (try clear n1); (try clear n2); (try clear n3); (try clear n4); (try clear n5); (try clear n6); (try clear n7); (try clear hbit); omega)
        have hbit := bit_q m b (by (try clear n0); (try clear n1); (try clear n2); (try clear n3); (try clear n4); (try clear n5); (try clear n6); (try clear n7); (try clear hbit); omega)
        have mx : mxI (cm b) (qTW cm wy o i).1 = max (cm b) (qTW cm wy o i).1 := by
          clear n1 n2 n3 n4 n5 hbit
          exact mxI_s (by (try clear n0); (try clear n1); (try clear n2); (try clear n3); (try clear n4); (try clear n5); (try clear n6); (try clear n7); (try clear hbit); omega) (by (try clear n0); (try clear n1); (try clear n2); (try clear n3); (try clear n4); (try clear n5); (try clear n6); (try clear n7); (try clear hbit); omega) (by (try clear n0); (try clear n1); (try clear n2); (try clear n3); (try clear n4); (try clear n5); (try clear n6); (try clear n7); (try clear hbit); omega) (by (try clear n0); (try clear n1); (try clear n2); (try clear n3); (try clear n4); (try clear n5); (try clear n6); (try clear n7); (try clear hbit); omega)
        have wE : (qTW cm wy o i).2 + max (cm b) (qTW cm wy o i).1 - cm b = (qTW cm wy (ud o i b) (i + 1)).2 := by
          clear n1 n2 n3 n4 n5 hbit mx
          rw [uT]
          dsimp only
          omega
        have n6 : nw (qTW cm wy (ud o i b) (i + 1)).2 = (qTW cm wy (ud o i b) (i + 1)).2 := by
          clear n1 n2 n3 n4 n5 hbit mx wE
          exact nw_id (by (try clear n0); (try clear n1); (try clear n2); (try clear n3); (try clear n4); (try clear n5); (try clear n6); (try clear n7); (try clear hbit); omega) (by (try clear n0); (try clear n1); (try clear n2); (try clear n3); (try clear n4); (try clear n5); (try clear n6); (try clear n7); (try clear hbit); omega)
        have n7 : nw (g1 8 4) = p.1 := by
          clear n1 n2 n3 n4 n5 n6 hbit mx wE
          rw [B1.1]
          have := B1.2.1
          exact nw_id (by (try clear n0); (try clear n1); (try clear n2); (try clear n3); (try clear n4); (try clear n5); (try clear n6); (try clear n7); (try clear hbit); omega) (by (try clear n0); (try clear n1); (try clear n2); (try clear n3); (try clear n4); (try clear n5); (try clear n6); (try clear n7); (try clear hbit); omega)
        unfold qLoop
        rw [LockQueue_putNext_b, n3, n4, hbit, n1, n2, n5, qb.1, mx, wE, n6, n7]
        clear n3 n4 n5 hbit n6 n7 mx
        rw [if_neg (by (try clear n0); (try clear n1); (try clear n2); (try clear n3); (try clear n4); (try clear n5); (try clear n6); (try clear n7); (try clear hbit); omega), if_pos (by (try clear n0); (try clear n1); (try clear n2); (try clear n3); (try clear n4); (try clear n5); (try clear n6); (try clear n7); (try clear hbit); omega)]
        by_cases t : tb m b = true
        · rw [if_pos t, if_neg (by decide), if_pos t, sb]
          exact ihk (b + 1) p g1 (by (try clear n0); (try clear n1); (try clear n2); (try clear n3); (try clear n4); (try clear n5); (try clear n6); (try clear n7); (try clear hbit); omega) Q1 h1 B1
        · rw [if_neg t, if_pos rfl, if_neg t]
          by_cases z : p.1 ≤ (qTW cm wy (ud o i b) (i + 1)).2
          · rw [if_pos z, sb]
            rw [qS_prune n (i + 1) _ _ p (by (try clear n0); (try clear n1); (try clear n2); (try clear n3); (try clear n4); (try clear n5); (try clear n6); (try clear n7); (try clear hbit); omega) z]
            exact ihk (b + 1) p g1 (by (try clear n0); (try clear n1); (try clear n2); (try clear n3); (try clear n4); (try clear n5); (try clear n6); (try clear n7); (try clear hbit); omega) Q1 h1 B1
          · rw [if_neg z]
            have f1 : FR RXO g1 (up g1 83 i b) := Fr.up Fr.rf rfl
            have h83' : ∀ j, j < i + 1 → (up g1 83 i b) 83 j = ((ud o i b j : Nat) : Int) := fun j hj => by
              rw [up_at]
              by_cases y : j = i
              · subst y; rw [if_pos ⟨rfl, rfl⟩, ud_at]
              · rw [if_neg (by (try clear n0); (try clear n1); (try clear n2); (try clear n3); (try clear n4); (try clear n5); (try clear n6); (try clear n7); (try clear hbit); omega), ud_lt (by (try clear n0); (try clear n1); (try clear n2); (try clear n3); (try clear n4); (try clear n5); (try clear n6); (try clear n7); (try clear hbit); omega)]; exact h1 j (by (try clear n0); (try clear n1); (try clear n2); (try clear n3); (try clear n4); (try clear n5); (try clear n6); (try clear n7); (try clear hbit); omega)
            have Q1' := Q1.fr f1
            have mm := minutes83_s (g := up g1 83 i b) hc (fun j hj => (Q1'.2 j hj).2) (o := ud o i b) (i := i) (by (try clear n0); (try clear n1); (try clear n2); (try clear n3); (try clear n4); (try clear n5); (try clear n6); (try clear n7); (try clear hbit); omega) (ud_all ho hbc) h83'
            have tE : max (cm b) (qTW cm wy o i).1 + (if 0 < i ∧ wy (ud o i b i) = wy (ud o i b (i - 1)) then 20 else 15) = (qTW cm wy (ud o i b) (i + 1)).1 := by
              rw [uT, ud_at]
              dsimp only
              by_cases y : 0 < i
              · rw [ud_lt (show i - 1 < i by (try clear n0); (try clear n1); (try clear n2); (try clear n3); (try clear n4); (try clear n5); (try clear n6); (try clear n7); (try clear hbit); omega)]
              · simp only [y, false_and]
            obtain ⟨g2, e2, f2, p2, p', e', q2⟩ := ih f (i + 1) (orI m (shlI 1 (b : Int))) (ud o i b) p (up g1 83 i b) (by (try clear n0); (try clear n1); (try clear n2); (try clear n3); (try clear n4); (try clear n5); (try clear n6); (try clear n7); (try clear hbit); omega) (by (try clear n0); (try clear n1); (try clear n2); (try clear n3); (try clear n4); (try clear n5); (try clear n6); (try clear n7); (try clear hbit); omega) Q1' (ud_all ho hbc) h83' ⟨by rw [up_at, if_neg (by (try clear n0); (try clear n1); (try clear n2); (try clear n3); (try clear n4); (try clear n5); (try clear n6); (try clear n7); (try clear hbit); omega)]; exact B1.1, B1.2.1, fun j hj => by rw [up_at, if_neg (by (try clear n0); (try clear n1); (try clear n2); (try clear n3); (try clear n4); (try clear n5); (try clear n6); (try clear n7); (try clear hbit); omega)]; exact B1.2.2 j hj⟩ (Or.inr (by (try clear n0); (try clear n1); (try clear n2); (try clear n3); (try clear n4); (try clear n5); (try clear n6); (try clear n7); (try clear hbit); omega))
            have f12 := f1.tr f2
            have k12 : ∀ j, j < i → g2 83 j = g1 83 j := fun j hj => by
              rw [p2 j (by (try clear n0); (try clear n1); (try clear n2); (try clear n3); (try clear n4); (try clear n5); (try clear n6); (try clear n7); (try clear hbit); omega), up_at, if_neg (by (try clear n0); (try clear n1); (try clear n2); (try clear n3); (try clear n4); (try clear n5); (try clear n6); (try clear n7); (try clear hbit); omega)]
            obtain ⟨g3, e3, f3, p3, q3⟩ := ihk (b + 1) p' g2 (by (try clear n0); (try clear n1); (try clear n2); (try clear n3); (try clear n4); (try clear n5); (try clear n6); (try clear n7); (try clear hbit); omega) (Q1.fr f12) (fun j hj => by rw [k12 j hj]; exact h1 j hj) q2
            refine ⟨g3, ?_, f12.tr f3, fun j hj => by rw [p3 j hj, k12 j hj], ?_⟩
            · rw [if_pos (by (try clear n0); (try clear n1); (try clear n2); (try clear n3); (try clear n4); (try clear n5); (try clear n6); (try clear n7); (try clear hbit); omega), sb, mm, sb, tE]
              rw [show ((i + 1 : Nat) : Int) = (i : Int) + 1 from rfl] at e2
              rw [e2, sb, sb]
              exact e3
            · rw [e']
              exact q3
    exact loop c 0 p g (by (try clear n0); (try clear n1); (try clear n2); (try clear n3); (try clear n4); (try clear n5); (try clear n6); (try clear n7); (try clear hbit); omega) Q h83 B
end
section
/-! plain programs: the queue at a lock, both sides -/
def qBest (cm wy : Nat → Int) (c : Nat) : QS := qS cm wy c c 0 0 (qId 0) (some ((qTW cm wy (qId c) c).2, qId c))
theorem qId_all {c : Nat} : ∀ j, j < c → qId c j < c := fun j hj => by unfold qId; rw [if_pos hj]; exact hj
theorem qId_at {c j : Nat} (hj : j < c) : qId c j = j := by unfold qId; rw [if_pos hj]
def RQueue : Reg := [(8, 3), (8, 4), (8, 5), (81, 0), (82, 0), (84, 0), (117, 60), (158, 0), (159, 0)]
def JQueue (g : AG) : Prop := ∃ c : Nat, c ≤ 7 ∧ g 8 2 = c ∧ g 117 59 = c ∧ (∀ j, j < c → (0 ≤ g 81 j ∧ g 81 j ≤ 9999) ∧ (0 ≤ g 82 j ∧ g 82 j ≤ 1) ∧ g 158 j = g 81 j ∧ g 159 j = g 82 j) ∧ g 8 3 = (qTW (g 81) (g 82) (qId c) c).2 ∧ ∃ p, qBest (g 81) (g 82) c = some p ∧ g 8 4 = p.1 ∧ ∀ j, j < c → g 84 j = p.2 j
theorem JQueue.cg {g g' : AG} (h : ∀ k i, inR RQueue k i = true → g' k i = g k i) (q : JQueue g) : JQueue g' := by
  obtain ⟨c, q1, q2, q3, q4, q5, p, q6, q7, q8⟩ := q
  have e1 : g' 81 = g 81 := funext fun i => h 81 i rfl
  have e2 : g' 82 = g 82 := funext fun i => h 82 i rfl
  refine ⟨c, q1, by rw [h 8 2 rfl]; exact q2, by rw [h 117 59 rfl]; exact q3, fun j hj => ?_, ?_, p, ?_, ?_, fun j hj => ?_⟩
  · rw [e1, e2, h 158 j rfl, h 159 j rfl]; exact q4 j hj
  · rw [h 8 3 rfl, e1, e2]; exact q5
  · rw [e1, e2]; exact q6
  · rw [h 8 4 rfl]; exact q7
  · rw [h 84 j rfl]; exact q8 j hj
theorem X_find_s {cm wy : Nat → Int} {c : Nat} (C : QOk cm c) (hc0 : 0 < c) : ∀ (n k : Nat) (g : AG), k + n = c → XQu g cm wy c → (∀ j, j < k → g 84 j = (j : Int)) → ∃ g', LockQueue_findBest_b k g = some (0, g') ∧ FR [(8, 4), (8, 5), (83, 0), (84, 0)] g g' ∧ g' 8 3 = (qTW cm wy (qId c) c).2 ∧ ∃ p, qBest cm wy c = some p ∧ XB g' c p := by
  intro n
  induction n with
  | zero =>
    intro k g h Q h84
    have hc := C.1
    have hk : k = c := by (try clear n0); (try clear n1); (try clear n2); omega
    subst hk
    have h84' : ∀ j, j < k → g 84 j = ((qId k j : Nat) : Int) := fun j hj => by rw [qId_at hj]; exact h84 j hj
    have w : LockQueue_waitOf g = some (qTW cm wy (qId k) k).2 := X_waitOf_s C Q (qId_all (c := k)) h84' k 0 (by (try clear n0); (try clear n1); (try clear n2); omega)
    have r := qTW_rng (wy := wy) C (o := qId k) k (by (try clear n0); (try clear n1); (try clear n2); omega) qId_all
    have f6 : FR [(8, 4), (8, 5), (83, 0), (84, 0)] g (up (up g 8 3 (qTW cm wy (qId k) k).2) 8 4 (qTW cm wy (qId k) k).2) := Fr.up (Fr.up Fr.rf rfl) rfl
    obtain ⟨g', e, f, p0, p, ep, B⟩ := X_put_t C k 9 0 0 (qId 0) ((qTW cm wy (qId k) k).2, qId k) (up (up g 8 3 (qTW cm wy (qId k) k).2) 8 4 (qTW cm wy (qId k) k).2) (by (try clear n0); (try clear n1); (try clear n2); omega) (by (try clear n0); (try clear n1); (try clear n2); omega) ⟨by rw [up_at, if_neg (by (try clear n0); (try clear n1); (try clear n2); omega), up_at, if_neg (by (try clear n0); (try clear n1); (try clear n2); omega)]; exact Q.1, fun j hj => by rw [f6 81 j rfl, f6 82 j rfl]; exact Q.2 j hj⟩ (fun j hj => by (try clear n0); (try clear n1); (try clear n2); omega) (fun j hj => by (try clear n0); (try clear n1); (try clear n2); omega) ⟨by rw [up_at, if_pos ⟨rfl, rfl⟩], by dsimp only; (try clear n0); (try clear n1); (try clear n2); omega, fun j hj => by rw [up_at, if_neg (by (try clear n0); (try clear n1); (try clear n2); omega), up_at, if_neg (by (try clear n0); (try clear n1); (try clear n2); omega)]; exact h84' j hj⟩ (Or.inl hc0)
    refine ⟨g', ?_, f6.tr (FR.mo f rfl), ?_, p, ep, B⟩
    · rw [LockQueue_findBest_b, if_pos (by rw [Q.1, nwN _ (by (try clear n0); (try clear n1); (try clear n2); omega)]; omega), w, sb, sb, sb]
      have u : (up g 8 3 (qTW cm wy (qId k) k).2) 8 3 = (qTW cm wy (qId k) k).2 := by rw [up_at, if_pos ⟨rfl, rfl⟩]
      rw [u]
      have e' : LockQueue_putNext 9 0 0 0 0 (up (up g 8 3 (qTW cm wy (qId k) k).2) 8 4 (qTW cm wy (qId k) k).2) = some (0, g') := e
      rw [e', sb]
    · rw [f 8 3 rfl, up_at, if_neg (by (try clear n0); (try clear n1); (try clear n2); omega), up_at, if_pos ⟨rfl, rfl⟩]
  | succ n ih =>
    intro k g h Q h84
    have hc := C.1
    obtain ⟨g', e, f, r⟩ := ih (k + 1) (up g 84 k k) (by (try clear n0); (try clear n1); (try clear n2); omega) ⟨by rw [up_at, if_neg (by (try clear n0); (try clear n1); (try clear n2); omega)]; exact Q.1, fun j hj => by rw [up_at, if_neg (by (try clear n0); (try clear n1); (try clear n2); omega), up_at, if_neg (by (try clear n0); (try clear n1); (try clear n2); omega)]; exact Q.2 j hj⟩ (fun j hj => by
      rw [up_at]
      by_cases z : j = k
      · subst z; rw [if_pos ⟨rfl, rfl⟩]
      · rw [if_neg (by (try clear n0); (try clear n1); (try clear n2); omega)]; exact h84 j (by (try clear n0); (try clear n1); (try clear n2); omega))
    refine ⟨g', ?_, (Fr.up Fr.rf rfl).tr f, r⟩
    have n0 : nw (g 8 2) = c := by rw [Q.1, nwN _ (by (try clear n0); (try clear n1); (try clear n2); omega)]
    have n1 : nw (k : Int) = k := nwN _ (by (try clear n0); (try clear n1); (try clear n2); omega)
    have n2 : ix (k : Int) = k := ixN _ (by (try clear n0); (try clear n1); (try clear n2); omega)
    rw [LockQueue_findBest_b, n0, n1, n2]
    clear n0 n1 n2
    rw [if_neg (by (try clear n0); (try clear n1); (try clear n2); omega), if_pos (by (try clear n0); (try clear n1); (try clear n2); omega), sb]
    exact e
def qOk (x1 x2 : Int) (c : Nat) (f : Nat → Int) : Prop := (0 ≤ x2 ∧ x2 ≤ 1) ∧ (0 ≤ x1 ∧ x1 ≤ 9999) ∧ c < 7 ∧ (0 < c → f (c - 1) ≤ x1)
theorem X_queue_s {x1 x2 : Int} {g : AG} {c : Nat} (h1 : I32 x1) (h2 : I32 x2) (hc : c ≤ 7) (hg : g 8 2 = c) (hr : ∀ j, j < c → 0 ≤ g 81 j ∧ g 81 j ≤ 9999) (hx : x2 ≠ -1) : (qOk x1 x2 c (g 81) → X_queue x1 x2 g = (LockQueue_findBest (up (up (up g 81 c x1) 82 c x2) 8 2 (c + 1)) >>= fun r => some (r.2 8 2, r.2))) ∧ (¬ qOk x1 x2 c (g 81) → X_queue x1 x2 g = some (-1, g)) := by
  unfold I32 at *
  have w1 := within0 (x := x2) (a := 0) (b := 1) (by (try clear n2); (try clear n1); (try clear n0); (try clear i0); (try clear lst); omega) (by (try clear n2); (try clear n1); (try clear n0); (try clear i0); (try clear lst); omega) (by decide) (by decide) (by decide) (by decide)
  have w2 := within0 (x := x1) (a := 0) (b := 9999) (by (try clear n2); (try clear n1); (try clear n0); (try clear i0); (try clear lst); omega) (by (try clear n2); (try clear n1); (try clear n0); (try clear i0); (try clear lst); omega) (by decide) (by decide) (by decide) (by decide)
  have n2 : nw x2 = x2 := nw_id (by (try clear n2); (try clear n1); (try clear n0); (try clear i0); (try clear lst); omega) (by (try clear n2); (try clear n1); (try clear n0); (try clear i0); (try clear lst); omega)
  have n1 : nw x1 = x1 := nw_id (by (try clear n2); (try clear n1); (try clear n0); (try clear i0); (try clear lst); omega) (by (try clear n2); (try clear n1); (try clear n0); (try clear i0); (try clear lst); omega)
  have n0 : nw (g 8 2) = c := by rw [hg, nwN _ (by (try clear n2); (try clear n1); (try clear n0); (try clear i0); (try clear lst); omega)]
  have i0 : ix (g 8 2) = c := by rw [hg, ixN _ (by (try clear n2); (try clear n1); (try clear n0); (try clear i0); (try clear lst); omega)]
  have lst : 0 < c → nw (g 8 2 - 1) = (c - 1 : Nat) ∧ ix (g 8 2 - 1) = c - 1 ∧ nw (g 81 (c - 1)) = g 81 (c - 1) := by
    intro z
    clear n0 n1 n2 i0 w1 w2
    have := hr (c - 1) (by (try clear n2); (try clear n1); (try clear n0); (try clear i0); (try clear lst); omega)
    rw [hg, show (c : Int) - 1 = ((c - 1 : Nat) : Int) by (try clear n2); (try clear n1); (try clear n0); (try clear i0); (try clear lst); omega, nwN _ (by (try clear n2); (try clear n1); (try clear n0); (try clear i0); (try clear lst); omega), ixN _ (by (try clear n2); (try clear n1); (try clear n0); (try clear i0); (try clear lst); omega)]
    exact ⟨rfl, rfl, nw_id (by (try clear n2); (try clear n1); (try clear n0); (try clear i0); (try clear lst); omega) (by (try clear n2); (try clear n1); (try clear n0); (try clear i0); (try clear lst); omega)⟩
  have addE : (c < 7 ∧ (0 < c → g 81 (c - 1) ≤ x1)) → LockQueue_add x1 x2 g = LockQueue_add_b x1 x2 g := by
    intro z
    unfold LockQueue_add
    rw [n0, if_neg (by (try clear n2); (try clear n1); (try clear n0); (try clear i0); (try clear lst); omega)]
    by_cases y : 0 < c
    · obtain ⟨l1, l2, l3⟩ := lst y
      rw [if_neg (by (try clear n2); (try clear n1); (try clear n0); (try clear i0); (try clear lst); omega), l1, l2, l3, n1]
      clear n0 n1 n2 i0 w1 w2 l1 l2 l3 lst
      rw [if_pos (by (try clear n2); (try clear n1); (try clear n0); (try clear i0); (try clear lst); omega), if_pos (z.2 y)]
    · rw [if_pos (by (try clear n2); (try clear n1); (try clear n0); (try clear i0); (try clear lst); omega)]
  have addN : ¬ (c < 7 ∧ (0 < c → g 81 (c - 1) ≤ x1)) → LockQueue_add x1 x2 g = some (-1, g) := by
    intro z
    unfold LockQueue_add
    rw [n0]
    by_cases y7 : c < 7
    · have y : 0 < c := by
        rcases Nat.eq_zero_or_pos c with e | e
        · exact absurd ⟨y7, fun a => by (try clear n2); (try clear n1); (try clear n0); (try clear i0); (try clear lst); omega⟩ z
        · exact e
      have y2 : ¬ g 81 (c - 1) ≤ x1 := fun a => z ⟨y7, fun _ => a⟩
      obtain ⟨l1, l2, l3⟩ := lst y
      rw [if_neg (by (try clear n2); (try clear n1); (try clear n0); (try clear i0); (try clear lst); omega), if_neg (by (try clear n2); (try clear n1); (try clear n0); (try clear i0); (try clear lst); omega), l1, l2, l3, n1]
      clear n0 n1 n2 i0 w1 w2 l1 l2 l3 lst
      rw [if_pos (by (try clear n2); (try clear n1); (try clear n0); (try clear i0); (try clear lst); omega), if_neg y2]
    · rw [if_pos (by (try clear n2); (try clear n1); (try clear n0); (try clear i0); (try clear lst); omega)]
  constructor
  · intro ⟨o1, o2, o3⟩
    unfold X_queue
    rw [n2, if_neg hx, if_neg (by rw [w1]; clear n0 n1 n2 i0 w1 w2 lst; omega), if_neg (by rw [w2]; clear n0 n1 n2 i0 w1 w2 lst; omega), addE o3]
    unfold LockQueue_add_b
    have u1 : (up g 81 c x1) 8 2 = g 8 2 := by rw [up_at, if_neg (by (try clear n2); (try clear n1); (try clear n0); (try clear i0); (try clear lst); omega)]
    have u2 : (up (up g 81 c x1) 82 c x2) 8 2 = g 8 2 := by rw [up_at, if_neg (by (try clear n2); (try clear n1); (try clear n0); (try clear i0); (try clear lst); omega), u1]
    rw [n0, i0, if_pos (by (try clear n2); (try clear n1); (try clear n0); (try clear i0); (try clear lst); omega), sb, u1, n0, i0, if_pos (by (try clear n2); (try clear n1); (try clear n0); (try clear i0); (try clear lst); omega), sb, u2, hg, sb]
    cases LockQueue_findBest (up (up (up g 81 c x1) 82 c x2) 8 2 (c + 1)) with
    | none => rfl
    | some r => rfl
  · intro z
    unfold X_queue
    rw [n2, if_neg hx]
    by_cases a : 0 ≤ x2 ∧ x2 ≤ 1
    · rw [if_neg (by rw [w1]; clear n0 n1 n2 i0 w1 w2 lst; omega)]
      by_cases b : 0 ≤ x1 ∧ x1 ≤ 9999
      · rw [if_neg (by rw [w2]; clear n0 n1 n2 i0 w1 w2 lst; omega), addN (fun q => z ⟨a, b, q.1, q.2⟩), sb]
      · rw [if_pos (by rw [w2]; clear n0 n1 n2 i0 w1 w2 lst; omega)]
    · rw [if_pos (by rw [w1]; clear n0 n1 n2 i0 w1 w2 lst; omega)]
theorem M_queue_s {x1 x2 : Int} {g : AG} {c : Nat} (h1 : I32 x1) (h2 : I32 x2) (hc : c ≤ 7) (hg : g 117 59 = c) (hr : ∀ j, j < c → 0 ≤ g 158 j ∧ g 158 j ≤ 9999) (hx : x2 ≠ -1) : (qOk x1 x2 c (g 158) → M_queue x1 x2 g = some ((c : Int) + 1, up (up (up g 158 c x1) 159 c x2) 117 59 ((c : Int) + 1))) ∧ (¬ qOk x1 x2 c (g 158) → M_queue x1 x2 g = some (-1, g)) := by
  unfold I32 at *
  have w1 := isIn0 (x := x2) (a := 0) (b := 1) (by (try clear n2); (try clear n1); (try clear n0); (try clear i0); (try clear lst); omega) (by (try clear n2); (try clear n1); (try clear n0); (try clear i0); (try clear lst); omega) (by decide) (by decide) (by decide) (by decide)
  have w2 := isIn0 (x := x1) (a := 0) (b := 9999) (by (try clear n2); (try clear n1); (try clear n0); (try clear i0); (try clear lst); omega) (by (try clear n2); (try clear n1); (try clear n0); (try clear i0); (try clear lst); omega) (by decide) (by decide) (by decide) (by decide)
  have n2 : nw x2 = x2 := nw_id (by (try clear n2); (try clear n1); (try clear n0); (try clear i0); (try clear lst); omega) (by (try clear n2); (try clear n1); (try clear n0); (try clear i0); (try clear lst); omega)
  have n1 : nw x1 = x1 := nw_id (by (try clear n2); (try clear n1); (try clear n0); (try clear i0); (try clear lst); omega) (by (try clear n2); (try clear n1); (try clear n0); (try clear i0); (try clear lst); omega)
  have n0 : nw (g 117 59) = c := by rw [hg, nwN _ (by (try clear n2); (try clear n1); (try clear n0); (try clear i0); (try clear lst); omega)]
  have i0 : ix (g 117 59) = c := by rw [hg, ixN _ (by (try clear n2); (try clear n1); (try clear n0); (try clear i0); (try clear lst); omega)]
  have lst : 0 < c → nw (g 117 59 - 1) = (c - 1 : Nat) ∧ ix (g 117 59 - 1) = c - 1 ∧ nw (g 158 (c - 1)) = g 158 (c - 1) := by
    intro z
    clear n0 n1 n2 i0 w1 w2
    have := hr (c - 1) (by (try clear n2); (try clear n1); (try clear n0); (try clear i0); (try clear lst); omega)
    rw [hg, show (c : Int) - 1 = ((c - 1 : Nat) : Int) by (try clear n2); (try clear n1); (try clear n0); (try clear i0); (try clear lst); omega, nwN _ (by (try clear n2); (try clear n1); (try clear n0); (try clear i0); (try clear lst); omega), ixN _ (by (try clear n2); (try clear n1); (try clear n0); (try clear i0); (try clear lst); omega)]
    exact ⟨rfl, rfl, nw_id (by (try clear n2); (try clear n1); (try clear n0); (try clear i0); (try clear lst); omega) (by (try clear n2); (try clear n1); (try clear n0); (try clear i0); (try clear lst); omega)⟩
  have addE : c < 7 → M_queue_b x1 x2 g = some ((c : Int) + 1, up (up (up g 158 c x1) 159 c x2) 117 59 ((c : Int) + 1)) := by
    intro z
    unfold M_queue_b
    have u1 : (up g 158 c x1) 117 59 = g 117 59 := by rw [up_at, if_neg (by (try clear n2); (try clear n1); (try clear n0); (try clear i0); (try clear lst); omega)]
    have u2 : (up (up g 158 c x1) 159 c x2) 117 59 = g 117 59 := by rw [up_at, if_neg (by (try clear n2); (try clear n1); (try clear n0); (try clear i0); (try clear lst); omega), u1]
    rw [n0, i0, if_pos (by (try clear n2); (try clear n1); (try clear n0); (try clear i0); (try clear lst); omega), sb, u1, n0, i0, if_pos (by (try clear n2); (try clear n1); (try clear n0); (try clear i0); (try clear lst); omega), sb, u2, hg, sb, up_at, if_pos ⟨rfl, rfl⟩]
  constructor
  · intro ⟨o1, o2, o3, o4⟩
    unfold M_queue
    rw [n2, if_neg hx, if_neg (by rw [w2]; clear n0 n1 n2 i0 w1 w2 lst; omega), if_neg (by rw [w1]; clear n0 n1 n2 i0 w1 w2 lst; omega), n0, if_neg (by (try clear n2); (try clear n1); (try clear n0); (try clear i0); (try clear lst); omega)]
    by_cases y : 0 < c
    · obtain ⟨l1, l2, l3⟩ := lst y
      rw [if_neg (by (try clear n2); (try clear n1); (try clear n0); (try clear i0); (try clear lst); omega), l1, l2, l3, n1, if_pos (by (try clear n2); (try clear n1); (try clear n0); (try clear i0); (try clear lst); omega), if_pos (o4 y)]
      exact addE o3
    · rw [if_pos (by (try clear n2); (try clear n1); (try clear n0); (try clear i0); (try clear lst); omega)]
      exact addE o3
  · intro z
    unfold M_queue
    rw [n2, if_neg hx]
    by_cases b : 0 ≤ x1 ∧ x1 ≤ 9999
    · rw [if_neg (by rw [w2]; clear n0 n1 n2 i0 w1 w2 lst; omega)]
      by_cases a : 0 ≤ x2 ∧ x2 ≤ 1
      · rw [if_neg (by rw [w1]; clear n0 n1 n2 i0 w1 w2 lst; omega), n0]
        by_cases y7 : c < 7
        · have y : 0 < c := by
            rcases Nat.eq_zero_or_pos c with e | e
            · exact absurd ⟨a, b, y7, fun a => by (try clear n2); (try clear n1); (try clear n0); (try clear i0); (try clear lst); omega⟩ z
            · exact e
          have y2 : ¬ g 158 (c - 1) ≤ x1 := fun q => z ⟨a, b, y7, fun _ => q⟩
          obtain ⟨l1, l2, l3⟩ := lst y
          rw [if_neg (by (try clear n2); (try clear n1); (try clear n0); (try clear i0); (try clear lst); omega), if_neg (by (try clear n2); (try clear n1); (try clear n0); (try clear i0); (try clear lst); omega), l1, l2, l3, n1, if_pos (by (try clear n2); (try clear n1); (try clear n0); (try clear i0); (try clear lst); omega), if_neg y2]
        · rw [if_pos (by (try clear n2); (try clear n1); (try clear n0); (try clear i0); (try clear lst); omega)]
      · rw [if_pos (by rw [w1]; clear n0 n1 n2 i0 w1 w2 lst; omega)]
    · rw [if_pos (by rw [w2]; clear n0 n1 n2 i0 w1 w2 lst; omega)]
theorem sm_queue {x1 x2 : Int} {g : AG} (h1 : I32 x1) (h2 : I32 x2) (q : JQueue g) :
    ∃ r1 r2, X_queue x1 x2 g = some r1 ∧ M_queue x1 x2 r1.2 = some r2 ∧ nw r1.1 = nw r2.1 ∧ JQueue r2.2 ∧ FR [(8, 3), (8, 4), (8, 5), (81, 0), (82, 0), (83, 0), (84, 0), (117, 60), (158, 0), (159, 0)] g r2.2 := by
  obtain ⟨c, q1, q2, q3, q4, q5, p, q6, q7, q8⟩ := q
  by_cases hx : x2 = -1
  · subst hx
    refine ⟨(0, up (up (up g 8 2 0) 8 3 0) 8 4 0), (0, up (up (up (up g 8 2 0) 8 3 0) 8 4 0) 117 59 0), ?_, ?_, rfl, ?_, ?_⟩
    · unfold X_queue LockQueue_clear
      rw [nw_m1, if_pos rfl]
      rfl
    · unfold M_queue
      rw [nw_m1, if_pos rfl]
      rfl
    · refine ⟨0, by omega, by simp [up_at], by simp [up_at], fun j hj => by omega, ?_, (0, qId 0), ?_, ?_, fun j hj => by omega⟩
      · simp [up_at, qTW]
      · unfold qBest qS qLeaf
        rfl
      · simp [up_at]
    · exact Fr.up (Fr.up (Fr.up (Fr.up Fr.rf rfl) rfl) rfl) rfl
  · have X := X_queue_s (g := g) h1 h2 q1 q2 (fun j hj => (q4 j hj).1) hx
    by_cases ok : qOk x1 x2 c (g 81)
    · have eX := X.1 ok
      have o := ok
      obtain ⟨o1, o2, o3, o4⟩ := o
      obtain ⟨g7, hg7⟩ : ∃ g7 : AG, g7 = up (up (up g 81 c x1) 82 c x2) 8 2 (c + 1) := ⟨_, rfl⟩
      have f7 : FR [(8, 3), (81, 0), (82, 0)] g g7 := by rw [hg7]; exact Fr.up (Fr.up (Fr.up Fr.rf rfl) rfl) rfl
      have r81 : ∀ j, j < c + 1 → 0 ≤ g7 81 j ∧ g7 81 j ≤ 9999 := fun j hj => by
        rw [hg7]
        simp only [up_at, Nat.reduceEqDiff, false_and, if_false, true_and]
        by_cases z : j = c
        · rw [if_pos z]; exact o2
        · rw [if_neg z]; exact (q4 j (by omega)).1
      have r82 : ∀ j, j < c + 1 → 0 ≤ g7 82 j ∧ g7 82 j ≤ 1 := fun j hj => by
        rw [hg7]
        simp only [up_at, Nat.reduceEqDiff, false_and, if_false, true_and]
        by_cases z : j = c
        · rw [if_pos z]; exact o1
        · rw [if_neg z]; exact (q4 j (by omega)).2.1
      have C7 : QOk (g7 81) (c + 1) := ⟨by omega, r81⟩
      have Q7 : XQu g7 (g7 81) (g7 82) (c + 1) := ⟨by rw [hg7, up_at, if_pos ⟨rfl, rfl⟩]; rfl, fun j hj => ⟨rfl, rfl, r82 j hj⟩⟩
      obtain ⟨g', e, f, w3, p', ep, B⟩ := X_find_s C7 (by omega) (c + 1) 0 g7 (by omega) Q7 (fun j hj => by omega)
      have e' : LockQueue_findBest g7 = some (0, g') := e
      have c1 : g' 8 2 = (c + 1 : Nat) := by rw [f 8 2 rfl]; exact Q7.1
      have e81 : g' 81 = g7 81 := funext fun j => f 81 j rfl
      have e82 : g' 82 = g7 82 := funext fun j => f 82 j rfl
      have m59 : g' 117 59 = c := by rw [f 117 59 rfl, f7 117 59 rfl]; exact q3
      have m158 : ∀ j, j < c → g' 158 j = g 81 j := fun j hj => by rw [f 158 j rfl, f7 158 j rfl]; exact (q4 j hj).2.2.1
      have M := M_queue_s (g := g') (c := c) h1 h2 q1 m59 (fun j hj => by rw [m158 j hj]; exact (q4 j hj).1) hx
      have okM : qOk x1 x2 c (g' 158) := ⟨o1, o2, o3, fun z => by rw [m158 _ (by omega)]; exact o4 z⟩
      have eM := M.1 okM
      refine ⟨(g' 8 2, g'), _, ?_, eM, ?_, ?_, ?_⟩
      · rw [eX, ← hg7, e', sb]
      · dsimp only; rw [c1]; rfl
      · dsimp only
        have fM : FR [(117, 60), (158, 0), (159, 0)] g' (up (up (up g' 158 c x1) 159 c x2) 117 59 (c + 1)) := Fr.up (Fr.up (Fr.up Fr.rf rfl) rfl) rfl
        have E81 : (up (up (up g' 158 c x1) 159 c x2) 117 59 (c + 1)) 81 = g7 81 := (funext fun j => fM 81 j rfl).trans e81
        have E82 : (up (up (up g' 158 c x1) 159 c x2) 117 59 (c + 1)) 82 = g7 82 := (funext fun j => fM 82 j rfl).trans e82
        refine ⟨c + 1, by omega, by rw [fM 8 2 rfl]; exact c1, by rw [up_at, if_pos ⟨rfl, rfl⟩]; rfl, fun j hj => ?_, ?_, p', ?_, ?_, fun j hj => ?_⟩
        · rw [E81, E82]
          refine ⟨r81 j hj, r82 j hj, ?_, ?_⟩
          · rw [hg7]
            simp only [up_at, Nat.reduceEqDiff, false_and, if_false, true_and]
            by_cases z : j = c
            · rw [if_pos z, if_pos z]
            · rw [if_neg z, if_neg z]; exact m158 j (by omega)
          · rw [hg7]
            simp only [up_at, Nat.reduceEqDiff, false_and, if_false, true_and]
            by_cases z : j = c
            · rw [if_pos z, if_pos z]
            · rw [if_neg z, if_neg z, f 159 j rfl, f7 159 j rfl]; exact (q4 j (by omega)).2.2.2
        · rw [fM 8 3 rfl, E81, E82]; exact w3
        · rw [E81, E82]; exact ep
        · rw [fM 8 4 rfl]; exact B.1
        · rw [fM 84 j rfl]; exact B.2.2 j hj
      · exact (FR.mo f7 rfl).tr ((FR.mo f rfl).tr (Fr.up (Fr.up (Fr.up Fr.rf rfl) rfl) rfl))
    · have eX := X.2 ok
      have M := M_queue_s (g := g) (c := c) h1 h2 q1 q3 (fun j hj => by rw [(q4 j hj).2.2.1]; exact (q4 j hj).1) hx
      have eM := M.2 (fun z => ok ⟨z.1, z.2.1, z.2.2.1, fun y => by rw [← (q4 (c - 1) (by omega)).2.2.1]; exact z.2.2.2 y⟩)
      exact ⟨_, _, eX, eM, rfl, ⟨c, q1, q2, q3, q4, q5, p, q6, q7, q8⟩, Fr.rf⟩
end
section
/-! plain programs: what the queue at a lock answers -/
def qLs (wy : Nat → Int) (o : Nat → Nat) : Nat → Int
  | 0 => 0
  | i + 1 => qLs wy o i + (if 0 < i ∧ ¬ wy (o i) = wy (o (i - 1)) then 1 else 0)
theorem qLs_rng {wy : Nat → Int} {o : Nat → Nat} : ∀ i : Nat, 0 ≤ qLs wy o i ∧ qLs wy o i ≤ i
  | 0 => by unfold qLs; omega
  | i + 1 => by
    have := qLs_rng (wy := wy) (o := o) i
    unfold qLs
    split <;> omega
theorem qLs_cg {wy : Nat → Int} {o o' : Nat → Nat} : ∀ i : Nat, (∀ j, j < i → o j = o' j) → qLs wy o i = qLs wy o' i
  | 0, _ => rfl
  | i + 1, h => by
    have e := qLs_cg (wy := wy) i (fun j hj => h j (by omega))
    unfold qLs
    rw [e, h i (by omega)]
    by_cases z : 0 < i
    · rw [h (i - 1) (by omega)]
    · simp only [z, false_and]
theorem XL_asCome {g : AG} {c : Nat} (hc : c ≤ 7) (hg : g 8 2 = c) (Q : ∀ j, j < c → 0 ≤ g 82 j ∧ g 82 j ≤ 1) : ∀ (n k : Nat), k + n = c → 1 ≤ k → LockQueue_lockfulsAsCome_b g ((c : Int) - qLs (g 82) (qId c) k) k = some ((c : Int) - qLs (g 82) (qId c) c) := by
  intro n
  induction n with
  | zero =>
    intro k h hk
    rw [LockQueue_lockfulsAsCome_b, if_pos (by rw [hg, nwN _ (by (try clear n0); (try clear n1); (try clear n2); (try clear n3); (try clear n4); (try clear n5); (try clear n6); omega), nwN _ (by (try clear n0); (try clear n1); (try clear n2); (try clear n3); (try clear n4); (try clear n5); (try clear n6); omega)]; omega), show k = c by (try clear n0); (try clear n1); (try clear n2); (try clear n3); (try clear n4); (try clear n5); (try clear n6); omega]
  | succ n ih =>
    intro k h hk
    have e2 := ih (k + 1) (by (try clear n0); (try clear n1); (try clear n2); (try clear n3); (try clear n4); (try clear n5); (try clear n6); omega) (by (try clear n0); (try clear n1); (try clear n2); (try clear n3); (try clear n4); (try clear n5); (try clear n6); omega)
    have w1 := Q k (by (try clear n0); (try clear n1); (try clear n2); (try clear n3); (try clear n4); (try clear n5); (try clear n6); omega)
    have w2 := Q (k - 1) (by (try clear n0); (try clear n1); (try clear n2); (try clear n3); (try clear n4); (try clear n5); (try clear n6); omega)
    have n0 : nw (g 8 2) = c := by rw [hg, nwN _ (by (try clear n0); (try clear n1); (try clear n2); (try clear n3); (try clear n4); (try clear n5); (try clear n6); omega)]
    have n1 : nw (k : Int) = k := nwN _ (by (try clear n0); (try clear n1); (try clear n2); (try clear n3); (try clear n4); (try clear n5); (try clear n6); omega)
    have n2 : ix (k : Int) = k := ixN _ (by (try clear n0); (try clear n1); (try clear n2); (try clear n3); (try clear n4); (try clear n5); (try clear n6); omega)
    have n3 : nw ((k : Int) - 1) = (k - 1 : Nat) := by rw [show (k : Int) - 1 = ((k - 1 : Nat) : Int) by (try clear n0); (try clear n1); (try clear n2); (try clear n3); (try clear n4); (try clear n5); (try clear n6); omega]; exact nwN _ (by (try clear n0); (try clear n1); (try clear n2); (try clear n3); (try clear n4); (try clear n5); (try clear n6); omega)
    have n4 : ix ((k : Int) - 1) = k - 1 := by rw [show (k : Int) - 1 = ((k - 1 : Nat) : Int) by (try clear n0); (try clear n1); (try clear n2); (try clear n3); (try clear n4); (try clear n5); (try clear n6); omega]; exact ixN _ (by (try clear n0); (try clear n1); (try clear n2); (try clear n3); (try clear n4); (try clear n5); (try clear n6); omega)
    have n5 : nw (g 82 k) = g 82 k := by clear n0 n1 n2 n3 n4; exact nw_id (by (try clear n0); (try clear n1); (try clear n2); (try clear n3); (try clear n4); (try clear n5); (try clear n6); omega) (by (try clear n0); (try clear n1); (try clear n2); (try clear n3); (try clear n4); (try clear n5); (try clear n6); omega)
    have n6 : nw (g 82 (k - 1)) = g 82 (k - 1) := by clear n0 n1 n2 n3 n4 n5; exact nw_id (by (try clear n0); (try clear n1); (try clear n2); (try clear n3); (try clear n4); (try clear n5); (try clear n6); omega) (by (try clear n0); (try clear n1); (try clear n2); (try clear n3); (try clear n4); (try clear n5); (try clear n6); omega)
    rw [LockQueue_lockfulsAsCome_b, n0, n1, n2, n3, n4, n5, n6]
    clear n0 n1 n2 n3 n4 n5 n6
    rw [if_neg (by (try clear n0); (try clear n1); (try clear n2); (try clear n3); (try clear n4); (try clear n5); (try clear n6); omega), if_pos (by (try clear n0); (try clear n1); (try clear n2); (try clear n3); (try clear n4); (try clear n5); (try clear n6); omega), if_pos (by (try clear n0); (try clear n1); (try clear n2); (try clear n3); (try clear n4); (try clear n5); (try clear n6); omega), sb]
    rw [show ((k + 1 : Nat) : Int) = (k : Int) + 1 from rfl] at e2
    rw [← e2]
    congr 1
    conv => rhs; unfold qLs
    rw [qId_at (show k < c by (try clear n0); (try clear n1); (try clear n2); (try clear n3); (try clear n4); (try clear n5); (try clear n6); omega), qId_at (show k - 1 < c by (try clear n0); (try clear n1); (try clear n2); (try clear n3); (try clear n4); (try clear n5); (try clear n6); omega)]
    by_cases z : g 82 k = g 82 (k - 1)
    · rw [if_pos z, if_neg (by (try clear n0); (try clear n1); (try clear n2); (try clear n3); (try clear n4); (try clear n5); (try clear n6); omega)]; omega
    · rw [if_neg z, if_pos ⟨by (try clear n0); (try clear n1); (try clear n2); (try clear n3); (try clear n4); (try clear n5); (try clear n6); omega, z⟩]; omega
theorem XL_atBest {g : AG} {wy : Nat → Int} {c : Nat} (hc : c ≤ 7) (hg : g 8 2 = c) (Q : ∀ j, j < c → g 82 j = wy j ∧ 0 ≤ wy j ∧ wy j ≤ 1) {o : Nat → Nat} (ho : ∀ j, j < c → o j < c) (hK : ∀ j, j < c → g 84 j = o j) : ∀ (n k : Nat), k + n = c → 1 ≤ k → LockQueue_lockfulsAtBest_b g ((c : Int) - qLs wy o k) k = some ((c : Int) - qLs wy o c) := by
  intro n
  induction n with
  | zero =>
    intro k h hk
    rw [LockQueue_lockfulsAtBest_b, if_pos (by rw [hg, nwN _ (by (try clear n0); (try clear n1); (try clear n2); (try clear n3); (try clear n4); (try clear n5); (try clear n6); (try clear n7); (try clear n8); (try clear n9); (try clear n10); omega), nwN _ (by (try clear n0); (try clear n1); (try clear n2); (try clear n3); (try clear n4); (try clear n5); (try clear n6); (try clear n7); (try clear n8); (try clear n9); (try clear n10); omega)]; omega), show k = c by (try clear n0); (try clear n1); (try clear n2); (try clear n3); (try clear n4); (try clear n5); (try clear n6); (try clear n7); (try clear n8); (try clear n9); (try clear n10); omega]
  | succ n ih =>
    intro k h hk
    have e2 := ih (k + 1) (by (try clear n0); (try clear n1); (try clear n2); (try clear n3); (try clear n4); (try clear n5); (try clear n6); (try clear n7); (try clear n8); (try clear n9); (try clear n10); omega) (by (try clear n0); (try clear n1); (try clear n2); (try clear n3); (try clear n4); (try clear n5); (try clear n6); (try clear n7); (try clear n8); (try clear n9); (try clear n10); omega)
    have h1 := ho k (by (try clear n0); (try clear n1); (try clear n2); (try clear n3); (try clear n4); (try clear n5); (try clear n6); (try clear n7); (try clear n8); (try clear n9); (try clear n10); omega)
    have h2 := ho (k - 1) (by (try clear n0); (try clear n1); (try clear n2); (try clear n3); (try clear n4); (try clear n5); (try clear n6); (try clear n7); (try clear n8); (try clear n9); (try clear n10); omega)
    have w1 := Q _ h1
    have w2 := Q _ h2
    have n0 : nw (g 8 2) = c := by rw [hg, nwN _ (by (try clear n0); (try clear n1); (try clear n2); (try clear n3); (try clear n4); (try clear n5); (try clear n6); (try clear n7); (try clear n8); (try clear n9); (try clear n10); omega)]
    have n1 : nw (k : Int) = k := nwN _ (by (try clear n0); (try clear n1); (try clear n2); (try clear n3); (try clear n4); (try clear n5); (try clear n6); (try clear n7); (try clear n8); (try clear n9); (try clear n10); omega)
    have n2 : ix (k : Int) = k := ixN _ (by (try clear n0); (try clear n1); (try clear n2); (try clear n3); (try clear n4); (try clear n5); (try clear n6); (try clear n7); (try clear n8); (try clear n9); (try clear n10); omega)
    have n3 : nw ((k : Int) - 1) = (k - 1 : Nat) := by rw [show (k : Int) - 1 = ((k - 1 : Nat) : Int) by (try clear n0); (try clear n1); (try clear n2); (try clear n3); (try clear n4); (try clear n5); (try clear n6); (try clear n7); (try clear n8); (try clear n9); (try clear n10); omega]; exact nwN _ (by (try clear n0); (try clear n1); (try clear n2); (try clear n3); (try clear n4); (try clear n5); (try clear n6); (try clear n7); (try clear n8); (try clear n9); (try clear n10); omega)
    have n4 : ix ((k : Int) - 1) = k - 1 := by rw [show (k : Int) - 1 = ((k - 1 : Nat) : Int) by (try clear n0); (try clear n1); (try clear n2); (try clear n3); (try clear n4); (try clear n5); (try clear n6); (try clear n7); (try clear n8); (try clear n9); (try clear n10); omega]; exact ixN _ (by (try clear n0); (try clear n1); (try clear n2); (try clear n3); (try clear n4); (try clear n5); (try clear n6); (try clear n7); (try clear n8); (try clear n9); (try clear n10); omega)
    have n5 : nw (wy (o k)) = wy (o k) := by clear n0 n1 n2 n3 n4; exact nw_id (by (try clear n0); (try clear n1); (try clear n2); (try clear n3); (try clear n4); (try clear n5); (try clear n6); (try clear n7); (try clear n8); (try clear n9); (try clear n10); omega) (by (try clear n0); (try clear n1); (try clear n2); (try clear n3); (try clear n4); (try clear n5); (try clear n6); (try clear n7); (try clear n8); (try clear n9); (try clear n10); omega)
    have n6 : nw (wy (o (k - 1))) = wy (o (k - 1)) := by clear n0 n1 n2 n3 n4 n5; exact nw_id (by (try clear n0); (try clear n1); (try clear n2); (try clear n3); (try clear n4); (try clear n5); (try clear n6); (try clear n7); (try clear n8); (try clear n9); (try clear n10); omega) (by (try clear n0); (try clear n1); (try clear n2); (try clear n3); (try clear n4); (try clear n5); (try clear n6); (try clear n7); (try clear n8); (try clear n9); (try clear n10); omega)
    have n7 : nw ((o k : Nat) : Int) = (o k : Nat) := nwN _ (by (try clear n0); (try clear n1); (try clear n2); (try clear n3); (try clear n4); (try clear n5); (try clear n6); (try clear n7); (try clear n8); (try clear n9); (try clear n10); omega)
    have n8 : ix ((o k : Nat) : Int) = o k := ixN _ (by (try clear n0); (try clear n1); (try clear n2); (try clear n3); (try clear n4); (try clear n5); (try clear n6); (try clear n7); (try clear n8); (try clear n9); (try clear n10); omega)
    have n9 : nw ((o (k - 1) : Nat) : Int) = (o (k - 1) : Nat) := nwN _ (by (try clear n0); (try clear n1); (try clear n2); (try clear n3); (try clear n4); (try clear n5); (try clear n6); (try clear n7); (try clear n8); (try clear n9); (try clear n10); omega)
    have n10 : ix ((o (k - 1) : Nat) : Int) = o (k - 1) := ixN _ (by (try clear n0); (try clear n1); (try clear n2); (try clear n3); (try clear n4); (try clear n5); (try clear n6); (try clear n7); (try clear n8); (try clear n9); (try clear n10); omega)
    rw [LockQueue_lockfulsAtBest_b, n0, n1, n2, n3, n4, hK k (by (try clear n0); (try clear n1); (try clear n2); (try clear n3); (try clear n4); (try clear n5); (try clear n6); (try clear n7); (try clear n8); (try clear n9); (try clear n10); omega), hK (k - 1) (by (try clear n0); (try clear n1); (try clear n2); (try clear n3); (try clear n4); (try clear n5); (try clear n6); (try clear n7); (try clear n8); (try clear n9); (try clear n10); omega), n7, n8, n9, n10, w1.1, w2.1, n5, n6]
    clear n0 n1 n2 n3 n4 n5 n6 n7 n8 n9 n10
    rw [if_neg (by (try clear n0); (try clear n1); (try clear n2); (try clear n3); (try clear n4); (try clear n5); (try clear n6); (try clear n7); (try clear n8); (try clear n9); (try clear n10); omega), if_pos (by (try clear n0); (try clear n1); (try clear n2); (try clear n3); (try clear n4); (try clear n5); (try clear n6); (try clear n7); (try clear n8); (try clear n9); (try clear n10); omega), if_pos (by (try clear n0); (try clear n1); (try clear n2); (try clear n3); (try clear n4); (try clear n5); (try clear n6); (try clear n7); (try clear n8); (try clear n9); (try clear n10); omega), if_pos (by (try clear n0); (try clear n1); (try clear n2); (try clear n3); (try clear n4); (try clear n5); (try clear n6); (try clear n7); (try clear n8); (try clear n9); (try clear n10); omega), if_pos (by (try clear n0); (try clear n1); (try clear n2); (try clear n3); (try clear n4); (try clear n5); (try clear n6); (try clear n7); (try clear n8); (try clear n9); (try clear n10); omega), sb]
    rw [show ((k + 1 : Nat) : Int) = (k : Int) + 1 from rfl] at e2
    rw [← e2]
    congr 1
    conv => rhs; unfold qLs
    by_cases z : wy (o k) = wy (o (k - 1))
    · rw [if_pos z, if_neg (fun q => q.2 z)]; omega
    · rw [if_neg z, if_pos ⟨by (try clear n0); (try clear n1); (try clear n2); (try clear n3); (try clear n4); (try clear n5); (try clear n6); (try clear n7); (try clear n8); (try clear n9); (try clear n10); omega, z⟩]; omega
theorem ML_lockfuls {g : AG} {wy : Nat → Int} {c : Nat} (hc : c ≤ 7) (hg : g 117 59 = c) (Q : ∀ j, j < c → g 159 j = wy j ∧ 0 ≤ wy j ∧ wy j ≤ 1) {o : Nat → Nat} (ho : ∀ j, j < c → o j < c) (hK : ∀ j, j < c → g 160 j = o j) : ∀ (n k : Nat), k + n = c → 1 ≤ k → M_lockfuls_b g ((c : Int) - qLs wy o k) k = some ((c : Int) - qLs wy o c) := by
  intro n
  induction n with
  | zero =>
    intro k h hk
    rw [M_lockfuls_b, if_pos (by rw [hg, nwN _ (by (try clear n0); (try clear n1); (try clear n2); (try clear n3); (try clear n4); (try clear n5); (try clear n6); (try clear n7); (try clear n8); (try clear n9); (try clear n10); omega), nwN _ (by (try clear n0); (try clear n1); (try clear n2); (try clear n3); (try clear n4); (try clear n5); (try clear n6); (try clear n7); (try clear n8); (try clear n9); (try clear n10); omega)]; omega), show k = c by (try clear n0); (try clear n1); (try clear n2); (try clear n3); (try clear n4); (try clear n5); (try clear n6); (try clear n7); (try clear n8); (try clear n9); (try clear n10); omega]
  | succ n ih =>
    intro k h hk
    have e2 := ih (k + 1) (by (try clear n0); (try clear n1); (try clear n2); (try clear n3); (try clear n4); (try clear n5); (try clear n6); (try clear n7); (try clear n8); (try clear n9); (try clear n10); omega) (by (try clear n0); (try clear n1); (try clear n2); (try clear n3); (try clear n4); (try clear n5); (try clear n6); (try clear n7); (try clear n8); (try clear n9); (try clear n10); omega)
    have h1 := ho k (by (try clear n0); (try clear n1); (try clear n2); (try clear n3); (try clear n4); (try clear n5); (try clear n6); (try clear n7); (try clear n8); (try clear n9); (try clear n10); omega)
    have h2 := ho (k - 1) (by (try clear n0); (try clear n1); (try clear n2); (try clear n3); (try clear n4); (try clear n5); (try clear n6); (try clear n7); (try clear n8); (try clear n9); (try clear n10); omega)
    have w1 := Q _ h1
    have w2 := Q _ h2
    have n0 : nw (g 117 59) = c := by rw [hg, nwN _ (by (try clear n0); (try clear n1); (try clear n2); (try clear n3); (try clear n4); (try clear n5); (try clear n6); (try clear n7); (try clear n8); (try clear n9); (try clear n10); omega)]
    have n1 : nw (k : Int) = k := nwN _ (by (try clear n0); (try clear n1); (try clear n2); (try clear n3); (try clear n4); (try clear n5); (try clear n6); (try clear n7); (try clear n8); (try clear n9); (try clear n10); omega)
    have n2 : ix (k : Int) = k := ixN _ (by (try clear n0); (try clear n1); (try clear n2); (try clear n3); (try clear n4); (try clear n5); (try clear n6); (try clear n7); (try clear n8); (try clear n9); (try clear n10); omega)
    have n3 : nw ((k : Int) - 1) = (k - 1 : Nat) := by rw [show (k : Int) - 1 = ((k - 1 : Nat) : Int) by (try clear n0); (try clear n1); (try clear n2); (try clear n3); (try clear n4); (try clear n5); (try clear n6); (try clear n7); (try clear n8); (try clear n9); (try clear n10); omega]; exact nwN _ (by (try clear n0); (try clear n1); (try clear n2); (try clear n3); (try clear n4); (try clear n5); (try clear n6); (try clear n7); (try clear n8); (try clear n9); (try clear n10); omega)
    have n4 : ix ((k : Int) - 1) = k - 1 := by rw [show (k : Int) - 1 = ((k - 1 : Nat) : Int) by (try clear n0); (try clear n1); (try clear n2); (try clear n3); (try clear n4); (try clear n5); (try clear n6); (try clear n7); (try clear n8); (try clear n9); (try clear n10); omega]; exact ixN _ (by (try clear n0); (try clear n1); (try clear n2); (try clear n3); (try clear n4); (try clear n5); (try clear n6); (try clear n7); (try clear n8); (try clear n9); (try clear n10); omega)
    have n5 : nw (wy (o k)) = wy (o k) := by clear n0 n1 n2 n3 n4; exact nw_id (by (try clear n0); (try clear n1); (try clear n2); (try clear n3); (try clear n4); (try clear n5); (try clear n6); (try clear n7); (try clear n8); (try clear n9); (try clear n10); omega) (by (try clear n0); (try clear n1); (try clear n2); (try clear n3); (try clear n4); (try clear n5); (try clear n6); (try clear n7); (try clear n8); (try clear n9); (try clear n10); omega)
    have n6 : nw (wy (o (k - 1))) = wy (o (k - 1)) := by clear n0 n1 n2 n3 n4 n5; exact nw_id (by (try clear n0); (try clear n1); (try clear n2); (try clear n3); (try clear n4); (try clear n5); (try clear n6); (try clear n7); (try clear n8); (try clear n9); (try clear n10); omega) (by (try clear n0); (try clear n1); (try clear n2); (try clear n3); (try clear n4); (try clear n5); (try clear n6); (try clear n7); (try clear n8); (try clear n9); (try clear n10); omega)
    have n7 : nw ((o k : Nat) : Int) = (o k : Nat) := nwN _ (by (try clear n0); (try clear n1); (try clear n2); (try clear n3); (try clear n4); (try clear n5); (try clear n6); (try clear n7); (try clear n8); (try clear n9); (try clear n10); omega)
    have n8 : ix ((o k : Nat) : Int) = o k := ixN _ (by (try clear n0); (try clear n1); (try clear n2); (try clear n3); (try clear n4); (try clear n5); (try clear n6); (try clear n7); (try clear n8); (try clear n9); (try clear n10); omega)
    have n9 : nw ((o (k - 1) : Nat) : Int) = (o (k - 1) : Nat) := nwN _ (by (try clear n0); (try clear n1); (try clear n2); (try clear n3); (try clear n4); (try clear n5); (try clear n6); (try clear n7); (try clear n8); (try clear n9); (try clear n10); omega)
    have n10 : ix ((o (k - 1) : Nat) : Int) = o (k - 1) := ixN _ (by (try clear n0); (try clear n1); (try clear n2); (try clear n3); (try clear n4); (try clear n5); (try clear n6); (try clear n7); (try clear n8); (try clear n9); (try clear n10); omega)
    rw [M_lockfuls_b, n0, n1, n2, n3, n4, hK k (by (try clear n0); (try clear n1); (try clear n2); (try clear n3); (try clear n4); (try clear n5); (try clear n6); (try clear n7); (try clear n8); (try clear n9); (try clear n10); omega), hK (k - 1) (by (try clear n0); (try clear n1); (try clear n2); (try clear n3); (try clear n4); (try clear n5); (try clear n6); (try clear n7); (try clear n8); (try clear n9); (try clear n10); omega), n7, n8, n9, n10, w1.1, w2.1, n5, n6]
    clear n0 n1 n2 n3 n4 n5 n6 n7 n8 n9 n10
    rw [if_neg (by (try clear n0); (try clear n1); (try clear n2); (try clear n3); (try clear n4); (try clear n5); (try clear n6); (try clear n7); (try clear n8); (try clear n9); (try clear n10); omega), if_pos (by (try clear n0); (try clear n1); (try clear n2); (try clear n3); (try clear n4); (try clear n5); (try clear n6); (try clear n7); (try clear n8); (try clear n9); (try clear n10); omega), if_pos (by (try clear n0); (try clear n1); (try clear n2); (try clear n3); (try clear n4); (try clear n5); (try clear n6); (try clear n7); (try clear n8); (try clear n9); (try clear n10); omega), if_pos (by (try clear n0); (try clear n1); (try clear n2); (try clear n3); (try clear n4); (try clear n5); (try clear n6); (try clear n7); (try clear n8); (try clear n9); (try clear n10); omega), if_pos (by (try clear n0); (try clear n1); (try clear n2); (try clear n3); (try clear n4); (try clear n5); (try clear n6); (try clear n7); (try clear n8); (try clear n9); (try clear n10); omega), sb]
    rw [show ((k + 1 : Nat) : Int) = (k : Int) + 1 from rfl] at e2
    rw [← e2]
    congr 1
    conv => rhs; unfold qLs
    by_cases z : wy (o k) = wy (o (k - 1))
    · rw [if_pos z, if_neg (fun q => q.2 z)]; omega
    · rw [if_neg z, if_pos ⟨by (try clear n0); (try clear n1); (try clear n2); (try clear n3); (try clear n4); (try clear n5); (try clear n6); (try clear n7); (try clear n8); (try clear n9); (try clear n10); omega, z⟩]; omega
theorem M_asC_s {c : Nat} (hc : c ≤ 7) : ∀ (n k : Nat) (g : AG), k + n = c → g 117 59 = c → (∀ j, j < k → g 160 j = (j : Int)) → ∃ g', M_asTheyCome_b k g = some (0, g') ∧ FR [(160, 0)] g g' ∧ ∀ j, j < c → g' 160 j = ((qId c j : Nat) : Int) := by
  intro n
  induction n with
  | zero =>
    intro k g h hg hh
    refine ⟨g, ?_, Fr.rf, fun j hj => by rw [qId_at hj]; exact hh j (by (try clear n0); (try clear n1); (try clear n2); omega)⟩
    rw [M_asTheyCome_b, if_pos (by rw [hg, nwN _ (by (try clear n0); (try clear n1); (try clear n2); omega), nwN _ (by (try clear n0); (try clear n1); (try clear n2); omega)]; omega)]
  | succ n ih =>
    intro k g h hg hh
    obtain ⟨g', e, f, r⟩ := ih (k + 1) (up g 160 k k) (by (try clear n0); (try clear n1); (try clear n2); omega) (by rw [up_at, if_neg (by (try clear n0); (try clear n1); (try clear n2); omega)]; exact hg) (fun j hj => by
      rw [up_at]
      by_cases z : j = k
      · subst z; rw [if_pos ⟨rfl, rfl⟩]
      · rw [if_neg (by (try clear n0); (try clear n1); (try clear n2); omega)]; exact hh j (by (try clear n0); (try clear n1); (try clear n2); omega))
    refine ⟨g', ?_, (Fr.up Fr.rf rfl).tr f, r⟩
    have n0 : nw (g 117 59) = c := by rw [hg, nwN _ (by (try clear n0); (try clear n1); (try clear n2); omega)]
    have n1 : nw (k : Int) = k := nwN _ (by (try clear n0); (try clear n1); (try clear n2); omega)
    have n2 : ix (k : Int) = k := ixN _ (by (try clear n0); (try clear n1); (try clear n2); omega)
    rw [M_asTheyCome_b, n0, n1, n2]
    clear n0 n1 n2
    rw [if_neg (by (try clear n0); (try clear n1); (try clear n2); omega), if_pos (by (try clear n0); (try clear n1); (try clear n2); omega), sb]
    exact e
theorem M_lk3_s {c : Nat} (hc : c ≤ 7) {x1 : Int} : ∀ (n k : Nat) (g : AG), k + n = c → g 117 59 = c → (∀ j, j < k → g 160 j = g 161 j) → ∃ g', M_lock_b x1 3 k g = M_lock_b x1 4 c g' ∧ FR [(160, 0)] g g' ∧ ∀ j, j < c → g' 160 j = g 161 j := by
  intro n
  induction n with
  | zero =>
    intro k g h hg hh
    refine ⟨g, ?_, Fr.rf, fun j hj => hh j (by (try clear n0); (try clear n1); (try clear n2); omega)⟩
    rw [M_lock_b.eq_1 _ 3, if_neg (by decide), if_neg (by decide), if_pos rfl, if_pos (by rw [hg, nwN _ (by (try clear n0); (try clear n1); (try clear n2); omega), nwN _ (by (try clear n0); (try clear n1); (try clear n2); omega)]; omega), show k = c by (try clear n0); (try clear n1); (try clear n2); omega]
  | succ n ih =>
    intro k g h hg hh
    obtain ⟨g', e, f, r⟩ := ih (k + 1) (up g 160 k (g 161 k)) (by (try clear n0); (try clear n1); (try clear n2); omega) (by rw [up_at, if_neg (by (try clear n0); (try clear n1); (try clear n2); omega)]; exact hg) (fun j hj => by
      rw [up_at, up_at, if_neg (show ¬ (161 = 160 ∧ j = k) by (try clear n0); (try clear n1); (try clear n2); omega)]
      by_cases z : j = k
      · subst z; rw [if_pos ⟨rfl, rfl⟩]
      · rw [if_neg (by (try clear n0); (try clear n1); (try clear n2); omega)]; exact hh j (by (try clear n0); (try clear n1); (try clear n2); omega))
    refine ⟨g', ?_, (Fr.up Fr.rf rfl).tr f, fun j hj => by rw [r j hj, up_at, if_neg (by (try clear n0); (try clear n1); (try clear n2); omega)]⟩
    have n0 : nw (g 117 59) = c := by rw [hg, nwN _ (by (try clear n0); (try clear n1); (try clear n2); omega)]
    have n1 : nw (k : Int) = k := nwN _ (by (try clear n0); (try clear n1); (try clear n2); omega)
    have n2 : ix (k : Int) = k := ixN _ (by (try clear n0); (try clear n1); (try clear n2); omega)
    rw [M_lock_b.eq_1 _ 3, n0, n1, n2]
    clear n0 n1 n2
    rw [if_neg (by decide), if_neg (by decide), if_pos rfl, if_neg (by (try clear n0); (try clear n1); (try clear n2); omega), if_pos (by (try clear n0); (try clear n1); (try clear n2); omega), sb]
    exact e
theorem M_lk4_s {cm wy : Nat → Int} {c : Nat} (C : QOk cm c) {g : AG} (Q : MQu g cm wy c) {o : Nat → Nat} (ho : ∀ j, j < c → o j < c) (h160 : ∀ j, j < c → g 160 j = o j) {x1 x2 : Int} (hx : 0 ≤ x1 ∧ x1 ≤ 3) : M_lock_b x1 4 x2 g = some (if 2 ≤ x1 then (c : Int) - qLs wy o c else (qTW cm wy o c).2, g) := by
  have hc := C.1
  have n1 : nw x1 = x1 := nw_id (by (try clear n1); omega) (by (try clear n1); omega)
  rw [M_lock_b.eq_1 _ 4, if_neg (by decide), if_neg (by decide), if_neg (by decide), if_pos rfl, n1]
  clear n1
  by_cases z : 2 ≤ x1
  · rw [if_pos z, if_pos z]
    unfold M_lockfuls
    by_cases y : c = 0
    · subst y
      rw [M_lockfuls_b, if_pos (by rw [Q.1, nw_1, nwN _ (by (try clear n1); omega)]; decide), sb, sb, Q.1]
      rfl
    · have e := ML_lockfuls hc Q.1 (fun j hj => (Q.2 j hj).2) ho h160 (c - 1) 1 (by (try clear n1); omega) (by (try clear n1); omega)
      have q1 : qLs wy o 1 = 0 := by unfold qLs qLs; rw [if_neg (by (try clear n1); omega)]; rfl
      rw [q1, Int.sub_zero] at e
      have e' : M_lockfuls_b g (g 117 59) 1 = some ((c : Int) - qLs wy o c) := by rw [Q.1]; exact e
      rw [e', sb, sb]
  · rw [if_neg z, if_neg z, M_waits_s C Q ho h160, sb, sb]
theorem sm_lock {x1 : Int} {g : AG} (h1 : I32 x1) (q : JQueue g) :
    ∃ v1 r2, X_lock x1 g = some v1 ∧ M_lock x1 g = some r2 ∧ nw v1 = nw r2.1 ∧ FR RMO g r2.2 := by
  unfold I32 at *
  obtain ⟨c, q1, q2, q3, q4, q5, p, q6, q7, q8⟩ := q
  have C : QOk (g 81) c := ⟨q1, fun j hj => (q4 j hj).1⟩
  have MQ0 : MQu g (g 81) (g 82) c := ⟨q3, fun j hj => ⟨(q4 j hj).2.2.1, (q4 j hj).2.2.2, (q4 j hj).2.1⟩⟩
  have good : QGood (g 81) (g 82) c (qBest (g 81) (g 82) c) := qS_good c 0 0 (qId 0) _ (by (try clear n1); (try clear w2); (try clear eT); (try clear wr); (try clear d0); (try clear d1); omega) (fun j hj => by (try clear n1); (try clear w2); (try clear eT); (try clear wr); (try clear d0); (try clear d1); omega) (fun p hp => by
    have := Option.some.inj hp
    subst this
    exact ⟨rfl, qId_all⟩)
  have gd := good p q6
  have n1 : nw x1 = x1 := nw_id (by (try clear n1); (try clear w2); (try clear eT); (try clear wr); (try clear d0); (try clear d1); omega) (by (try clear n1); (try clear w2); (try clear eT); (try clear wr); (try clear d0); (try clear d1); omega)
  have w1 := isIn0 (x := x1) (a := 0) (b := 3) (by (try clear n1); (try clear w2); (try clear eT); (try clear wr); (try clear d0); (try clear d1); omega) (by (try clear n1); (try clear w2); (try clear eT); (try clear wr); (try clear d0); (try clear d1); omega) (by decide) (by decide) (by decide) (by decide)
  have w2 : (nw (M_isIn x1 10 (9 + g 117 59)) = 0) = (x1 < 10 ∨ 9 + (c : Int) < x1) := by
    rw [q3]
    exact isIn0 (by (try clear n1); (try clear w2); (try clear eT); (try clear wr); (try clear d0); (try clear d1); omega) (by (try clear n1); (try clear w2); (try clear eT); (try clear wr); (try clear d0); (try clear d1); omega) (by decide) (by decide) (by (try clear n1); (try clear w2); (try clear eT); (try clear wr); (try clear d0); (try clear d1); omega) (by (try clear n1); (try clear w2); (try clear eT); (try clear wr); (try clear d0); (try clear d1); omega)
  -- the class's answer
  have xE : X_lock x1 g = some (if x1 = 0 then (qTW (g 81) (g 82) (qId c) c).2 else if x1 = 1 then p.1 else if x1 = 2 then (c : Int) - qLs (g 82) (qId c) c else if x1 = 3 then (c : Int) - qLs (g 82) p.2 c else if 10 ≤ x1 ∧ x1 ≤ 9 + (c : Int) then ((p.2 (x1 - 10).toNat : Nat) : Int) else -1) := by
    unfold X_lock
    rw [n1]
    clear w1 w2 n1
    by_cases z0 : x1 = 0
    · rw [if_pos z0, if_pos z0, q5]
    rw [if_neg z0, if_neg z0]
    by_cases z1 : x1 = 1
    · rw [if_pos z1, if_pos z1, q7]
    rw [if_neg z1, if_neg z1]
    by_cases z2 : x1 = 2
    · rw [if_pos z2, if_pos z2]
      unfold LockQueue_lockfulsAsCome
      by_cases y : c = 0
      · subst y
        rw [LockQueue_lockfulsAsCome_b, if_pos (by rw [q2, nw_1, nwN _ (by (try clear n1); (try clear w2); (try clear eT); (try clear wr); (try clear d0); (try clear d1); omega)]; decide), sb, q2]
        rfl
      · have e := XL_asCome q1 q2 (fun j hj => (q4 j hj).2.1) (c - 1) 1 (by (try clear n1); (try clear w2); (try clear eT); (try clear wr); (try clear d0); (try clear d1); omega) (by (try clear n1); (try clear w2); (try clear eT); (try clear wr); (try clear d0); (try clear d1); omega)
        have k1 : qLs (g 82) (qId c) 1 = 0 := by unfold qLs qLs; rw [if_neg (by (try clear n1); (try clear w2); (try clear eT); (try clear wr); (try clear d0); (try clear d1); omega)]; rfl
        rw [k1, Int.sub_zero] at e
        have e' : LockQueue_lockfulsAsCome_b g (g 8 2) 1 = some ((c : Int) - qLs (g 82) (qId c) c) := by rw [q2]; exact e
        rw [e', sb]
    rw [if_neg z2, if_neg z2]
    by_cases z3 : x1 = 3
    · rw [if_pos z3, if_pos z3]
      unfold LockQueue_lockfulsAtBest
      by_cases y : c = 0
      · subst y
        rw [LockQueue_lockfulsAtBest_b, if_pos (by rw [q2, nw_1, nwN _ (by (try clear n1); (try clear w2); (try clear eT); (try clear wr); (try clear d0); (try clear d1); omega)]; decide), sb, q2]
        rfl
      · have e := XL_atBest (wy := g 82) q1 q2 (fun j hj => ⟨rfl, (q4 j hj).2.1⟩) gd.2 q8 (c - 1) 1 (by (try clear n1); (try clear w2); (try clear eT); (try clear wr); (try clear d0); (try clear d1); omega) (by (try clear n1); (try clear w2); (try clear eT); (try clear wr); (try clear d0); (try clear d1); omega)
        have k1 : qLs (g 82) p.2 1 = 0 := by unfold qLs qLs; rw [if_neg (by (try clear n1); (try clear w2); (try clear eT); (try clear wr); (try clear d0); (try clear d1); omega)]; rfl
        rw [k1, Int.sub_zero] at e
        have e' : LockQueue_lockfulsAtBest_b g (g 8 2) 1 = some ((c : Int) - qLs (g 82) p.2 c) := by rw [q2]; exact e
        rw [e', sb]
    rw [if_neg z3, if_neg z3]
    unfold LockQueue_atBest
    have eT : (nw (X_within (x1 - 10) 0 (g 8 2 - 1)) = 0) = (x1 < 10 ∨ 9 + (c : Int) < x1) := by
      rw [q2]
      unfold X_within
      rw [nw_0, nw_id (a := (c : Int) - 1) (by (try clear n1); (try clear w2); (try clear eT); (try clear wr); (try clear d0); (try clear d1); omega) (by (try clear n1); (try clear w2); (try clear eT); (try clear wr); (try clear d0); (try clear d1); omega)]
      have wr : nw (x1 - 10) = if x1 < -2147483638 then x1 - 10 + 4294967296 else x1 - 10 := by
        by_cases z : x1 < -2147483638
        · rw [if_pos z, nw_iff.2 (show (x1 - 10 - (x1 - 10 + 4294967296)) % 4294967296 = 0 by (try clear n1); (try clear w2); (try clear eT); (try clear wr); (try clear d0); (try clear d1); omega), nw_id (by (try clear n1); (try clear w2); (try clear eT); (try clear wr); (try clear d0); (try clear d1); omega) (by (try clear n1); (try clear w2); (try clear eT); (try clear wr); (try clear d0); (try clear d1); omega)]
        · rw [if_neg z, nw_id (by (try clear n1); (try clear w2); (try clear eT); (try clear wr); (try clear d0); (try clear d1); omega) (by (try clear n1); (try clear w2); (try clear eT); (try clear wr); (try clear d0); (try clear d1); omega)]
      rw [wr]
      clear wr
      by_cases z : x1 < -2147483638
      · rw [if_pos z, if_neg (by (try clear n1); (try clear w2); (try clear eT); (try clear wr); (try clear d0); (try clear d1); omega), if_pos (by (try clear n1); (try clear w2); (try clear eT); (try clear wr); (try clear d0); (try clear d1); omega), nw_0]; simp; omega
      · rw [if_neg z]
        by_cases z1 : x1 - 10 < 0
        · rw [if_pos z1, nw_0]; simp; omega
        · rw [if_neg z1]
          by_cases z2 : (c : Int) - 1 < x1 - 10
          · rw [if_pos z2, nw_0]; simp; omega
          · rw [if_neg z2, nw_1]; simp; omega
    by_cases z : 10 ≤ x1 ∧ x1 ≤ 9 + (c : Int)
    · obtain ⟨j, hj⟩ : ∃ j : Nat, x1 = 10 + j := ⟨(x1 - 10).toNat, by (try clear n1); (try clear w2); (try clear eT); (try clear wr); (try clear d0); (try clear d1); omega⟩
      have jc : j < c := by (try clear n1); (try clear w2); (try clear eT); (try clear wr); (try clear d0); (try clear d1); omega
      rw [if_neg (by rw [eT]; clear eT; omega), if_pos z, hj, show (10 + (j : Int) - 10) = j by (try clear n1); (try clear w2); (try clear eT); (try clear wr); (try clear d0); (try clear d1); omega, Int.toNat_natCast]
      clear eT
      have d0 : nw (j : Int) = j := nwN _ (by (try clear n1); (try clear w2); (try clear eT); (try clear wr); (try clear d0); (try clear d1); omega)
      have d1 : ix (j : Int) = j := ixN _ (by (try clear n1); (try clear w2); (try clear eT); (try clear wr); (try clear d0); (try clear d1); omega)
      rw [d0, d1, q8 j jc]
      clear d0 d1
      rw [if_pos (by (try clear n1); (try clear w2); (try clear eT); (try clear wr); (try clear d0); (try clear d1); omega), sb, sb]
    · rw [if_pos (by rw [eT]; clear eT; omega), if_neg z, sb, sb]
  by_cases ok : (0 ≤ x1 ∧ x1 ≤ 3) ∨ (10 ≤ x1 ∧ x1 ≤ 9 + (c : Int))
  · obtain ⟨g1, hg1⟩ : ∃ g1 : AG, g1 = up g 117 64 (-1) := ⟨_, rfl⟩
    have f1 : FR RMO g g1 := by rw [hg1]; exact Fr.up Fr.rf rfl
    obtain ⟨g2, e2, f2, _, B2⟩ := M_orders_t C c 9 0 0 (qId 0) none g1 (by (try clear n1); (try clear w2); (try clear eT); (try clear wr); (try clear d0); (try clear d1); omega) (by (try clear n1); (try clear w2); (try clear eT); (try clear wr); (try clear d0); (try clear d1); omega) (MQ0.fr f1) (fun j hj => by (try clear n1); (try clear w2); (try clear eT); (try clear wr); (try clear d0); (try clear d1); omega) (fun j hj => by (try clear n1); (try clear w2); (try clear eT); (try clear wr); (try clear d0); (try clear d1); omega) (Or.inl ⟨rfl, by rw [hg1, up_at, if_pos ⟨rfl, rfl⟩]⟩)
    rw [qS_left q1 c 0 0 (by (try clear n1); (try clear w2); (try clear eT); (try clear wr); (try clear d0); (try clear d1); omega) (fun j hj => by rw [tb_0]; simp)] at B2
    have q6' : qS (g 81) (g 82) c c 0 0 (qId 0) (some ((qTW (g 81) (g 82) (qId c) c).2, qId c)) = some p := q6
    rw [q6'] at B2
    obtain ⟨b1, b2⟩ : g2 117 64 = p.1 ∧ ∀ j, j < c → g2 161 j = p.2 j := by
      rcases B2 with ⟨a, _⟩ | ⟨p', a, b, _, d⟩
      · cases a
      · have := Option.some.inj a
        subst this
        exact ⟨b, d⟩
    have e2' : M_orders 9 0 0 g1 = some (0, g2) := e2
    have f12 := f1.tr f2
    have MQ2 := MQ0.fr f12
    have top : ∀ r, (M_lock_b x1 1 0 g = r) → M_lock x1 g = r := by
      intro r hr
      unfold M_lock
      by_cases z : 0 ≤ x1 ∧ x1 ≤ 3
      · rw [if_neg (by rw [w1]; clear n1 w1 w2; omega)]; exact hr
      · rw [if_pos (by rw [w1]; clear n1 w1 w2; omega), if_neg (by rw [w2]; clear n1 w1 w2; omega)]; exact hr
    by_cases z : 10 ≤ x1
    · have zc : x1 ≤ 9 + (c : Int) := by (try clear n1); (try clear w2); (try clear eT); (try clear wr); (try clear d0); (try clear d1); omega
      refine ⟨_, (((p.2 (x1 - 10).toNat : Nat) : Int), g2), xE, top _ ?_, ?_, f12⟩
      · rw [M_lock_b.eq_1 _ 1, if_pos rfl, sb, ← hg1, e2', sb, n1, if_neg (by (try clear n1); (try clear w2); (try clear eT); (try clear wr); (try clear d0); (try clear d1); omega)]
        obtain ⟨j, hj⟩ : ∃ j : Nat, x1 = 10 + j := ⟨(x1 - 10).toNat, by (try clear n1); (try clear w2); (try clear eT); (try clear wr); (try clear d0); (try clear d1); omega⟩
        have jc : j < c := by (try clear n1); (try clear w2); (try clear eT); (try clear wr); (try clear d0); (try clear d1); omega
        rw [hj, show (10 + (j : Int) - 10) = j by (try clear n1); (try clear w2); (try clear eT); (try clear wr); (try clear d0); (try clear d1); omega, Int.toNat_natCast]
        clear n1 w1 w2
        have d0 : nw (j : Int) = j := nwN _ (by (try clear n1); (try clear w2); (try clear eT); (try clear wr); (try clear d0); (try clear d1); omega)
        have d1 : ix (j : Int) = j := ixN _ (by (try clear n1); (try clear w2); (try clear eT); (try clear wr); (try clear d0); (try clear d1); omega)
        rw [d0, d1]
        dsimp only
        rw [b2 j jc]
        clear d0 d1
        rw [if_pos (by (try clear n1); (try clear w2); (try clear eT); (try clear wr); (try clear d0); (try clear d1); omega)]
      · clear n1 w1 w2
        rw [if_neg (by (try clear n1); (try clear w2); (try clear eT); (try clear wr); (try clear d0); (try clear d1); omega), if_neg (by (try clear n1); (try clear w2); (try clear eT); (try clear wr); (try clear d0); (try clear d1); omega), if_neg (by (try clear n1); (try clear w2); (try clear eT); (try clear wr); (try clear d0); (try clear d1); omega), if_neg (by (try clear n1); (try clear w2); (try clear eT); (try clear wr); (try clear d0); (try clear d1); omega), if_pos ⟨z, zc⟩]
    · have zx : 0 ≤ x1 ∧ x1 ≤ 3 := by (try clear n1); (try clear w2); (try clear eT); (try clear wr); (try clear d0); (try clear d1); omega
      obtain ⟨g3, e3, f3, p3⟩ := M_asC_s q1 c 0 g2 (by (try clear n1); (try clear w2); (try clear eT); (try clear wr); (try clear d0); (try clear d1); omega) MQ2.1 (fun j hj => by (try clear n1); (try clear w2); (try clear eT); (try clear wr); (try clear d0); (try clear d1); omega)
      have e3' : M_asTheyCome g2 = some (0, g3) := e3
      have f3' : FR RMO g2 g3 := FR.mo f3 rfl
      have MQ3 := MQ2.fr f3'
      have t1 : M_lock_b x1 1 0 g = (if x1 = 1 then M_lock_b x1 2 0 g3 else if x1 = 3 then M_lock_b x1 2 0 g3 else M_lock_b x1 4 0 g3) := by
        rw [M_lock_b.eq_1 _ 1, if_pos rfl, sb, ← hg1, e2', sb, n1, if_pos (by (try clear n1); (try clear w2); (try clear eT); (try clear wr); (try clear d0); (try clear d1); omega)]
        dsimp only
        rw [e3', sb]
      by_cases y : x1 = 1 ∨ x1 = 3
      · obtain ⟨g4, e4, f4, p4⟩ := M_lk3_s (x1 := x1) q1 c 0 g3 (by (try clear n1); (try clear w2); (try clear eT); (try clear wr); (try clear d0); (try clear d1); omega) MQ3.1 (fun j hj => by (try clear n1); (try clear w2); (try clear eT); (try clear wr); (try clear d0); (try clear d1); omega)
        have f4' : FR RMO g3 g4 := FR.mo f4 rfl
        have MQ4 := MQ3.fr f4'
        have l4 := M_lk4_s C MQ4 (o := p.2) gd.2 (fun j hj => by rw [p4 j hj, f3 161 j rfl]; exact b2 j hj) (x1 := x1) (x2 := c) zx
        refine ⟨_, (if 2 ≤ x1 then (c : Int) - qLs (g 82) p.2 c else (qTW (g 81) (g 82) p.2 c).2, g4), xE, top _ ?_, ?_, f12.tr (f3'.tr f4')⟩
        · have t2 : M_lock_b x1 2 0 g3 = M_lock_b x1 3 0 g3 := by
            conv => lhs; rw [M_lock_b.eq_1 _ 2, if_neg (by decide), if_pos rfl]
          have e4' : M_lock_b x1 3 0 g3 = M_lock_b x1 4 c g4 := e4
          rw [t1]
          rcases y with y | y
          · rw [if_pos y, t2, e4', l4]
          · rw [if_neg (by (try clear n1); (try clear w2); (try clear eT); (try clear wr); (try clear d0); (try clear d1); omega), if_pos y, t2, e4', l4]
        · clear n1 w1 w2
          rcases y with y | y
          · rw [if_neg (by (try clear n1); (try clear w2); (try clear eT); (try clear wr); (try clear d0); (try clear d1); omega), if_pos y, gd.1]
            dsimp only
            rw [if_neg (by (try clear n1); (try clear w2); (try clear eT); (try clear wr); (try clear d0); (try clear d1); omega)]
          · rw [if_neg (by (try clear n1); (try clear w2); (try clear eT); (try clear wr); (try clear d0); (try clear d1); omega), if_neg (by (try clear n1); (try clear w2); (try clear eT); (try clear wr); (try clear d0); (try clear d1); omega), if_neg (by (try clear n1); (try clear w2); (try clear eT); (try clear wr); (try clear d0); (try clear d1); omega), if_pos y]
            dsimp only
            rw [if_pos (by (try clear n1); (try clear w2); (try clear eT); (try clear wr); (try clear d0); (try clear d1); omega)]
      · have l4 := M_lk4_s C MQ3 (o := qId c) qId_all p3 (x1 := x1) (x2 := 0) zx
        refine ⟨_, (if 2 ≤ x1 then (c : Int) - qLs (g 82) (qId c) c else (qTW (g 81) (g 82) (qId c) c).2, g3), xE, top _ ?_, ?_, f12.tr f3'⟩
        · rw [t1, if_neg (fun a => y (Or.inl a)), if_neg (fun a => y (Or.inr a)), l4]
        · clear n1 w1 w2
          have y2 : x1 = 0 ∨ x1 = 2 := by (try clear n1); (try clear w2); (try clear eT); (try clear wr); (try clear d0); (try clear d1); omega
          rcases y2 with y2 | y2
          · rw [if_pos y2]
            dsimp only
            rw [if_neg (by (try clear n1); (try clear w2); (try clear eT); (try clear wr); (try clear d0); (try clear d1); omega)]
          · rw [if_neg (by (try clear n1); (try clear w2); (try clear eT); (try clear wr); (try clear d0); (try clear d1); omega), if_neg (by (try clear n1); (try clear w2); (try clear eT); (try clear wr); (try clear d0); (try clear d1); omega), if_pos y2]
            dsimp only
            rw [if_pos (by (try clear n1); (try clear w2); (try clear eT); (try clear wr); (try clear d0); (try clear d1); omega)]
  · refine ⟨_, (-1, g), xE, ?_, ?_, Fr.rf⟩
    · unfold M_lock
      rw [if_pos (by rw [w1]; clear n1 w1 w2; omega), if_pos (by rw [w2]; clear n1 w1 w2; omega)]
    · clear n1 w1 w2
      rw [if_neg (by (try clear n1); (try clear w2); (try clear eT); (try clear wr); (try clear d0); (try clear d1); omega), if_neg (by (try clear n1); (try clear w2); (try clear eT); (try clear wr); (try clear d0); (try clear d1); omega), if_neg (by (try clear n1); (try clear w2); (try clear eT); (try clear wr); (try clear d0); (try clear d1); omega), if_neg (by (try clear n1); (try clear w2); (try clear eT); (try clear wr); (try clear d0); (try clear d1); omega), if_neg (by (try clear n1); (try clear w2); (try clear eT); (try clear wr); (try clear d0); (try clear d1); omega)]
end
