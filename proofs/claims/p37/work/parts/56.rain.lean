/-! plain programs: the rain, day by day -/
def rlo (u i : Nat) : Nat := i - u
def rhi (u gn i : Nat) : Nat := min 999 (i - u + gn)
def rsh (r : Nat) (f : Nat → Int) (i : Nat) : Int := f i * r / 100
def rad (u r gn : Nat) (f : Nat → Int) (i j : Nat) : Int := (if rhi u gn i = j then rsh r f i else 0) + (if rlo u i = j then f i - rsh r f i else 0)
def rP (u r gn : Nat) (f : Nat → Int) (k j : Nat) : Int := sm (fun i => rad u r gn f i j) k
def rday (u r gn sh : Nat) (f : Nat → Int) (j : Nat) : Int := if sh ≤ j then rP u r gn f 1000 j else 0
def FOk (f : Nat → Int) : Prop := (∀ i, i < 1000 → 0 ≤ f i) ∧ sm f 1000 ≤ 1000000
theorem sm_add2 (a b : Nat → Int) : ∀ n, sm (fun j => a j + b j) n = sm a n + sm b n
  | 0 => rfl
  | n + 1 => by show sm (fun j => a j + b j) n + (a n + b n) = (sm a n + a n) + (sm b n + b n); rw [sm_add2 a b n]; omega
theorem sm_z : ∀ n, sm (fun _ => 0) n = 0
  | 0 => rfl
  | n + 1 => by show sm (fun _ => 0) n + 0 = 0; rw [sm_z n]; rfl
theorem sm_one (v : Int) {c : Nat} : ∀ n, sm (fun j => if c = j then v else 0) n = if c < n then v else 0
  | 0 => by rw [if_neg (by omega)]; rfl
  | n + 1 => by
    show sm (fun j => if c = j then v else 0) n + (if c = n then v else 0) = _
    rw [sm_one v n]
    by_cases h1 : c < n
    · rw [if_pos h1, if_neg (by omega), if_pos (by omega)]; omega
    · by_cases h2 : c = n
      · rw [if_neg h1, if_pos h2, if_pos (by omega)]; omega
      · rw [if_neg h1, if_neg h2, if_neg (by omega)]; rfl
theorem sm_swap (F : Nat → Nat → Int) (m : Nat) : ∀ n, sm (fun j => sm (fun i => F i j) n) m = sm (fun i => sm (fun j => F i j) m) n
  | 0 => sm_z m
  | n + 1 => by
    show sm (fun j => sm (fun i => F i j) n + F n j) m = sm (fun i => sm (fun j => F i j) m) n + sm (fun j => F n j) m
    rw [sm_add2 (fun j => sm (fun i => F i j) n) (fun j => F n j) m, sm_swap F m n]
theorem f_ub {f : Nat → Int} (h : FOk f) {i : Nat} (hi : i < 1000) : f i ≤ 1000000 := by
  have a := sm_pre (f := f) (n := i + 1) 1000 (by omega) h.1
  have b : sm f (i + 1) = sm f i + f i := rfl
  have c := sm_nn (f := f) i (fun j hj => h.1 j (by omega))
  have d := h.2
  omega
theorem rsh_rng {r : Nat} (hr : r ≤ 100) {f : Nat → Int} (h : FOk f) {i : Nat} (hi : i < 1000) : 0 ≤ rsh r f i ∧ rsh r f i ≤ f i ∧ 0 ≤ f i * r ∧ f i * r ≤ 100000000 := by
  have a := h.1 i hi
  have b := f_ub h hi
  have c0 : 0 ≤ f i * (r : Int) := Int.mul_nonneg a (by omega)
  have c1 : f i * (r : Int) ≤ f i * 100 := Int.mul_le_mul_of_nonneg_left (by omega) a
  unfold rsh
  generalize f i * (r : Int) = q at *
  omega
theorem rad_nn {u r gn : Nat} (hr : r ≤ 100) {f : Nat → Int} (h : FOk f) {i j : Nat} (hi : i < 1000) : 0 ≤ rad u r gn f i j := by
  have a := rsh_rng hr h hi
  have b := h.1 i hi
  unfold rad
  split <;> split <;> omega
theorem rP_nn {u r gn : Nat} (hr : r ≤ 100) {f : Nat → Int} (h : FOk f) {k j : Nat} (hk : k ≤ 1000) : 0 ≤ rP u r gn f k j := sm_nn k (fun i hi => rad_nn hr h (by omega))
theorem rad_sum {u r gn : Nat} {f : Nat → Int} {i : Nat} (hi : i < 1000) : sm (fun j => rad u r gn f i j) 1000 = f i := by
  unfold rad
  rw [sm_add2 (fun j => if rhi u gn i = j then rsh r f i else 0) (fun j => if rlo u i = j then f i - rsh r f i else 0) 1000, sm_one, sm_one, if_pos (by unfold rhi; omega), if_pos (by unfold rlo; omega)]
  omega
theorem rP_sum {u r gn : Nat} {f : Nat → Int} : sm (fun j => rP u r gn f 1000 j) 1000 = sm f 1000 := by
  unfold rP
  rw [sm_swap (fun i j => rad u r gn f i j) 1000 1000]
  exact sm_cg 1000 (fun i hi => rad_sum hi)
theorem rday_ok {u r gn sh : Nat} (hr : r ≤ 100) {f : Nat → Int} (h : FOk f) : FOk (rday u r gn sh f) := by
  refine ⟨fun i hi => ?_, ?_⟩
  · unfold rday
    have := rP_nn (u := u) (gn := gn) hr h (j := i) (Nat.le_refl 1000)
    split <;> omega
  · have a := sm_mono (f := rday u r gn sh f) (h := fun j => rP u r gn f 1000 j) 1000 (fun i hi => by
      have := rP_nn (u := u) (gn := gn) hr h (j := i) (Nat.le_refl 1000)
      unfold rday
      split <;> omega)
    rw [rP_sum] at a
    have := h.2
    omega
abbrev RR : Reg := [(115, 0), (116, 0)]
abbrev PQ (p q : Nat) : Prop := (p = 115 ∧ q = 116) ∨ (p = 116 ∧ q = 115)
theorem PQ.w {p q : Nat} (h : PQ p q) (i : Nat) : inR RR q i = true := by rcases h with ⟨a, b⟩ | ⟨a, b⟩ <;> rw [b] <;> rfl
theorem PQ.r {p q : Nat} (h : PQ p q) : ((p : Int) = 115 ∨ (p : Int) = 116) ∧ ((q : Int) = 115 ∨ (q : Int) = 116) ∧ p ≠ q ∧ p ≠ 12 ∧ q ≠ 12 := by rcases h with ⟨a, b⟩ | ⟨a, b⟩ <;> subst a <;> subst b <;> decide
theorem X_ph1 {u r gn sh : Nat} (hu : u ≤ 99) (hr : r ≤ 100) (hg : gn ≤ 99) {f : Nat → Int} (h : FOk f) {p q : Nat} (pq : PQ p q) : ∀ (n k : Nat) (g : AG), k + n = 1000 → g 12 0 = p → g 12 1 = q → (∀ i : Nat, i < 1000 → g p i = f i) → (∀ j : Nat, j < 1000 → g q j = rP u r gn f k j) → ∃ g', Rain_passDay_b u r gn sh 1 k g = Rain_passDay_b u r gn sh 1 1000 g' ∧ FR RR g g' ∧ (∀ i : Nat, g' p i = g p i) ∧ ∀ j : Nat, j < 1000 → g' q j = rP u r gn f 1000 j := by
  obtain ⟨cp, cq, ne, n1, n2⟩ := pq.r
  intro n
  induction n with
  | zero =>
    intro k g e _ _ _ hq
    have : k = 1000 := by omega
    subst this
    exact ⟨g, rfl, Fr.rf, fun _ => rfl, hq⟩
  | succ n ih =>
    intro k g e h0 h1 hp hq
    have hk : k < 1000 := by omega
    have s := rsh_rng hr h hk
    have fb := f_ub h hk
    have stp : ∀ j, rP u r gn f (k + 1) j = rP u r gn f k j + rad u r gn f k j := fun j => rfl
    have c0 : ¬ 1000 ≤ nw (k : Int) := by rw [nw_id (by omega) (by omega)]; omega
    have c1 : 0 ≤ nw (k : Int) ∧ nw (k : Int) < 1000 := by clear c0; rw [nw_id (by omega) (by omega)]; omega
    have c2 : ix (k : Int) = k := by clear c0 c1; rw [ix_id (by omega) (by omega), Int.toNat_natCast]
    have c3 : nw (f k) = f k := by clear c0 c1 c2; exact nw_id (by omega) (by omega)
    by_cases z : f k ≤ 0
    · have fz : f k = 0 := by have := h.1 k hk; clear c0 c1 c2 c3; omega
      have rz : ∀ j, rad u r gn f k j = 0 := by
        intro j
        unfold rad rsh
        rw [fz]
        simp
      obtain ⟨g', e1, e2, e3, e4⟩ := ih (k + 1) g (by clear c0 c1 c2 c3; omega) h0 h1 hp (fun j hj => by rw [stp, rz, Int.add_zero]; exact hq j hj)
      refine ⟨g', ?_, e2, e3, e4⟩
      rw [show ((k + 1 : Nat) : Int) = (k : Int) + 1 from rfl] at e1
      rw [← e1, Rain_passDay_b.eq_1 _ _ _ _ 1 k g, if_pos rfl, if_neg c0, h0, if_pos cp, if_pos c1, c2, Int.toNat_natCast, hp k hk, c3, if_pos z, sb]
    · have lo : mxI 0 ((k : Int) - u) = (rlo u k : Nat) := by
        clear c0 c1 c2 c3
        rw [mxI_s (by omega) (by omega) (by omega) (by omega)]
        unfold rlo
        omega
      have hi : mnI 999 (((rlo u k : Nat) : Int) + gn) = (rhi u gn k : Nat) := by
        clear c0 c1 c2 c3 lo
        have : rlo u k ≤ 1000 := by unfold rlo; omega
        rw [mnI_s (by omega) (by omega) (by omega) (by omega)]
        unfold rhi rlo
        omega
      have lb : rlo u k < 1000 := by clear c0 c1 c2 c3 lo hi; unfold rlo; omega
      have hb : rhi u gn k < 1000 := by clear c0 c1 c2 c3 lo hi; unfold rhi; omega
      have l1 : 0 ≤ nw ((rlo u k : Nat) : Int) ∧ nw ((rlo u k : Nat) : Int) < 1000 := by clear c0 c1 c2 c3 lo hi; rw [nw_id (by omega) (by omega)]; omega
      have l2 : ix ((rlo u k : Nat) : Int) = rlo u k := by clear c0 c1 c2 c3 lo hi l1; rw [ix_id (by omega) (by omega), Int.toNat_natCast]
      have m1 : 0 ≤ nw ((rhi u gn k : Nat) : Int) ∧ nw ((rhi u gn k : Nat) : Int) < 1000 := by clear c0 c1 c2 c3 lo hi l1 l2; rw [nw_id (by omega) (by omega)]; omega
      have m2 : ix ((rhi u gn k : Nat) : Int) = rhi u gn k := by clear c0 c1 c2 c3 lo hi l1 l2 m1; rw [ix_id (by omega) (by omega), Int.toNat_natCast]
      have aE : (nw (f k * (r : Int))).tdiv 100 = rsh r f k := by
        clear c0 c1 c2 c3 lo hi l1 l2 m1 m2
        rw [nw_id (by omega) (by omega), Int.tdiv_eq_ediv_of_nonneg s.2.2.1]
        rfl
      obtain ⟨ga, hga⟩ : ∃ ga : AG, ga = up g q (rhi u gn k) (g q (rhi u gn k) + rsh r f k) := ⟨_, rfl⟩
      obtain ⟨gb, hgb⟩ : ∃ gb : AG, gb = up ga q (rlo u k) (ga q (rlo u k) + (f k - rsh r f k)) := ⟨_, rfl⟩
      have a12 : ∀ i, ga 12 i = g 12 i := fun i => by rw [hga, up_at, if_neg (fun z => n2 z.1.symm)]
      have ap : ∀ i, ga p i = g p i := fun i => by rw [hga, up_at, if_neg (fun z => ne z.1)]
      have b12 : ∀ i, gb 12 i = g 12 i := fun i => by rw [hgb, up_at, if_neg (fun z => n2 z.1.symm), a12]
      have bp : ∀ i, gb p i = g p i := fun i => by rw [hgb, up_at, if_neg (fun z => ne z.1), ap]
      have fb : FR RR g gb := by rw [hgb, hga]; exact Fr.up (Fr.up Fr.rf (pq.w _)) (pq.w _)
      have qb : ∀ j : Nat, j < 1000 → gb q j = rP u r gn f (k + 1) j := by
        intro j hj
        rw [stp, ← hq j hj, hgb, hga]
        clear c0 c1 c2 c3 lo hi l1 l2 m1 m2 aE
        unfold rad
        simp only [up_at, true_and]
        by_cases w1 : rlo u k = j
        · by_cases w2 : rhi u gn k = j
          · rw [if_pos w1.symm, if_pos (by omega), if_pos w2, if_pos w1, w2]; omega
          · rw [if_pos w1.symm, if_neg (by omega), if_neg w2, if_pos w1, w1]; omega
        · by_cases w2 : rhi u gn k = j
          · rw [if_neg (fun e => w1 e.symm), if_pos w2.symm, if_pos w2, if_neg w1, w2]; omega
          · rw [if_neg (fun e => w1 e.symm), if_neg (fun e => w2 e.symm), if_neg w2, if_neg w1]; omega
      obtain ⟨g', e1, e2, e3, e4⟩ := ih (k + 1) gb (by clear c0 c1 c2 c3 lo hi l1 l2 m1 m2 aE; omega) (by rw [b12]; exact h0) (by rw [b12]; exact h1) (fun i hi => by rw [bp]; exact hp i hi) qb
      refine ⟨g', ?_, fb.tr e2, fun i => by rw [e3, bp], e4⟩
      rw [show ((k + 1 : Nat) : Int) = (k : Int) + 1 from rfl] at e1
      rw [← e1, Rain_passDay_b.eq_1 _ _ _ _ 1 k g, if_pos rfl, if_neg c0, h0, if_pos cp, if_pos c1, c2, Int.toNat_natCast, hp k hk, c3, if_neg z, if_pos cp, h1, if_pos cq, lo, hi, if_pos m1, m2, Int.toNat_natCast, aE, sb, ← hga, a12, a12, h1, h0, if_pos cq, if_pos l1, if_pos cp, l2, Int.toNat_natCast, Int.toNat_natCast, ap, hp k hk, ← hgb, sb, sb]
