/-! plain programs: the rain, the reference's day -/
abbrev RM : Reg := [(186, 0), (187, 0)]
theorem M_falls_s {i sh : Nat} {v : Int} (hi : i ≤ 2000) (hs : sh ≤ 999) {g : AG} : M_falls i sh v g = some (0, if min 999 i < sh then g else up g 187 (min 999 i) (g 187 (min 999 i) + v)) := by
  have e1 : (if nw (i : Int) ≤ 999 then (i : Int) else 999) = ((min 999 i : Nat) : Int) := by
    rw [nw_id (by omega) (by omega)]
    split <;> omega
  have n1 : nw ((min 999 i : Nat) : Int) = ((min 999 i : Nat) : Int) := by clear e1; exact nw_id (by omega) (by omega)
  have n2 : nw (sh : Int) = sh := by clear e1 n1; exact nw_id (by omega) (by omega)
  have n3 : ix ((min 999 i : Nat) : Int) = min 999 i := by clear e1 n1 n2; rw [ix_id (by omega) (by omega), Int.toNat_natCast]
  unfold M_falls
  rw [e1, sb, n1, n2, n3]
  clear e1 n1 n2 n3
  by_cases z : min 999 i < sh
  · rw [if_pos (by omega), if_pos z, sb]
  · rw [if_neg (by omega), if_pos (by omega), if_neg z, sb, sb]
theorem M_ph1 {u r gn sh : Nat} : ∀ (n k : Nat) (g : AG), k + n = 1000 → (∀ j : Nat, j < k → g 187 j = 0) → ∃ g', M_aDay_b u r gn sh 1 k g = M_aDay_b u r gn sh 2 0 g' ∧ FR [(187, 0)] g g' ∧ ∀ j : Nat, j < 1000 → g' 187 j = 0 := by
  intro n
  induction n with
  | zero =>
    intro k g e hz
    have : k = 1000 := by omega
    subst this
    refine ⟨g, ?_, Fr.rf, hz⟩
    rw [M_aDay_b.eq_1 _ _ _ _ 1 _ g, if_pos rfl, if_pos (by rw [nw_id (by decide) (by decide)]; decide)]
  | succ n ih =>
    intro k g e hz
    have c0 : ¬ 1000 ≤ nw (k : Int) := by rw [nw_id (by omega) (by omega)]; omega
    have c1 : 0 ≤ nw (k : Int) ∧ nw (k : Int) < 1000 := by clear c0; rw [nw_id (by omega) (by omega)]; omega
    have c2 : ix (k : Int) = k := by clear c0 c1; rw [ix_id (by omega) (by omega), Int.toNat_natCast]
    obtain ⟨g', e1, e2, e3⟩ := ih (k + 1) (up g 187 k 0) (by clear c0 c1 c2; omega) (fun j hj => by
      rw [up_at]
      by_cases z : j = k
      · rw [if_pos ⟨rfl, z⟩]
      · rw [if_neg (fun w => z w.2)]; exact hz j (by clear c0 c1 c2; omega))
    refine ⟨g', ?_, (Fr.up Fr.rf rfl : FR [(187, 0)] g _).tr e2, e3⟩
    rw [show ((k + 1 : Nat) : Int) = (k : Int) + 1 from rfl] at e1
    rw [← e1, M_aDay_b.eq_1 _ _ _ _ 1 k g, if_pos rfl, if_neg c0, if_pos c1, c2, sb]
theorem M_ph2 {u r gn sh : Nat} (hu : u ≤ 99) (hr : r ≤ 100) (hg : gn ≤ 99) (hs : sh ≤ 999) {f : Nat → Int} (h : FOk f) : ∀ (n k : Nat) (g : AG), k + n = 1000 → (∀ i : Nat, i < 1000 → g 186 i = f i) → (∀ j : Nat, j < 1000 → g 187 j = if sh ≤ j then rP u r gn f k j else 0) → ∃ g', M_aDay_b u r gn sh 2 k g = M_aDay_b u r gn sh 3 0 g' ∧ FR [(187, 0)] g g' ∧ ∀ j : Nat, j < 1000 → g' 187 j = rday u r gn sh f j := by
  intro n
  induction n with
  | zero =>
    intro k g e hp hq
    have : k = 1000 := by omega
    subst this
    refine ⟨g, ?_, Fr.rf, hq⟩
    rw [M_aDay_b.eq_1 _ _ _ _ 2 _ g, if_neg (by decide), if_pos rfl, if_pos (by rw [nw_id (by decide) (by decide)]; decide)]
  | succ n ih =>
    intro k g e hp hq
    have hk : k < 1000 := by omega
    have s := rsh_rng hr h hk
    have fb := f_ub h hk
    have stp : ∀ j, rP u r gn f (k + 1) j = rP u r gn f k j + rad u r gn f k j := fun j => rfl
    have c0 : ¬ 1000 ≤ nw (k : Int) := by rw [nw_id (by omega) (by omega)]; omega
    have c1 : 0 ≤ nw (k : Int) ∧ nw (k : Int) < 1000 := by clear c0; rw [nw_id (by omega) (by omega)]; omega
    have c2 : ix (k : Int) = k := by clear c0 c1; rw [ix_id (by omega) (by omega), Int.toNat_natCast]
    have c3 : nw (f k) = f k := by clear c0 c1 c2; exact nw_id (by omega) (by omega)
    by_cases z : f k = 0
    · have rz : ∀ j, rad u r gn f k j = 0 := by
        intro j
        unfold rad rsh
        rw [z]
        simp
      obtain ⟨g', e1, e2, e3⟩ := ih (k + 1) g (by clear c0 c1 c2 c3; omega) hp (fun j hj => by rw [stp, rz, Int.add_zero]; exact hq j hj)
      refine ⟨g', ?_, e2, e3⟩
      rw [show ((k + 1 : Nat) : Int) = (k : Int) + 1 from rfl] at e1
      rw [← e1, M_aDay_b.eq_1 _ _ _ _ 2 k g, if_neg (by decide), if_pos rfl, if_neg c0, if_pos c1, c2, hp k hk, c3, if_pos z, sb]
    · have lo : (if nw (u : Int) ≤ nw (k : Int) then ((k : Int) - u) else 0) = (rlo u k : Nat) := by
        rw [show nw (u : Int) = u from nw_id (by clear c0 c1 c2 c3; omega) (by clear c0 c1 c2 c3; omega), show nw (k : Int) = k from nw_id (by clear c0 c1 c2 c3; omega) (by clear c0 c1 c2 c3; omega)]
        clear c0 c1 c2 c3
        unfold rlo
        split <;> omega
      have lb : rlo u k < 1000 := by clear c0 c1 c2 c3 lo; unfold rlo; omega
      have hi : min 999 (rlo u k + gn) = rhi u gn k := rfl
      have l2 : min 999 (rlo u k) = rlo u k := by clear c0 c1 c2 c3 lo; omega
      have aE : (nl ((nw (f k)) * (nw (r : Int)))).tdiv 100 = rsh r f k := by
        rw [c3, show nw (r : Int) = r from nw_id (by clear c0 c1 c2 c3 lo; omega) (by clear c0 c1 c2 c3 lo; omega)]
        clear c0 c1 c2 c3 lo
        have nE : nl (f k * (r : Int)) = f k * (r : Int) := by
          unfold nl
          exact Int.bmod_eq_of_le (by omega) (by omega)
        rw [nE, Int.tdiv_eq_ediv_of_nonneg s.2.2.1]
        rfl
      have m1 := M_falls_s (i := rlo u k + gn) (sh := sh) (v := rsh r f k) (g := g) (by clear c0 c1 c2 c3 lo; omega) hs
      rw [hi, show ((rlo u k + gn : Nat) : Int) = ((rlo u k : Nat) : Int) + gn from rfl] at m1
      obtain ⟨ga, hga⟩ : ∃ ga : AG, ga = if rhi u gn k < sh then g else up g 187 (rhi u gn k) (g 187 (rhi u gn k) + rsh r f k) := ⟨_, rfl⟩
      rw [← hga] at m1
      have m2 := M_falls_s (i := rlo u k) (sh := sh) (v := f k - rsh r f k) (g := ga) (by clear c0 c1 c2 c3 lo; omega) hs
      rw [l2] at m2
      obtain ⟨gb, hgb⟩ : ∃ gb : AG, gb = if rlo u k < sh then ga else up ga 187 (rlo u k) (ga 187 (rlo u k) + (f k - rsh r f k)) := ⟨_, rfl⟩
      rw [← hgb] at m2
      have fa : FR [(187, 0)] g ga := by
        rw [hga]
        split
        · exact Fr.rf
        · exact Fr.up Fr.rf rfl
      have fb2 : FR [(187, 0)] ga gb := by
        rw [hgb]
        split
        · exact Fr.rf
        · exact Fr.up Fr.rf rfl
      have qa : ∀ j : Nat, ga 187 j = g 187 j + if rhi u gn k = j then (if sh ≤ j then rsh r f k else 0) else 0 := by
        intro j
        rw [hga]
        clear c0 c1 c2 c3 lo m1 m2 hga hgb fa fb2 hi l2
        by_cases y : rhi u gn k < sh
        · rw [if_pos y]
          by_cases w : rhi u gn k = j
          · rw [if_pos w, if_neg (by omega)]; omega
          · rw [if_neg w]; omega
        · rw [if_neg y, up_at]
          by_cases w : rhi u gn k = j
          · rw [if_pos ⟨rfl, w.symm⟩, if_pos w, if_pos (by omega), w]
          · rw [if_neg (fun v => w v.2.symm), if_neg w]; omega
      have qb : ∀ j : Nat, gb 187 j = ga 187 j + if rlo u k = j then (if sh ≤ j then f k - rsh r f k else 0) else 0 := by
        intro j
        rw [hgb]
        clear c0 c1 c2 c3 lo m1 m2 hga hgb fa fb2 hi l2 qa
        by_cases y : rlo u k < sh
        · rw [if_pos y]
          by_cases w : rlo u k = j
          · rw [if_pos w, if_neg (by omega)]; omega
          · rw [if_neg w]; omega
        · rw [if_neg y, up_at]
          by_cases w : rlo u k = j
          · rw [if_pos ⟨rfl, w.symm⟩, if_pos w, if_pos (by omega), w]
          · rw [if_neg (fun v => w v.2.symm), if_neg w]; omega
      obtain ⟨g', e1, e2, e3⟩ := ih (k + 1) gb (by clear c0 c1 c2 c3 lo; omega) (fun i hi => by rw [fb2 186 i rfl, fa 186 i rfl]; exact hp i hi) (fun j hj => by
        rw [stp, qb, qa, hq j hj]
        clear c0 c1 c2 c3 lo m1 m2 hga hgb fa fb2 hi l2 qa qb
        unfold rad
        by_cases y : sh ≤ j
        · simp only [if_pos y]; omega
        · simp only [if_neg y]; split <;> split <;> rfl)
      refine ⟨g', ?_, (fa.tr fb2).tr e2, e3⟩
      rw [show ((k + 1 : Nat) : Int) = (k : Int) + 1 from rfl] at e1
      rw [← e1, M_aDay_b.eq_1 _ _ _ _ 2 k g, if_neg (by decide), if_pos rfl, if_neg c0, if_pos c1, c2, hp k hk, if_neg (by rw [c3]; exact z), lo, sb, aE, m1, sb]
      dsimp only
      rw [fa 186 k rfl, hp k hk, m2, sb, sb]
theorem M_ph3 {u r gn sh : Nat} {h : Nat → Int} : ∀ (n k : Nat) (g : AG), k + n = 1000 → (∀ j : Nat, j < k → g 186 j = h j) → (∀ j : Nat, j < 1000 → g 187 j = h j) → ∃ g', M_aDay_b u r gn sh 3 k g = some (0, g') ∧ FR RM g g' ∧ ∀ j : Nat, j < 1000 → g' 186 j = h j := by
  intro n
  induction n with
  | zero =>
    intro k g e hz hq
    have : k = 1000 := by omega
    subst this
    refine ⟨g, ?_, Fr.rf, hz⟩
    rw [M_aDay_b.eq_1 _ _ _ _ 3 _ g, if_neg (by decide), if_neg (by decide), if_pos rfl, if_pos (by rw [nw_id (by decide) (by decide)]; decide)]
  | succ n ih =>
    intro k g e hz hq
    have c0 : ¬ 1000 ≤ nw (k : Int) := by rw [nw_id (by omega) (by omega)]; omega
    have c1 : 0 ≤ nw (k : Int) ∧ nw (k : Int) < 1000 := by clear c0; rw [nw_id (by omega) (by omega)]; omega
    have c2 : ix (k : Int) = k := by clear c0 c1; rw [ix_id (by omega) (by omega), Int.toNat_natCast]
    obtain ⟨g', e1, e2, e3⟩ := ih (k + 1) (up g 186 k (g 187 k)) (by clear c0 c1 c2; omega) (fun j hj => by
      rw [up_at]
      by_cases z : j = k
      · rw [if_pos ⟨rfl, z⟩, z]; exact hq k (by clear c0 c1 c2; omega)
      · rw [if_neg (fun w => z w.2)]; exact hz j (by clear c0 c1 c2; omega)) (fun j hj => by rw [up_at, if_neg (fun w => absurd w.1 (by decide))]; exact hq j hj)
    refine ⟨g', ?_, (Fr.up Fr.rf rfl : FR RM g _).tr e2, e3⟩
    rw [show ((k + 1 : Nat) : Int) = (k : Int) + 1 from rfl] at e1
    rw [← e1, M_aDay_b.eq_1 _ _ _ _ 3 k g, if_neg (by decide), if_neg (by decide), if_pos rfl, if_neg c0, if_pos c1, c2, sb]
theorem M_day {u r gn sh : Nat} (hu : u ≤ 99) (hr : r ≤ 100) (hg : gn ≤ 99) (hs : sh ≤ 999) {f : Nat → Int} (h : FOk f) {g : AG} (hp : ∀ i : Nat, i < 1000 → g 186 i = f i) : ∃ g', M_aDay u r gn sh g = some (0, g') ∧ FR RM g g' ∧ ∀ i : Nat, i < 1000 → g' 186 i = rday u r gn sh f i := by
  obtain ⟨g1, e1, f1, z1⟩ := M_ph1 (u := u) (r := r) (gn := gn) (sh := sh) 1000 0 g rfl (fun j hj => by omega)
  obtain ⟨g2, e2, f2, z2⟩ := M_ph2 hu hr hg hs h 1000 0 g1 rfl (fun i hi => by rw [f1 186 i rfl]; exact hp i hi) (fun j hj => by rw [z1 j hj]; split <;> rfl)
  obtain ⟨g3, e3, f3, z3⟩ := M_ph3 (u := u) (r := r) (gn := gn) (sh := sh) 1000 0 g2 rfl (fun j hj => by omega) z2
  refine ⟨g3, ?_, ((FR.mo f1 rfl).tr (FR.mo f2 rfl)).tr f3, z3⟩
  unfold M_aDay
  have e1' : M_aDay_b u r gn sh 1 0 g = _ := e1
  have e2' : M_aDay_b u r gn sh 2 0 g1 = _ := e2
  have e3' : M_aDay_b u r gn sh 3 0 g2 = _ := e3
  rw [e1', e2', e3']
theorem M_kept_s {f : Nat → Int} {g : AG} (hp : ∀ i : Nat, i < 1000 → g 186 i = f i) : ∀ (n k : Nat) (a : Int), k + n = 1000 → a = sm f k → M_kept_b g a k = some (sm f 1000) := by
  intro n
  induction n with
  | zero =>
    intro k a e ha
    have : k = 1000 := by omega
    subst this
    rw [M_kept_b, if_pos (by rw [nw_id (by decide) (by decide)]; decide), ha]
  | succ n ih =>
    intro k a e ha
    have c0 : ¬ 1000 ≤ nw (k : Int) := by rw [nw_id (by omega) (by omega)]; omega
    have c1 : 0 ≤ nw (k : Int) ∧ nw (k : Int) < 1000 := by clear c0; rw [nw_id (by omega) (by omega)]; omega
    have c2 : ix (k : Int) = k := by clear c0 c1; rw [ix_id (by omega) (by omega), Int.toNat_natCast]
    have e1 := ih (k + 1) (a + f k) (by clear c0 c1 c2; omega) (by rw [ha]; rfl)
    rw [show ((k + 1 : Nat) : Int) = (k : Int) + 1 from rfl] at e1
    rw [← e1, M_kept_b, if_neg c0, if_pos c1, c2, hp k (by clear c0 c1 c2; omega)]
