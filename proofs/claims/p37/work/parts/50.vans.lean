/-! plain programs: the van -/
def dvF (rd : Nat → Int) (a b : Nat) : Int := if a ≤ b then sm rd b - sm rd a else sm rd a - sm rd b
theorem sm_step (f : Nat → Int) (n : Nat) : sm f (n + 1) = sm f n + f n := rfl
theorem sm_rng {f : Nat → Int} (h : ∀ i, i < 15 → 1 ≤ f i ∧ f i ≤ 99) {a b : Nat} (hab : a ≤ b) (hb : b ≤ 15) : 0 ≤ sm f b - sm f a ∧ sm f b - sm f a ≤ 99 * ((b : Int) - a) := by
  obtain ⟨n, rfl⟩ : ∃ n, b = a + n := ⟨b - a, by omega⟩
  clear hab
  induction n with
  | zero => simp
  | succ n ih =>
    have := ih (by omega)
    have h1 := h (a + n) (by omega)
    rw [show a + (n + 1) = (a + n) + 1 by omega, sm_step]
    omega
theorem dv_rng {rd : Nat → Int} (h : ∀ i, i < 15 → 1 ≤ rd i ∧ rd i ≤ 99) {a b : Nat} (ha : a ≤ 15) (hb : b ≤ 15) : 0 ≤ dvF rd a b ∧ dvF rd a b ≤ 1485 := by
  unfold dvF
  split
  · next q => have := sm_rng h q hb; omega
  · next q => have := sm_rng h (a := b) (b := a) (by omega) ha; omega
theorem dv_cg {f h : Nat → Int} (e : ∀ i, i < 15 → f i = h i) {a b : Nat} (ha : a ≤ 15) (hb : b ≤ 15) : dvF f a b = dvF h a b := by
  unfold dvF
  rw [sm_cg a (fun i hi => e i (by omega)), sm_cg b (fun i hi => e i (by omega))]
theorem M_drive_b_s {g : AG} {a b : Nat} (ha : a ≤ 15) (hb : b ≤ 15) (hr : ∀ i, i < 15 → 1 ≤ g 120 i ∧ g 120 i ≤ 99) : ∀ (n k : Nat) (acc : Int), k + n = max a b → M_drive_b a b g acc k = some (acc + (sm (g 120) (max a b) - sm (g 120) k)) := by
  have mx : (if nw (b : Int) ≤ nw (a : Int) then (a : Int) else b) = ((max a b : Nat) : Int) := by
    have n1 : nw (a : Int) = a := nw_id (by omega) (by omega)
    have n2 : nw (b : Int) = b := by clear n1; exact nw_id (by omega) (by omega)
    rw [n1, n2]
    clear n1 n2
    split <;> omega
  intro n
  induction n with
  | zero =>
    intro k acc h
    have c0 : nw ((max a b : Nat) : Int) ≤ nw (k : Int) := by clear mx; rw [nw_id (by omega) (by omega), nw_id (by omega) (by omega)]; omega
    rw [M_drive_b, sb, mx, if_pos c0, show k = max a b by clear mx c0; omega]
    exact congrArg some (by clear mx c0; omega)
  | succ n ih =>
    intro k acc h
    have c0 : ¬ nw ((max a b : Nat) : Int) ≤ nw (k : Int) := by clear mx; rw [nw_id (by omega) (by omega), nw_id (by omega) (by omega)]; omega
    have c1 : 0 ≤ nw (k : Int) ∧ nw (k : Int) < 15 := by clear mx c0; rw [nw_id (by omega) (by omega)]; omega
    have c2 : ix (k : Int) = k := by clear mx c0 c1; rw [ix_id (by omega) (by omega), Int.toNat_natCast]
    have e := ih (k + 1) (acc + g 120 k) (by clear mx c0 c1; omega)
    rw [show ((k + 1 : Nat) : Int) = (k : Int) + 1 from rfl] at e
    rw [M_drive_b, sb, mx, if_neg c0, if_pos c1, c2, e, sm_step]
    clear mx c0 c1 c2 e
    congr 1
    omega
theorem M_drive_s {g : AG} {a b : Nat} (ha : a ≤ 15) (hb : b ≤ 15) (hr : ∀ i, i < 15 → 1 ≤ g 120 i ∧ g 120 i ≤ 99) : M_drive a b g = some (dvF (g 120) a b) := by
  have mx : (if nw (b : Int) ≤ nw (a : Int) then (b : Int) else a) = ((min a b : Nat) : Int) := by
    have n1 : nw (a : Int) = a := nw_id (by omega) (by omega)
    have n2 : nw (b : Int) = b := by clear n1; exact nw_id (by omega) (by omega)
    rw [n1, n2]
    clear n1 n2
    split <;> omega
  unfold M_drive
  rw [mx, sb, M_drive_b_s ha hb hr (max a b - min a b) (min a b) 0 (by clear mx; omega)]
  clear mx
  unfold dvF
  by_cases q : a ≤ b
  · rw [if_pos q, show max a b = b by omega, show min a b = a by omega, Int.zero_add]
  · rw [if_neg q, show max a b = a by omega, show min a b = b by omega, Int.zero_add]
def JAlong (g : AG) : Prop := g 108 0 = 0
theorem measure_s : ∀ (n k : Nat) (g : AG), k + n = 15 → (∀ i : Nat, i ≤ k → g 108 i = sm (g 15) i) → ∃ g', Vans_measure_b k g = some (0, g') ∧ FR [(108, 0)] g g' ∧ (∀ i : Nat, i ≤ 15 → g' 108 i = sm (g 15) i) := by
  intro n
  induction n with
  | zero =>
    intro k g h hg
    refine ⟨g, ?_, Fr.rf, fun i hi => hg i (by omega)⟩
    rw [Vans_measure_b]
    simp (disch := omega) only [nw_id, ix_id, sb, if_true, if_false, if_pos, if_neg, true_and, and_true, false_and, and_false, and_self]
  | succ n ih =>
    intro k g h hg
    have f1 : FR [(108, 0)] g (up g 108 (k + 1) (g 108 k + g 15 k)) := Fr.up Fr.rf rfl
    have c15 : (up g 108 (k + 1) (g 108 k + g 15 k)) 15 = g 15 := f1.cell (fun _ => rfl)
    obtain ⟨g2, e2, f2, p2⟩ := ih (k + 1) (up g 108 (k + 1) (g 108 k + g 15 k)) (by omega) (by
      intro i hi
      rw [c15]
      simp only [up_at, true_and]
      by_cases e : i = k + 1
      · rw [if_pos e, e, sm_step, hg k (Nat.le_refl _)]
      · rw [if_neg e]; exact hg i (by omega))
    rw [c15] at p2
    rw [show ((k + 1 : Nat) : Int) = (k : Int) + 1 from rfl] at e2
    refine ⟨g2, ?_, f1.tr f2, p2⟩
    rw [Vans_measure_b]
    simp (disch := omega) only [nw_id, ix_id, sb, if_true, if_false, if_pos, if_neg, true_and, and_true, false_and, and_false, and_self, Int.toNat_natCast, show ((k : Int) + 1).toNat = k + 1 by omega]
    exact e2
theorem minutes_s {g : AG} {rd : Nat → Int} {a b : Nat} (ha : a ≤ 15) (hb : b ≤ 15) (hr : ∀ i, i < 15 → 1 ≤ rd i ∧ rd i ≤ 99) (hg : ∀ i : Nat, i ≤ 15 → g 108 i = sm rd i) : Vans_minutes a b g = some (dvF rd a b) := by
  have c1 : 0 ≤ nw (a : Int) ∧ nw (a : Int) < 16 := by rw [nw_id (by omega) (by omega)]; omega
  have c2 : 0 ≤ nw (b : Int) ∧ nw (b : Int) < 16 := by clear c1; rw [nw_id (by omega) (by omega)]; omega
  have c3 : ix (a : Int) = a := by clear c1 c2; rw [ix_id (by omega) (by omega), Int.toNat_natCast]
  have c4 : ix (b : Int) = b := by clear c1 c2 c3; rw [ix_id (by omega) (by omega), Int.toNat_natCast]
  unfold Vans_minutes
  rw [if_pos c1, if_pos c2, c3, c4, hg a ha, hg b hb]
  clear c1 c2 c3 c4
  congr 1
  unfold abI dvF
  by_cases q : a ≤ b
  · have := sm_rng hr q hb
    rw [if_pos q, nw_id (by omega) (by omega)]
    split <;> omega
  · have := sm_rng hr (a := b) (b := a) (by omega) ha
    rw [if_neg q, nw_id (by omega) (by omega)]
    split <;> omega
/-- what stands, for the van: the roads rd, the weights w -/
def VX (g : AG) (rd w : Nat → Int) : Prop := (∀ i, i < 15 → 1 ≤ rd i ∧ rd i ≤ 99) ∧ (∀ i : Nat, i ≤ 15 → g 108 i = sm rd i) ∧ (∀ p : Nat, p < 16 → g 107 p = w p ∧ 0 ≤ w p ∧ w p ≤ 99)
def VM (g : AG) (rd w : Nat → Int) : Prop := (∀ i, i < 15 → 1 ≤ rd i ∧ rd i ≤ 99) ∧ (∀ i, i < 15 → g 120 i = rd i) ∧ (∀ p : Nat, p < 16 → g 180 p = w p ∧ 0 ≤ w p ∧ w p ≤ 99)
theorem VM.drive {g : AG} {rd w : Nat → Int} (V : VM g rd w) {a b : Nat} (ha : a ≤ 15) (hb : b ≤ 15) : M_drive a b g = some (dvF rd a b) := by
  rw [M_drive_s ha hb (fun i hi => by rw [V.2.1 i hi]; exact V.1 i hi), dv_cg V.2.1 ha hb]
def suF (rd w : Nat → Int) (a b : Nat) : Nat → Int := sm (fun q => w q * min (dvF rd a q) (dvF rd b q))
theorem mul_rng {x y : Int} (h1 : 0 ≤ x) (h2 : x ≤ 99) (h3 : 0 ≤ y) (h4 : y ≤ 1485) : 0 ≤ x * y ∧ x * y ≤ 147015 := by
  refine ⟨Int.mul_nonneg h1 h3, ?_⟩
  have := Int.mul_le_mul h2 h4 h3 (by decide)
  omega
theorem su_rng {rd w : Nat → Int} (hr : ∀ i, i < 15 → 1 ≤ rd i ∧ rd i ≤ 99) (hw : ∀ p : Nat, p < 16 → 0 ≤ w p ∧ w p ≤ 99) {a b : Nat} (ha : a ≤ 15) (hb : b ≤ 15) : ∀ n, n ≤ 16 → 0 ≤ suF rd w a b n ∧ suF rd w a b n ≤ 147015 * n := by
  intro n
  induction n with
  | zero => intro _; exact ⟨Int.le_refl _, Int.le_refl _⟩
  | succ n ih =>
    intro h
    have := ih (by omega)
    have d1 := dv_rng hr ha (b := n) (by omega)
    have d2 := dv_rng hr hb (b := n) (by omega)
    have m := mul_rng (x := w n) (y := min (dvF rd a n) (dvF rd b n)) (hw n (by omega)).1 (hw n (by omega)).2 (by omega) (by omega)
    show 0 ≤ suF rd w a b n + w n * min (dvF rd a n) (dvF rd b n) ∧ suF rd w a b n + w n * min (dvF rd a n) (dvF rd b n) ≤ _
    omega
theorem X_sumFrom_s {g : AG} {rd w : Nat → Int} (V : VX g rd w) {a b : Nat} (ha : a ≤ 15) (hb : b ≤ 15) : Vans_sumFrom a b g = some (suF rd w a b 16) := by
  obtain ⟨hr, hg, hw⟩ := V
  have key : ∀ (n k : Nat), k + n = 16 → Vans_sumFrom_b a b g (suF rd w a b k) k = some (suF rd w a b 16) := by
    intro n
    induction n with
    | zero =>
      intro k h
      rw [Vans_sumFrom_b]
      have : k = 16 := by omega
      subst this
      simp (disch := omega) only [nw_id, ix_id, sb, if_true, if_false, if_pos, if_neg, true_and, and_true, false_and, and_false, and_self]
    | succ n ih =>
      intro k h
      have e := ih (k + 1) (by omega)
      rw [show ((k + 1 : Nat) : Int) = (k : Int) + 1 from rfl] at e
      have d1 := dv_rng hr ha (b := k) (by omega)
      have d2 := dv_rng hr hb (b := k) (by omega)
      have mn : mnI (dvF rd a k) (dvF rd b k) = min (dvF rd a k) (dvF rd b k) := mnI_s (by omega) (by omega) (by omega) (by omega)
      have m1 := minutes_s (g := g) ha (b := k) (by omega) hr hg
      have m2 := minutes_s (g := g) hb (b := k) (by omega) hr hg
      have c0 : ¬ 16 ≤ nw (k : Int) := by clear mn; rw [nw_id (by omega) (by omega)]; omega
      have c1 : 0 ≤ nw (k : Int) ∧ nw (k : Int) < 16 := by clear c0 mn; rw [nw_id (by omega) (by omega)]; omega
      have c2 : ix (k : Int) = k := by clear c0 c1 mn; rw [ix_id (by omega) (by omega), Int.toNat_natCast]
      rw [← e, Vans_sumFrom_b, if_neg c0, if_pos c1, m1, sb, m2, sb, c2, (hw k (by clear c0 c1 mn; omega)).1, mn]
      rfl
  exact key 16 0 rfl
theorem M_sumOf_s {g : AG} {rd w : Nat → Int} (V : VM g rd w) {p : Nat} (hp : p ≤ 15) : M_sumOf p g = some (suF rd w p p 16) := by
  have key : ∀ (n k : Nat), k + n = 16 → M_sumOf_b p g (suF rd w p p k) k = some (suF rd w p p 16) := by
    intro n
    induction n with
    | zero =>
      intro k h
      rw [M_sumOf_b]
      have : k = 16 := by omega
      subst this
      simp (disch := omega) only [nw_id, ix_id, sb, if_true, if_false, if_pos, if_neg, true_and, and_true, false_and, and_false, and_self]
    | succ n ih =>
      intro k h
      have e := ih (k + 1) (by omega)
      rw [show ((k + 1 : Nat) : Int) = (k : Int) + 1 from rfl] at e
      have m1 := V.drive hp (b := k) (by omega)
      have c0 : ¬ 16 ≤ nw (k : Int) := by rw [nw_id (by omega) (by omega)]; omega
      have c1 : 0 ≤ nw (k : Int) ∧ nw (k : Int) < 16 := by clear c0; rw [nw_id (by omega) (by omega)]; omega
      have c2 : ix (k : Int) = k := by clear c0 c1; rw [ix_id (by omega) (by omega), Int.toNat_natCast]
      have mn : min (dvF rd p k) (dvF rd p k) = dvF rd p k := by clear c0 c1 c2; omega
      have e3 : suF rd w p p (k + 1) = suF rd w p p k + w k * dvF rd p k := by
        show suF rd w p p k + w k * min (dvF rd p k) (dvF rd p k) = _
        rw [mn]
      rw [← e, M_sumOf_b, if_neg c0, if_pos c1, m1, sb, c2, (V.2.2 k (by clear c0 c1 mn; omega)).1, e3]
  exact key 16 0 rfl
def woF (rd w : Nat → Int) (p : Nat) : Nat → Nat → Int → Int
  | 0, _, v => v
  | n + 1, q, v => woF rd w p n (q + 1) (if 0 < w q ∧ v < dvF rd p q then dvF rd p q else v)
theorem X_worst_s {g : AG} {rd w : Nat → Int} (V : VX g rd w) {p : Nat} (hp : p ≤ 15) : ∀ (n q : Nat) (v : Int), q + n = 16 → 0 ≤ v → v ≤ 1485 → Vans_worstFrom_b p g v q = some (woF rd w p n q v) := by
  obtain ⟨hr, hg, hw⟩ := V
  intro n
  induction n with
  | zero =>
    intro q v h h0 h1
    rw [Vans_worstFrom_b]
    simp (disch := omega) only [nw_id, ix_id, sb, if_true, if_false, if_pos, if_neg, true_and, and_true, false_and, and_false, and_self]
    rfl
  | succ n ih =>
    intro q v h h0 h1
    have d1 := dv_rng hr hp (b := q) (by omega)
    have m1 := minutes_s (g := g) hp (b := q) (by omega) hr hg
    have wq := hw q (by omega)
    have e := ih (q + 1) (if 0 < w q ∧ v < dvF rd p q then dvF rd p q else v) (by omega) (by split <;> omega) (by split <;> omega)
    rw [show ((q + 1 : Nat) : Int) = (q : Int) + 1 from rfl] at e
    unfold woF
    rw [← e, Vans_worstFrom_b]
    clear e ih hw
    generalize dvF rd p q = D at d1 m1 ⊢
    have mx : mxI v D = max v D := mxI_s (by omega) (by omega) (by omega) (by omega)
    have c0 : ¬ 16 ≤ nw (q : Int) := by clear mx; rw [nw_id (by omega) (by omega)]; omega
    have c1 : 0 ≤ nw (q : Int) ∧ nw (q : Int) < 16 := by clear c0 mx; rw [nw_id (by omega) (by omega)]; omega
    have c2 : ix (q : Int) = q := by clear c0 c1 mx; rw [ix_id (by omega) (by omega), Int.toNat_natCast]
    have c3 : nw (w q) = w q := by clear c0 c1 c2 mx; exact nw_id (by omega) (by omega)
    rw [if_neg c0, if_pos c1, c2, wq.1]
    simp only [c3]
    clear c0 c1 c2 c3
    by_cases y : w q ≤ 0
    · rw [if_pos y, sb, if_neg (fun z => by have := z.1; clear mx; omega)]
    · rw [if_neg y, m1, sb, sb, mx]
      clear mx
      by_cases y2 : v < D
      · rw [if_pos ⟨by omega, y2⟩, show max v D = D by omega]
      · rw [if_neg (fun z => y2 z.2), show max v D = v by omega]
theorem M_worst_s {g : AG} {rd w : Nat → Int} (V : VM g rd w) {p : Nat} (hp : p ≤ 15) : ∀ (n q : Nat) (v : Int), q + n = 16 → 0 ≤ v → v ≤ 1485 → M_worstOf_b p g v q = some (woF rd w p n q v) := by
  intro n
  induction n with
  | zero =>
    intro q v h h0 h1
    rw [M_worstOf_b]
    simp (disch := omega) only [nw_id, ix_id, sb, if_true, if_false, if_pos, if_neg, true_and, and_true, false_and, and_false, and_self]
    rfl
  | succ n ih =>
    intro q v h h0 h1
    have d1 := dv_rng V.1 hp (b := q) (by omega)
    have m1 := V.drive hp (b := q) (by omega)
    have wq := V.2.2 q (by omega)
    have e := ih (q + 1) (if 0 < w q ∧ v < dvF rd p q then dvF rd p q else v) (by omega) (by split <;> omega) (by split <;> omega)
    rw [show ((q + 1 : Nat) : Int) = (q : Int) + 1 from rfl] at e
    unfold woF
    rw [← e, M_worstOf_b]
    clear e ih V
    generalize dvF rd p q = D at d1 m1 ⊢
    have c0 : ¬ 16 ≤ nw (q : Int) := by rw [nw_id (by omega) (by omega)]; omega
    have c1 : 0 ≤ nw (q : Int) ∧ nw (q : Int) < 16 := by clear c0; rw [nw_id (by omega) (by omega)]; omega
    have c2 : ix (q : Int) = q := by clear c0 c1; rw [ix_id (by omega) (by omega), Int.toNat_natCast]
    have c3 : nw (w q) = w q := by clear c0 c1 c2; exact nw_id (by omega) (by omega)
    have c4 : nw D = D := by clear c0 c1 c2 c3; exact nw_id (by omega) (by omega)
    have c5 : nw v = v := by clear c0 c1 c2 c3 c4; exact nw_id (by omega) (by omega)
    rw [if_neg c0, if_pos c1, c2, wq.1]
    simp only [c3]
    clear c0 c1 c2 c3
    by_cases y : w q ≤ 0
    · rw [if_pos y, sb, if_neg (fun z => by have := z.1; clear c4 c5; omega)]
    · rw [if_neg y, m1, sb, c4, c5]
      clear c4 c5
      by_cases y2 : v < D
      · rw [if_neg (by omega), sb, sb, if_pos ⟨by omega, y2⟩]
      · rw [if_pos (by omega), sb, if_neg (fun z => y2 z.2)]
