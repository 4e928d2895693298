/-! plain programs: two vans -/
theorem VX.fr {W : Reg} {g g' : AG} {rd w : Nat → Int} (V : VX g rd w) (f : FR W g g') (d : djR [(107, 0), (108, 0)] W = true) : VX g' rd w := by
  have q := f.cg d
  exact ⟨V.1, fun i hi => by rw [q 108 i rfl]; exact V.2.1 i hi, fun p hp => by rw [q 107 p rfl]; exact V.2.2 p hp⟩
def cpS (rd w : Nat → Int) (a b : Nat) (p : Int × Int) : Int × Int := if suF rd w a b 16 < p.2 then (16 * (a : Int) + b, suF rd w a b 16) else p
def cpI (rd w : Nat → Int) (a : Nat) : Nat → Nat → Int × Int → Int × Int
  | 0, _, p => p
  | n + 1, b, p => cpI rd w a n (b + 1) (cpS rd w a b p)
def cpO (rd w : Nat → Int) : Nat → Nat → Int × Int → Int × Int
  | 0, _, p => p
  | n + 1, a, p => cpO rd w n (a + 1) (cpI rd w a (16 - a) a p)
def CpOk (p : Int × Int) : Prop := (0 ≤ p.1 ∧ p.1 ≤ 255) ∧ (0 ≤ p.2 ∧ p.2 ≤ 2352240)
theorem cpS_ok {rd w : Nat → Int} (hr : ∀ i, i < 15 → 1 ≤ rd i ∧ rd i ≤ 99) (hw : ∀ p : Nat, p < 16 → 0 ≤ w p ∧ w p ≤ 99) {a b : Nat} (ha : a ≤ 15) (hb : b ≤ 15) {p : Int × Int} (h : CpOk p) : CpOk (cpS rd w a b p) := by
  have r := su_rng hr hw ha hb 16 (by omega)
  unfold cpS
  split
  · exact ⟨⟨by dsimp only; omega, by dsimp only; omega⟩, ⟨by dsimp only; omega, by dsimp only; omega⟩⟩
  · exact h
theorem cpI_ok {rd w : Nat → Int} (hr : ∀ i, i < 15 → 1 ≤ rd i ∧ rd i ≤ 99) (hw : ∀ p : Nat, p < 16 → 0 ≤ w p ∧ w p ≤ 99) {a : Nat} (ha : a ≤ 15) : ∀ (n b : Nat) (p : Int × Int), b + n ≤ 16 → CpOk p → CpOk (cpI rd w a n b p)
  | 0, _, _, _, h => h
  | n + 1, b, p, hb, h => cpI_ok hr hw ha n (b + 1) _ (by omega) (cpS_ok hr hw ha (by omega) h)
theorem X_cpI_s {rd w : Nat → Int} {a : Nat} (ha : a ≤ 15) : ∀ (n b : Nat) (g : AG), b + n = 16 → VX g rd w → CpOk (g 11 3, g 11 4) → ∃ g', Vans_findCouple_b 2 a b g = Vans_findCouple_b 1 ((a : Int) + 1) 16 g' ∧ FR [(11, 4), (11, 5)] g g' ∧ (g' 11 3, g' 11 4) = cpI rd w a n b (g 11 3, g 11 4) := by
  intro n
  induction n with
  | zero =>
    intro b g h V hc
    refine ⟨g, ?_, Fr.rf, rfl⟩
    rw [show b = 16 by omega, Vans_findCouple_b.eq_1 2, if_neg (by decide), if_pos rfl, if_pos (by rw [nw_id (by decide) (by decide)]; decide)]
    rfl
  | succ n ih =>
    intro b g h V hc
    have xs := X_sumFrom_s V (a := a) (b := b) ha (by omega)
    have r := su_rng V.1 (fun p hp => (V.2.2 p hp).2) ha (b := b) (by omega) 16 (by omega)
    have ok2 := cpS_ok V.1 (fun p hp => (V.2.2 p hp).2) ha (b := b) (by omega) hc
    have c0 : ¬ 16 ≤ nw (b : Int) := by rw [nw_id (by omega) (by omega)]; omega
    have c1 : nw (g 11 4) = g 11 4 := by clear c0; exact nw_id (by have := hc.2; dsimp only at this; omega) (by have := hc.2; dsimp only at this; omega)
    have c2 : nw (suF rd w a b 16) = suF rd w a b 16 := by clear c0 c1; exact nw_id (by omega) (by omega)
    by_cases y : suF rd w a b 16 < g 11 4
    · have e3 : cpS rd w a b (g 11 3, g 11 4) = (16 * (a : Int) + b, suF rd w a b 16) := if_pos y
      rw [e3] at ok2
      have f1 : FR [(11, 4), (11, 5)] g (up (up g 11 3 (16 * (a : Int) + b)) 11 4 (suF rd w a b 16)) := Fr.up (Fr.up Fr.rf rfl) rfl
      have h3 : (up (up g 11 3 (16 * (a : Int) + b)) 11 4 (suF rd w a b 16)) 11 3 = 16 * (a : Int) + b := by simp [up_at]
      have h4 : (up (up g 11 3 (16 * (a : Int) + b)) 11 4 (suF rd w a b 16)) 11 4 = suF rd w a b 16 := by simp [up_at]
      obtain ⟨g2, e2, f2, p2⟩ := ih (b + 1) _ (by clear c0 c1 c2; omega) (V.fr f1 rfl) (by rw [h3, h4]; exact ok2)
      rw [show ((b + 1 : Nat) : Int) = (b : Int) + 1 from rfl] at e2
      rw [h3, h4] at p2
      refine ⟨g2, ?_, f1.tr f2, ?_⟩
      · rw [← e2, Vans_findCouple_b.eq_1 2, if_neg (by decide), if_pos rfl, if_neg c0, xs, sb, if_neg (by rw [c1, c2]; clear c0 c1 c2; omega), sb, sb, sb]
      · rw [p2]
        show _ = cpI rd w a n (b + 1) (cpS rd w a b (g 11 3, g 11 4))
        rw [e3]
    · have e3 : cpS rd w a b (g 11 3, g 11 4) = (g 11 3, g 11 4) := if_neg y
      obtain ⟨g2, e2, f2, p2⟩ := ih (b + 1) g (by clear c0 c1 c2; omega) V hc
      rw [show ((b + 1 : Nat) : Int) = (b : Int) + 1 from rfl] at e2
      refine ⟨g2, ?_, f2, ?_⟩
      · rw [← e2, Vans_findCouple_b.eq_1 2, if_neg (by decide), if_pos rfl, if_neg c0, xs, sb, if_pos (by rw [c1, c2]; clear c0 c1 c2; omega), sb]
      · rw [p2]
        show _ = cpI rd w a n (b + 1) (cpS rd w a b (g 11 3, g 11 4))
        rw [e3]
theorem X_cpO_s {rd w : Nat → Int} : ∀ (n a : Nat) (x : Int) (g : AG), a + n = 16 → VX g rd w → CpOk (g 11 3, g 11 4) → ∃ g', Vans_findCouple_b 1 a x g = some (0, g') ∧ FR [(11, 4), (11, 5)] g g' ∧ (g' 11 3, g' 11 4) = cpO rd w n a (g 11 3, g 11 4) := by
  intro n
  induction n with
  | zero =>
    intro a x g h V hc
    refine ⟨g, ?_, Fr.rf, rfl⟩
    rw [show a = 16 by omega, Vans_findCouple_b.eq_1 1, if_pos rfl, if_pos (by rw [nw_id (by decide) (by decide)]; decide)]
  | succ n ih =>
    intro a x g h V hc
    have c0 : ¬ 16 ≤ nw (a : Int) := by rw [nw_id (by omega) (by omega)]; omega
    obtain ⟨g1, e1, f1, p1⟩ := X_cpI_s (rd := rd) (w := w) (a := a) (by clear c0; omega) (16 - a) a g (by clear c0; omega) V hc
    have V1 : VX g1 rd w := V.fr f1 rfl
    obtain ⟨g2, e2, f2, p2⟩ := ih (a + 1) 16 g1 (by clear c0; omega) V1 (by rw [p1]; exact cpI_ok V.1 (fun p hp => (V.2.2 p hp).2) (by clear c0; omega) _ _ _ (by clear c0; omega) hc)
    rw [show ((a + 1 : Nat) : Int) = (a : Int) + 1 from rfl] at e2
    refine ⟨g2, ?_, f1.tr f2, ?_⟩
    · rw [Vans_findCouple_b.eq_1 1, if_pos rfl, if_neg c0, e1, e2]
    · rw [p2, p1]
      rfl
/-! the reference -/
theorem M_nearer_s {g : AG} {rd w : Nat → Int} (V : VM g rd w) {a b p : Nat} (ha : a ≤ 15) (hb : b ≤ 15) (hp : p ≤ 15) : M_nearer a b p g = some (min (dvF rd a p) (dvF rd b p)) := by
  have d1 := V.drive ha hp
  have d2 := V.drive hb hp
  have r1 := dv_rng V.1 ha hp
  have r2 := dv_rng V.1 hb hp
  unfold M_nearer
  rw [d1, sb, d2, sb]
  clear d1 d2
  generalize dvF rd a p = P at r1 ⊢
  generalize dvF rd b p = Q at r2 ⊢
  have c1 : nw P = P := nw_id (by omega) (by omega)
  have c2 : nw Q = Q := by clear c1; exact nw_id (by omega) (by omega)
  rw [c1, c2]
  clear c1 c2
  by_cases y : Q ≤ P
  · rw [if_pos y, sb, sb, show min P Q = Q by omega]
  · rw [if_neg y, sb, sb, show min P Q = P by omega]
def cpM (rd w : Nat → Int) (a b : Nat) (p : Int × Int) : Int × Int := if p.1 = -1 ∨ suF rd w a b 16 < p.2 then (16 * (a : Int) + b, suF rd w a b 16) else p
theorem M_sum3_s {g : AG} {rd w : Nat → Int} (V : VM g rd w) {wh : Int} {a b : Nat} (ha : a ≤ 15) (hb : b ≤ 15) {c s : Int} (hc : -1 ≤ c ∧ c ≤ 255) (hs : 0 ≤ s ∧ s ≤ 2352240) : ∀ (n k : Nat), k + n = 16 → M_vans_b wh g 3 c s a b (suF rd w a b k) k = M_vans_b wh g 2 (cpM rd w a b (c, s)).1 (cpM rd w a b (c, s)).2 a ((b : Int) + 1) (suF rd w a b 16) 16 := by
  intro n
  induction n with
  | zero =>
    intro k h
    have r := su_rng V.1 (fun p hp => (V.2.2 p hp).2) ha hb 16 (by omega)
    rw [show k = 16 by omega, M_vans_b.eq_1 _ _ 3, if_neg (by decide), if_neg (by decide), if_pos rfl, if_pos (by rw [nw_id (by decide) (by decide)]; decide)]
    unfold cpM
    dsimp only
    generalize suF rd w a b 16 = P at r ⊢
    have c1 : nw c = c := nw_id (by omega) (by omega)
    have c2 : nw P = P := by clear c1; exact nw_id (by omega) (by omega)
    have c3 : nw s = s := by clear c1 c2; exact nw_id (by omega) (by omega)
    rw [c1, c2, c3]
    clear c1 c2 c3
    by_cases y : c = -1
    · rw [if_pos y, if_pos (Or.inl y), sb]
      rfl
    · rw [if_neg y]
      by_cases y2 : P < s
      · rw [if_pos y2, if_pos (Or.inr y2), sb]
        rfl
      · rw [if_neg y2, if_neg (fun z => by rcases z with z | z; exact y z; exact y2 z), sb]
        rfl
  | succ n ih =>
    intro k h
    have e := ih (k + 1) (by omega)
    rw [show ((k + 1 : Nat) : Int) = (k : Int) + 1 from rfl] at e
    have mn := M_nearer_s V ha hb (p := k) (by omega)
    have c0 : ¬ 16 ≤ nw (k : Int) := by rw [nw_id (by omega) (by omega)]; omega
    have c1 : 0 ≤ nw (k : Int) ∧ nw (k : Int) < 16 := by clear c0; rw [nw_id (by omega) (by omega)]; omega
    have c2 : ix (k : Int) = k := by clear c0 c1; rw [ix_id (by omega) (by omega), Int.toNat_natCast]
    rw [← e, M_vans_b.eq_1 _ _ 3, if_neg (by decide), if_neg (by decide), if_pos rfl, if_neg c0, if_pos c1, mn, sb, c2, (V.2.2 k (by clear c0 c1; omega)).1]
    rfl
theorem M_cpI_s {g : AG} {rd w : Nat → Int} (V : VM g rd w) {wh : Int} {a : Nat} (ha : a ≤ 15) : ∀ (n b : Nat) (p : Int × Int) (x6 x7 : Int), b + n = 16 → CpOk p → ∃ y6 y7, M_vans_b wh g 2 p.1 p.2 a b x6 x7 = M_vans_b wh g 1 (cpI rd w a n b p).1 (cpI rd w a n b p).2 ((a : Int) + 1) 16 y6 y7 := by
  intro n
  induction n with
  | zero =>
    intro b p x6 x7 h hp
    refine ⟨x6, x7, ?_⟩
    rw [show b = 16 by omega, M_vans_b.eq_1 _ _ 2, if_neg (by decide), if_pos rfl, if_pos (by rw [nw_id (by decide) (by decide)]; decide)]
    rfl
  | succ n ih =>
    intro b p x6 x7 h hp
    have c0 : ¬ 16 ≤ nw (b : Int) := by rw [nw_id (by omega) (by omega)]; omega
    have e1 := M_sum3_s V (wh := wh) ha (b := b) (by clear c0; omega) (c := p.1) (s := p.2) ⟨by have := hp.1; clear c0; omega, hp.1.2⟩ hp.2 16 0 rfl
    have e2 : cpM rd w a b (p.1, p.2) = cpS rd w a b p := by
      unfold cpM cpS
      by_cases y : suF rd w a b 16 < p.2
      · rw [if_pos (Or.inr y), if_pos y]
      · rw [if_neg (fun z => by rcases z with z | z; (have := hp.1.1; dsimp only at z; clear c0; omega); exact y z), if_neg y]
    rw [e2] at e1
    obtain ⟨y6, y7, e3⟩ := ih (b + 1) (cpS rd w a b p) (suF rd w a b 16) 16 (by clear c0; omega) (cpS_ok V.1 (fun p hp => (V.2.2 p hp).2) ha (by clear c0; omega) hp)
    rw [show ((b + 1 : Nat) : Int) = (b : Int) + 1 from rfl] at e3
    refine ⟨y6, y7, ?_⟩
    show _ = M_vans_b wh g 1 (cpI rd w a n (b + 1) (cpS rd w a b p)).1 (cpI rd w a n (b + 1) (cpS rd w a b p)).2 ((a : Int) + 1) 16 y6 y7
    rw [← e3, ← e1, M_vans_b.eq_1 _ _ 2, if_neg (by decide), if_pos rfl, if_neg c0]
    rfl
theorem M_cpO_s {g : AG} {rd w : Nat → Int} (V : VM g rd w) {wh : Int} (hw : 0 ≤ wh ∧ wh ≤ 1) : ∀ (n a : Nat) (p : Int × Int) (x5 x6 x7 : Int), a + n = 16 → CpOk p → M_vans_b wh g 1 p.1 p.2 a x5 x6 x7 = some (if wh = 0 then (cpO rd w n a p).1 else (cpO rd w n a p).2) := by
  intro n
  induction n with
  | zero =>
    intro a p x5 x6 x7 h hp
    have n1 : nw wh = wh := nw_id (by omega) (by omega)
    rw [show a = 16 by clear n1; omega, M_vans_b.eq_1 _ _ 1, if_pos rfl, if_pos (by rw [nw_id (by decide) (by decide)]; decide), sb, n1]
    rfl
  | succ n ih =>
    intro a p x5 x6 x7 h hp
    have c0 : ¬ 16 ≤ nw (a : Int) := by rw [nw_id (by omega) (by omega)]; omega
    obtain ⟨y6, y7, e1⟩ := M_cpI_s V (wh := wh) (a := a) (by clear c0; omega) (16 - a) a p x6 x7 (by clear c0; omega) hp
    have e2 := ih (a + 1) (cpI rd w a (16 - a) a p) 16 y6 y7 (by clear c0; omega) (cpI_ok V.1 (fun p hp => (V.2.2 p hp).2) (by clear c0; omega) _ _ _ (by clear c0; omega) hp)
    rw [show ((a + 1 : Nat) : Int) = (a : Int) + 1 from rfl] at e2
    rw [M_vans_b.eq_1 _ _ 1, if_pos rfl, if_neg c0, e1, e2]
    rfl
theorem sm_vans {x1 : Int} {g : AG} (h1 : I32 x1) (W : JWay g) (Wt : JWgt g) (A : JAlong g) :
    ∃ (r1 : Int × AG) (v2 : Int), X_vans x1 g = some r1 ∧ M_vans x1 r1.2 = some v2 ∧ nw r1.1 = nw v2 ∧ FR [(108, 0), (11, 4), (11, 5)] g r1.2 ∧ JAlong r1.2 := by
  unfold I32 at *
  by_cases h : 0 ≤ x1 ∧ x1 ≤ 1
  · obtain ⟨g1, e1, f1, p1, A1⟩ := measure0 A
    have V1 := VX.of W Wt f1 p1
    have r0 := su_rng V1.1 (fun p hp => (V1.2.2 p hp).2) (a := 0) (b := 0) (by omega) (by omega) 16 (by omega)
    have f2 : FR [(11, 4), (11, 5)] g1 (up g1 11 3 0) := Fr.up Fr.rf rfl
    have V2 : VX (up g1 11 3 0) (g 15) (g 107) := V1.fr f2 rfl
    have xs := X_sumFrom_s V2 (a := 0) (b := 0) (by omega) (by omega)
    have f3 : FR [(11, 4), (11, 5)] g1 (up (up g1 11 3 0) 11 4 (suF (g 15) (g 107) 0 0 16)) := Fr.up f2 rfl
    have h3 : (up (up g1 11 3 0) 11 4 (suF (g 15) (g 107) 0 0 16)) 11 3 = 0 := by simp [up_at]
    have h4 : (up (up g1 11 3 0) 11 4 (suF (g 15) (g 107) 0 0 16)) 11 4 = suF (g 15) (g 107) 0 0 16 := by simp [up_at]
    have ok0 : CpOk (0, suF (g 15) (g 107) 0 0 16) := ⟨⟨Int.le_refl 0, by show (0 : Int) ≤ 255; decide⟩, ⟨r0.1, by dsimp only; omega⟩⟩
    obtain ⟨g4, e4, f4, p4⟩ := X_cpO_s (rd := g 15) (w := g 107) 16 0 0 _ rfl (V1.fr f3 rfl) (by rw [h3, h4]; exact ok0)
    rw [h3, h4] at p4
    have fT : FR [(108, 0), (11, 4), (11, 5)] g g4 := (f1.mo rfl).tr (FR.mo (f3.tr f4) rfl)
    have Vm := VM.of W Wt fT rfl
    have m1 := M_cpO_s Vm h 16 0 (0, suF (g 15) (g 107) 0 0 16) 0 0 0 rfl ok0
    have n1 : nw x1 = x1 := nw_id (by omega) (by omega)
    -- the first couple
    have first : M_vans_b x1 g4 1 (-1) 0 ((0 : Nat) : Int) 0 0 0 = M_vans_b x1 g4 1 0 (suF (g 15) (g 107) 0 0 16) ((0 : Nat) : Int) 0 0 0 := by
      have c0 : ¬ 16 ≤ nw ((0 : Nat) : Int) := by clear n1; rw [nw_id (by decide) (by decide)]; decide
      have sa := M_sum3_s Vm (wh := x1) (a := 0) (b := 0) (by decide) (by decide) (c := -1) (s := 0) (by decide) (by decide) 16 0 rfl
      have sb' := M_sum3_s Vm (wh := x1) (a := 0) (b := 0) (by decide) (by decide) (c := 0) (s := suF (g 15) (g 107) 0 0 16) (by decide) (by clear n1 c0; omega) 16 0 rfl
      have ca : cpM (g 15) (g 107) 0 0 (-1, 0) = (0, suF (g 15) (g 107) 0 0 16) := if_pos (Or.inl rfl)
      have cb : cpM (g 15) (g 107) 0 0 (0, suF (g 15) (g 107) 0 0 16) = (0, suF (g 15) (g 107) 0 0 16) := if_neg (fun z => by rcases z with z | z; exact absurd (show (0 : Int) = -1 from z) (by decide); exact Int.lt_irrefl _ z)
      rw [ca] at sa
      rw [cb] at sb'
      have un : ∀ c s : Int, M_vans_b x1 g4 1 c s ((0 : Nat) : Int) 0 0 0 = M_vans_b x1 g4 3 c s ((0 : Nat) : Int) ((0 : Nat) : Int) (suF (g 15) (g 107) 0 0 0) ((0 : Nat) : Int) := by
        intro c s
        rw [M_vans_b.eq_1 _ _ 1, if_pos rfl, if_neg c0, M_vans_b.eq_1 _ _ 2, if_neg (by decide), if_pos rfl, if_neg c0]
        rfl
      rw [un, un, sa, sb']
    refine ⟨((if x1 = 0 then g4 11 3 else g4 11 4), g4), (if x1 = 0 then g4 11 3 else g4 11 4), ?_, ?_, rfl, fT, by show g4 108 0 = 0; rw [f4 108 0 rfl, f3 108 0 rfl]; exact A1⟩
    · unfold X_vans Vans_findCouple
      have e4' : Vans_findCouple_b 1 0 0 (up (up g1 11 3 0) 11 4 (suF (g 15) (g 107) 0 0 16)) = some (0, g4) := e4
      have xs' : Vans_sumFrom 0 0 (up g1 11 3 0) = some (suF (g 15) (g 107) 0 0 16) := xs
      rw [if_neg (by rw [within0 (by clear n1; omega) (by clear n1; omega) (by decide) (by decide) (by decide) (by decide)]; clear n1; omega), e1, sb, sb, xs', sb, sb, e4', sb, sb, n1]
    · unfold M_vans
      have first' : M_vans_b x1 g4 1 (-1) 0 0 0 0 0 = M_vans_b x1 g4 1 0 (suF (g 15) (g 107) 0 0 16) 0 0 0 0 := first
      have m1' : M_vans_b x1 g4 1 0 (suF (g 15) (g 107) 0 0 16) 0 0 0 0 = _ := m1
      rw [if_neg (by rw [isIn0 (by clear n1; omega) (by clear n1; omega) (by decide) (by decide) (by decide) (by decide)]; clear n1; omega), first', m1', ← p4]
  · refine ⟨(-1, g), -1, ?_, ?_, rfl, Fr.rf, A⟩
    · unfold X_vans
      rw [if_pos (by rw [within0 (by omega) (by omega) (by decide) (by decide) (by decide) (by decide)]; omega)]
    · unfold M_vans
      rw [if_pos (by rw [isIn0 (by omega) (by omega) (by decide) (by decide) (by decide) (by decide)]; omega)]
