/-! plain programs: what is left, when it shuts -/
def JRain (g : AG) : Prop := ∃ p q : Nat, PQ p q ∧ g 12 0 = p ∧ g 12 1 = q
theorem rday_le {u r gn sh : Nat} (hr : r ≤ 100) {f : Nat → Int} (h : FOk f) : sm (rday u r gn sh f) 1000 ≤ sm f 1000 := by
  have a := sm_mono (f := rday u r gn sh f) (h := fun j => rP u r gn f 1000 j) 1000 (fun i hi => by
    have := rP_nn (u := u) (gn := gn) hr h (j := i) (Nat.le_refl 1000)
    unfold rday
    split <;> omega)
  rw [rP_sum] at a
  exact a
theorem wea0 {x1 x2 x3 x4 : Int} (h1 : I32 x1) (h2 : I32 x2) (h3 : I32 x3) (h4 : I32 x4) : (nw (M_canAsk x1 x2 x3 x4) = 0) = ¬ ((0 ≤ x1 ∧ x1 ≤ 99) ∧ (0 ≤ x2 ∧ x2 ≤ 100) ∧ (0 ≤ x3 ∧ x3 ≤ 99) ∧ (0 ≤ x4 ∧ x4 ≤ 999)) := by
  unfold I32 at *
  have e1 : (nw (M_isIn x1 0 99) = 0) = (x1 < 0 ∨ 99 < x1) := isIn0 (by omega) (by omega) (by decide) (by decide) (by decide) (by decide)
  have e2 : (nw (M_isIn x2 0 100) = 0) = (x2 < 0 ∨ 100 < x2) := isIn0 (by omega) (by omega) (by decide) (by decide) (by decide) (by decide)
  have e3 : (nw (M_isIn x3 0 99) = 0) = (x3 < 0 ∨ 99 < x3) := isIn0 (by omega) (by omega) (by decide) (by decide) (by decide) (by decide)
  have e4 : (nw (M_isIn x4 0 999) = 0) = (x4 < 0 ∨ 999 < x4) := isIn0 (by omega) (by omega) (by decide) (by decide) (by decide) (by decide)
  unfold M_canAsk
  by_cases z1 : x1 < 0 ∨ 99 < x1
  · rw [if_pos (by rw [e1]; exact z1), nw_0]; simp; omega
  rw [if_neg (by rw [e1]; exact z1)]
  by_cases z2 : x2 < 0 ∨ 100 < x2
  · rw [if_pos (by rw [e2]; exact z2), nw_0]; simp; omega
  rw [if_neg (by rw [e2]; exact z2)]
  by_cases z3 : x3 < 0 ∨ 99 < x3
  · rw [if_pos (by rw [e3]; exact z3), nw_0]; simp; omega
  rw [if_neg (by rw [e3]; exact z3)]
  by_cases z4 : x4 < 0 ∨ 999 < x4
  · rw [if_pos (by rw [e4]; exact z4), nw_0]; simp; omega
  rw [if_neg (by rw [e4]; exact z4), nw_1]
  clear e1 e2 e3 e4
  simp; omega
def rF (u r gn sh : Nat) (f : Nat → Int) : Nat → Nat → Int
  | 0 => f
  | k + 1 => rday u r gn sh (rF u r gn sh f k)
theorem rF_ok {u r gn sh : Nat} (hr : r ≤ 100) {f : Nat → Int} (h : FOk f) : ∀ k, FOk (rF u r gn sh f k)
  | 0 => h
  | k + 1 => rday_ok hr (rF_ok hr h k)
theorem rF_le {u r gn sh : Nat} (hr : r ≤ 100) {f : Nat → Int} (h : FOk f) : ∀ k, sm (rF u r gn sh f k) 1000 ≤ sm f 1000
  | 0 => Int.le_refl _
  | k + 1 => Int.le_trans (rday_le hr (rF_ok hr h k)) (rF_le hr h k)
theorem X_left_s {u r gn sh N : Nat} (hu : u ≤ 99) (hr : r ≤ 100) (hg : gn ≤ 99) (hs : sh ≤ 999) (hN : N ≤ 60) {f : Nat → Int} (h : FOk f) : ∀ (n k : Nat) (g : AG) (p q : Nat), k + n = N → PQ p q → XRn g (rF u r gn sh f k) p q → ∃ g', X_left_b u r gn sh N k g = some (sm (rF u r gn sh f N) 1000, g') ∧ FR RX g g' ∧ JRain g' := by
  intro n
  induction n with
  | zero =>
    intro k g p q e pq X
    have : k = N := by omega
    subst this
    refine ⟨g, ?_, Fr.rf, p, q, pq, X.1, X.2.1⟩
    rw [X_left_b, if_pos (by exact Int.le_refl _), X.2.2.2]
  | succ n ih =>
    intro k g p q e pq X
    have c0 : ¬ nw (N : Int) ≤ nw (k : Int) := by rw [nw_id (by omega) (by omega), nw_id (by omega) (by omega)]; omega
    obtain ⟨g1, e1, f1, X1⟩ := X_day hu hr hg hs (rF_ok (u := u) (gn := gn) (sh := sh) hr h k) pq X
    obtain ⟨g2, e2, f2, J2⟩ := ih (k + 1) g1 q p (by clear c0; omega) pq.s X1
    rw [show ((k + 1 : Nat) : Int) = (k : Int) + 1 from rfl] at e2
    refine ⟨g2, ?_, f1.tr f2, J2⟩
    rw [← e2, X_left_b, if_neg c0, e1, sb]
theorem M_left_s {u r gn sh N : Nat} (hu : u ≤ 99) (hr : r ≤ 100) (hg : gn ≤ 99) (hs : sh ≤ 999) (hN : N ≤ 60) {f : Nat → Int} (h : FOk f) : ∀ (n k : Nat) (g : AG), k + n = N → (∀ i : Nat, i < 1000 → g 186 i = rF u r gn sh f k i) → ∃ g', M_left_b u r gn sh N k g = some (sm (rF u r gn sh f N) 1000, g') ∧ FR RM g g' := by
  intro n
  induction n with
  | zero =>
    intro k g e X
    have : k = N := by omega
    subst this
    refine ⟨g, ?_, Fr.rf⟩
    have kp : M_kept g = some (sm (rF u r gn sh f k) 1000) := M_kept_s X 1000 0 0 rfl rfl
    rw [M_left_b, if_pos (by exact Int.le_refl _), kp, sb]
  | succ n ih =>
    intro k g e X
    have c0 : ¬ nw (N : Int) ≤ nw (k : Int) := by rw [nw_id (by omega) (by omega), nw_id (by omega) (by omega)]; omega
    obtain ⟨g1, e1, f1, X1⟩ := M_day hu hr hg hs (rF_ok (u := u) (gn := gn) (sh := sh) hr h k) X
    obtain ⟨g2, e2, f2⟩ := ih (k + 1) g1 (by clear c0; omega) X1
    rw [show ((k + 1 : Nat) : Int) = (k : Int) + 1 from rfl] at e2
    refine ⟨g2, ?_, f1.tr f2⟩
    rw [← e2, M_left_b, if_neg c0, e1, sb]
theorem M_starts_s {w : Nat} (hw : w ≤ 999) : ∀ (n k : Nat) (g : AG), k + n = 1000 → g 117 10 = w → (∀ j : Nat, j < k → g 186 j = if w = j then 1000000 else 0) → ∃ g', M_starts_b k g = some (0, g') ∧ FR RM g g' ∧ ∀ j : Nat, j < 1000 → g' 186 j = if w = j then 1000000 else 0 := by
  intro n
  induction n with
  | zero =>
    intro k g e hW hz
    have : k = 1000 := by omega
    subst this
    refine ⟨g, ?_, Fr.rf, hz⟩
    rw [M_starts_b, if_pos (by rw [nw_id (by decide) (by decide)]; decide)]
  | succ n ih =>
    intro k g e hW hz
    have c0 : ¬ 1000 ≤ nw (k : Int) := by rw [nw_id (by omega) (by omega)]; omega
    have c1 : 0 ≤ nw (k : Int) ∧ nw (k : Int) < 1000 := by clear c0; rw [nw_id (by omega) (by omega)]; omega
    have c2 : ix (k : Int) = k := by clear c0 c1; rw [ix_id (by omega) (by omega), Int.toNat_natCast]
    have cv : (if nw (k : Int) = nw (g 117 10) then (1000000 : Int) else 0) = if w = k then 1000000 else 0 := by
      rw [hW, show nw (k : Int) = k from nw_id (by clear c0 c1 c2; omega) (by clear c0 c1 c2; omega), show nw (w : Int) = w from nw_id (by clear c0 c1 c2; omega) (by clear c0 c1 c2; omega)]
      clear c0 c1 c2
      by_cases z : w = k
      · rw [if_pos (by omega), if_pos z]
      · rw [if_neg (by omega), if_neg z]
    obtain ⟨g', e1, e2, e3⟩ := ih (k + 1) (up g 186 k (if w = k then 1000000 else 0)) (by clear c0 c1 c2 cv; omega) hW (fun j hj => by
      rw [up_at]
      by_cases z : j = k
      · rw [if_pos ⟨rfl, z⟩, z]
      · rw [if_neg (fun w => z w.2)]; exact hz j (by clear c0 c1 c2 cv; omega))
    refine ⟨g', ?_, (Fr.up Fr.rf rfl : FR RM g _).tr e2, e3⟩
    rw [show ((k + 1 : Nat) : Int) = (k : Int) + 1 from rfl] at e1
    rw [← e1, M_starts_b, if_neg c0, cv, sb, if_pos c1, c2, sb]
abbrev RW : Reg := [(12, 0), (115, 0), (116, 0), (186, 0), (187, 0)]
abbrev f0 (w sh : Nat) : Nat → Int := fun i => if w = i then (if sh ≤ w then 1000000 else 0) else 0
theorem f0_sum {w sh : Nat} (hw : w ≤ 999) : sm (f0 w sh) 1000 = if sh ≤ w then 1000000 else 0 := by
  show sm (fun i => if w = i then (if sh ≤ w then 1000000 else 0) else 0) 1000 = _
  rw [sm_one _ (c := w), if_pos (show w < 1000 by omega)]
theorem f0_ok {w sh : Nat} (hw : w ≤ 999) : FOk (f0 w sh) := by
  refine ⟨fun i hi => ?_, ?_⟩
  · show 0 ≤ if w = i then (if sh ≤ w then (1000000 : Int) else 0) else 0
    split <;> (try split) <;> omega
  · rw [f0_sum hw]
    split <;> omega
theorem sm_left {x1 x2 x3 x4 x5 : Int} {g : AG} (h1 : I32 x1) (h2 : I32 x2) (h3 : I32 x3) (h4 : I32 x4) (h5 : I32 x5) (W : JWat g) (R : JRain g) :
    ∃ r1 r2, X_left x1 x2 x3 x4 x5 g = some r1 ∧ M_left x1 x2 x3 x4 x5 r1.2 = some r2 ∧ nw r1.1 = nw r2.1 ∧ FR RW g r2.2 ∧ JRain r2.2 := by
  have we := wea0 h1 h2 h3 h4
  have wx : (nw (X_isWeather x1 x2 x3 x4) = 0) = _ := we
  have i5 : (nw (M_isIn x5 0 60) = 0) = (x5 < 0 ∨ 60 < x5) := by unfold I32 at *; exact isIn0 (by omega) (by omega) (by decide) (by decide) (by decide) (by decide)
  have w5 : (nw (X_within x5 0 60) = 0) = (x5 < 0 ∨ 60 < x5) := i5
  by_cases ok : ¬ ((0 ≤ x1 ∧ x1 ≤ 99) ∧ (0 ≤ x2 ∧ x2 ≤ 100) ∧ (0 ≤ x3 ∧ x3 ≤ 99) ∧ (0 ≤ x4 ∧ x4 ≤ 999))
  · refine ⟨(-1, g), (-1, g), ?_, ?_, rfl, Fr.rf, R⟩
    · unfold X_left; rw [if_pos (by rw [wx]; exact ok)]
    · unfold M_left; dsimp only; rw [if_pos (by rw [we]; exact ok)]
  replace ok := Decidable.not_not.1 ok
  by_cases o5 : x5 < 0 ∨ 60 < x5
  · refine ⟨(-1, g), (-1, g), ?_, ?_, rfl, Fr.rf, R⟩
    · unfold X_left; rw [if_neg (by rw [wx]; exact fun z => z ok), if_pos (by rw [w5]; exact o5)]
    · unfold M_left; dsimp only; rw [if_neg (by rw [we]; exact fun z => z ok), if_pos (by rw [i5]; exact o5)]
  obtain ⟨u, rfl⟩ := natOf ok.1.1
  obtain ⟨r, rfl⟩ := natOf ok.2.1.1
  obtain ⟨gn, rfl⟩ := natOf ok.2.2.1.1
  obtain ⟨sh, rfl⟩ := natOf ok.2.2.2.1
  obtain ⟨N, rfl⟩ := natOf (show 0 ≤ x5 by clear we wx i5 w5; omega)
  obtain ⟨W1, W2, W3⟩ := W
  obtain ⟨w, hw⟩ := natOf W2
  obtain ⟨p, q, pq, x0, x1⟩ := R
  have hw9 : w ≤ 999 := by clear we wx i5 w5; omega
  obtain ⟨hu, hr, hg, hs, hN⟩ : u ≤ 99 ∧ r ≤ 100 ∧ gn ≤ 99 ∧ sh ≤ 999 ∧ N ≤ 60 := by clear we wx i5 w5; omega
  obtain ⟨g1, e1, f1, X1⟩ := X_start hs hw9 pq x0 x1
  have fo := f0_ok (sh := sh) hw9
  obtain ⟨g2, e2, f2, J2⟩ := X_left_s hu hr hg hs hN fo N 0 g1 p q (by clear we wx i5 w5; omega) pq X1
  have xE : X_left u r gn sh N g = some (sm (rF u r gn sh (f0 w sh) N) 1000, g2) := by
    unfold X_left
    have e2' : X_left_b u r gn sh N 0 g1 = _ := e2
    rw [if_neg (by rw [wx]; exact fun z => z ok), if_neg (by rw [w5]; exact o5), hw, e1, sb, e2']
  have fX : FR RW g g2 := FR.mo (f1.tr f2) rfl
  have m10 : g2 117 10 = w := by rw [fX 117 10 rfl, W1, hw]
  have cc : (nw (sh : Int) ≤ nw (g2 117 10)) = (sh ≤ w) := by
    rw [m10, show nw (sh : Int) = sh from nw_id (by clear we wx i5 w5; omega) (by clear we wx i5 w5; omega), show nw (w : Int) = w from nw_id (by clear we wx i5 w5; omega) (by clear we wx i5 w5; omega)]
    exact propext ⟨fun z => by clear we wx i5 w5; omega, fun z => by clear we wx i5 w5; omega⟩
  by_cases z : sh ≤ w
  · obtain ⟨g3, e3, f3, z3⟩ := M_starts_s hw9 1000 0 g2 rfl m10 (fun j hj => by omega)
    obtain ⟨g4, e4, f4⟩ := M_left_s hu hr hg hs hN fo N 0 g3 (by clear we wx i5 w5 cc; omega) (fun i hi => by
      rw [z3 i hi]
      show _ = if w = i then (if sh ≤ w then (1000000 : Int) else 0) else 0
      rw [if_pos z])
    have fM : FR RW g2 g4 := FR.mo (f3.tr f4) rfl
    refine ⟨_, (sm (rF u r gn sh (f0 w sh) N) 1000, g4), xE, ?_, rfl, fX.tr fM, ?_⟩
    · unfold M_left M_starts
      dsimp only
      have e3' : M_starts_b 0 g2 = _ := e3
      have e4' : M_left_b u r gn sh N 0 g3 = _ := e4
      rw [if_neg (by rw [we]; exact fun z => z ok), if_neg (by rw [i5]; exact o5), if_pos (by rw [cc]; exact z), e3', sb, e4']
    · obtain ⟨p, q, a, b, c⟩ := J2
      exact ⟨p, q, a, by show g4 12 0 = _; rw [(f3.tr f4) 12 0 rfl]; exact b, by show g4 12 1 = _; rw [(f3.tr f4) 12 1 rfl]; exact c⟩
  · refine ⟨_, (0, g2), xE, ?_, ?_, fX, J2⟩
    · unfold M_left
      dsimp only
      rw [if_neg (by rw [we]; exact fun z => z ok), if_neg (by rw [i5]; exact o5), if_neg (by rw [cc]; exact z)]
    · have a := rF_le (u := u) (gn := gn) (sh := sh) hr fo N
      have b := sm_nn (f := rF u r gn sh (f0 w sh) N) 1000 (rF_ok hr fo N).1
      rw [f0_sum hw9, if_neg z] at a
      show nw (sm (rF u r gn sh (f0 w sh) N) 1000) = nw 0
      exact congrArg nw (Int.le_antisymm a b)
