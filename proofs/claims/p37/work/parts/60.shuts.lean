/-! plain programs: when it shuts -/
def shR (u r gn sh : Nat) (f : Nat → Int) : Nat → Nat → Int
  | 0, _ => -1
  | n + 1, k => if 500000 ≤ sm (rF u r gn sh f k) 1000 then shR u r gn sh f n (k + 1) else k
theorem X_shuts_s {u r gn sh : Nat} (hu : u ≤ 99) (hr : r ≤ 100) (hg : gn ≤ 99) (hs : sh ≤ 999) {f : Nat → Int} (h : FOk f) : ∀ (n k : Nat) (g : AG) (p q : Nat), k + n = 61 → PQ p q → XRn g (rF u r gn sh f k) p q → ∃ g', X_shuts_b u r gn sh k g = some (shR u r gn sh f n k, g') ∧ FR RX g g' ∧ JRain g' := by
  intro n
  induction n with
  | zero =>
    intro k g p q e pq X
    have : k = 61 := by omega
    subst this
    refine ⟨g, ?_, Fr.rf, p, q, pq, X.1, X.2.1⟩
    rw [X_shuts_b, if_pos (by rw [nw_id (by decide) (by decide)]; decide)]
    rfl
  | succ n ih =>
    intro k g p q e pq X
    have c0 : ¬ 60 < nw (k : Int) := by rw [nw_id (by omega) (by omega)]; omega
    have fk := rF_ok (u := u) (gn := gn) (sh := sh) hr h k
    have b0 := sm_nn (f := rF u r gn sh f k) 1000 fk.1
    have cn : nw (g 12 2) = sm (rF u r gn sh f k) 1000 := by
      rw [X.2.2.2]
      have := fk.2
      clear c0
      exact nw_id (by omega) (by omega)
    by_cases z : 500000 ≤ sm (rF u r gn sh f k) 1000
    · obtain ⟨g1, e1, f1, X1⟩ := X_day hu hr hg hs fk pq X
      obtain ⟨g2, e2, f2, J2⟩ := ih (k + 1) g1 q p (by clear c0 cn; omega) pq.s X1
      rw [show ((k + 1 : Nat) : Int) = (k : Int) + 1 from rfl] at e2
      refine ⟨g2, ?_, f1.tr f2, J2⟩
      rw [X_shuts_b, if_neg c0, if_pos (by rw [cn]; exact z), e1, sb, e2]
      show _ = some ((if 500000 ≤ sm (rF u r gn sh f k) 1000 then shR u r gn sh f n (k + 1) else k), g2)
      rw [if_pos z]
    · refine ⟨g, ?_, Fr.rf, p, q, pq, X.1, X.2.1⟩
      rw [X_shuts_b, if_neg c0, if_neg (by rw [cn]; exact z)]
      show _ = some ((if 500000 ≤ sm (rF u r gn sh f k) 1000 then shR u r gn sh f n (k + 1) else k), g)
      rw [if_neg z]
theorem M_shuts_s {u r gn sh : Nat} (hu : u ≤ 99) (hr : r ≤ 100) (hg : gn ≤ 99) (hs : sh ≤ 999) {f : Nat → Int} (h : FOk f) : ∀ (n k : Nat) (g : AG), k + 1 + n = 61 → (∀ i : Nat, i < 1000 → g 186 i = rF u r gn sh f k i) → ∃ g', M_shuts_b u r gn sh ((k + 1 : Nat) : Int) g = some (shR u r gn sh f n (k + 1), g') ∧ FR RM g g' := by
  intro n
  induction n with
  | zero =>
    intro k g e X
    have : k = 60 := by omega
    subst this
    refine ⟨g, ?_, Fr.rf⟩
    rw [M_shuts_b, if_pos (by rw [nw_id (by decide) (by decide)]; decide)]
    rfl
  | succ n ih =>
    intro k g e X
    have c0 : ¬ 60 < nw ((k + 1 : Nat) : Int) := by rw [nw_id (by omega) (by omega)]; omega
    obtain ⟨g1, e1, f1, X1⟩ := M_day hu hr hg hs (rF_ok (u := u) (gn := gn) (sh := sh) hr h k) X
    have fk := rF_ok (u := u) (gn := gn) (sh := sh) hr h (k + 1)
    have b0 := sm_nn (f := rF u r gn sh f (k + 1)) 1000 fk.1
    have kp : M_kept g1 = some (sm (rF u r gn sh f (k + 1)) 1000) := M_kept_s (f := rF u r gn sh f (k + 1)) X1 1000 0 0 rfl rfl
    have cn : nw (sm (rF u r gn sh f (k + 1)) 1000) = sm (rF u r gn sh f (k + 1)) 1000 := by
      have := fk.2
      clear c0
      exact nw_id (by omega) (by omega)
    by_cases z : 500000 ≤ sm (rF u r gn sh f (k + 1)) 1000
    · obtain ⟨g2, e2, f2⟩ := ih (k + 1) g1 (by clear c0 cn; omega) X1
      rw [show ((k + 1 + 1 : Nat) : Int) = ((k + 1 : Nat) : Int) + 1 from rfl] at e2
      refine ⟨g2, ?_, f1.tr f2⟩
      rw [M_shuts_b, if_neg c0, e1, sb, kp, sb, if_pos (by rw [cn]; exact z), e2]
      show _ = some ((if 500000 ≤ sm (rF u r gn sh f (k + 1)) 1000 then shR u r gn sh f n (k + 1 + 1) else ((k + 1 : Nat) : Int)), g2)
      rw [if_pos z]
    · refine ⟨g1, ?_, f1⟩
      rw [M_shuts_b, if_neg c0, e1, sb, kp, sb, if_neg (by rw [cn]; exact z)]
      show _ = some ((if 500000 ≤ sm (rF u r gn sh f (k + 1)) 1000 then shR u r gn sh f n (k + 1 + 1) else ((k + 1 : Nat) : Int)), g1)
      rw [if_neg z]
theorem sm_shuts {x1 x2 x3 x4 : Int} {g : AG} (h1 : I32 x1) (h2 : I32 x2) (h3 : I32 x3) (h4 : I32 x4) (W : JWat g) (R : JRain g) :
    ∃ r1 r2, X_shuts x1 x2 x3 x4 g = some r1 ∧ M_shuts x1 x2 x3 x4 r1.2 = some r2 ∧ nw r1.1 = nw r2.1 ∧ FR RW g r2.2 ∧ JRain r2.2 := by
  have we := wea0 h1 h2 h3 h4
  have wx : (nw (X_isWeather x1 x2 x3 x4) = 0) = _ := we
  by_cases ok : ¬ ((0 ≤ x1 ∧ x1 ≤ 99) ∧ (0 ≤ x2 ∧ x2 ≤ 100) ∧ (0 ≤ x3 ∧ x3 ≤ 99) ∧ (0 ≤ x4 ∧ x4 ≤ 999))
  · refine ⟨(-1, g), (-1, g), ?_, ?_, rfl, Fr.rf, R⟩
    · unfold X_shuts; rw [if_pos (by rw [wx]; exact ok)]
    · unfold M_shuts; dsimp only; rw [if_pos (by rw [we]; exact ok)]
  replace ok := Decidable.not_not.1 ok
  obtain ⟨u, rfl⟩ := natOf ok.1.1
  obtain ⟨r, rfl⟩ := natOf ok.2.1.1
  obtain ⟨gn, rfl⟩ := natOf ok.2.2.1.1
  obtain ⟨sh, rfl⟩ := natOf ok.2.2.2.1
  obtain ⟨W1, W2, W3⟩ := W
  obtain ⟨w, hw⟩ := natOf W2
  obtain ⟨p, q, pq, x0, x1⟩ := R
  have hw9 : w ≤ 999 := by clear we wx; omega
  obtain ⟨hu, hr, hg, hs⟩ : u ≤ 99 ∧ r ≤ 100 ∧ gn ≤ 99 ∧ sh ≤ 999 := by clear we wx; omega
  obtain ⟨g1, e1, f1, X1⟩ := X_start hs hw9 pq x0 x1
  have fo := f0_ok (sh := sh) hw9
  obtain ⟨g2, e2, f2, J2⟩ := X_shuts_s hu hr hg hs fo 61 0 g1 p q rfl pq X1
  have xE : X_shuts u r gn sh g = some (shR u r gn sh (f0 w sh) 61 0, g2) := by
    unfold X_shuts
    have e2' : X_shuts_b u r gn sh 0 g1 = _ := e2
    rw [if_neg (by rw [wx]; exact fun z => z ok), hw, e1, sb, e2']
  have fX : FR RW g g2 := FR.mo (f1.tr f2) rfl
  have m10 : g2 117 10 = w := by rw [fX 117 10 rfl, W1, hw]
  have cc : (nw (sh : Int) ≤ nw (g2 117 10)) = (sh ≤ w) := by
    rw [m10, show nw (sh : Int) = sh from nw_id (by clear we wx; omega) (by clear we wx; omega), show nw (w : Int) = w from nw_id (by clear we wx; omega) (by clear we wx; omega)]
    exact propext ⟨fun z => by clear we wx; omega, fun z => by clear we wx; omega⟩
  have s0 : shR u r gn sh (f0 w sh) 61 0 = if 500000 ≤ sm (f0 w sh) 1000 then shR u r gn sh (f0 w sh) 60 1 else ((0 : Nat) : Int) := rfl
  rw [f0_sum hw9] at s0
  obtain ⟨V, hV⟩ : ∃ V, V = shR u r gn sh (f0 w sh) 61 0 := ⟨_, rfl⟩
  rw [← hV] at xE s0
  clear hV e2
  by_cases z : sh ≤ w
  · obtain ⟨g3, e3, f3, z3⟩ := M_starts_s hw9 1000 0 g2 rfl m10 (fun j hj => by omega)
    obtain ⟨g4, e4, f4⟩ := M_shuts_s hu hr hg hs fo 60 0 g3 rfl (fun i hi => by
      rw [z3 i hi]
      show _ = if w = i then (if sh ≤ w then (1000000 : Int) else 0) else 0
      rw [if_pos z])
    rw [if_pos z, if_pos (by decide)] at s0
    have fM : FR RW g2 g4 := FR.mo (f3.tr f4) rfl
    refine ⟨(V, g2), (shR u r gn sh (f0 w sh) 60 1, g4), xE, ?_, ?_, fX.tr fM, ?_⟩
    · unfold M_shuts M_starts
      dsimp only
      have e3' : M_starts_b 0 g2 = _ := e3
      have e4' : M_shuts_b u r gn sh 1 g3 = _ := e4
      rw [if_neg (by rw [we]; exact fun z => z ok), if_pos (by rw [cc]; exact z), e3', sb, e4']
    · dsimp only; rw [s0]
    · obtain ⟨p, q, a, b, c⟩ := J2
      exact ⟨p, q, a, by show g4 12 0 = _; rw [(f3.tr f4) 12 0 rfl]; exact b, by show g4 12 1 = _; rw [(f3.tr f4) 12 1 rfl]; exact c⟩
  · rw [if_neg z, if_neg (by decide)] at s0
    refine ⟨(V, g2), (0, g2), xE, ?_, ?_, fX, J2⟩
    · unfold M_shuts
      dsimp only
      rw [if_neg (by rw [we]; exact fun z => z ok), if_neg (by rw [cc]; exact z)]
    · dsimp only; rw [s0]; rfl
