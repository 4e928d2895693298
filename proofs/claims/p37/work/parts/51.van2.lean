/-! plain programs: van, vans, taken -/
def bpF (s : Nat → Int) : Nat → Nat → Nat → Nat
  | 0, _, best => best
  | n + 1, q, best => bpF s n (q + 1) (if s q < s best then q else best)
theorem bpF_le {s : Nat → Int} : ∀ (n q best : Nat), q + n ≤ 16 → best ≤ 15 → bpF s n q best ≤ 15
  | 0, _, _, _, h => h
  | n + 1, q, best, h1, h2 => bpF_le n (q + 1) _ (by omega) (by split <;> omega)
theorem X_best_s {g : AG} {rd w : Nat → Int} (V : VX g rd w) : ∀ (n q best : Nat), q + n = 16 → best ≤ 15 → Vans_bestPoint_b g best q = some ((bpF (fun p => suF rd w p p 16) n q best : Nat) : Int) := by
  intro n
  induction n with
  | zero =>
    intro q best h hb
    rw [Vans_bestPoint_b]
    simp (disch := omega) only [nw_id, ix_id, sb, if_true, if_false, if_pos, if_neg, true_and, and_true, false_and, and_false, and_self]
    rfl
  | succ n ih =>
    intro q best h hb
    have s1 := X_sumFrom_s V (a := q) (b := q) (by omega) (by omega)
    have s2 := X_sumFrom_s V (a := best) (b := best) hb hb
    have r1 := su_rng V.1 (fun p hp => (V.2.2 p hp).2) (a := q) (b := q) (by omega) (by omega) 16 (by omega)
    have r2 := su_rng V.1 (fun p hp => (V.2.2 p hp).2) (a := best) (b := best) hb hb 16 (by omega)
    have e := ih (q + 1) (if suF rd w q q 16 < suF rd w best best 16 then q else best) (by omega) (by split <;> omega)
    rw [show ((q + 1 : Nat) : Int) = (q : Int) + 1 from rfl] at e
    unfold bpF
    rw [← e, Vans_bestPoint_b]
    clear e ih V
    generalize suF rd w q q 16 = P at s1 r1 ⊢
    generalize suF rd w best best 16 = Q at s2 r2 ⊢
    have c0 : ¬ 16 ≤ nw (q : Int) := by rw [nw_id (by omega) (by omega)]; omega
    have c1 : nw P = P := by clear c0; exact nw_id (by omega) (by omega)
    have c2 : nw Q = Q := by clear c0 c1; exact nw_id (by omega) (by omega)
    rw [if_neg c0, s1, sb, s2, sb, c1, c2, sb]
    clear c0 c1 c2
    by_cases y : P < Q
    · rw [if_neg (by omega), if_pos y]
    · rw [if_pos (by omega), if_neg y]
theorem M_best_s {g : AG} {rd w : Nat → Int} (V : VM g rd w) {wh : Int} : ∀ (n q best : Nat), q + n = 16 → best ≤ 15 → M_van_b wh g best q = M_van_b wh g (bpF (fun p => suF rd w p p 16) n q best : Nat) 16 := by
  intro n
  induction n with
  | zero =>
    intro q best h hb
    rw [show q = 16 by omega]
    rfl
  | succ n ih =>
    intro q best h hb
    have s1 := M_sumOf_s V (p := q) (by omega)
    have s2 := M_sumOf_s V (p := best) hb
    have r1 := su_rng V.1 (fun p hp => (V.2.2 p hp).2) (a := q) (b := q) (by omega) (by omega) 16 (by omega)
    have r2 := su_rng V.1 (fun p hp => (V.2.2 p hp).2) (a := best) (b := best) hb hb 16 (by omega)
    have e := ih (q + 1) (if suF rd w q q 16 < suF rd w best best 16 then q else best) (by omega) (by split <;> omega)
    rw [show ((q + 1 : Nat) : Int) = (q : Int) + 1 from rfl] at e
    unfold bpF
    rw [← e, M_van_b]
    clear e ih V
    generalize suF rd w q q 16 = P at s1 r1 ⊢
    generalize suF rd w best best 16 = Q at s2 r2 ⊢
    have c0 : ¬ 16 ≤ nw (q : Int) := by rw [nw_id (by omega) (by omega)]; omega
    have c1 : nw P = P := by clear c0; exact nw_id (by omega) (by omega)
    have c2 : nw Q = Q := by clear c0 c1; exact nw_id (by omega) (by omega)
    rw [if_neg c0, s1, sb, s2, sb, c1, c2, sb]
    clear c0 c1 c2
    by_cases y : P < Q
    · rw [if_neg (by omega), if_pos y]
    · rw [if_pos (by omega), if_neg y]
theorem VX.of {g g1 : AG} (W : JWay g) (Wt : JWgt g) (f : FR [(108, 0)] g g1) (h : ∀ i : Nat, i ≤ 15 → g1 108 i = sm (g 15) i) : VX g1 (g 15) (g 107) := by
  refine ⟨fun i hi => ?_, h, fun p hp => ?_⟩
  · have := W i hi; omega
  · rw [f 107 p rfl]
    have := Wt p hp
    exact ⟨rfl, this.2⟩
theorem VM.of {W' : Reg} {g g1 : AG} (W : JWay g) (Wt : JWgt g) (f : FR W' g g1) (d : djR [(120, 0), (180, 0)] W' = true) : VM g1 (g 15) (g 107) := by
  have q := f.cg d
  refine ⟨fun i hi => ?_, fun i hi => ?_, fun p hp => ?_⟩
  · have := W i hi; omega
  · rw [q 120 i rfl]; have := W i hi; omega
  · rw [q 180 p rfl]
    have := Wt p hp
    exact ⟨this.1, this.2⟩
theorem measure0 {g : AG} (A : JAlong g) : ∃ g', Vans_measure g = some (0, g') ∧ FR [(108, 0)] g g' ∧ (∀ i : Nat, i ≤ 15 → g' 108 i = sm (g 15) i) ∧ JAlong g' := by
  obtain ⟨g', e, f, p⟩ := measure_s 15 0 g (by omega) (by intro i hi; rw [show i = 0 by omega]; exact A)
  exact ⟨g', e, f, p, p 0 (by omega)⟩
theorem sm_van {x1 : Int} {g : AG} (h1 : I32 x1) (W : JWay g) (Wt : JWgt g) (A : JAlong g) :
    ∃ (r1 : Int × AG) (v2 : Int), X_van x1 g = some r1 ∧ M_van x1 r1.2 = some v2 ∧ nw r1.1 = nw v2 ∧ FR [(108, 0)] g r1.2 ∧ JAlong r1.2 := by
  unfold I32 at *
  obtain ⟨g1, e1, f1, p1, A1⟩ := measure0 A
  have VXg := VX.of W Wt f1 p1
  have VMg := VM.of W Wt f1 rfl
  have ePt : ∀ y : Int, (nw (X_isPoint (x1 - y)) = 0) = ¬ (0 ≤ nw (x1 - y) ∧ nw (x1 - y) ≤ 15) := by
    intro y
    unfold X_isPoint X_within
    rw [nw_0, nw_id (a := 15) (by decide) (by decide)]
    by_cases z : nw (x1 - y) < 0
    · rw [if_pos z, nw_0]; simp; omega
    · rw [if_neg z]
      by_cases z2 : 15 < nw (x1 - y)
      · rw [if_pos z2, nw_0]; simp; omega
      · rw [if_neg z2, nw_1]; simp; omega
  have eIn : ∀ a b : Int, 0 ≤ a → b ≤ 1000 → a ≤ b → (nw (M_isIn x1 a b) = 0) = (x1 < a ∨ b < x1) := fun a b h0 h1 h2 => isIn0 (by omega) (by omega) (by omega) (by omega) (by omega) (by omega)
  have eW : (nw (X_within x1 0 2) = 0) = (x1 < 0 ∨ 2 < x1) := within0 (by omega) (by omega) (by omega) (by omega) (by omega) (by omega)
  by_cases k0 : 0 ≤ x1 ∧ x1 ≤ 2
  · have hb := bpF_le (s := fun p => suF (g 15) (g 107) p p 16) 15 1 0 (by omega) (by omega)
    have xb := X_best_s VXg 15 1 0 (by omega) (by omega)
    have mb := M_best_s VMg (wh := x1) 15 1 0 (by omega) (by omega)
    generalize bpF (fun p => suF (g 15) (g 107) p p 16) 15 1 0 = best at hb xb mb
    have xs := X_sumFrom_s VXg (a := best) (b := best) hb hb
    have ms := M_sumOf_s VMg (p := best) hb
    have xw := X_worst_s VXg hb 16 0 0 (by omega) (by omega) (by omega)
    have mw := M_worst_s VMg hb 16 0 0 (by omega) (by omega) (by omega)
    have xb' : Vans_bestPoint g1 = some (best : Int) := xb
    have xw' : Vans_worstFrom best g1 = some (woF (g 15) (g 107) best 16 0 0) := xw
    have mw' : M_worstOf best g1 = some (woF (g 15) (g 107) best 16 0 0) := mw
    have n1 : nw x1 = x1 := nw_id (by omega) (by omega)
    refine ⟨((if x1 = 0 then (best : Int) else if x1 = 1 then suF (g 15) (g 107) best best 16 else woF (g 15) (g 107) best 16 0 0), g1), _, ?_, ?_, rfl, f1, A1⟩
    · unfold X_van
      rw [e1, sb, if_neg (by rw [eW]; clear n1; omega), xb', sb, n1]
      by_cases z : x1 = 0
      · rw [if_pos z, if_pos z]
      · rw [if_neg z, if_neg z]
        by_cases z1 : x1 = 1
        · rw [if_pos z1, if_pos z1, xs, sb, sb]
        · rw [if_neg z1, if_neg z1, xw', sb, sb]
    · unfold M_van
      have i1 := eIn 100 115 (by omega) (by omega) (by omega)
      have i2 := eIn 200 215 (by omega) (by omega) (by omega)
      have i3 := eIn 0 2 (by omega) (by omega) (by omega)
      rw [if_pos (by rw [i1]; clear n1; omega), if_pos (by rw [i2]; clear n1; omega), if_neg (by rw [i3]; clear n1; omega)]
      have mb' : M_van_b x1 g1 0 1 = M_van_b x1 g1 best 16 := mb
      rw [mb', M_van_b, if_pos (by rw [nw_id (by decide) (by decide)]; decide), n1]
      by_cases z : x1 = 0
      · rw [if_pos z, if_pos z, sb]
      · rw [if_neg z, if_neg z]
        by_cases z1 : x1 = 1
        · rw [if_pos z1, if_pos z1, ms, sb, sb]
        · rw [if_neg z1, if_neg z1, mw', sb, sb]
  · by_cases k1 : 100 ≤ x1 ∧ x1 ≤ 115
    · obtain ⟨p, hp⟩ := natOf (show 0 ≤ x1 - 100 by omega)
      have xs := X_sumFrom_s VXg (a := p) (b := p) (by omega) (by omega)
      have ms := M_sumOf_s VMg (p := p) (by omega)
      refine ⟨(suF (g 15) (g 107) p p 16, g1), _, ?_, ?_, rfl, f1, A1⟩
      · unfold X_van
        rw [e1, sb, if_pos (by rw [eW]; omega), if_neg (by rw [ePt 100, nw_id (by omega) (by omega)]; omega), hp, xs, sb]
      · unfold M_van
        rw [if_neg (by rw [eIn 100 115 (by omega) (by omega) (by omega)]; omega), hp, ms, sb]
    · by_cases k2 : 200 ≤ x1 ∧ x1 ≤ 215
      · obtain ⟨p, hp⟩ := natOf (show 0 ≤ x1 - 200 by omega)
        have xw : Vans_worstFrom p g1 = some (woF (g 15) (g 107) p 16 0 0) := X_worst_s VXg (by omega) 16 0 0 (by omega) (by omega) (by omega)
        have mw : M_worstOf p g1 = some (woF (g 15) (g 107) p 16 0 0) := M_worst_s VMg (by omega) 16 0 0 (by omega) (by omega) (by omega)
        refine ⟨(woF (g 15) (g 107) p 16 0 0, g1), _, ?_, ?_, rfl, f1, A1⟩
        · unfold X_van
          rw [e1, sb, if_pos (by rw [eW]; omega), if_pos (by rw [ePt 100, nw_id (by omega) (by omega)]; omega), if_neg (by rw [ePt 200, nw_id (by omega) (by omega)]; omega), hp, xw, sb, sb]
        · unfold M_van
          rw [if_pos (by rw [eIn 100 115 (by omega) (by omega) (by omega)]; omega), if_neg (by rw [eIn 200 215 (by omega) (by omega) (by omega)]; omega), hp, mw, sb]
      · have w1 : ¬ (0 ≤ nw (x1 - 100) ∧ nw (x1 - 100) ≤ 15) := by
          intro q
          have := nw_iff (x := x1 - 100) (y := nw (x1 - 100))
          have e : nw (nw (x1 - 100)) = nw (x1 - 100) := nw_id (by omega) (by omega)
          have := this.mp e.symm
          omega
        have w2 : ¬ (0 ≤ nw (x1 - 200) ∧ nw (x1 - 200) ≤ 15) := by
          clear w1
          intro q
          have := nw_iff (x := x1 - 200) (y := nw (x1 - 200))
          have e : nw (nw (x1 - 200)) = nw (x1 - 200) := nw_id (by omega) (by omega)
          have := this.mp e.symm
          omega
        refine ⟨(-1, g1), -1, ?_, ?_, rfl, f1, A1⟩
        · unfold X_van
          rw [e1, sb, if_pos (by rw [eW]; clear w1 w2; omega), if_pos (by rw [ePt 100]; exact w1), if_pos (by rw [ePt 200]; exact w2), sb]
        · clear w1 w2
          unfold M_van
          rw [if_pos (by rw [eIn 100 115 (by omega) (by omega) (by omega)]; omega), if_pos (by rw [eIn 200 215 (by omega) (by omega) (by omega)]; omega), if_pos (by rw [eIn 0 2 (by omega) (by omega) (by omega)]; omega)]
