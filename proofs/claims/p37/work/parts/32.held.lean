/-! plain programs: held -/
theorem X_held_s {b : Nat} {dp sd wk : Int} {g : AG} (hb : (b : Int) < g 6 7) (hB : JBoR g) (hd : 0 ≤ dp ∧ dp ≤ 99) (hs : 0 ≤ sd ∧ sd ≤ 9) (hw : 0 ≤ wk ∧ wk ≤ 9) (J : JRule g) :
    (srvG g (fcHold wk dp sd (g 49 b)) 3 (g 2 3).toNat 0 = -1 → ∃ g', X_held b dp sd wk g = some (0, g') ∧ FR [(27, 0), (28, 0)] g g') ∧
    (∀ l : Nat, srvG g (fcHold wk dp sd (g 49 b)) 3 (g 2 3).toNat 0 = l → (l : Int) < g 2 3 → g 128 l = 3 → ∀ v, evl (g 134) (fcHold wk dp sd (g 49 b)) (g 132 l - g 131 l).toNat (g 131 l).toNat [] = some [v] → ∃ g', X_held b dp sd wk g = some (v, g') ∧ FR [(27, 0), (28, 0)] g g') := by
  obtain ⟨b1, b2, b3⟩ := hB
  obtain ⟨g1, e1, f1, a1⟩ := Rules_askWeek_s (wk := wk) (g := g)
  have f2 : FR [(27, 0)] g (up (up (up g1 27 6 dp) 27 7 sd) 27 5 (g 49 b)) := Fr.up (Fr.up (Fr.up f1 rfl) rfl) rfl
  have a2 : ∀ s : Nat, 1 ≤ s → s < 10 → (up (up (up g1 27 6 dp) 27 7 sd) 27 5 (g 49 b)) 27 (s - 1) = fcHold wk dp sd (g 49 b) s := by
    intro s hs hs2
    have := a1 (s - 1) (by omega)
    unfold fcHold
    simp only [up_at, true_and, this]
    ((repeat' split) <;> first | rfl | omega)
  obtain ⟨g2, e2, f3⟩ := X_serving_s (sort := 3) (x := 103) (by omega) (by omega) ((J.xrel).fr f2 rfl) a2
  have fT : FR [(27, 0), (28, 0)] g g2 := (f2.mo rfl).tr (f3.mo rfl)
  have eL : Boats_holdLine b dp sd wk g = some (srvG g (fcHold wk dp sd (g 49 b)) 3 (g 2 3).toNat 0, g2) := by
    unfold Boats_holdLine
    have c2 : g1 49 b = g 49 b := f1 49 b rfl
    rw [e1, sb, sb, sb, if_pos (by rw [nw_id (by omega) (by omega)]; omega), ix_lits.2.2.2.2.2.2.1, ix_lits.2.2.2.2.2.2.2.1, ix_lits.2.2.2.2.2.1, ix_id (by omega) (by omega), Int.toNat_natCast]
    dsimp only
    rw [show (up (up g1 27 6 dp) 27 7 sd) 49 b = g 49 b by simp [up_at, c2], sb, e2, sb, f2 2 3 rfl]
  have a3 : ∀ s : Nat, 1 ≤ s → s < 10 → g2 27 (s - 1) = fcHold wk dp sd (g 49 b) s := by
    intro s hs hs2
    rw [f3 27 (s - 1) rfl]
    exact a2 s hs hs2
  have J0 := J.1
  constructor
  · intro e
    rw [e] at eL
    refine ⟨g2, ?_, fT⟩
    unfold X_held
    have c1 : ¬ nw (X_isBoat b g) = 0 := by rw [X_isBoat0 (by omega) (by omega) b2 b3]; omega
    have c2 : ¬ nw (X_isWeek wk) = 0 := by clear c1; rw [isWeek0 (by omega) (by omega)]; omega
    have c3 : ¬ nw (X_within dp 0 99) = 0 := by clear c1 c2; rw [within0 (by omega) (by omega) (by omega) (by omega) (by omega) (by omega)]; omega
    have c4 : ¬ nw (X_within sd 0 9) = 0 := by clear c1 c2 c3; rw [within0 (by omega) (by omega) (by omega) (by omega) (by omega) (by omega)]; omega
    rw [if_neg c1, if_neg c2, if_neg c3, if_neg c4, eL, sb, nw_m1, if_pos rfl, sb]
  · intro l e hl hk v hv
    rw [e] at eL
    obtain ⟨v', g3, e4, f4, hv'⟩ := (J.xrel.fr fT rfl).val a3 (l := l) (by rw [fT 2 3 rfl]; exact hl) (by omega)
    rw [hv] at hv'
    cases hv'
    refine ⟨g3, ?_, fT.tr (f4.mo rfl)⟩
    unfold X_held
    have c5 : ¬ nw (l : Int) = -1 := by rw [nw_id (by omega) (by omega)]; omega
    have c1 : ¬ nw (X_isBoat b g) = 0 := by clear c5; rw [X_isBoat0 (by omega) (by omega) b2 b3]; omega
    have c2 : ¬ nw (X_isWeek wk) = 0 := by clear c1 c5; rw [isWeek0 (by omega) (by omega)]; omega
    have c3 : ¬ nw (X_within dp 0 99) = 0 := by clear c1 c2 c5; rw [within0 (by omega) (by omega) (by omega) (by omega) (by omega) (by omega)]; omega
    have c4 : ¬ nw (X_within sd 0 9) = 0 := by clear c1 c2 c3 c5; rw [within0 (by omega) (by omega) (by omega) (by omega) (by omega) (by omega)]; omega
    rw [if_neg c1, if_neg c2, if_neg c3, if_neg c4, eL, sb, if_neg c5, e4, sb, sb]
theorem M_held_s {b : Nat} {dp sd wk : Int} {g : AG} (hb : (b : Int) < g 6 7) (hB : JBoR g) (hd : 0 ≤ dp ∧ dp ≤ 99) (hs : 0 ≤ sd ∧ sd ≤ 9) (hw : 0 ≤ wk ∧ wk ≤ 9) (J : JRule g) :
    (srvG g (fcHold wk dp sd (g 125 b)) 3 (g 2 3).toNat 0 = -1 → ∃ g', M_held b dp sd wk g = some (0, g') ∧ FR [(147, 0), (148, 0)] g g') ∧
    (¬ srvG g (fcHold wk dp sd (g 125 b)) 3 (g 2 3).toNat 0 = -1 → ∃ l v g', srvG g (fcHold wk dp sd (g 125 b)) 3 (g 2 3).toNat 0 = (l : Nat) ∧ (l : Int) < g 2 3 ∧ g 128 l = 3 ∧ evl (g 134) (fcHold wk dp sd (g 125 b)) (g 132 l - g 131 l).toNat (g 131 l).toNat [] = some [v] ∧ M_held b dp sd wk g = some (v, g') ∧ FR [(147, 0), (148, 0)] g g') := by
  have f1 : FR [(148, 0)] g (up (up (up (up (fun a b => if a = 148 ∧ b < 10 then 0 else g a b) 148 2 wk) 148 7 dp) 148 8 sd) 148 6 (g 125 b)) := by
    intro a b hab
    have n1 : a ≠ 148 := fun e => by subst e; revert hab; simp [inR, inP]
    simp only [up_at, n1, false_and, if_false]
  have a1 : ∀ k, k < 10 → (up (up (up (up (fun a b => if a = 148 ∧ b < 10 then 0 else g a b) 148 2 wk) 148 7 dp) 148 8 sd) 148 6 (g 125 b)) 148 k = fcHold wk dp sd (g 125 b) k := by
    intro k hk
    unfold fcHold
    simp only [up_at, true_and]
    ((repeat' split) <;> first | rfl | omega)
  obtain ⟨g2, e2, f2⟩ := M_serves_s (sort := 3) (by omega) (J.cg (f1.cg rfl)) a1
  obtain ⟨b1, b2, b3⟩ := hB
  have J0 := J.1
  have fT : FR [(147, 0), (148, 0)] g g2 := (f1.mo rfl).tr (f2.mo rfl)
  have k1 : ∀ G : AG, G = up (up (up (up (fun a b => if a = 148 ∧ b < 10 then 0 else g a b) 148 2 wk) 148 7 dp) 148 8 sd) 148 6 (g 125 b) → G 128 = g 128 ∧ G 132 = g 132 ∧ G 133 = g 133 ∧ G 134 = g 134 ∧ G 2 3 = g 2 3 := by
    intro G hG
    rw [hG]
    exact ⟨f1.cell (fun _ => rfl), f1.cell (fun _ => rfl), f1.cell (fun _ => rfl), f1.cell (fun _ => rfl), f1 2 3 rfl⟩
  obtain ⟨k2, k3, k4, k5, k6⟩ := k1 _ rfl
  unfold srvG at e2
  rw [k2, k3, k4, k5, k6] at e2
  have pre : ∀ r, M_held b dp sd wk g = r ↔ ((M_serves 3 (up (up (up (up (fun a b => if a = 148 ∧ b < 10 then 0 else g a b) 148 2 wk) 148 7 dp) 148 8 sd) 148 6 (g 125 b))) >>= fun r16 => (if nw r16.1 = -1 then some (0, r16.2) else if 0 ≤ nw r16.1 ∧ nw r16.1 < 16 then (M_comesTo (r16.2 131 (ix r16.1)) (r16.2 132 (ix r16.1)) r16.2 >>= fun r20 => some (r20.1, r20.2)) else none) >>= fun r22 => some (r22.1, r22.2)) = r := by
    intro r
    unfold M_held
    rw [M_forgets_s, ix_lits.2.2.1, ix_lits.2.2.2.2.2.2.2.1, ix_lits.2.2.2.2.2.2.2.2.1, ix_lits.2.2.2.2.2.2.1]
    clear a1 e2
    simp (disch := omega) only [M_isBoat0, isIn0, if_neg, sb, nw_id (a := (b : Int)), if_pos, ix_id (a := (b : Int)), Int.toNat_natCast]
    simp only [up_at, Nat.reduceEqDiff, false_and, if_false]
  have hr := srvF_rng (kd := g 128) (md := g 132) (en := g 133) (cd := g 134) (fc := fcHold wk dp sd (g 125 b)) (sort := 3) (g 2 3).toNat 0
  unfold srvG
  constructor
  · intro e
    rw [e] at e2
    refine ⟨g2, ?_, fT⟩
    rw [pre, e2, sb, nw_m1]
    rfl
  · intro e
    generalize srvF (g 128) (g 132) (g 133) (g 134) (fcHold wk dp sd (g 125 b)) 3 (g 2 3).toNat 0 = s at hr e e2 ⊢
    have hr2 : 0 ≤ s ∧ s < g 2 3 ∧ g 128 s.toNat = 3 := by
      rcases hr with hr | ⟨a, b, c⟩
      · exact absurd hr e
      · exact ⟨by omega, by omega, c⟩
    clear hr
    obtain ⟨l, rfl⟩ := natOf hr2.1
    rw [Int.toNat_natCast] at hr2
    obtain ⟨v, g3, e3, f4, v1⟩ := (J.cg (fT.cg rfl)).val (fc := fcHold wk dp sd (g 125 b)) (by
      intro k hk
      have := a1 k hk
      rw [f2 148 k rfl]
      exact this) (l := l) (by rw [fT 2 3 rfl]; exact hr2.2.1) (by rw [fT 128 l rfl]; omega)
    have q1 : g2 134 = g 134 := fT.cell (fun _ => rfl)
    rw [q1, fT 132 l rfl, fT 131 l rfl] at v1
    refine ⟨l, v, g3, rfl, hr2.2.1, hr2.2.2, v1, ?_, fT.tr (f4.mo rfl)⟩
    rw [pre, e2, sb]
    simp (disch := omega) only [nw_id (a := (l : Int)), if_neg, sb, if_pos, ix_id (a := (l : Int)), Int.toNat_natCast, e3]
theorem sm_held {x1 x2 x3 x4 : Int} {g : AG} (h1 : I32 x1) (h2 : I32 x2) (h3 : I32 x3) (h4 : I32 x4) (J : JRule g) (hB : JBoR g) (hV : JBoV g) :
    ∃ r1 r2, X_held x1 x2 x3 x4 g = some r1 ∧ M_held x1 x2 x3 x4 r1.2 = some r2 ∧ nw r1.1 = nw r2.1 ∧ FR [(27, 0), (28, 0), (147, 0), (148, 0)] g r2.2 := by
  unfold I32 at *
  have hB0 := hB
  obtain ⟨b1, b2, b3⟩ := hB
  by_cases h : 0 ≤ x1 ∧ x1 < g 6 7 ∧ (0 ≤ x2 ∧ x2 ≤ 99) ∧ (0 ≤ x3 ∧ x3 ≤ 9) ∧ (0 ≤ x4 ∧ x4 ≤ 9)
  · obtain ⟨b, rfl⟩ := natOf h.1
    have V := hV b (by omega)
    have key : ∀ g1 : AG, FR [(27, 0), (28, 0)] g g1 → (srvG g (fcHold x4 x2 x3 (g 49 b)) 3 (g 2 3).toNat 0 = -1 → ∃ g', M_held b x2 x3 x4 g1 = some (0, g') ∧ FR [(147, 0), (148, 0)] g1 g') ∧ (¬ srvG g (fcHold x4 x2 x3 (g 49 b)) 3 (g 2 3).toNat 0 = -1 → ∃ l v g', srvG g (fcHold x4 x2 x3 (g 49 b)) 3 (g 2 3).toNat 0 = (l : Nat) ∧ (l : Int) < g 2 3 ∧ g 128 l = 3 ∧ evl (g 134) (fcHold x4 x2 x3 (g 49 b)) (g 132 l - g 131 l).toNat (g 131 l).toNat [] = some [v] ∧ M_held b x2 x3 x4 g1 = some (v, g') ∧ FR [(147, 0), (148, 0)] g1 g') := by
      intro g1 f1
      have m := M_held_s (b := b) (dp := x2) (sd := x3) (wk := x4) (g := g1) (by rw [f1 6 7 rfl]; omega) ⟨by rw [f1 117 12 rfl, f1 6 7 rfl]; exact b1, by rw [f1 6 7 rfl]; exact b2, by rw [f1 6 7 rfl]; exact b3⟩ h.2.2.1 h.2.2.2.1 h.2.2.2.2 (J.cg (f1.cg rfl))
      have c1 : g1 128 = g 128 := f1.cell (fun _ => rfl)
      have c2 : g1 132 = g 132 := f1.cell (fun _ => rfl)
      have c3 : g1 133 = g 133 := f1.cell (fun _ => rfl)
      have c4 : g1 134 = g 134 := f1.cell (fun _ => rfl)
      have c5 : g1 131 = g 131 := f1.cell (fun _ => rfl)
      unfold srvG at m ⊢
      rw [c1, c2, c3, c4, c5, f1 2 3 rfl, f1 125 b rfl, V.2.1] at m
      exact m
    have hx := X_held_s (b := b) (dp := x2) (sd := x3) (wk := x4) (g := g) (by omega) hB0 h.2.2.1 h.2.2.2.1 h.2.2.2.2 J
    by_cases e : srvG g (fcHold x4 x2 x3 (g 49 b)) 3 (g 2 3).toNat 0 = -1
    · obtain ⟨g1, e1, f1⟩ := hx.1 e
      obtain ⟨g2, e2, f2⟩ := (key g1 f1).1 e
      exact ⟨_, _, e1, e2, rfl, (f1.mo rfl).tr (f2.mo rfl)⟩
    · obtain ⟨l, v, _, p1, p2, p3, p4, _, _⟩ := (key g Fr.rf).2 e
      obtain ⟨g1, e1, f1⟩ := hx.2 l p1 p2 p3 v p4
      obtain ⟨l', v', g2, q1, q2, q3, q4, q5, q6⟩ := (key g1 f1).2 e
      rw [p1] at q1
      have : l = l' := by omega
      subst this
      rw [p4] at q4
      cases q4
      exact ⟨_, _, e1, q5, rfl, (f1.mo rfl).tr (q6.mo rfl)⟩
  · have eX : X_held x1 x2 x3 x4 g = some (-1000000, g) := by
      unfold X_held
      revert h
      simp (disch := omega) only [nw_id, ix_id, X_isBoat0, isWeek0, within0]
      intro h
      ((repeat' split) <;> first | rfl | omega)
    have eM : M_held x1 x2 x3 x4 g = some (-1000000, g) := by
      unfold M_held
      revert h
      simp (disch := omega) only [nw_id, ix_id, M_isBoat0, isIn0]
      intro h
      ((repeat' split) <;> first | rfl | omega)
    exact ⟨_, _, eX, eM, rfl, Fr.rf⟩
