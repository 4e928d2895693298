section
/-! plain programs: held -/
theorem X_held_s {b : Nat} {dp sd wk : Int} {g : AG} (hb : (b : Int) < g 6 7) (hB : JBoR g) (hd : 0 ≤ dp ∧ dp ≤ 99) (hs : 0 ≤ sd ∧ sd ≤ 9) (hw : 0 ≤ wk ∧ wk ≤ 9) (J : JRule g) :
    (srvG g (fcHold wk dp sd (g 49 b)) 3 (g 2 3).toNat 0 = -1 → ∃ g', X_held b dp sd wk g = some (0, g') ∧ FR [(27, 0), (28, 0)] g g') ∧
    (∀ l : Nat, srvG g (fcHold wk dp sd (g 49 b)) 3 (g 2 3).toNat 0 = l → (l : Int) < g 2 3 → g 128 l = 3 → ∀ v, evl (g 134) (fcHold wk dp sd (g 49 b)) (g 132 l - g 131 l).toNat (g 131 l).toNat [] = some [v] → ∃ g', X_held b dp sd wk g = some (v, g') ∧ FR [(27, 0), (28, 0)] g g') := by
  obtain ⟨b1, b2, b3⟩ := hB
  obtain ⟨g1, e1, f1, a1⟩ := Rules_askWeek_s (wk := wk) (g := g)
  have f2 : FR [(27, 0)] g (up (up (up g1 27 6 dp) 27 7 sd) 27 5 (g 49 b)) := Fr.up (Fr.up (Fr.up f1 rfl) rfl) rfl
  have a2 : ∀ s : Nat, 1 ≤ s → s < 10 → (up (up (up g1 27 6 dp) 27 7 sd) 27 5 (g 49 b)) 27 (s - 1) = fcHold wk dp sd (g 49 b) s := by
    intro s hs hs2
    have := a1 (s - 1) (by omega)
    unfold fcHold
    simp only [up_at, true_and, this]
    ((repeat (first | (split; · with_reducible rfl) | (split; rotate_left 1; · with_reducible rfl))) <;> first | with_reducible rfl | (refine absurd ?_ h; clear h; (repeat' apply And.intro) <;> omega) | omega | ((repeat' split) <;> first | rfl | omega))
  obtain ⟨g2, e2, f3⟩ := X_serving_s (sort := 3) (x := 103) (by omega) (by omega) ((J.xrel).fr f2 rfl) a2
  have fT : FR [(27, 0), (28, 0)] g g2 := (f2.mo rfl).tr (f3.mo rfl)
  have eL : Boats_holdLine b dp sd wk g = some (srvG g (fcHold wk dp sd (g 49 b)) 3 (g 2 3).toNat 0, g2) := by
    unfold Boats_holdLine
    have c2 : g1 49 b = g 49 b := f1 49 b rfl
    rw [e1, sb, sb, sb, if_pos (by rw [nw_id (by omega) (by omega)]; omega), ix_lits.2.2.2.2.2.2.1, ix_lits.2.2.2.2.2.2.2.1, ix_lits.2.2.2.2.2.1, ix_id (by omega) (by omega), Int.toNat_natCast]
    dsimp only
    rw [show (up (up g1 27 6 dp) 27 7 sd) 49 b = g 49 b by simp [up_at, c2], sb, e2, sb, f2 2 3 rfl]
  have a3 : ∀ s : Nat, 1 ≤ s → s < 10 → g2 27 (s - 1) = fcHold wk dp sd (g 49 b) s := by
    intro s hs hs2
    rw [f3 27 (s - 1) rfl]
    exact a2 s hs hs2
  have J0 := J.1
  constructor
  · intro e
    rw [e] at eL
    refine ⟨g2, ?_, fT⟩
    unfold X_held
    have c1 : ¬ nw (X_isBoat b g) = 0 := by rw [X_isBoat0 (by omega) (by omega) b2 b3]; omega
    have c2 : ¬ nw (X_isWeek wk) = 0 := by clear c1; rw [isWeek0 (by omega) (by omega)]; omega
    have c3 : ¬ nw (X_within dp 0 99) = 0 := by clear c1 c2; rw [within0 (by omega) (by omega) (by omega) (by omega) (by omega) (by omega)]; omega
    have c4 : ¬ nw (X_within sd 0 9) = 0 := by clear c1 c2 c3; rw [within0 (by omega) (by omega) (by omega) (by omega) (by omega) (by omega)]; omega
    rw [if_neg c1, if_neg c2, if_neg c3, if_neg c4, eL, sb, nw_m1, if_pos rfl, sb]
  · intro l e hl hk v hv
    rw [e] at eL
    obtain ⟨v', g3, e4, f4, hv'⟩ := (J.xrel.fr fT rfl).val a3 (l := l) (by rw [fT 2 3 rfl]; exact hl) (by omega)
    rw [hv] at hv'
    cases hv'
    refine ⟨g3, ?_, fT.tr (f4.mo rfl)⟩
    unfold X_held
    have c5 : ¬ nw (l : Int) = -1 := by rw [nw_id (by omega) (by omega)]; omega
    have c1 : ¬ nw (X_isBoat b g) = 0 := by clear c5; rw [X_isBoat0 (by omega) (by omega) b2 b3]; omega
    have c2 : ¬ nw (X_isWeek wk) = 0 := by clear c1 c5; rw [isWeek0 (by omega) (by omega)]; omega
    have c3 : ¬ nw (X_within dp 0 99) = 0 := by clear c1 c2 c5; rw [within0 (by omega) (by omega) (by omega) (by omega) (by omega) (by omega)]; omega
    have c4 : ¬ nw (X_within sd 0 9) = 0 := by clear c1 c2 c3 c5; rw [within0 (by omega) (by omega) (by omega) (by omega) (by omega) (by omega)]; omega
    rw [if_neg c1, if_neg c2, if_neg c3, if_neg c4, eL, sb, if_neg c5, e4, sb, sb]
theorem M_held_s {b : Nat} {dp sd wk : Int} {g : AG} (hb : (b : Int) < g 6 7) (hB : JBoR g) (hd : 0 ≤ dp ∧ dp ≤ 99) (hs : 0 ≤ sd ∧ sd ≤ 9) (hw : 0 ≤ wk ∧ wk ≤ 9) (J : JRule g) :
    (srvG g (fcHold wk dp sd (g 125 b)) 3 (g 2 3).toNat 0 = -1 → ∃ g', M_held b dp sd wk g = some (0, g') ∧ FR [(147, 0), (148, 0)] g g') ∧
    (¬ srvG g (fcHold wk dp sd (g 125 b)) 3 (g 2 3).toNat 0 = -1 → ∃ l v g', srvG g (fcHold wk dp sd (g 125 b)) 3 (g 2 3).toNat 0 = (l : Nat) ∧ (l : Int) < g 2 3 ∧ g 128 l = 3 ∧ evl (g 134) (fcHold wk dp sd (g 125 b)) (g 132 l - g 131 l).toNat (g 131 l).toNat [] = some [v] ∧ M_held b dp sd wk g = some (v, g') ∧ FR [(147, 0), (148, 0)] g g') := by
  have f1 : FR [(148, 0)] g (up (up (up (up (fun a b => if a = 148 ∧ b < 10 then 0 else g a b) 148 2 wk) 148 7 dp) 148 8 sd) 148 6 (g 125 b)) := by
    intro a b hab
    have n1 : a ≠ 148 := fun e => by subst e; revert hab; simp [inR, inP]
    simp only [up_at, n1, false_and, if_false]
  have a1 : ∀ k, k < 10 → (up (up (up (up (fun a b => if a = 148 ∧ b < 10 then 0 else g a b) 148 2 wk) 148 7 dp) 148 8 sd) 148 6 (g 125 b)) 148 k = fcHold wk dp sd (g 125 b) k := by
    intro k hk
    unfold fcHold
    simp only [up_at, true_and]
    ((repeat (first | (split; · with_reducible rfl) | (split; rotate_left 1; · with_reducible rfl))) <;> first | with_reducible rfl | (refine absurd ?_ h; clear h; (repeat' apply And.intro) <;> omega) | omega | ((repeat' split) <;> first | rfl | omega))
  obtain ⟨g2, e2, f2⟩ := M_serves_s (sort := 3) (by omega) (J.cg (f1.cg rfl)) a1
  obtain ⟨b1, b2, b3⟩ := hB
  have J0 := J.1
  have fT : FR [(147, 0), (148, 0)] g g2 := (f1.mo rfl).tr (f2.mo rfl)
  have k1 : ∀ G : AG, G = up (up (up (up (fun a b => if a = 148 ∧ b < 10 then 0 else g a b) 148 2 wk) 148 7 dp) 148 8 sd) 148 6 (g 125 b) → G 128 = g 128 ∧ G 132 = g 132 ∧ G 133 = g 133 ∧ G 134 = g 134 ∧ G 2 3 = g 2 3 := by
    intro G hG
    rw [hG]
    exact ⟨f1.cell (fun _ => rfl), f1.cell (fun _ => rfl), f1.cell (fun _ => rfl), f1.cell (fun _ => rfl), f1 2 3 rfl⟩
  obtain ⟨k2, k3, k4, k5, k6⟩ := k1 _ rfl
  unfold srvG at e2
  rw [k2, k3, k4, k5, k6] at e2
  have pre : ∀ r, M_held b dp sd wk g = r ↔ ((M_serves 3 (up (up (up (up (fun a b => if a = 148 ∧ b < 10 then 0 else g a b) 148 2 wk) 148 7 dp) 148 8 sd) 148 6 (g 125 b))) >>= fun r16 => (if nw r16.1 = -1 then some (0, r16.2) else if 0 ≤ nw r16.1 ∧ nw r16.1 < 16 then (M_comesTo (r16.2 131 (ix r16.1)) (r16.2 132 (ix r16.1)) r16.2 >>= fun r20 => some (r20.1, r20.2)) else none) >>= fun r22 => some (r22.1, r22.2)) = r := by
    intro r
    unfold M_held
    rw [M_forgets_s, ix_lits.2.2.1, ix_lits.2.2.2.2.2.2.2.1, ix_lits.2.2.2.2.2.2.2.2.1, ix_lits.2.2.2.2.2.2.1]
    clear a1 e2
    simp (disch := omega) only [M_isBoat0, isIn0, if_neg, sb, nw_id (a := (b : Int)), if_pos, ix_id (a := (b : Int)), Int.toNat_natCast]
    simp only [up_at, Nat.reduceEqDiff, false_and, if_false]
  have hr := srvF_rng (kd := g 128) (md := g 132) (en := g 133) (cd := g 134) (fc := fcHold wk dp sd (g 125 b)) (sort := 3) (g 2 3).toNat 0
  unfold srvG
  constructor
  · intro e
    rw [e] at e2
    refine ⟨g2, ?_, fT⟩
    rw [pre, e2, sb, nw_m1]
    rfl
  · intro e
    generalize srvF (g 128) (g 132) (g 133) (g 134) (fcHold wk dp sd (g 125 b)) 3 (g 2 3).toNat 0 = s at hr e e2 ⊢
    have hr2 : 0 ≤ s ∧ s < g 2 3 ∧ g 128 s.toNat = 3 := by
      rcases hr with hr | ⟨a, b, c⟩
      · exact absurd hr e
      · exact ⟨by omega, by omega, c⟩
    clear hr
    obtain ⟨l, rfl⟩ := natOf hr2.1
    rw [Int.toNat_natCast] at hr2
    obtain ⟨v, g3, e3, f4, v1⟩ := (J.cg (fT.cg rfl)).val (fc := fcHold wk dp sd (g 125 b)) (by
      intro k hk
      have := a1 k hk
      rw [f2 148 k rfl]
      exact this) (l := l) (by rw [fT 2 3 rfl]; exact hr2.2.1) (by rw [fT 128 l rfl]; omega)
    have q1 : g2 134 = g 134 := fT.cell (fun _ => rfl)
    rw [q1, fT 132 l rfl, fT 131 l rfl] at v1
    refine ⟨l, v, g3, rfl, hr2.2.1, hr2.2.2, v1, ?_, fT.tr (f4.mo rfl)⟩
    rw [pre, e2, sb]
    simp (disch := omega) only [nw_id (a := (l : Int)), if_neg, sb, if_pos, ix_id (a := (l : Int)), Int.toNat_natCast, e3]
theorem sm_held {x1 x2 x3 x4 : Int} {g : AG} (h1 : I32 x1) (h2 : I32 x2) (h3 : I32 x3) (h4 : I32 x4) (J : JRule g) (hB : JBoR g) (hV : JBoV g) :
    ∃ r1 r2, X_held x1 x2 x3 x4 g = some r1 ∧ M_held x1 x2 x3 x4 r1.2 = some r2 ∧ nw r1.1 = nw r2.1 ∧ FR [(27, 0), (28, 0), (147, 0), (148, 0)] g r2.2 := by
  unfold I32 at *
  have hB0 := hB
  obtain ⟨b1, b2, b3⟩ := hB
  by_cases h : 0 ≤ x1 ∧ x1 < g 6 7 ∧ (0 ≤ x2 ∧ x2 ≤ 99) ∧ (0 ≤ x3 ∧ x3 ≤ 9) ∧ (0 ≤ x4 ∧ x4 ≤ 9)
  · obtain ⟨b, rfl⟩ := natOf h.1
    have V := hV b (by omega)
    have key : ∀ g1 : AG, FR [(27, 0), (28, 0)] g g1 → (srvG g (fcHold x4 x2 x3 (g 49 b)) 3 (g 2 3).toNat 0 = -1 → ∃ g', M_held b x2 x3 x4 g1 = some (0, g') ∧ FR [(147, 0), (148, 0)] g1 g') ∧ (¬ srvG g (fcHold x4 x2 x3 (g 49 b)) 3 (g 2 3).toNat 0 = -1 → ∃ l v g', srvG g (fcHold x4 x2 x3 (g 49 b)) 3 (g 2 3).toNat 0 = (l : Nat) ∧ (l : Int) < g 2 3 ∧ g 128 l = 3 ∧ evl (g 134) (fcHold x4 x2 x3 (g 49 b)) (g 132 l - g 131 l).toNat (g 131 l).toNat [] = some [v] ∧ M_held b x2 x3 x4 g1 = some (v, g') ∧ FR [(147, 0), (148, 0)] g1 g') := by
      intro g1 f1
      have m := M_held_s (b := b) (dp := x2) (sd := x3) (wk := x4) (g := g1) (by rw [f1 6 7 rfl]; omega) ⟨by rw [f1 117 12 rfl, f1 6 7 rfl]; exact b1, by rw [f1 6 7 rfl]; exact b2, by rw [f1 6 7 rfl]; exact b3⟩ h.2.2.1 h.2.2.2.1 h.2.2.2.2 (J.cg (f1.cg rfl))
      have c1 : g1 128 = g 128 := f1.cell (fun _ => rfl)
      have c2 : g1 132 = g 132 := f1.cell (fun _ => rfl)
      have c3 : g1 133 = g 133 := f1.cell (fun _ => rfl)
      have c4 : g1 134 = g 134 := f1.cell (fun _ => rfl)
      have c5 : g1 131 = g 131 := f1.cell (fun _ => rfl)
      unfold srvG at m ⊢
      rw [c1, c2, c3, c4, c5, f1 2 3 rfl, f1 125 b rfl, V.2.1] at m
      exact m
    have hx := X_held_s (b := b) (dp := x2) (sd := x3) (wk := x4) (g := g) (by omega) hB0 h.2.2.1 h.2.2.2.1 h.2.2.2.2 J
    by_cases e : srvG g (fcHold x4 x2 x3 (g 49 b)) 3 (g 2 3).toNat 0 = -1
    · obtain ⟨g1, e1, f1⟩ := hx.1 e
      obtain ⟨g2, e2, f2⟩ := (key g1 f1).1 e
      exact ⟨_, _, e1, e2, rfl, (f1.mo rfl).tr (f2.mo rfl)⟩
    · obtain ⟨l, v, _, p1, p2, p3, p4, _, _⟩ := (key g Fr.rf).2 e
      obtain ⟨g1, e1, f1⟩ := hx.2 l p1 p2 p3 v p4
      obtain ⟨l', v', g2, q1, q2, q3, q4, q5, q6⟩ := (key g1 f1).2 e
      rw [p1] at q1
      have : l = l' := by omega
      subst this
      rw [p4] at q4
      cases q4
      exact ⟨_, _, e1, q5, rfl, (f1.mo rfl).tr (q6.mo rfl)⟩
  · have eX : X_held x1 x2 x3 x4 g = some (-1000000, g) := by
      unfold X_held
      revert h
      simp (disch := omega) only [nw_id, ix_id, X_isBoat0, isWeek0, within0]
      intro h
      ((repeat (first | (split; · with_reducible rfl) | (split; rotate_left 1; · with_reducible rfl))) <;> first | with_reducible rfl | (refine absurd ?_ h; clear h; (repeat' apply And.intro) <;> omega) | omega | ((repeat' split) <;> first | rfl | omega))
    have eM : M_held x1 x2 x3 x4 g = some (-1000000, g) := by
      unfold M_held
      revert h
      simp (disch := omega) only [nw_id, ix_id, M_isBoat0, isIn0]
      intro h
      ((repeat (first | (split; · with_reducible rfl) | (split; rotate_left 1; · with_reducible rfl))) <;> first | with_reducible rfl | (refine absurd ?_ h; clear h; (repeat' apply And.intro) <;> omega) | omega | ((repeat' split) <;> first | rfl | omega))
    exact ⟨_, _, eX, eM, rfl, Fr.rf⟩
end
section
/-! plain programs: a step of a boat; the first minute at which it may begin -/
def foI (ok : Int → Bool) (t r : Int) : Prop := (r = -1 ∧ ∀ s, t ≤ s → s < 20160 → ok s = false) ∨ (t ≤ r ∧ r < 20160 ∧ ok r = true ∧ ∀ s, t ≤ s → s < r → ok s = false)
theorem foI_u {ok : Int → Bool} {t r r' : Int} (h0 : 0 ≤ t) (h : foI ok t r) (h' : foI ok t r') : r = r' := by
  rcases h with ⟨rfl, h⟩ | ⟨a1, a2, a3, a4⟩
  · rcases h' with ⟨rfl, h'⟩ | ⟨b1, b2, b3, b4⟩
    · rfl
    · rw [h r' b1 b2] at b3; cases b3
  · rcases h' with ⟨rfl, h'⟩ | ⟨b1, b2, b3, b4⟩
    · rw [h' r a1 a2] at a3; cases a3
    · rcases Int.lt_trichotomy r r' with q | q | q
      · rw [b4 r a1 q] at a3; cases a3
      · exact q
      · rw [a4 r' b1 q] at b3; cases b3
def fo (ok : Int → Bool) : Nat → Int → Int
  | 0, _ => -1
  | n + 1, t => if ok t = true then t else fo ok n (t + 1)
theorem fo_I {ok : Int → Bool} : ∀ (n : Nat) (t : Int), t + n = 20160 → foI ok t (fo ok n t)
  | 0, t, h => Or.inl ⟨rfl, fun s h1 h2 => by omega⟩
  | n + 1, t, h => by
    unfold fo
    by_cases e : ok t = true
    · rw [if_pos e]
      exact Or.inr ⟨by omega, by omega, e, fun s h1 h2 => by omega⟩
    · rw [if_neg e]
      have e' : ok t = false := by cases h : ok t with | false => rfl | true => exact absurd h e
      rcases fo_I (ok := ok) n (t + 1) (by omega) with ⟨a, b⟩ | ⟨a1, a2, a3, a4⟩
      · refine Or.inl ⟨a, fun s h1 h2 => ?_⟩
        by_cases q : s = t
        · rw [q]; exact e'
        · exact b s (by omega) h2
      · refine Or.inr ⟨by omega, a2, a3, fun s h1 h2 => ?_⟩
        by_cases q : s = t
        · rw [q]; exact e'
        · exact a4 s (by omega) h2
def foT (ok : Int → Bool) (t : Int) : Int := if t < 0 then -1 else fo ok (20160 - t).toNat t
theorem foT_I {ok : Int → Bool} {t : Int} (h0 : 0 ≤ t) (h1 : t ≤ 20160) : foI ok t (foT ok t) := by
  unfold foT
  rw [if_neg (by omega)]
  exact fo_I _ _ (by omega)
theorem foT_eq {ok : Int → Bool} {t r : Int} (h0 : 0 ≤ t) (h1 : t ≤ 20160) (h : foI ok t r) : r = foT ok t := foI_u h0 h (foT_I h0 h1)
theorem foT_rng {ok : Int → Bool} {t : Int} (h1 : t ≤ 20160) : foT ok t = -1 ∨ (t ≤ foT ok t ∧ 0 ≤ foT ok t ∧ foT ok t < 20160) := by
  by_cases h0 : t < 0
  · unfold foT; rw [if_pos h0]; exact Or.inl rfl
  · rcases foT_I (ok := ok) (t := t) (by omega) h1 with ⟨a, _⟩ | ⟨a, b, _⟩
    · exact Or.inl a
    · exact Or.inr ⟨a, by omega, b⟩
/-- where a step that begins at r ends -/
def fin (r lasts : Int) : Int := if r = -1 ∨ 20159 < r + lasts then -1 else r + lasts
def StR (g : AG) : Prop := (0 ≤ g 117 11 ∧ g 117 11 ≤ 8) ∧ ∀ s : Nat, (s : Int) < g 117 11 → (0 ≤ g 121 s ∧ g 121 s < 15) ∧ (0 ≤ g 122 s ∧ g 122 s ≤ 13) ∧ (0 ≤ g 123 s ∧ g 123 s ≤ 13)
def stpN (a b c : Nat → Int) (i d : Int) : Nat → Nat → Bool
  | 0, _ => false
  | n + 1, s => decide (a s = i ∧ b s ≤ d ∧ d ≤ c s) || stpN a b c i d n (s + 1)
def stpM (g : AG) (i d : Int) : Bool := stpN (g 121) (g 122) (g 123) i d (g 117 11).toNat 0
theorem M_isStopped_b_s {g : AG} {i d : Int} (hi : 0 ≤ i ∧ i < 15) (hd : 0 ≤ d ∧ d < 14) (R : StR g) : ∀ (n s : Nat), ((s + n : Nat) : Int) = g 117 11 → M_isStopped_b i d g 1 s = some (if stpN (g 121) (g 122) (g 123) i d n s = true then 1 else 0) := by
  obtain ⟨⟨r1, r2⟩, r3⟩ := R
  intro n
  induction n with
  | zero =>
    intro s h
    rw [M_isStopped_b]
    simp (disch := omega) only [nw_id, ix_id, sb, if_true, if_false, if_pos, if_neg, true_and, and_true, false_and, and_false, and_self, stpN]
    rfl
  | succ n ih =>
    intro s h
    have q := r3 s (by omega)
    rw [M_isStopped_b]
    unfold stpN
    have next : (M_isStopped_b i d g 2 s) = some (if stpN (g 121) (g 122) (g 123) i d n (s + 1) = true then 1 else 0) := by
      rw [M_isStopped_b, if_neg (by decide), if_pos rfl, ← ih (s + 1) (by omega)]
      rfl
    simp (disch := omega) only [nw_id, ix_id, sb, if_true, if_false, if_pos, if_neg, true_and, and_true, false_and, and_false, and_self, Int.toNat_natCast, next, isIn0]
    by_cases c1 : g 121 s = i
    · by_cases c2 : g 122 s ≤ d ∧ d ≤ g 123 s
      · simp (disch := omega) only [nw_id, ix_id, sb, if_true, if_false, if_pos, if_neg, true_and, and_true, false_and, and_false, and_self, c1]
        simp [c2]
      · have c3 : d < g 122 s ∨ g 123 s < d := by omega
        simp (disch := omega) only [nw_id, ix_id, sb, if_true, if_false, if_pos, if_neg, true_and, and_true, false_and, and_false, and_self, c1]
        simp [c2]
    · simp (disch := omega) only [nw_id, ix_id, sb, if_true, if_false, if_pos, if_neg, true_and, and_true, false_and, and_false, and_self, c1]
      simp
theorem M_isStopped_s {g : AG} {i d : Int} (hi : 0 ≤ i ∧ i < 15) (hd : 0 ≤ d ∧ d < 14) (R : StR g) : M_isStopped i d g = some (if stpM g i d = true then 1 else 0) := by
  unfold M_isStopped stpM
  have := R.1
  exact M_isStopped_b_s hi hd R _ 0 (by omega)
abbrev TOK : Type := Nat → Int → Int → Bool
/-- whether a step of a sort may begin in a stretch at a minute -/
def okS (g : AG) (i : Nat) (sort h : Int) (d : Nat) : Bool :=
  if sort = 0 then true else if sort = 1 then decide (hrA g (g 117 10) d ≤ h ∧ h < hrB g (g 117 10) d)
  else decide (g 144 (2 * i + (sort - 2).toNat) = 1 ∧ g 142 (2 * (2 * i + (sort - 2).toNat)) ≤ h ∧ h < g 142 (2 * (2 * i + (sort - 2).toNat) + 1))
def okM (g : AG) (sd : Int → Int → Bool) : TOK := fun i sort t => decide (8 ≤ t % 1440 / 60 ∧ t % 1440 / 60 ≤ 19) && !sd i (t / 1440) && okS g i sort (t % 1440 / 60) (t / 1440).toNat
theorem JRule.tun {g : AG} (J : JRule g) {k : Nat} (hk : k < 30) : (g 144 k = 0 ∨ g 144 k = 1) ∧ (g 144 k = 1 → (0 ≤ g 142 (2 * k) ∧ g 142 (2 * k) ≤ 24) ∧ (0 ≤ g 142 (2 * k + 1) ∧ g 142 (2 * k + 1) ≤ 24)) := by
  have jt := J.2.2.2.2.2.2.2
  have q := jt (k / 2) (by omega)
  have hh : k = 2 * (k / 2) ∨ k = 2 * (k / 2) + 1 := by omega
  have gen : ∀ (h a b t1 t2 : Int) (q : Bool), tnOk h a b t1 t2 q → (h = 0 ∨ h = 1) ∧ (h = 1 → (0 ≤ a ∧ a ≤ 24) ∧ (0 ≤ b ∧ b ≤ 24)) := by
    rintro h a b t1 t2 q ⟨q1, q2, q3, q4, q5⟩
    cases q with
    | true =>
      obtain ⟨e1, e2⟩ := q2 rfl
      subst e1; subst e2
      simp at q1
      exact ⟨Or.inr q1, fun _ => ⟨q4, q5⟩⟩
    | false =>
      simp at q1
      exact ⟨Or.inl q1, fun e => by omega⟩
  rcases hh with e | e
  · have := gen _ _ _ _ _ _ q.1
    rw [← e] at this
    exact this
  · have := gen _ _ _ _ _ _ q.2
    rw [← e] at this
    exact this
theorem M_mayBegin_s {g : AG} {i : Nat} {sort t : Int} (hi : i < 15) (hs : 0 ≤ sort ∧ sort ≤ 3) (ht : 0 ≤ t ∧ t ≤ 20159) (J : JRule g) (R : StR g) :
    ∃ g', M_mayBegin i sort (t / 1440) (t % 1440 / 60) g = some (if okM g (stpM g) i sort t = true then 1 else 0, g') ∧ FR [(147, 0), (148, 0)] g g' := by
  generalize hd : t / 1440 = d
  generalize hh : t % 1440 / 60 = h
  have d1 : 0 ≤ d ∧ d < 14 := by omega
  have h1 : 0 ≤ h ∧ h < 24 := by omega
  unfold okM
  rw [hd, hh]
  clear hd hh ht
  unfold M_mayBegin
  rw [M_isStopped_s (i := (i : Int)) (by omega) d1 R]
  have k0 : (nw (M_isIn h 8 19) = 0) = (h < 8 ∨ 19 < h) := isIn0 (by omega) (by omega) (by decide) (by decide) (by decide) (by decide)
  by_cases c1 : 8 ≤ h ∧ h ≤ 19
  · rw [if_neg (show ¬ nw (M_isIn h 8 19) = 0 by rw [k0]; omega), sb]
    clear k0
    by_cases c2 : stpM g i d = true
    · rw [if_pos c2, nw_1, if_neg (by decide)]
      exact ⟨g, by simp [c2], Fr.rf⟩
    · have c2' : stpM g i d = false := by cases e : stpM g i d with | false => rfl | true => exact absurd e c2
      rw [if_neg c2, nw_0, if_pos rfl, show nw sort = sort from nw_id (by omega) (by omega), c2']
      by_cases s0 : sort = 0
      · rw [if_pos s0]
        refine ⟨g, ?_, Fr.rf⟩
        simp [okS, s0, c1]
      · rw [if_neg s0]
        by_cases s1 : sort = 1
        · rw [if_pos s1]
          obtain ⟨g1, e1, f1⟩ := M_locksLine_s (day := d) J d1.1 d1.2
          have hr := srvF_rng (kd := g 128) (md := g 132) (en := g 133) (cd := g 134) (fc := fcDay d (g 117 10)) (sort := 0) (g 2 3).toNat 0
          have hq := hr_rng J (g 117 10) d.toNat
          have J0 := J.1
          have k1 : g1 129 = g 129 := f1.cell (fun _ => rfl)
          have k2 : g1 130 = g 130 := f1.cell (fun _ => rfl)
          refine ⟨g1, ?_, f1⟩
          unfold okS
          unfold hrA hrB srvG at hq ⊢
          rw [show ((d.toNat : Nat) : Int) = d by omega] at hq ⊢
          unfold srvG at e1
          generalize srvF (g 128) (g 132) (g 133) (g 134) (fcDay d (g 117 10)) 0 (g 2 3).toNat 0 = l at hr hq e1 ⊢
          by_cases e : l = -1
          · subst e
            clear hr hq
            simp (disch := omega) only [nw_id, ix_id, sb, if_true, if_false, if_pos, if_neg, true_and, and_true, false_and, and_false, and_self, e1, true_or, or_true]
            simp [c1]
            omega
          · have hr2 : 0 ≤ l ∧ l < 16 := by rcases hr with hr | ⟨a, b, c⟩ <;> omega
            rw [if_neg e, if_neg e] at hq
            clear hr
            simp (disch := omega) only [nw_id, ix_id, sb, if_true, if_false, if_pos, if_neg, true_and, and_true, false_and, and_false, and_self, e1, k1, k2]
            by_cases p1 : h < g 129 l.toNat
            · simp (disch := omega) only [nw_id, ix_id, sb, if_true, if_false, if_pos, if_neg, true_and, and_true, false_and, and_false, and_self]
              simp [c1]
              omega
            · simp (disch := omega) only [nw_id, ix_id, sb, if_true, if_false, if_pos, if_neg, true_and, and_true, false_and, and_false, and_self]
              by_cases p2 : g 130 l.toNat ≤ h
              · simp (disch := omega) only [nw_id, ix_id, sb, if_true, if_false, if_pos, if_neg, true_and, and_true, false_and, and_false, and_self, true_or, or_true]
                simp [c1]
                omega
              · simp (disch := omega) only [nw_id, ix_id, sb, if_true, if_false, if_pos, if_neg, true_and, and_true, false_and, and_false, and_self, true_or, or_true]
                simp [c1]
                omega
        · rw [if_neg s1]
          obtain ⟨w, hw⟩ : ∃ w : Nat, sort = w + 2 := ⟨(sort - 2).toNat, by omega⟩
          subst hw
          have tn := J.tun (k := 2 * i + w) (by omega)
          have t0 : Unit → (2 * (i : Int) + ((w : Int) + 2) - 2).toNat = 2 * i + w := fun _ => by omega
          have t1 : Unit → (2 * (2 * (i : Int) + ((w : Int) + 2) - 2)).toNat = 2 * (2 * i + w) := fun _ => by omega
          have t2 : Unit → (2 * (2 * (i : Int) + ((w : Int) + 2) - 2) + 1).toNat = 2 * (2 * i + w) + 1 := fun _ => by omega
          have t3 : Unit → ((w : Int) + 2 - 2).toNat = w := fun _ => by omega
          refine ⟨g, ?_, Fr.rf⟩
          unfold okS
          rw [if_neg s0, if_neg s1, t3 ()]
          rcases tn.1 with q | q
          · clear tn
            simp (disch := omega) only [nw_id, ix_id, sb, if_true, if_false, if_pos, if_neg, true_and, and_true, false_and, and_false, and_self, t0 (), q, true_or, or_true]
            simp
          · have tn2 := tn.2 q
            clear tn
            simp (disch := omega) only [nw_id, ix_id, sb, if_true, if_false, if_pos, if_neg, true_and, and_true, false_and, and_false, and_self, t0 (), t1 (), t2 (), q]
            by_cases p1 : h < g 142 (2 * (2 * i + w))
            · simp (disch := omega) only [nw_id, ix_id, sb, if_true, if_false, if_pos, if_neg, true_and, and_true, false_and, and_false, and_self, true_or, or_true]
              simp [c1]
              omega
            · by_cases p2 : g 142 (2 * (2 * i + w) + 1) ≤ h
              · simp (disch := omega) only [nw_id, ix_id, sb, if_true, if_false, if_pos, if_neg, true_and, and_true, false_and, and_false, and_self, true_or, or_true]
                simp [c1]
                omega
              · simp (disch := omega) only [nw_id, ix_id, sb, if_true, if_false, if_pos, if_neg, true_and, and_true, false_and, and_false, and_self, true_or, or_true]
                simp [c1]
                omega
  · rw [if_pos (show nw (M_isIn h 8 19) = 0 by rw [k0]; omega)]
    exact ⟨g, by simp [c1], Fr.rf⟩
end
section
/-! plain programs: a step's end, on both sides -/
theorem okM_hour {g : AG} {sd : Int → Int → Bool} {i : Nat} {sort t s : Int} (h0 : 0 ≤ t) (h1 : t ≤ s) (h2 : s < (t / 60 + 1) * 60) : okM g sd i sort s = okM g sd i sort t := by
  have e1 : s / 1440 = t / 1440 := by omega
  have e2 : s % 1440 / 60 = t % 1440 / 60 := by omega
  unfold okM
  rw [e1, e2]
theorem okM_fr {W : Reg} {g g' : AG} {sd : Int → Int → Bool} (f : FR W g g') (d : djR [(117, 11), (2, 4), (128, 0), (129, 0), (130, 0), (132, 0), (133, 0), (134, 0), (142, 0), (144, 0)] W = true) : okM g' sd = okM g sd := by
  have c := f.cg d
  have c0 : g' 117 10 = g 117 10 := c 117 10 rfl
  have c1 : g' 2 3 = g 2 3 := c 2 3 rfl
  have c2 : g' 128 = g 128 := funext fun i => c 128 i rfl
  have c3 : g' 129 = g 129 := funext fun i => c 129 i rfl
  have c4 : g' 130 = g 130 := funext fun i => c 130 i rfl
  have c5 : g' 132 = g 132 := funext fun i => c 132 i rfl
  have c6 : g' 133 = g 133 := funext fun i => c 133 i rfl
  have c7 : g' 134 = g 134 := funext fun i => c 134 i rfl
  have c8 : g' 142 = g 142 := funext fun i => c 142 i rfl
  have c9 : g' 144 = g 144 := funext fun i => c 144 i rfl
  funext i sort t
  unfold okM okS hrA hrB srvG
  simp only [c0, c1, c2, c3, c4, c5, c6, c7, c8, c9]
theorem stpM_fr {W : Reg} {g g' : AG} (f : FR W g g') (d : djR [(117, 12), (121, 0), (122, 0), (123, 0)] W = true) : stpM g' = stpM g := by
  have c := f.cg d
  have c0 : g' 117 11 = g 117 11 := c 117 11 rfl
  have c1 : g' 121 = g 121 := funext fun i => c 121 i rfl
  have c2 : g' 122 = g 122 := funext fun i => c 122 i rfl
  have c3 : g' 123 = g 123 := funext fun i => c 123 i rfl
  funext i d
  unfold stpM
  rw [c0, c1, c2, c3]
theorem StR.fr {W : Reg} {g g' : AG} (h : StR g) (f : FR W g g') (d : djR [(117, 12), (121, 0), (122, 0), (123, 0)] W = true) : StR g' := by
  have c := f.cg d
  have c0 : g' 117 11 = g 117 11 := c 117 11 rfl
  have c1 : g' 121 = g 121 := funext fun i => c 121 i rfl
  have c2 : g' 122 = g 122 := funext fun i => c 122 i rfl
  have c3 : g' 123 = g 123 := funext fun i => c 123 i rfl
  unfold StR
  rw [c0, c1, c2, c3]
  exact h
theorem foI_shift {ok : Int → Bool} {t t' r : Int} (h : t ≤ t') (hn : ∀ s, t ≤ s → s < t' → ok s = false) (q : foI ok t' r) : foI ok t r := by
  rcases q with ⟨a, b⟩ | ⟨a1, a2, a3, a4⟩
  · refine Or.inl ⟨a, fun s h1 h2 => ?_⟩
    by_cases e : s < t'
    · exact hn s h1 e
    · exact b s (by omega) h2
  · refine Or.inr ⟨by omega, a2, a3, fun s h1 h2 => ?_⟩
    by_cases e : s < t'
    · exact hn s h1 e
    · exact a4 s (by omega) h2
theorem M_endOf_b_s {i : Nat} {sort lasts : Int} (hi : i < 15) (hs : 0 ≤ sort ∧ sort ≤ 3) (hl : 0 ≤ lasts ∧ lasts ≤ 1000) {sd : Int → Int → Bool} : ∀ (n : Nat) (t : Int) (g : AG), 0 ≤ t → t ≤ 20160 → 20160 - t ≤ n → JRule g → StR g → stpM g = sd →
    ∃ r g', foI (okM g sd i sort) t r ∧ M_endOf_b i sort lasts 1 t g = some (fin r lasts, g') ∧ FR [(147, 0), (148, 0)] g g' := by
  intro n
  induction n with
  | zero =>
    intro t g h0 h1 hn J R hsd
    refine ⟨-1, g, Or.inl ⟨rfl, fun s a b => by omega⟩, ?_, Fr.rf⟩
    rw [M_endOf_b]
    simp (disch := omega) only [nw_id, ix_id, sb, if_true, if_false, if_pos, if_neg, true_and, and_true, false_and, and_false, and_self]
    rw [M_endOf_b]
    simp (disch := omega) only [nw_id, ix_id, sb, if_true, if_false, if_pos, if_neg, true_and, and_true, false_and, and_false, and_self]
    simp [fin]
  | succ n ih =>
    intro t g h0 h1 hn J R hsd
    by_cases e : t = 20160
    · refine ⟨-1, g, Or.inl ⟨rfl, fun s a b => by omega⟩, ?_, Fr.rf⟩
      rw [M_endOf_b]
      simp (disch := omega) only [nw_id, ix_id, sb, if_true, if_false, if_pos, if_neg, true_and, and_true, false_and, and_false, and_self]
      rw [M_endOf_b]
      simp (disch := omega) only [nw_id, ix_id, sb, if_true, if_false, if_pos, if_neg, true_and, and_true, false_and, and_false, and_self]
      simp [fin]
    · obtain ⟨g1, e1, f1⟩ := M_mayBegin_s (g := g) (i := i) (sort := sort) (t := t) hi hs (by omega) J R
      rw [hsd] at e1
      rw [M_endOf_b]
      simp (disch := omega) only [nw_id, ix_id, sb, if_true, if_false, if_pos, if_neg, true_and, and_true, false_and, and_false, and_self, tdE, tmE, e1]
      by_cases c : okM g sd i sort t = true
      · refine ⟨t, g1, Or.inr ⟨by omega, by omega, c, fun s a b => by omega⟩, ?_, f1⟩
        rw [c]
        simp (disch := omega) only [nw_id, ix_id, sb, if_true, if_false, if_pos, if_neg, true_and, and_true, false_and, and_false, and_self]
        rw [M_endOf_b]
        simp (disch := omega) only [nw_id, ix_id, sb, if_true, if_false, if_pos, if_neg, true_and, and_true, false_and, and_false, and_self]
        unfold fin
        congr 2
        by_cases q : 20159 < t + lasts
        · simp (disch := omega) only [nw_id, ix_id, sb, if_true, if_false, if_pos, if_neg, true_and, and_true, false_and, and_false, and_self, true_or, or_true]
        · simp (disch := omega) only [nw_id, ix_id, sb, if_true, if_false, if_pos, if_neg, true_and, and_true, false_and, and_false, and_self]
      · have c' : okM g sd i sort t = false := by cases h : okM g sd i sort t with | false => rfl | true => exact absurd h c
        obtain ⟨r, g2, r1, e2, f2⟩ := ih ((t / 60 + 1) * 60) g1 (by omega) (by omega) (by omega) (J.cg (f1.cg rfl)) (R.fr f1 rfl) (by rw [stpM_fr f1 rfl, hsd])
        rw [okM_fr f1 rfl] at r1
        refine ⟨r, g2, foI_shift (by omega) (fun s a b => by rw [okM_hour h0 a b]; exact c') r1, ?_, f1.tr f2⟩
        rw [c']
        simp (disch := omega) only [nw_id, ix_id, sb, if_true, if_false, if_pos, if_neg, true_and, and_true, false_and, and_false, and_self, Bool.false_eq_true, e2]
theorem M_endOf_s {i : Nat} {sort lasts t : Int} {g : AG} (hi : i < 15) (hs : 0 ≤ sort ∧ sort ≤ 3) (hl : 0 ≤ lasts ∧ lasts ≤ 1000) (h0 : 0 ≤ t) (h1 : t ≤ 20160) (J : JRule g) (R : StR g) :
    ∃ g', M_endOf i sort t lasts g = some (fin (foT (okM g (stpM g) i sort) t) lasts, g') ∧ FR [(147, 0), (148, 0)] g g' := by
  obtain ⟨r, g', a, b, c⟩ := M_endOf_b_s (lasts := lasts) hi hs hl (20160 - t).toNat t g h0 h1 (by omega) J R rfl
  rw [foT_eq h0 h1 a] at b
  exact ⟨g', b, c⟩
/-! the class -/
theorem mxI_s {a b : Int} (h1 : -2147483648 ≤ a) (h2 : a < 2147483648) (h3 : -2147483648 ≤ b) (h4 : b < 2147483648) : mxI a b = max a b := by
  unfold mxI
  rw [nw_id h1 h2, nw_id h3 h4]
  split <;> omega
theorem mnI_s {a b : Int} (h1 : -2147483648 ≤ a) (h2 : a < 2147483648) (h3 : -2147483648 ≤ b) (h4 : b < 2147483648) : mnI a b = min a b := by
  unfold mnI
  rw [nw_id h1 h2, nw_id h3 h4]
  split <;> omega
/-- what the class knows of a stretch's days agrees with ok -/
def XDay (g : AG) (i : Nat) (kind : Int) (ok : Int → Bool) : Prop := ∀ d : Nat, d < 14 → ∃ (fh hb : Int) (st : Bool), Voyage_firstHour i kind d g = some fh ∧ Voyage_hourBehind i kind d g = some hb ∧ Voyage_isStopped i d g = some (if st = true then 1 else 0) ∧ (0 ≤ fh ∧ fh ≤ 24) ∧ (0 ≤ hb ∧ hb ≤ 24) ∧
  ∀ s : Int, (d : Int) * 1440 ≤ s → s < ((d : Int) + 1) * 1440 → (ok s = true ↔ st = false ∧ (8 ≤ s % 1440 / 60 ∧ s % 1440 / 60 ≤ 19) ∧ fh ≤ s % 1440 / 60 ∧ s % 1440 / 60 < hb)
theorem begins_b_s {i : Nat} {kind m : Int} {g : AG} {ok : Int → Bool} (hm : 0 ≤ m ∧ m < 20160) (D : XDay g i kind ok) : ∀ (n d : Nat), d + n = 14 → m < ((d : Int) + 1) * 1440 → ∃ r, foI ok (max m ((d : Int) * 1440)) r ∧ Voyage_begins_b i kind m g 1 d = some r := by
  intro n
  induction n with
  | zero =>
    intro d h hd
    refine ⟨-1, Or.inl ⟨rfl, fun s a b => by omega⟩, ?_⟩
    rw [Voyage_begins_b]
    simp (disch := omega) only [nw_id, ix_id, sb, if_true, if_false, if_pos, if_neg, true_and, and_true, false_and, and_false, and_self]
  | succ n ih =>
    intro d h hd
    obtain ⟨fh, hb, st, e1, e2, e3, r1, r2, hok⟩ := D d (by omega)
    have okf : ∀ s : Int, (d : Int) * 1440 ≤ s → s < ((d : Int) + 1) * 1440 → ¬ (st = false ∧ (8 ≤ s % 1440 / 60 ∧ s % 1440 / 60 ≤ 19) ∧ fh ≤ s % 1440 / 60 ∧ s % 1440 / 60 < hb) → ok s = false := by
      intro s a b c
      cases q : ok s with
      | false => rfl
      | true => exact absurd ((hok s a b).mp q) c
    have next : (∀ s, max m ((d : Int) * 1440) ≤ s → s < ((d : Int) + 1) * 1440 → ok s = false) → ∃ r, foI ok (max m ((d : Int) * 1440)) r ∧ Voyage_begins_b i kind m g 2 d = some r := by
      intro hno
      obtain ⟨r, a, b⟩ := ih (d + 1) (by omega) (by omega)
      refine ⟨r, foI_shift (t' := max m (((d + 1 : Nat) : Int) * 1440)) (by omega) (fun s q1 q2 => hno s q1 (by omega)) a, ?_⟩
      rw [Voyage_begins_b, if_neg (by decide), if_pos rfl, ← b]
      rfl
    have okt : ∀ s : Int, (d : Int) * 1440 ≤ s → s < ((d : Int) + 1) * 1440 → (st = false ∧ (8 ≤ s % 1440 / 60 ∧ s % 1440 / 60 ≤ 19) ∧ fh ≤ s % 1440 / 60 ∧ s % 1440 / 60 < hb) → ok s = true := fun s a b c => (hok s a b).mpr c
    rw [Voyage_begins_b]
    clear hok ih
    have x1 : mnI 20 hb = min 20 hb := mnI_s (by decide) (by decide) (by omega) (by omega)
    have x2 : mxI 8 fh = max 8 fh := mxI_s (by decide) (by decide) (by omega) (by omega)
    have x3 : mxI m ((d : Int) * 1440 + (max 8 fh) * 60) = max m ((d : Int) * 1440 + (max 8 fh) * 60) := mxI_s (by omega) (by omega) (by omega) (by omega)
    simp (disch := omega) only [nw_id, ix_id, sb, if_true, if_false, if_pos, if_neg, true_and, and_true, false_and, and_false, and_self, e1, e2, e3, x1, x2, x3]
    by_cases c : (d : Int) * 1440 + (min 20 hb) * 60 ≤ max m ((d : Int) * 1440 + (max 8 fh) * 60)
    · rw [if_pos c]
      refine next (fun s a b => okf s (by omega) b (fun q => ?_))
      omega
    · rw [if_neg c]
      cases st with
      | true =>
        simp (disch := omega) only [nw_id, ix_id, sb, if_true, if_false, if_pos, if_neg, true_and, and_true, false_and, and_false, and_self]
        exact next (fun s a b => okf s (by omega) b (fun q => by cases q.1))
      | false =>
        simp (disch := omega) only [nw_id, ix_id, sb, if_true, if_false, if_pos, if_neg, true_and, and_true, false_and, and_false, and_self, Bool.false_eq_true]
        refine ⟨_, Or.inr ⟨by omega, by omega, okt _ (by omega) (by omega) ⟨rfl, by omega, by omega, by omega⟩, fun s a b => okf s (by omega) (by omega) (fun q => by omega)⟩, rfl⟩

theorem begins_s {i : Nat} {kind m : Int} {g : AG} {ok : Int → Bool} (hm : m = -1 ∨ (0 ≤ m ∧ m < 20160)) (D : XDay g i kind ok) : Voyage_begins i kind m g = some (foT ok m) := by
  unfold Voyage_begins
  rcases hm with rfl | hm
  · rw [nw_m1]; rfl
  · obtain ⟨r, a, b⟩ := begins_b_s hm D (14 - (m / 1440).toNat) (m / 1440).toNat (by omega) (by omega)
    rw [show max m (((m / 1440).toNat : Int) * 1440) = m by omega] at a
    rw [← foT_eq hm.1 (by omega) a]
    rw [show (((m / 1440).toNat : Nat) : Int) = m / 1440 by omega] at b
    simp (disch := omega) only [nw_id, ix_id, sb, if_true, if_false, if_pos, if_neg, true_and, and_true, false_and, and_false, and_self, tdE, b]
def RStop : Reg := [(1, 5), (117, 12), (16, 0), (121, 0), (122, 0), (123, 0)]
def JStop (g : AG) : Prop := g 117 11 = g 1 4 ∧ StR g ∧ ∀ i d : Nat, i < 15 → d < 14 → tb (g 16 i) d = stpM g i d
theorem JStop.cg {g g' : AG} (h : ∀ k i, inR RStop k i = true → g' k i = g k i) (q : JStop g) : JStop g' := by
  have q1 : JStop (rs (inR RStop) g) := q
  rw [← rs_eq h] at q1
  exact q1
def sdX (g : AG) : Int → Int → Bool := if g 5 7 = 1 then stpM g else fun _ _ => false
theorem Voyage_isStopped_s {i d : Nat} {g : AG} (hi : i < 15) (hd : d < 14) (S : JStop g) (h5 : g 5 7 = 0 ∨ g 5 7 = 1) : Voyage_isStopped i d g = some (if sdX g i d = true then 1 else 0) := by
  have S3 := S.2.2 i d hi hd
  have bq := bit_q (g 16 i) d (by omega)
  have ei : ix (i : Int) = i := by rw [ix_id (by omega) (by omega), Int.toNat_natCast]
  have hi2 : 0 ≤ nw (i : Int) ∧ nw (i : Int) < 15 := by clear bq; rw [nw_id (by omega) (by omega)]; omega
  unfold Voyage_isStopped sdX
  rcases h5 with e | e
  · rw [e, nw_0]
    rfl
  · rw [e, nw_1, if_neg (by decide), if_pos hi2, if_pos rfl, ei, sb, sb, bq, S3]
    cases stpM g i d with
    | true => rfl
    | false => rfl
theorem XDay_of {i : Nat} {kind : Int} {g : AG} (hi : i < 15) (hk : 0 ≤ kind ∧ kind ≤ 3) (J : JRule g) (H : JHour g) (S : JStop g) (h5 : g 5 7 = 0 ∨ g 5 7 = 1) : XDay g i kind (okM g (sdX g) i kind) := by
  intro d hd
  have eS := Voyage_isStopped_s hi hd S h5
  have ed : ∀ s : Int, (d : Int) * 1440 ≤ s → s < ((d : Int) + 1) * 1440 → s / 1440 = d := by intro s a b; omega
  by_cases k0 : kind = 0
  · subst k0
    refine ⟨0, 24, sdX g i d, ?_, ?_, eS, by decide, by decide, ?_⟩
    · unfold Voyage_firstHour; simp (disch := omega) only [nw_id, ix_id, sb, if_true, if_false, if_pos, if_neg, true_and, and_true, false_and, and_false, and_self]
    · unfold Voyage_hourBehind; simp (disch := omega) only [nw_id, ix_id, sb, if_true, if_false, if_pos, if_neg, true_and, and_true, false_and, and_false, and_self]
    · intro s a b
      unfold okM okS
      rw [ed s a b]
      generalize sdX g (i : Int) (d : Int) = q
      cases q <;> simp <;> (try omega)
  · by_cases k1 : kind = 1
    · subst k1
      have hr := hr_rng J (g 117 10) d
      have Hd := H d hd
      refine ⟨g 44 d, g 45 d, sdX g i d, ?_, ?_, eS, by omega, by omega, ?_⟩
      · unfold Voyage_firstHour; clear hr Hd; simp (disch := omega) only [nw_id, ix_id, sb, if_true, if_false, if_pos, if_neg, true_and, and_true, false_and, and_false, and_self, Int.toNat_natCast]
      · unfold Voyage_hourBehind; clear hr Hd; simp (disch := omega) only [nw_id, ix_id, sb, if_true, if_false, if_pos, if_neg, true_and, and_true, false_and, and_false, and_self, Int.toNat_natCast]
      · intro s a b
        unfold okM okS
        rw [ed s a b, Hd.1, Hd.2]
        generalize sdX g (i : Int) (d : Int) = q
        cases q <;> simp <;> (try omega)
    · have tn := J.2.2.2.2.2.2.2 i hi
      have gen : ∀ (w row : Nat) (h a b : Int), w < 2 → kind = (w : Int) + 2 → tnOk h a b (g 25 row) (g 26 row) (tb (g 2 10) row) → g 144 (2 * i + w) = h → g 142 (2 * (2 * i + w)) = a → g 142 (2 * (2 * i + w) + 1) = b → Voyage_firstHour i kind d g = some (g 25 row) → Voyage_hourBehind i kind d g = some (g 26 row) → ∃ (fh hb : Int) (st : Bool), Voyage_firstHour i kind d g = some fh ∧ Voyage_hourBehind i kind d g = some hb ∧ Voyage_isStopped i d g = some (if st = true then 1 else 0) ∧ (0 ≤ fh ∧ fh ≤ 24) ∧ (0 ≤ hb ∧ hb ≤ 24) ∧
  ∀ s : Int, (d : Int) * 1440 ≤ s → s < ((d : Int) + 1) * 1440 → (okM g (sdX g) i kind s = true ↔ st = false ∧ (8 ≤ s % 1440 / 60 ∧ s % 1440 / 60 ≤ 19) ∧ fh ≤ s % 1440 / 60 ∧ s % 1440 / 60 < hb) := by
        intro w row h a b hw hk2 ht e1 e2 e3 e4 e5
        obtain ⟨q1, q2, q3, q4, q5⟩ := ht
        refine ⟨_, _, sdX g i d, e4, e5, eS, q4, q5, ?_⟩
        intro s a1 b1
        unfold okM okS
        rw [ed s a1 b1, if_neg k0, if_neg k1, hk2, show ((w : Int) + 2 - 2).toNat = w by omega, e1, e2, e3]
        cases hq : tb (g 2 10) row with
        | true =>
          rw [hq] at q1 q2
          obtain ⟨p1, p2⟩ := q2 rfl
          simp at q1
          rw [q1, p1, p2]
          generalize sdX g (i : Int) (d : Int) = q
          cases q <;> simp <;> (try omega)
        | false =>
          rw [hq] at q1 q3
          obtain ⟨p1, p2⟩ := q3 rfl
          simp at q1
          rw [q1, p1, p2]
          generalize sdX g (i : Int) (d : Int) = q
          cases q <;> simp <;> (try omega)
      by_cases k2 : kind = 2
      · subst k2
        refine gen 0 i _ _ _ (by decide) (by decide) tn.1 rfl rfl rfl ?_ ?_
        · unfold Voyage_firstHour; clear gen tn; simp (disch := omega) only [nw_id, ix_id, sb, if_true, if_false, if_pos, if_neg, true_and, and_true, false_and, and_false, and_self, Int.toNat_natCast]
        · unfold Voyage_hourBehind; clear gen tn; simp (disch := omega) only [nw_id, ix_id, sb, if_true, if_false, if_pos, if_neg, true_and, and_true, false_and, and_false, and_self, Int.toNat_natCast]
      · have k3 : kind = 3 := by omega
        subst k3
        refine gen 1 (15 + i) _ _ _ (by decide) (by decide) tn.2 rfl rfl rfl ?_ ?_
        · unfold Voyage_firstHour; clear gen tn; simp (disch := omega) only [nw_id, ix_id, sb, if_true, if_false, if_pos, if_neg, true_and, and_true, false_and, and_false, and_self, show (15 + (i : Int)).toNat = 15 + i by omega]
        · unfold Voyage_hourBehind; clear gen tn; simp (disch := omega) only [nw_id, ix_id, sb, if_true, if_false, if_pos, if_neg, true_and, and_true, false_and, and_false, and_self, show (15 + (i : Int)).toNat = 15 + i by omega]
/-- a step: when it ends -/
def stF (ok : TOK) (i : Nat) (sort t lasts : Int) : Int := fin (foT (ok i sort) t) lasts
theorem stF_rng {ok : TOK} {i : Nat} {sort t lasts : Int} (ht : t ≤ 20160) (hl : 0 ≤ lasts) : stF ok i sort t lasts = -1 ∨ (t ≤ stF ok i sort t lasts ∧ 0 ≤ stF ok i sort t lasts ∧ stF ok i sort t lasts ≤ 20159 ∧ 0 ≤ stF ok i sort t lasts - lasts ∧ stF ok i sort t lasts - lasts < 20160) := by
  unfold stF fin
  rcases foT_rng (ok := ok i sort) ht with h | h
  · rw [h]; exact Or.inl (if_pos (Or.inl rfl))
  · by_cases e : foT (ok i sort) t = -1 ∨ 20159 < foT (ok i sort) t + lasts
    · rw [if_pos e]; exact Or.inl rfl
    · rw [if_neg e]; right; omega
theorem stF_m1 {ok : TOK} {i : Nat} {sort lasts : Int} : stF ok i sort (-1) lasts = -1 := by
  unfold stF foT fin
  rfl
theorem X_step_s {i : Nat} {kind m lasts : Int} {g : AG} {ok : TOK} (hk : 0 ≤ kind ∧ kind ≤ 3) (hm : m = -1 ∨ (0 ≤ m ∧ m < 20160)) (hl : 0 ≤ lasts ∧ lasts ≤ 1000) (D : XDay g i kind (ok i kind)) :
    Voyage_step i kind m lasts g = some (stF ok i kind m lasts, if kind = 1 ∧ ¬ stF ok i kind m lasts = -1 then up g 47 ((stF ok i kind m lasts - lasts) / 1440).toNat (g 47 ((stF ok i kind m lasts - lasts) / 1440).toNat + 1) else g) := by
  unfold Voyage_step
  rw [begins_s hm D, sb]
  have r := foT_rng (ok := ok i kind) (t := m) (by omega)
  unfold stF fin
  generalize foT (ok i kind) m = b at r ⊢
  by_cases e : b = -1
  · subst e
    clear r
    simp (disch := omega) only [nw_id, ix_id, sb, if_true, if_false, if_pos, if_neg, true_and, and_true, false_and, and_false, and_self, true_or, not_true]
  · have r2 : 0 ≤ b ∧ b < 20160 := by omega
    clear r
    by_cases e2 : 20159 < b + lasts
    · simp (disch := omega) only [nw_id, ix_id, sb, if_true, if_false, if_pos, if_neg, true_and, and_true, false_and, and_false, and_self, or_true, not_true]
    · have e3 : ¬ (b = -1 ∨ 20159 < b + lasts) := by omega
      have e4 : ¬ b + lasts = -1 := by omega
      rw [if_neg e3]
      by_cases k1 : kind = 1
      · simp (disch := omega) only [nw_id, ix_id, sb, if_true, if_false, if_pos, if_neg, true_and, and_true, false_and, and_false, and_self, tdE, show b + lasts - lasts = b by omega, not_false_eq_true]
      · simp (disch := omega) only [nw_id, ix_id, sb, if_true, if_false, if_pos, if_neg, true_and, and_true, false_and, and_false, and_self]
end
section
/-! plain programs: through a stretch, and along the canal -/
/-- the locks of a stretch: (minute, days on which locks were begun) -/
def lkF (ok : TOK) (i : Nat) (lasts : Int) : Nat → Int × List Int → Int × List Int
  | 0, p => p
  | n + 1, p => lkF ok i lasts n (if stF ok i 1 p.1 lasts = -1 then (-1, p.2) else (stF ok i 1 p.1 lasts, (stF ok i 1 p.1 lasts - lasts) / 1440 :: p.2))
def miF (ok : TOK) (i : Nat) : Nat → Int → Int
  | 0, t => t
  | n + 1, t => miF ok i n (stF ok i 0 t 20)
def enF (ok : TOK) (tu : Nat → Bool) (mi : Nat → Int) (i : Nat) (up : Bool) (t : Int) : Int := if tu i = true then (if 0 < mi i then stF ok i (if up = true then 2 else 3) t (20 * mi i) else t) else miF ok i (mi i).toNat t
def thF (ok : TOK) (tu : Nat → Bool) (mi lk : Nat → Int) (lasts : Int) (i : Nat) (up : Bool) (p : Int × List Int) : Int × List Int := lkF ok i lasts (lk i).toNat (enF ok tu mi i up p.1, p.2)
def upF (ok : TOK) (tu : Nat → Bool) (mi lk : Nat → Int) (lasts : Int) : Nat → Nat → Int × List Int → Int × List Int
  | 0, _, p => p
  | n + 1, a, p => upF ok tu mi lk lasts n (a + 1) (thF ok tu mi lk lasts a true p)
def dnF (ok : TOK) (tu : Nat → Bool) (mi lk : Nat → Int) (lasts : Int) : Nat → Nat → Int × List Int → Int × List Int
  | 0, _, p => p
  | n + 1, a, p => dnF ok tu mi lk lasts n (a - 1) (thF ok tu mi lk lasts (a - 1) false p)
def ledF (ok : TOK) (tu : Nat → Bool) (mi lk : Nat → Int) (lasts : Int) (a c : Nat) (p : Int × List Int) : Int × List Int := dnF ok tu mi lk lasts (a - c) a (upF ok tu mi lk lasts (c - a) a p)
theorem lkF_m1 {ok : TOK} {i : Nat} {lasts : Int} {ds : List Int} : ∀ n, lkF ok i lasts n (-1, ds) = (-1, ds)
  | 0 => rfl
  | n + 1 => by unfold lkF; rw [if_pos stF_m1]; exact lkF_m1 n
theorem miF_m1 {ok : TOK} {i : Nat} : ∀ n, miF ok i n (-1) = -1
  | 0 => rfl
  | n + 1 => by unfold miF; rw [stF_m1]; exact miF_m1 n
theorem enF_m1 {ok : TOK} {tu : Nat → Bool} {mi : Nat → Int} {i : Nat} {up : Bool} : enF ok tu mi i up (-1) = -1 := by
  unfold enF
  rw [miF_m1, stF_m1]
  split
  · split <;> rfl
  · rfl
theorem thF_m1 {ok : TOK} {tu : Nat → Bool} {mi lk : Nat → Int} {lasts : Int} {i : Nat} {up : Bool} {ds : List Int} : thF ok tu mi lk lasts i up (-1, ds) = (-1, ds) := by
  unfold thF
  rw [enF_m1]
  exact lkF_m1 _
theorem upF_m1 {ok : TOK} {tu : Nat → Bool} {mi lk : Nat → Int} {lasts : Int} {ds : List Int} : ∀ n a, upF ok tu mi lk lasts n a (-1, ds) = (-1, ds)
  | 0, _ => rfl
  | n + 1, a => by unfold upF; rw [thF_m1]; exact upF_m1 n (a + 1)
theorem dnF_m1 {ok : TOK} {tu : Nat → Bool} {mi lk : Nat → Int} {lasts : Int} {ds : List Int} : ∀ n a, dnF ok tu mi lk lasts n a (-1, ds) = (-1, ds)
  | 0, _ => rfl
  | n + 1, a => by unfold dnF; rw [thF_m1]; exact dnF_m1 n (a - 1)
/-- a time, or none -/
def TmOk (t : Int) : Prop := t = -1 ∨ (0 ≤ t ∧ t ≤ 20159)
def DsOk (ds : List Int) : Prop := ∀ d, d ∈ ds → 0 ≤ d ∧ d < 14
theorem stF_tm {ok : TOK} {i : Nat} {sort t lasts : Int} (ht : TmOk t) (hl : 0 ≤ lasts) : TmOk (stF ok i sort t lasts) := by
  rcases stF_rng (ok := ok) (i := i) (sort := sort) (t := t) (lasts := lasts) (by unfold TmOk at ht; omega) hl with h | h
  · exact Or.inl h
  · exact Or.inr ⟨by omega, by omega⟩
theorem miF_tm {ok : TOK} {i : Nat} : ∀ (n : Nat) (t : Int), TmOk t → TmOk (miF ok i n t)
  | 0, _, h => h
  | n + 1, t, h => miF_tm n _ (stF_tm h (by decide))
theorem enF_tm {ok : TOK} {tu : Nat → Bool} {mi : Nat → Int} {i : Nat} {up : Bool} {t : Int} (hm : 0 ≤ mi i) (h : TmOk t) : TmOk (enF ok tu mi i up t) := by
  unfold enF
  by_cases e : tu i = true
  · rw [if_pos e]
    by_cases e2 : 0 < mi i
    · rw [if_pos e2]; exact stF_tm h (by omega)
    · rw [if_neg e2]; exact h
  · rw [if_neg e]; exact miF_tm _ _ h
theorem lkF_ok {ok : TOK} {i : Nat} {lasts : Int} (hl : 0 ≤ lasts) : ∀ (n : Nat) (p : Int × List Int), TmOk p.1 → DsOk p.2 → TmOk (lkF ok i lasts n p).1 ∧ DsOk (lkF ok i lasts n p).2 ∧ (lkF ok i lasts n p).2.length ≤ p.2.length + n
  | 0, p, h1, h2 => ⟨h1, h2, by simp [lkF]⟩
  | n + 1, p, h1, h2 => by
    unfold lkF
    by_cases e : stF ok i 1 p.1 lasts = -1
    · rw [if_pos e]
      have q := lkF_ok (ok := ok) (i := i) hl n (-1, p.2) (Or.inl rfl) h2
      exact ⟨q.1, q.2.1, by have := q.2.2; simp at this ⊢; omega⟩
    · rw [if_neg e]
      have r := stF_rng (ok := ok) (i := i) (sort := 1) (t := p.1) (lasts := lasts) (by unfold TmOk at h1; omega) hl
      have q := lkF_ok (ok := ok) (i := i) hl n (stF ok i 1 p.1 lasts, (stF ok i 1 p.1 lasts - lasts) / 1440 :: p.2) (stF_tm h1 hl) (by
        intro d hd
        rcases List.mem_cons.mp hd with h | h
        · rw [h]
          rcases r with r | r
          · exact absurd r e
          · omega
        · exact h2 d h)
      exact ⟨q.1, q.2.1, by have := q.2.2; simp at this ⊢; omega⟩
theorem thF_ok {ok : TOK} {tu : Nat → Bool} {mi lk : Nat → Int} {lasts : Int} {i : Nat} {up : Bool} {p : Int × List Int} (hl : 0 ≤ lasts) (hm : 0 ≤ mi i) (hk : 0 ≤ lk i ∧ lk i ≤ 9) (h1 : TmOk p.1) (h2 : DsOk p.2) : TmOk (thF ok tu mi lk lasts i up p).1 ∧ DsOk (thF ok tu mi lk lasts i up p).2 ∧ (thF ok tu mi lk lasts i up p).2.length ≤ p.2.length + 9 := by
  have q := lkF_ok (ok := ok) (i := i) hl (lk i).toNat (enF ok tu mi i up p.1, p.2) (enF_tm hm h1) h2
  unfold thF
  exact ⟨q.1, q.2.1, by have := q.2.2; simp at this ⊢; omega⟩
theorem upF_ok {ok : TOK} {tu : Nat → Bool} {mi lk : Nat → Int} {lasts : Int} (hl : 0 ≤ lasts) (hm : ∀ i, i < 15 → 0 ≤ mi i) (hk : ∀ i, i < 15 → 0 ≤ lk i ∧ lk i ≤ 9) : ∀ (n a : Nat) (p : Int × List Int), a + n ≤ 15 → TmOk p.1 → DsOk p.2 → TmOk (upF ok tu mi lk lasts n a p).1 ∧ DsOk (upF ok tu mi lk lasts n a p).2 ∧ (upF ok tu mi lk lasts n a p).2.length ≤ p.2.length + 9 * n
  | 0, a, p, h, h1, h2 => ⟨h1, h2, by simp [upF]⟩
  | n + 1, a, p, h, h1, h2 => by
    unfold upF
    have t := thF_ok (ok := ok) (tu := tu) (mi := mi) (lk := lk) (up := true) (p := p) hl (hm a (by omega)) (hk a (by omega)) h1 h2
    have q := upF_ok (ok := ok) (tu := tu) hl hm hk n (a + 1) _ (by omega) t.1 t.2.1
    exact ⟨q.1, q.2.1, by have := q.2.2; have := t.2.2; omega⟩
theorem dnF_ok {ok : TOK} {tu : Nat → Bool} {mi lk : Nat → Int} {lasts : Int} (hl : 0 ≤ lasts) (hm : ∀ i, i < 15 → 0 ≤ mi i) (hk : ∀ i, i < 15 → 0 ≤ lk i ∧ lk i ≤ 9) : ∀ (n a : Nat) (p : Int × List Int), n ≤ a → a ≤ 15 → TmOk p.1 → DsOk p.2 → TmOk (dnF ok tu mi lk lasts n a p).1 ∧ DsOk (dnF ok tu mi lk lasts n a p).2 ∧ (dnF ok tu mi lk lasts n a p).2.length ≤ p.2.length + 9 * n
  | 0, a, p, h, h', h1, h2 => ⟨h1, h2, by simp [dnF]⟩
  | n + 1, a, p, h, h', h1, h2 => by
    unfold dnF
    have t := thF_ok (ok := ok) (tu := tu) (mi := mi) (lk := lk) (up := false) (p := p) hl (hm (a - 1) (by omega)) (hk (a - 1) (by omega)) h1 h2
    have q := dnF_ok (ok := ok) (tu := tu) hl hm hk n (a - 1) _ (by omega) (by omega) t.1 t.2.1
    exact ⟨q.1, q.2.1, by have := q.2.2; have := t.2.2; omega⟩
theorem ledF_ok {ok : TOK} {tu : Nat → Bool} {mi lk : Nat → Int} {lasts : Int} (hl : 0 ≤ lasts) (hm : ∀ i, i < 15 → 0 ≤ mi i) (hk : ∀ i, i < 15 → 0 ≤ lk i ∧ lk i ≤ 9) {a c : Nat} {p : Int × List Int} (ha : a ≤ 15) (hc : c ≤ 15) (h1 : TmOk p.1) (h2 : DsOk p.2) : TmOk (ledF ok tu mi lk lasts a c p).1 ∧ DsOk (ledF ok tu mi lk lasts a c p).2 ∧ (ledF ok tu mi lk lasts a c p).2.length ≤ p.2.length + 270 := by
  unfold ledF
  have t := upF_ok (ok := ok) (tu := tu) hl hm hk (c - a) a p (by omega) h1 h2
  have q := dnF_ok (ok := ok) (tu := tu) hl hm hk (a - c) a _ (by omega) ha t.1 t.2.1
  exact ⟨q.1, q.2.1, by have := q.2.2; have := t.2.2; omega⟩
/-! the reference -/
def tuM (g : AG) (i : Nat) : Bool := decide (g 144 (2 * i) = 1 ∨ g 144 (2 * i + 1) = 1)
/-- what a lock begun on a day harms -/
def vlF (cd fc : Nat → Int) (a b : Int) : Int := match evl cd fc (b - a).toNat a.toNat [] with | some (v :: _) => v | _ => 0
def clF (v : Int) : Int := if 0 ≤ nw v then (if nw v ≤ 999 then v else 999) else 0
def hwF (g : AG) (b : Nat) (d : Int) : Int := clF (if srvG g (fcHarm d (g 117 10) (g 124 b) (g 125 b) (g 127 b)) 4 (g 2 3).toNat 0 = -1 then 0 else vlF (g 134) (fcHarm d (g 117 10) (g 124 b) (g 125 b) (g 127 b)) (g 131 (srvG g (fcHarm d (g 117 10) (g 124 b) (g 125 b) (g 127 b)) 4 (g 2 3).toNat 0).toNat) (g 132 (srvG g (fcHarm d (g 117 10) (g 124 b) (g 125 b) (g 127 b)) 4 (g 2 3).toNat 0).toNat))
def wsF (w : Int → Int) : List Int → Int
  | [] => 0
  | d :: ds => w d + wsF w ds
theorem hwF_fr {W : Reg} {g g' : AG} {b : Nat} (f : FR W g g') (d : djR [(117, 11), (124, 0), (125, 0), (127, 0), (2, 4), (128, 0), (131, 0), (132, 0), (133, 0), (134, 0)] W = true) : hwF g' b = hwF g b := by
  have c := f.cg d
  have c0 : g' 117 10 = g 117 10 := c 117 10 rfl
  have c1 : g' 2 3 = g 2 3 := c 2 3 rfl
  have c2 : g' 128 = g 128 := funext fun i => c 128 i rfl
  have c3 : g' 131 = g 131 := funext fun i => c 131 i rfl
  have c5 : g' 132 = g 132 := funext fun i => c 132 i rfl
  have c6 : g' 133 = g 133 := funext fun i => c 133 i rfl
  have c7 : g' 134 = g 134 := funext fun i => c 134 i rfl
  have c8 : g' 124 b = g 124 b := c 124 b rfl
  have c9 : g' 125 b = g 125 b := c 125 b rfl
  have c10 : g' 127 b = g 127 b := c 127 b rfl
  funext d
  unfold hwF srvG
  simp only [c0, c1, c2, c3, c5, c6, c7, c8, c9, c10]
theorem M_harmOf_s {b : Nat} {d : Int} {g : AG} (hb : b < 10) (hd : 0 ≤ d ∧ d < 14) (J : JRule g) : ∃ g', M_harmOf b d g = some (hwF g b d, g') ∧ FR [(147, 0), (148, 0)] g g' := by
  have f1 : FR [(148, 0)] g (up (up (up (up (up (up (fun a b => if a = 148 ∧ b < 10 then 0 else g a b) 148 1 (d % 7)) 148 2 (d / 7)) 148 3 (g 117 10)) 148 4 (g 124 b)) 148 6 (g 125 b)) 148 9 (g 127 b)) := by
    intro a b hab
    have n1 : a ≠ 148 := fun e => by subst e; revert hab; simp [inR, inP]
    simp only [up_at, n1, false_and, if_false]
  have a1 : ∀ k, k < 10 → (up (up (up (up (up (up (fun a b => if a = 148 ∧ b < 10 then 0 else g a b) 148 1 (d % 7)) 148 2 (d / 7)) 148 3 (g 117 10)) 148 4 (g 124 b)) 148 6 (g 125 b)) 148 9 (g 127 b)) 148 k = fcHarm d (g 117 10) (g 124 b) (g 125 b) (g 127 b) k := by
    intro k hk
    unfold fcHarm
    simp only [up_at, true_and]
    ((repeat (first | (split; · with_reducible rfl) | (split; rotate_left 1; · with_reducible rfl))) <;> first | with_reducible rfl | (refine absurd ?_ h; clear h; (repeat' apply And.intro) <;> omega) | omega | ((repeat' split) <;> first | rfl | omega))
  obtain ⟨g2, e2, f2⟩ := M_serves_s (sort := 4) (by omega) (J.cg (f1.cg rfl)) a1
  have J0 := J.1
  have fT : FR [(147, 0), (148, 0)] g g2 := (f1.mo rfl).tr (f2.mo rfl)
  have k1 : ∀ G : AG, G = up (up (up (up (up (up (fun a b => if a = 148 ∧ b < 10 then 0 else g a b) 148 1 (d % 7)) 148 2 (d / 7)) 148 3 (g 117 10)) 148 4 (g 124 b)) 148 6 (g 125 b)) 148 9 (g 127 b) → G 128 = g 128 ∧ G 132 = g 132 ∧ G 133 = g 133 ∧ G 134 = g 134 ∧ G 2 3 = g 2 3 := by
    intro G hG
    rw [hG]
    exact ⟨f1.cell (fun _ => rfl), f1.cell (fun _ => rfl), f1.cell (fun _ => rfl), f1.cell (fun _ => rfl), f1 2 3 rfl⟩
  obtain ⟨k2, k3, k4, k5, k6⟩ := k1 _ rfl
  unfold srvG at e2
  rw [k2, k3, k4, k5, k6] at e2
  have pre : ∀ r, M_harmOf b d g = r ↔ ((M_serves 4 (up (up (up (up (up (up (fun a b => if a = 148 ∧ b < 10 then 0 else g a b) 148 1 (d % 7)) 148 2 (d / 7)) 148 3 (g 117 10)) 148 4 (g 124 b)) 148 6 (g 125 b)) 148 9 (g 127 b))) >>= fun r16 => (if nw r16.1 = -1 then some (0, r16.2) else if 0 ≤ nw r16.1 ∧ nw r16.1 < 16 then (M_comesTo (r16.2 131 (ix r16.1)) (r16.2 132 (ix r16.1)) r16.2 >>= fun r20 => some (r20.1, r20.2)) else none) >>= fun r22 => some (clF r22.1) >>= fun t24 => some (t24, r22.2)) = r := by
    intro r
    unfold M_harmOf clF
    rw [M_forgets_s, ix_lits.2.1, ix_lits.2.2.1, ix_lits.2.2.2.1, ix_lits.2.2.2.2.1, ix_lits.2.2.2.2.2.2.1, ix_lits.2.2.2.2.2.2.2.2.2]
    clear a1 e2
    simp (disch := omega) only [tmE, tdE, if_neg, sb, nw_id (a := (b : Int)), nw_id (a := d), if_pos, ix_id (a := (b : Int)), Int.toNat_natCast]
    simp only [up_at, Nat.reduceEqDiff, false_and, if_false]
  have hr := srvF_rng (kd := g 128) (md := g 132) (en := g 133) (cd := g 134) (fc := fcHarm d (g 117 10) (g 124 b) (g 125 b) (g 127 b)) (sort := 4) (g 2 3).toNat 0
  unfold hwF srvG
  generalize srvF (g 128) (g 132) (g 133) (g 134) (fcHarm d (g 117 10) (g 124 b) (g 125 b) (g 127 b)) 4 (g 2 3).toNat 0 = s at hr e2 ⊢
  by_cases e : s = -1
  · subst e
    refine ⟨g2, ?_, fT⟩
    rw [pre, e2, sb, nw_m1]
    rfl
  · have hr2 : 0 ≤ s ∧ s < g 2 3 ∧ g 128 s.toNat = 4 := by
      rcases hr with hr | ⟨a, b, c⟩
      · exact absurd hr e
      · exact ⟨by omega, by omega, c⟩
    clear hr
    obtain ⟨l, rfl⟩ := natOf hr2.1
    rw [Int.toNat_natCast] at hr2 ⊢
    obtain ⟨v, g3, e3, f4, v1⟩ := (J.cg (fT.cg rfl)).val (fc := fcHarm d (g 117 10) (g 124 b) (g 125 b) (g 127 b)) (by
      intro k hk
      have := a1 k hk
      rw [f2 148 k rfl]
      exact this) (l := l) (by rw [fT 2 3 rfl]; exact hr2.2.1) (by rw [fT 128 l rfl]; omega)
    have q1 : g2 134 = g 134 := fT.cell (fun _ => rfl)
    rw [q1, fT 132 l rfl, fT 131 l rfl] at v1
    refine ⟨g3, ?_, fT.tr (f4.mo rfl)⟩
    rw [pre, e2, sb, if_neg e]
    simp (disch := omega) only [nw_id (a := (l : Int)), if_neg, sb, if_pos, ix_id (a := (l : Int)), Int.toNat_natCast, e3]
    unfold vlF
    rw [v1]
end
section
/-! plain programs: the reference goes along the canal -/
abbrev WM : Reg := [(147, 0), (148, 0), (117, 49)]
def laF (ta : Int) : Int := 15 + (60 - ta) / 6
def MI (g : AG) (b : Nat) (ok : TOK) (tu : Nat → Bool) (mi lk : Nat → Int) (W : Int → Int) (ta : Int) : Prop := JRule g ∧ StR g ∧ okM g (stpM g) = ok ∧ tuM g = tu ∧ g 118 = mi ∧ g 119 = lk ∧ hwF g b = W ∧ g 127 b = ta ∧ (0 ≤ ta ∧ ta ≤ 60) ∧ b < 10 ∧ (∀ i : Nat, i < 15 → (0 ≤ mi i ∧ mi i ≤ 9) ∧ (0 ≤ lk i ∧ lk i ≤ 9)) ∧ (g 117 47 = 0 ∨ g 117 47 = 1)
theorem MI.fr {g g' : AG} {b : Nat} {ok : TOK} {tu : Nat → Bool} {mi lk : Nat → Int} {W : Int → Int} {ta : Int} (h : MI g b ok tu mi lk W ta) (f : FR WM g g') : MI g' b ok tu mi lk W ta := by
  obtain ⟨h1, h2, h3, h4, h5, h6, h7, h8, h9, h10, h11, h12⟩ := h
  refine ⟨h1.cg (f.cg rfl), h2.fr f rfl, ?_, ?_, ?_, ?_, ?_, ?_, h9, h10, h11, ?_⟩
  · rw [stpM_fr f rfl, okM_fr f rfl]; exact h3
  · have c : g' 144 = g 144 := f.cell (fun _ => rfl)
    rw [← h4]; unfold tuM; rw [c]
  · rw [f.cell (k := 118) (fun _ => rfl)]; exact h5
  · rw [f.cell (k := 119) (fun _ => rfl)]; exact h6
  · rw [hwF_fr f rfl]; exact h7
  · rw [f 127 b rfl]; exact h8
  · rw [f 117 47 rfl]; exact h12
def HR (W : Int → Int) (g g' : AG) (ds ds' : List Int) : Prop := (g 117 47 = 0 → g' 117 48 = g 117 48) ∧ (g 117 47 = 1 → g' 117 48 + wsF W ds = g 117 48 + wsF W ds')
theorem HR.rf {W : Int → Int} {g : AG} {ds : List Int} : HR W g g ds ds := ⟨fun _ => rfl, fun _ => rfl⟩
theorem HR.tr {W : Int → Int} {g g1 g2 : AG} {d1 d2 d3 : List Int} (f : FR WM g g1) (h1 : HR W g g1 d1 d2) (h2 : HR W g1 g2 d2 d3) : HR W g g2 d1 d3 := by
  have e := f 117 47 rfl
  refine ⟨fun q => ?_, fun q => ?_⟩
  · rw [h2.1 (by rw [e]; exact q), h1.1 q]
  · have a := h1.2 q
    have b := h2.2 (by rw [e]; exact q)
    omega
theorem HR.same {W : Int → Int} {g g1 : AG} {ds : List Int} (h : g1 117 48 = g 117 48) : HR W g g1 ds ds := ⟨fun _ => h, fun _ => by rw [h]⟩
section LEDM
variable {b : Nat} {ok : TOK} {tu : Nat → Bool} {mi lk : Nat → Int} {W : Int → Int} {ta : Int}
theorem M_lk_s {i : Nat} (hi : i < 15) {u : Int} : ∀ (n k : Nat) (t : Int) (ds : List Int) (g : AG), MI g b ok tu mi lk W ta → TmOk t → ((k + n : Nat) : Int) = lk i → ∃ g', M_through_b b i u 4 t (laF ta) k g = some ((lkF ok i (laF ta) n (t, ds)).1, g') ∧ FR WM g g' ∧ HR W g g' ds (lkF ok i (laF ta) n (t, ds)).2 := by
  intro n
  induction n with
  | zero =>
    intro k t ds g M ht h
    obtain ⟨h1, h2, h3, h4, h5, h6, h7, h8, h9, h10, h11, h12⟩ := M
    have r := h11 i hi
    refine ⟨g, ?_, Fr.rf, HR.rf⟩
    rw [M_through_b, h6]
    simp (disch := omega) only [nw_id, ix_id, sb, if_true, if_false, if_pos, if_neg, true_and, and_true, false_and, and_false, and_self, Int.toNat_natCast]
    rfl
  | succ n ih =>
    intro k t ds g M ht h
    have M0 := M
    obtain ⟨h1, h2, h3, h4, h5, h6, h7, h8, h9, h10, h11, h12⟩ := M
    have r := h11 i hi
    have la : 15 ≤ laF ta ∧ laF ta ≤ 25 := by unfold laF; omega
    rw [M_through_b, h6]
    by_cases et : t = -1
    · subst et
      rw [lkF_m1]
      refine ⟨g, ?_, Fr.rf, HR.rf⟩
      simp (disch := omega) only [nw_id, ix_id, sb, if_true, if_false, if_pos, if_neg, true_and, and_true, false_and, and_false, and_self, Int.toNat_natCast]
    · have ht2 : 0 ≤ t ∧ t ≤ 20159 := by unfold TmOk at ht; omega
      obtain ⟨g1, e1, f1⟩ := M_endOf_s (g := g) (i := i) (sort := 1) (lasts := laF ta) (t := t) hi (by decide) (by omega) ht2.1 (by omega) h1 h2
      rw [h3] at e1
      have e1' : M_endOf i 1 t (laF ta) g = some (stF ok i 1 t (laF ta), g1) := e1
      have rg := stF_rng (ok := ok) (i := i) (sort := 1) (t := t) (lasts := laF ta) (by omega) (by omega)
      have f1' : FR WM g g1 := f1.mo rfl
      unfold lkF
      dsimp only
      generalize stF ok i 1 t (laF ta) = v at e1' rg ⊢
      rw [show ((i : Nat) : Int) = (i : Int) from rfl] at e1'
      have c48 : g1 117 48 = g 117 48 := f1 117 48 rfl
      have c47 : g1 117 47 = g 117 47 := f1 117 47 rfl
      have M1 := M0.fr f1'
      by_cases ev : v = -1
      · subst ev
        obtain ⟨g2, e2, f2, q2⟩ := ih (k + 1) (-1) ds g1 M1 (Or.inl rfl) (by omega)
        rw [show ((k + 1 : Nat) : Int) = (k : Int) + 1 from rfl] at e2
        refine ⟨g2, ?_, f1'.tr f2, ?_⟩
        · clear rg
          simp (disch := omega) only [nw_id, ix_id, sb, if_true, if_false, if_pos, if_neg, true_and, and_true, false_and, and_false, and_self, Int.toNat_natCast, e1', ite_self]
          exact e2
        · rw [if_pos rfl]
          exact HR.tr f1' (HR.same c48) q2
      · have rg2 : 0 ≤ v ∧ v ≤ 20159 ∧ 0 ≤ v - laF ta ∧ v - laF ta < 20160 := by omega
        clear rg
        obtain ⟨g2, e2, f2⟩ := M_harmOf_s (g := g1) (b := b) (d := (v - laF ta) / 1440) h10 (by omega) M1.1
        have W1 : hwF g1 b = W := M1.2.2.2.2.2.2.1
        rw [W1] at e2
        rcases h12 with z | z
        · obtain ⟨g3, e3, f3, q3⟩ := ih (k + 1) v ((v - laF ta) / 1440 :: ds) g1 M1 (Or.inr ⟨rg2.1, rg2.2.1⟩) (by omega)
          rw [show ((k + 1 : Nat) : Int) = (k : Int) + 1 from rfl] at e3
          refine ⟨g3, ?_, f1'.tr f3, ?_⟩
          · simp (disch := omega) only [nw_id, ix_id, sb, if_true, if_false, if_pos, if_neg, true_and, and_true, false_and, and_false, and_self, Int.toNat_natCast, e1', c47, z]
            exact e3
          · rw [if_neg ev]
            refine ⟨fun _ => ?_, fun q => by omega⟩
            rw [q3.1 (by rw [c47]; exact z), c48]
        · have f2' : FR WM g1 (up g2 117 48 (g1 117 48 + W ((v - laF ta) / 1440))) := Fr.up (f2.mo rfl) rfl
          obtain ⟨g3, e3, f3, q3⟩ := ih (k + 1) v ((v - laF ta) / 1440 :: ds) _ (M1.fr f2') (Or.inr ⟨rg2.1, rg2.2.1⟩) (by omega)
          rw [show ((k + 1 : Nat) : Int) = (k : Int) + 1 from rfl] at e3
          refine ⟨g3, ?_, f1'.tr (f2'.tr f3), ?_⟩
          · simp (disch := omega) only [nw_id, ix_id, sb, if_true, if_false, if_pos, if_neg, true_and, and_true, false_and, and_false, and_self, Int.toNat_natCast, e1', c47, z, tdE, e2]
            exact e3
          · rw [if_neg ev]
            refine ⟨fun q => by omega, fun _ => ?_⟩
            have q4 := q3.2 (by rw [f2' 117 47 rfl, c47]; exact z)
            simp only [up_at, and_self, if_true, wsF] at q4
            omega
theorem M_mi_s {i : Nat} (hi : i < 15) {u x6 : Int} : ∀ (n k : Nat) (t : Int) (g : AG), MI g b ok tu mi lk W ta → TmOk t → ((k + n : Nat) : Int) = mi i → ∃ g', M_through_b b i u 2 t k x6 g = M_through_b b i u 4 (miF ok i n t) (laF ta) 0 g' ∧ FR WM g g' ∧ g' 117 48 = g 117 48 := by
  have done : ∀ (t : Int) (k : Int) (g : AG), MI g b ok tu mi lk W ta → M_through_b b i u 3 t k x6 g = M_through_b b i u 4 t (laF ta) 0 g := by
    intro t k g M
    obtain ⟨h1, h2, h3, h4, h5, h6, h7, h8, h9, h10, h11, h12⟩ := M
    rw [M_through_b, if_neg (by decide), if_neg (by decide), if_pos rfl]
    have c1 : 0 ≤ nw (b : Int) ∧ nw (b : Int) < 10 := by rw [nw_id (by omega) (by omega)]; omega
    rw [if_pos c1, ix_id (by omega) (by omega), Int.toNat_natCast, h8, nw_id (by omega) (by omega), tdE (by omega)]
    unfold laF
    rfl
  intro n
  induction n with
  | zero =>
    intro k t g M ht h
    have M0 := M
    obtain ⟨h1, h2, h3, h4, h5, h6, h7, h8, h9, h10, h11, h12⟩ := M
    have r := h11 i hi
    refine ⟨g, ?_, Fr.rf, rfl⟩
    rw [M_through_b, h5]
    simp (disch := omega) only [nw_id, ix_id, sb, if_true, if_false, if_pos, if_neg, true_and, and_true, false_and, and_false, and_self, Int.toNat_natCast]
    exact done t k g M0
  | succ n ih =>
    intro k t g M ht h
    have M0 := M
    obtain ⟨h1, h2, h3, h4, h5, h6, h7, h8, h9, h10, h11, h12⟩ := M
    have r := h11 i hi
    rw [M_through_b, h5]
    by_cases et : t = -1
    · subst et
      rw [miF_m1]
      refine ⟨g, ?_, Fr.rf, rfl⟩
      simp (disch := omega) only [nw_id, ix_id, sb, if_true, if_false, if_pos, if_neg, true_and, and_true, false_and, and_false, and_self, Int.toNat_natCast]
      exact done (-1) k g M0
    · have ht2 : 0 ≤ t ∧ t ≤ 20159 := by unfold TmOk at ht; omega
      obtain ⟨g1, e1, f1⟩ := M_endOf_s (g := g) (i := i) (sort := 0) (lasts := 20) (t := t) hi (by decide) (by omega) ht2.1 (by omega) h1 h2
      rw [h3] at e1
      have e1' : M_endOf i 0 t 20 g = some (stF ok i 0 t 20, g1) := e1
      have f1' : FR WM g g1 := f1.mo rfl
      obtain ⟨g2, e2, f2, q2⟩ := ih (k + 1) (stF ok i 0 t 20) g1 (M0.fr f1') (stF_tm ht (by decide)) (by omega)
      rw [show ((k + 1 : Nat) : Int) = (k : Int) + 1 from rfl] at e2
      refine ⟨g2, ?_, f1'.tr f2, by rw [q2, f1 117 48 rfl]⟩
      simp (disch := omega) only [nw_id, ix_id, sb, if_true, if_false, if_pos, if_neg, true_and, and_true, false_and, and_false, and_self, Int.toNat_natCast, e1']
      exact e2
theorem M_through_s {i : Nat} (hi : i < 15) {u t : Int} (hu : u = 0 ∨ u = 1) (ds : List Int) {g : AG} (M : MI g b ok tu mi lk W ta) (ht : 0 ≤ t ∧ t ≤ 20159) : ∃ g', M_through b i u t g = some ((thF ok tu mi lk (laF ta) i (decide (u = 1)) (t, ds)).1, g') ∧ FR WM g g' ∧ HR W g g' ds (thF ok tu mi lk (laF ta) i (decide (u = 1)) (t, ds)).2 := by
  have M0 := M
  obtain ⟨h1, h2, h3, h4, h5, h6, h7, h8, h9, h10, h11, h12⟩ := M
  have r := h11 i hi
  have t0 := h1.tun (k := 2 * i) (by omega)
  have t1 := h1.tun (k := 2 * i + 1) (by omega)
  have tm : TmOk t := Or.inr ht
  have tu1 : tu i = decide (g 144 (2 * i) = 1 ∨ g 144 (2 * i + 1) = 1) := by rw [← h4]; rfl
  have n0 : (2 * (i : Int)).toNat = 2 * i := by omega
  have n1 : (2 * (i : Int) + 1).toNat = 2 * i + 1 := by omega
  -- the way with a tunnel
  have tun : tu i = true → ∃ g', M_through_b b i u 1 t 0 0 g = some ((thF ok tu mi lk (laF ta) i (decide (u = 1)) (t, ds)).1, g') ∧ FR WM g g' ∧ HR W g g' ds (thF ok tu mi lk (laF ta) i (decide (u = 1)) (t, ds)).2 := by
    intro htu
    unfold thF enF
    rw [if_pos htu]
    dsimp only
    rw [M_through_b, if_pos rfl]
    have c1 : 0 ≤ nw (i : Int) ∧ nw (i : Int) < 15 := by clear t0 t1; rw [nw_id (by omega) (by omega)]; omega
    have c2 : 0 ≤ nw (b : Int) ∧ nw (b : Int) < 10 := by clear t0 t1 c1; rw [nw_id (by omega) (by omega)]; omega
    have c3 : ix (i : Int) = i := by clear t0 t1 c1 c2; rw [ix_id (by omega) (by omega), Int.toNat_natCast]
    have c4 : ix (b : Int) = b := by clear t0 t1 c1 c2 c3; rw [ix_id (by omega) (by omega), Int.toNat_natCast]
    have c5 : nw (mi i) = mi i := nw_id (by clear t0 t1 c1 c2 c3 c4; omega) (by clear t0 t1 c1 c2 c3 c4; omega)
    have c6 : 15 + (nw (60 - ta)).tdiv 6 = laF ta := by unfold laF; clear t0 t1 c1 c2 c3 c4 c5; rw [nw_id (by omega) (by omega), tdE (by omega)]
    rw [if_pos c1, c3, h5, c5]
    by_cases m0 : mi i ≤ 0
    · rw [if_pos m0, sb]
      dsimp only
      rw [if_pos c2, c4, h8, c6]
      clear c1 c2 c3 c4 c5 c6 t0 t1
      rw [if_neg (show ¬ 0 < mi i by omega)]
      exact M_lk_s hi (lk i).toNat 0 t ds g M0 tm (by omega)
    · have hs : (if nw u = 0 then (3 : Int) else 2) = (if decide (u = 1) = true then 2 else 3) := by
        clear c1 c2 c3 c4 c5 c6 t0 t1
        rcases hu with e | e
        · subst e; rw [nw_0]; rfl
        · subst e; rw [nw_1]; rfl
      have sr : 0 ≤ (if decide (u = 1) = true then (2 : Int) else 3) ∧ (if decide (u = 1) = true then (2 : Int) else 3) ≤ 3 := by split <;> decide
      obtain ⟨g1, e1, f1⟩ := M_endOf_s (g := g) (i := i) (sort := if decide (u = 1) = true then 2 else 3) (lasts := 20 * mi i) (t := t) hi sr (by clear c1 c2 c3 c4 c5 c6 t0 t1; omega) ht.1 (by clear c1 c2 c3 c4 c5 c6 t0 t1; omega) h1 h2
      rw [h3] at e1
      have f1' : FR WM g g1 := f1.mo rfl
      have M1 := M0.fr f1'
      have tm2 : TmOk (stF ok i (if decide (u = 1) = true then 2 else 3) t (20 * mi i)) := stF_tm tm (by clear c1 c2 c3 c4 c5 c6 t0 t1; omega)
      obtain ⟨g2, e2, f2, q2⟩ := M_lk_s hi (u := u) (lk i).toNat 0 _ ds g1 M1 tm2 (by clear c1 c2 c3 c4 c5 c6 t0 t1; omega)
      refine ⟨g2, ?_, f1'.tr f2, ?_⟩
      · rw [if_neg m0, sb, hs, e1, sb, sb]
        dsimp only
        rw [if_pos c2, c4, f1 127 b rfl, h8, c6, if_pos (show 0 < mi i by clear c1 c2 c3 c4 c5 c6 t0 t1; omega)]
        exact e2
      · rw [if_pos (show 0 < mi i by clear c1 c2 c3 c4 c5 c6 t0 t1; omega)]
        exact HR.tr f1' (HR.same (f1 117 48 rfl)) q2
  unfold M_through
  rcases t0.1 with z0 | z0
  · rcases t1.1 with z1 | z1
    · have htu : ¬ tu i = true := by rw [tu1, z0, z1]; simp
      clear t0 t1 tun
      simp (disch := omega) only [nw_id, ix_id, sb, if_true, if_false, if_pos, if_neg, true_and, and_true, false_and, and_false, and_self, n0, n1, z0, z1]
      unfold thF enF
      rw [if_neg htu]
      dsimp only
      obtain ⟨g1, e1, f1, q1⟩ := M_mi_s hi (u := 0) (x6 := 0) (mi i).toNat 0 t g M0 tm (by omega)
      obtain ⟨g2, e2, f2, q2⟩ := M_lk_s hi (u := 0) (lk i).toNat 0 (miF ok i (mi i).toNat t) ds g1 (M0.fr f1) (miF_tm _ _ tm) (by omega)
      refine ⟨g2, ?_, f1.tr f2, HR.tr f1 (HR.same q1) q2⟩
      rw [← e2]
      exact e1
    · have htu : tu i = true := by rw [tu1, z0, z1]; simp
      clear t0 t1
      have tun := tun htu
      simp (disch := omega) only [nw_id, ix_id, sb, if_true, if_false, if_pos, if_neg, true_and, and_true, false_and, and_false, and_self, n0, n1, z0, z1]
      exact tun
  · have htu : tu i = true := by rw [tu1, z0]; simp
    clear t0 t1
    have tun := tun htu
    simp (disch := omega) only [nw_id, ix_id, sb, if_true, if_false, if_pos, if_neg, true_and, and_true, false_and, and_false, and_self, n0, n1, z0]
    exact tun
theorem M_dn_s {x2 : Int} {c : Nat} : ∀ (n a : Nat) (t : Int) (ds : List Int) (g : AG), MI g b ok tu mi lk W ta → TmOk t → n = a - c → a ≤ 15 → c ≤ 15 → ∃ g', M_led_b b x2 c 3 t a g = some ((dnF ok tu mi lk (laF ta) n a (t, ds)).1, g') ∧ FR WM g g' ∧ HR W g g' ds (dnF ok tu mi lk (laF ta) n a (t, ds)).2 := by
  intro n
  induction n with
  | zero =>
    intro a t ds g M ht hn ha hc
    refine ⟨g, ?_, Fr.rf, HR.rf⟩
    rw [M_led_b]
    simp (disch := omega) only [nw_id, ix_id, sb, if_true, if_false, if_pos, if_neg, true_and, and_true, false_and, and_false, and_self]
    rfl
  | succ n ih =>
    intro a t ds g M ht hn ha hc
    rw [M_led_b]
    by_cases et : t = -1
    · subst et
      rw [dnF_m1]
      refine ⟨g, ?_, Fr.rf, HR.rf⟩
      simp (disch := omega) only [nw_id, ix_id, sb, if_true, if_false, if_pos, if_neg, true_and, and_true, false_and, and_false, and_self]
    · have ht2 : 0 ≤ t ∧ t ≤ 20159 := by unfold TmOk at ht; omega
      have M0 := M
      obtain ⟨h1, h2, h3, h4, h5, h6, h7, h8, h9, h10, h11, h12⟩ := M
      obtain ⟨g1, e1, f1, q1⟩ := M_through_s (i := a - 1) (by omega) (u := 0) (Or.inl rfl) ds M0 ht2
      have q := thF_ok (ok := ok) (tu := tu) (mi := mi) (lk := lk) (lasts := laF ta) (i := a - 1) (up := false) (p := (t, [])) (by unfold laF; omega) (h11 (a - 1) (by omega)).1.1 (h11 (a - 1) (by omega)).2 ht (by intro d hd; cases hd)
      have hfst : ∀ d1 d2 : List Int, (thF ok tu mi lk (laF ta) (a - 1) false (t, d1)).1 = (thF ok tu mi lk (laF ta) (a - 1) false (t, d2)).1 := by
        intro d1 d2
        unfold thF
        have key : ∀ (m : Nat) (x : Int) (d1 d2 : List Int), (lkF ok (a - 1) (laF ta) m (x, d1)).1 = (lkF ok (a - 1) (laF ta) m (x, d2)).1 := by
          intro m
          induction m with
          | zero => intro x d1 d2; rfl
          | succ m ihm =>
            intro x d1 d2
            unfold lkF
            dsimp only
            split
            · exact ihm _ _ _
            · exact ihm _ _ _
        exact key _ _ _ _
      have tm2 : TmOk (thF ok tu mi lk (laF ta) (a - 1) false (t, ds)).1 := by rw [hfst ds []]; exact q.1
      obtain ⟨g2, e2, f2, q2⟩ := ih (a - 1) (thF ok tu mi lk (laF ta) (a - 1) false (t, ds)).1 (thF ok tu mi lk (laF ta) (a - 1) false (t, ds)).2 g1 (M0.fr f1) tm2 (by omega) (by omega) hc
      have na : ((a - 1 : Nat) : Int) = (a : Int) - 1 := by omega
      have na2 : ((a - 1 : Nat) : Int) = (a : Int) + -1 := by omega
      rw [na] at e1
      rw [na2] at e2
      refine ⟨g2, ?_, f1.tr f2, HR.tr f1 q1 q2⟩
      simp (disch := omega) only [nw_id, ix_id, sb, if_true, if_false, if_pos, if_neg, true_and, and_true, false_and, and_false, and_self]
      rw [e1, sb]
      exact e2
theorem M_up_s {x2 c : Nat} (hx : x2 ≤ 15) : ∀ (n a : Nat) (t : Int) (ds : List Int) (g : AG), MI g b ok tu mi lk W ta → TmOk t → n = c - a → a ≤ 15 → c ≤ 15 → ∃ g', M_led_b b x2 c 1 t a g = some ((dnF ok tu mi lk (laF ta) (x2 - c) x2 (upF ok tu mi lk (laF ta) n a (t, ds))).1, g') ∧ FR WM g g' ∧ HR W g g' ds (dnF ok tu mi lk (laF ta) (x2 - c) x2 (upF ok tu mi lk (laF ta) n a (t, ds))).2 := by
  have exit : ∀ (a : Int) (t : Int) (ds : List Int) (g : AG), MI g b ok tu mi lk W ta → TmOk t → c ≤ 15 → ∃ g', M_led_b b x2 c 2 t a g = some ((dnF ok tu mi lk (laF ta) (x2 - c) x2 (t, ds)).1, g') ∧ FR WM g g' ∧ HR W g g' ds (dnF ok tu mi lk (laF ta) (x2 - c) x2 (t, ds)).2 := by
    intro a t ds g M ht hc
    rw [M_led_b, if_neg (by decide), if_pos rfl]
    exact M_dn_s (x2 := x2) (c := c) (x2 - c) x2 t ds g M ht rfl hx hc
  intro n
  induction n with
  | zero =>
    intro a t ds g M ht hn ha hc
    rw [M_led_b]
    simp (disch := omega) only [nw_id, ix_id, sb, if_true, if_false, if_pos, if_neg, true_and, and_true, false_and, and_false, and_self]
    exact exit a t ds g M ht hc
  | succ n ih =>
    intro a t ds g M ht hn ha hc
    rw [M_led_b]
    by_cases et : t = -1
    · subst et
      rw [upF_m1]
      simp (disch := omega) only [nw_id, ix_id, sb, if_true, if_false, if_pos, if_neg, true_and, and_true, false_and, and_false, and_self]
      exact exit a (-1) ds g M ht hc
    · have ht2 : 0 ≤ t ∧ t ≤ 20159 := by unfold TmOk at ht; omega
      have M0 := M
      obtain ⟨h1, h2, h3, h4, h5, h6, h7, h8, h9, h10, h11, h12⟩ := M
      obtain ⟨g1, e1, f1, q1⟩ := M_through_s (i := a) (by omega) (u := 1) (Or.inr rfl) ds M0 ht2
      have q := thF_ok (ok := ok) (tu := tu) (mi := mi) (lk := lk) (lasts := laF ta) (i := a) (up := true) (p := (t, [])) (by unfold laF; omega) (h11 a (by omega)).1.1 (h11 a (by omega)).2 ht (by intro d hd; cases hd)
      have hfst : ∀ d1 d2 : List Int, (thF ok tu mi lk (laF ta) a true (t, d1)).1 = (thF ok tu mi lk (laF ta) a true (t, d2)).1 := by
        intro d1 d2
        unfold thF
        have key : ∀ (m : Nat) (x : Int) (d1 d2 : List Int), (lkF ok a (laF ta) m (x, d1)).1 = (lkF ok a (laF ta) m (x, d2)).1 := by
          intro m
          induction m with
          | zero => intro x d1 d2; rfl
          | succ m ihm =>
            intro x d1 d2
            unfold lkF
            dsimp only
            split
            · exact ihm _ _ _
            · exact ihm _ _ _
        exact key _ _ _ _
      have tm2 : TmOk (thF ok tu mi lk (laF ta) a true (t, ds)).1 := by rw [hfst ds []]; exact q.1
      obtain ⟨g2, e2, f2, q2⟩ := ih (a + 1) (thF ok tu mi lk (laF ta) a true (t, ds)).1 (thF ok tu mi lk (laF ta) a true (t, ds)).2 g1 (M0.fr f1) tm2 (by omega) (by omega) hc
      rw [show ((a + 1 : Nat) : Int) = (a : Int) + 1 from rfl] at e2
      refine ⟨g2, ?_, f1.tr f2, HR.tr f1 q1 q2⟩
      simp (disch := omega) only [nw_id, ix_id, sb, if_true, if_false, if_pos, if_neg, true_and, and_true, false_and, and_false, and_self]
      rw [e1, sb]
      exact e2
theorem M_led_s {a c : Nat} (ha : a ≤ 15) (hc : c ≤ 15) {t : Int} (ht : TmOk t) (ds : List Int) {g : AG} (M : MI g b ok tu mi lk W ta) : ∃ g', M_led b a c t g = some ((ledF ok tu mi lk (laF ta) a c (t, ds)).1, g') ∧ FR WM g g' ∧ HR W g g' ds (ledF ok tu mi lk (laF ta) a c (t, ds)).2 := by
  unfold M_led ledF
  exact M_up_s ha (c - a) a t ds g M ht rfl ha hc
end LEDM
end
section
/-! plain programs: the class goes along the canal -/
abbrev WXp : Reg := [(47, 0)]
def tuX (g : AG) (i : Nat) : Bool := tb (g 2 10) i || tb (g 2 10) (15 + i)
/-- what the walk of the class rests on -/
def XI (g : AG) (ok : TOK) (tu : Nat → Bool) (mi lk : Nat → Int) (la : Int) : Prop := (∀ (i : Nat) (kind : Int), i < 15 → 0 ≤ kind → kind ≤ 3 → XDay g i kind (ok i kind)) ∧ (∀ i : Nat, i < 15 → tuX g i = tu i) ∧ (∀ i : Nat, i < 15 → g 13 i = mi i ∧ g 14 i = lk i ∧ (0 ≤ mi i ∧ mi i ≤ 9) ∧ (0 ≤ lk i ∧ lk i ≤ 9)) ∧ g 5 6 = la ∧ (0 ≤ la ∧ la ≤ 1000)
theorem XI.fr {W : Reg} {g g' : AG} {ok : TOK} {tu : Nat → Bool} {mi lk : Nat → Int} {la : Int} (h : XI g ok tu mi lk la) (f : FR W g g') (d : djR [(1, 0), (2, 11), (5, 7), (5, 8), (13, 0), (14, 0), (16, 0), (25, 0), (26, 0), (44, 0), (45, 0)] W = true) : XI g' ok tu mi lk la := by
  obtain ⟨h1, h2, h3, h4, h5⟩ := h
  have c := f.cg d
  have c0 : g' 2 10 = g 2 10 := c 2 10 rfl
  have c1 : g' 5 6 = g 5 6 := c 5 6 rfl
  have c2 : g' 5 7 = g 5 7 := c 5 7 rfl
  have c3 : g' 13 = g 13 := funext fun i => c 13 i rfl
  have c4 : g' 14 = g 14 := funext fun i => c 14 i rfl
  have c5 : g' 16 = g 16 := funext fun i => c 16 i rfl
  have c6 : g' 25 = g 25 := funext fun i => c 25 i rfl
  have c7 : g' 26 = g 26 := funext fun i => c 26 i rfl
  have c8 : g' 44 = g 44 := funext fun i => c 44 i rfl
  have c9 : g' 45 = g 45 := funext fun i => c 45 i rfl
  refine ⟨fun i kind hi k0 k1 => ?_, fun i hi => ?_, fun i hi => ?_, by rw [c1]; exact h4, h5⟩
  · have q := h1 i kind hi k0 k1
    unfold XDay Voyage_firstHour Voyage_hourBehind Voyage_isStopped at q ⊢
    rw [c2, c5, c6, c7, c8, c9]
    exact q
  · have q := h2 i hi
    unfold tuX at q ⊢
    rw [c0]; exact q
  · rw [c3, c4]; exact h3 i hi
/-- how often a day stands in a list -/
def ctF (d : Int) : List Int → Int
  | [] => 0
  | e :: ds => (if e = d then 1 else 0) + ctF d ds
def CtR (g g' : AG) (ds ds' : List Int) : Prop := ∀ d : Nat, d < 14 → g' 47 d + ctF d ds = g 47 d + ctF d ds'
theorem CtR.rf {g : AG} {ds : List Int} : CtR g g ds ds := fun _ _ => rfl
theorem CtR.tr {g g1 g2 : AG} {d1 d2 d3 : List Int} (h1 : CtR g g1 d1 d2) (h2 : CtR g1 g2 d2 d3) : CtR g g2 d1 d3 := fun d hd => by have := h1 d hd; have := h2 d hd; omega
section LEDX
variable {ok : TOK} {tu : Nat → Bool} {mi lk : Nat → Int} {la : Int}
theorem hasT {g : AG} {k : Nat} (hk : k < 32) : (nw (Rules_hasTunnel_2 k g) = 0) = (tb (g 2 10) k = false) := by
  unfold Rules_hasTunnel_2
  rw [bit_q _ k hk]
  cases tb (g 2 10) k with
  | true => simp [nw_1]
  | false => simp [nw_0]
theorem isT {g : AG} {i : Nat} (hi : i < 15) : (nw (Rules_isTunnel i g) = 0) = (tuX g i = false) := by
  unfold Rules_isTunnel tuX
  have a := hasT (g := g) (k := i) (by omega)
  have b := hasT (g := g) (k := 15 + i) (by omega)
  rw [show (15 : Int) + (i : Int) = ((15 + i : Nat) : Int) by omega]
  cases h1 : tb (g 2 10) i with
  | true =>
    rw [h1] at a
    rw [if_neg (by rw [a]; simp)]
    simp [nw_1]
  | false =>
    rw [h1] at a
    rw [if_pos (by rw [a])]
    cases h2 : tb (g 2 10) (15 + i) with
    | true =>
      rw [h2] at b
      rw [if_neg (by rw [b]; simp)]
      simp [nw_1]
    | false =>
      rw [h2] at b
      rw [if_pos (by rw [b])]
      simp [nw_0]
theorem X_lk_s {i : Nat} (hi : i < 15) {x4 : Int} : ∀ (n k : Nat) (t : Int) (ds : List Int) (g : AG), XI g ok tu mi lk la → TmOk t → ((k + n : Nat) : Int) = lk i → ∃ g', Voyage_pass_b i x4 3 t k g = some ((lkF ok i la n (t, ds)).1, g') ∧ FR WXp g g' ∧ CtR g g' ds (lkF ok i la n (t, ds)).2 := by
  intro n
  induction n with
  | zero =>
    intro k t ds g X ht h
    obtain ⟨h1, h2, h3, h4, h5⟩ := X
    have r := h3 i hi
    refine ⟨g, ?_, Fr.rf, CtR.rf⟩
    rw [Voyage_pass_b]
    simp (disch := omega) only [nw_id, ix_id, sb, if_true, if_false, if_pos, if_neg, true_and, and_true, false_and, and_false, and_self, Int.toNat_natCast]
    rfl
  | succ n ih =>
    intro k t ds g X ht h
    have X0 := X
    obtain ⟨h1, h2, h3, h4, h5⟩ := X
    have r := h3 i hi
    have e1 := X_step_s (i := i) (kind := 1) (m := t) (lasts := la) (g := g) (ok := ok) (by decide) (by unfold TmOk at ht; omega) h5 (h1 i 1 hi (by decide) (by decide))
    have rg := stF_rng (ok := ok) (i := i) (sort := 1) (t := t) (lasts := la) (by unfold TmOk at ht; omega) h5.1
    have tm := stF_tm (ok := ok) (i := i) (sort := 1) ht h5.1
    unfold lkF
    dsimp only
    generalize stF ok i 1 t la = v at e1 rg tm ⊢
    rw [Voyage_pass_b]
    by_cases ev : v = -1
    · subst ev
      rw [if_neg (by simp)] at e1
      rw [if_pos rfl]
      obtain ⟨g2, e2, f2, q2⟩ := ih (k + 1) (-1) ds g X0 (Or.inl rfl) (by omega)
      rw [show ((k + 1 : Nat) : Int) = (k : Int) + 1 from rfl] at e2
      refine ⟨g2, ?_, f2, q2⟩
      clear rg tm
      simp (disch := omega) only [nw_id, ix_id, sb, if_true, if_false, if_pos, if_neg, true_and, and_true, false_and, and_false, and_self, Int.toNat_natCast, h4, e1]
      exact e2
    · rw [if_pos ⟨rfl, ev⟩] at e1
      rw [if_neg ev]
      have rg2 : 0 ≤ v ∧ v ≤ 20159 ∧ 0 ≤ v - la ∧ v - la < 20160 := by omega
      clear rg
      have f1 : FR WXp g (up g 47 ((v - la) / 1440).toNat (g 47 ((v - la) / 1440).toNat + 1)) := Fr.up Fr.rf rfl
      obtain ⟨g2, e2, f2, q2⟩ := ih (k + 1) v ((v - la) / 1440 :: ds) _ (X0.fr f1 rfl) tm (by omega)
      rw [show ((k + 1 : Nat) : Int) = (k : Int) + 1 from rfl] at e2
      refine ⟨g2, ?_, f1.tr f2, CtR.tr ?_ q2⟩
      · simp (disch := omega) only [nw_id, ix_id, sb, if_true, if_false, if_pos, if_neg, true_and, and_true, false_and, and_false, and_self, Int.toNat_natCast, h4, e1]
        exact e2
      · intro d hd
        simp only [up_at, ctF, true_and]
        by_cases q : d = ((v - la) / 1440).toNat
        · rw [if_pos q, if_pos (by omega), ← q]; omega
        · rw [if_neg q, if_neg (by omega)]; omega
theorem X_mi_s {i : Nat} (hi : i < 15) : ∀ (n k : Nat) (t : Int) (g : AG), XI g ok tu mi lk la → TmOk t → ((k + n : Nat) : Int) = mi i → Voyage_pass_b i (mi i) 1 t k g = Voyage_pass_b i (mi i) 3 (miF ok i n t) 0 g := by
  intro n
  induction n with
  | zero =>
    intro k t g X ht h
    obtain ⟨h1, h2, h3, h4, h5⟩ := X
    have r := h3 i hi
    rw [Voyage_pass_b]
    simp (disch := omega) only [nw_id, ix_id, sb, if_true, if_false, if_pos, if_neg, true_and, and_true, false_and, and_false, and_self]
    rw [Voyage_pass_b, if_neg (by decide), if_pos rfl]
    rfl
  | succ n ih =>
    intro k t g X ht h
    have X0 := X
    obtain ⟨h1, h2, h3, h4, h5⟩ := X
    have r := h3 i hi
    have e1 := X_step_s (i := i) (kind := 0) (m := t) (lasts := 20) (g := g) (ok := ok) (by decide) (by unfold TmOk at ht; omega) (by decide) (h1 i 0 hi (by decide) (by decide))
    rw [if_neg (by simp)] at e1
    have e2 := ih (k + 1) (stF ok i 0 t 20) g X0 (stF_tm ht (by decide)) (by omega)
    rw [show ((k + 1 : Nat) : Int) = (k : Int) + 1 from rfl] at e2
    rw [Voyage_pass_b]
    simp (disch := omega) only [nw_id, ix_id, sb, if_true, if_false, if_pos, if_neg, true_and, and_true, false_and, and_false, and_self, e1]
    exact e2
theorem X_pass_s {i : Nat} (hi : i < 15) {u t : Int} (hu : u = 0 ∨ u = 1) (ds : List Int) {g : AG} (X : XI g ok tu mi lk la) (ht : TmOk t) : ∃ g', Voyage_pass i u t g = some ((thF ok tu mi lk la i (decide (u = 1)) (t, ds)).1, g') ∧ FR WXp g g' ∧ CtR g g' ds (thF ok tu mi lk la i (decide (u = 1)) (t, ds)).2 := by
  have X0 := X
  obtain ⟨h1, h2, h3, h4, h5⟩ := X
  have r := h3 i hi
  have c1 : 0 ≤ nw (i : Int) ∧ nw (i : Int) < 15 := by rw [nw_id (by omega) (by omega)]; omega
  have c3 : ix (i : Int) = i := by clear c1; rw [ix_id (by omega) (by omega), Int.toNat_natCast]
  have c5 : nw (mi i) = mi i := by clear c1 c3; exact nw_id (by omega) (by omega)
  unfold Voyage_pass thF enF
  have hT := isT (g := g) hi
  rw [h2 i hi] at hT
  rw [if_pos c1, c3, r.1]
  dsimp only
  cases htu : tu i with
  | true =>
    rw [htu] at hT
    rw [if_neg (by rw [hT]; simp), if_pos rfl, c5]
    by_cases m0 : mi i ≤ 0
    · rw [if_pos m0, sb, if_neg (show ¬ 0 < mi i by clear c1 c3 c5; omega)]
      exact X_lk_s hi (lk i).toNat 0 t ds g X0 ht (by clear c1 c3 c5; omega)
    · have hs : (if nw u = 0 then (3 : Int) else 2) = (if decide (u = 1) = true then 2 else 3) := by
        clear c1 c3 c5
        rcases hu with e | e
        · subst e; rw [nw_0]; rfl
        · subst e; rw [nw_1]; rfl
      have sr : 0 ≤ (if decide (u = 1) = true then (2 : Int) else 3) ∧ (if decide (u = 1) = true then (2 : Int) else 3) ≤ 3 ∧ ¬ (if decide (u = 1) = true then (2 : Int) else 3) = 1 := by split <;> decide
      have e1 := X_step_s (i := i) (kind := if decide (u = 1) = true then 2 else 3) (m := t) (lasts := 20 * mi i) (g := g) (ok := ok) ⟨sr.1, sr.2.1⟩ (by clear c1 c3 c5; unfold TmOk at ht; omega) (by clear c1 c3 c5; omega) (h1 i _ hi sr.1 sr.2.1)
      generalize (if decide (u = 1) = true then (2 : Int) else 3) = kd at sr hs e1 ⊢
      rw [if_neg (fun q => sr.2.2 q.1)] at e1
      rw [if_neg m0, sb, hs, e1, sb, sb, if_pos (show 0 < mi i by clear c1 c3 c5; omega)]
      exact X_lk_s hi (lk i).toNat 0 _ ds g X0 (stF_tm ht (by clear c1 c3 c5; omega)) (by clear c1 c3 c5; omega)
  | false =>
    rw [htu] at hT
    rw [if_pos (by rw [hT]), if_neg (by simp)]
    have e1 := X_mi_s hi (mi i).toNat 0 t g X0 ht (by clear c1 c3 c5; omega)
    obtain ⟨g', e2, f2, q2⟩ := X_lk_s hi (x4 := mi i) (lk i).toNat 0 (miF ok i (mi i).toNat t) ds g X0 (miF_tm _ _ ht) (by clear c1 c3 c5; omega)
    refine ⟨g', ?_, f2, q2⟩
    rw [← e2]
    exact e1
theorem lkF_fst {i : Nat} : ∀ (m : Nat) (x : Int) (d1 d2 : List Int), (lkF ok i la m (x, d1)).1 = (lkF ok i la m (x, d2)).1
  | 0, _, _, _ => rfl
  | m + 1, x, d1, d2 => by
    unfold lkF
    dsimp only
    split
    · exact lkF_fst m _ _ _
    · exact lkF_fst m _ _ _
theorem thF_tm {i : Nat} (hi : i < 15) {up : Bool} {t : Int} {ds : List Int} {g : AG} (X : XI g ok tu mi lk la) (ht : TmOk t) : TmOk (thF ok tu mi lk la i up (t, ds)).1 := by
  obtain ⟨h1, h2, h3, h4, h5⟩ := X
  have r := h3 i hi
  have q := thF_ok (ok := ok) (tu := tu) (mi := mi) (lk := lk) (lasts := la) (i := i) (up := up) (p := (t, [])) h5.1 r.2.2.1.1 r.2.2.2 ht (by intro d hd; cases hd)
  have e : (thF ok tu mi lk la i up (t, ds)).1 = (thF ok tu mi lk la i up (t, [])).1 := lkF_fst _ _ _ _
  rw [e]
  exact q.1
theorem X_dn_s {x2 : Int} {c : Nat} : ∀ (n a : Nat) (t : Int) (ds : List Int) (g : AG), XI g ok tu mi lk la → TmOk t → n = a - c → a ≤ 15 → c ≤ 15 → ∃ g', Voyage_comesTo_b x2 c 2 t a g = some ((dnF ok tu mi lk la n a (t, ds)).1, g') ∧ FR WXp g g' ∧ CtR g g' ds (dnF ok tu mi lk la n a (t, ds)).2 := by
  intro n
  induction n with
  | zero =>
    intro a t ds g X ht hn ha hc
    refine ⟨g, ?_, Fr.rf, CtR.rf⟩
    rw [Voyage_comesTo_b]
    simp (disch := omega) only [nw_id, ix_id, sb, if_true, if_false, if_pos, if_neg, true_and, and_true, false_and, and_false, and_self]
    rfl
  | succ n ih =>
    intro a t ds g X ht hn ha hc
    obtain ⟨g1, e1, f1, q1⟩ := X_pass_s (i := a - 1) (by omega) (u := 0) (Or.inl rfl) ds X ht
    obtain ⟨g2, e2, f2, q2⟩ := ih (a - 1) (thF ok tu mi lk la (a - 1) false (t, ds)).1 (thF ok tu mi lk la (a - 1) false (t, ds)).2 g1 (X.fr f1 rfl) (thF_tm (by omega) X ht) (by omega) (by omega) hc
    have na : ((a - 1 : Nat) : Int) = (a : Int) - 1 := by omega
    have na2 : ((a - 1 : Nat) : Int) = (a : Int) + -1 := by omega
    rw [na] at e1
    rw [na2] at e2
    refine ⟨g2, ?_, f1.tr f2, CtR.tr q1 q2⟩
    rw [Voyage_comesTo_b]
    simp (disch := omega) only [nw_id, ix_id, sb, if_true, if_false, if_pos, if_neg, true_and, and_true, false_and, and_false, and_self]
    rw [e1, sb]
    exact e2
theorem X_up_s {x2 c : Nat} (hx : x2 ≤ 15) : ∀ (n a : Nat) (t : Int) (ds : List Int) (g : AG), XI g ok tu mi lk la → TmOk t → n = c - a → a ≤ 15 → c ≤ 15 → ∃ g', Voyage_comesTo_b x2 c 1 t a g = some ((dnF ok tu mi lk la (x2 - c) x2 (upF ok tu mi lk la n a (t, ds))).1, g') ∧ FR WXp g g' ∧ CtR g g' ds (dnF ok tu mi lk la (x2 - c) x2 (upF ok tu mi lk la n a (t, ds))).2 := by
  intro n
  induction n with
  | zero =>
    intro a t ds g X ht hn ha hc
    rw [Voyage_comesTo_b]
    simp (disch := omega) only [nw_id, ix_id, sb, if_true, if_false, if_pos, if_neg, true_and, and_true, false_and, and_false, and_self]
    exact X_dn_s (x2 := x2) (c := c) (x2 - c) x2 t ds g X ht rfl hx hc
  | succ n ih =>
    intro a t ds g X ht hn ha hc
    obtain ⟨g1, e1, f1, q1⟩ := X_pass_s (i := a) (by omega) (u := 1) (Or.inr rfl) ds X ht
    obtain ⟨g2, e2, f2, q2⟩ := ih (a + 1) (thF ok tu mi lk la a true (t, ds)).1 (thF ok tu mi lk la a true (t, ds)).2 g1 (X.fr f1 rfl) (thF_tm (by omega) X ht) (by omega) (by omega) hc
    rw [show ((a + 1 : Nat) : Int) = (a : Int) + 1 from rfl] at e2
    refine ⟨g2, ?_, f1.tr f2, CtR.tr q1 q2⟩
    rw [Voyage_comesTo_b]
    simp (disch := omega) only [nw_id, ix_id, sb, if_true, if_false, if_pos, if_neg, true_and, and_true, false_and, and_false, and_self]
    rw [e1, sb]
    exact e2
end LEDX
end
section
/-! plain programs: comes, harm, enough, maybe -/
abbrev WV : Reg := [(5, 7), (5, 8), (47, 0)]
abbrev WA : Reg := [(5, 7), (5, 8), (46, 0), (47, 0)]
def JFlag (g : AG) : Prop := g 117 47 = 0
/-- the canal as the reference has it -/
def ldM (g : AG) (ta : Int) (a c : Nat) (t : Int) : Int := (ledF (okM g (stpM g)) (tuM g) (g 118) (g 119) (laF ta) a c (t, [])).1
theorem ldM_fr {W : Reg} {g g' : AG} (f : FR W g g') (d : djR [(117, 11), (117, 12), (121, 0), (122, 0), (123, 0), (2, 4), (128, 0), (129, 0), (130, 0), (132, 0), (133, 0), (134, 0), (142, 0), (144, 0), (118, 0), (119, 0)] W = true) : ldM g' = ldM g := by
  have c := f.cg d
  have c0 : g' 117 10 = g 117 10 := c 117 10 rfl
  have c1 : g' 2 3 = g 2 3 := c 2 3 rfl
  have c2 : g' 128 = g 128 := funext fun i => c 128 i rfl
  have c3 : g' 129 = g 129 := funext fun i => c 129 i rfl
  have c4 : g' 130 = g 130 := funext fun i => c 130 i rfl
  have c5 : g' 132 = g 132 := funext fun i => c 132 i rfl
  have c6 : g' 133 = g 133 := funext fun i => c 133 i rfl
  have c7 : g' 134 = g 134 := funext fun i => c 134 i rfl
  have c8 : g' 142 = g 142 := funext fun i => c 142 i rfl
  have c9 : g' 144 = g 144 := funext fun i => c 144 i rfl
  have d0 : g' 117 11 = g 117 11 := c 117 11 rfl
  have d1 : g' 121 = g 121 := funext fun i => c 121 i rfl
  have d2 : g' 122 = g 122 := funext fun i => c 122 i rfl
  have d3 : g' 123 = g 123 := funext fun i => c 123 i rfl
  have d4 : g' 118 = g 118 := funext fun i => c 118 i rfl
  have d5 : g' 119 = g 119 := funext fun i => c 119 i rfl
  have s1 : stpM g' = stpM g := by funext i d; unfold stpM; rw [d0, d1, d2, d3]
  have s2 : okM g' (stpM g) = okM g (stpM g) := by
    funext i sort t
    unfold okM okS hrA hrB srvG
    simp only [c0, c1, c2, c3, c4, c5, c6, c7, c8, c9]
  have s3 : tuM g' = tuM g := by funext i; unfold tuM; rw [c9]
  funext ta a c t
  unfold ldM
  rw [s1, s2, s3, d4, d5]
/-- what stands, for the voyage -/
def JV (g : AG) : Prop := JWay g ∧ JRule g ∧ JHour g ∧ JStop g ∧ JWat g
theorem JV.fr {W : Reg} {g g' : AG} (h : JV g) (f : FR W g g') (d : djR (RWay ++ (RRule ++ (RHour ++ (RStop ++ RWat)))) W = true) : JV g' := by
  have q := f.cg d
  have ap : ∀ (A B : Reg) (k i : Nat), inR (A ++ B) k i = (inR A k i || inR B k i) := by
    intro A
    induction A with
    | nil => intro B k i; simp [inR]
    | cons p A ih => intro B k i; simp [inR, ih, Bool.or_assoc]
  obtain ⟨h1, h2, h3, h4, h5⟩ := h
  refine ⟨h1.cg (fun k i z => q k i ?_), h2.cg (fun k i z => q k i ?_), h3.cg (fun k i z => q k i ?_), h4.cg (fun k i z => q k i ?_), h5.cg (fun k i z => q k i ?_)⟩ <;> simp [ap, z]
theorem MI.of {g : AG} {b : Nat} (V : JV g) (hb : b < 10) (ht : 0 ≤ g 127 b ∧ g 127 b ≤ 60) (hf : g 117 47 = 0 ∨ g 117 47 = 1) : MI g b (okM g (stpM g)) (tuM g) (g 118) (g 119) (hwF g b) (g 127 b) := by
  obtain ⟨h1, h2, h3, h4, h5⟩ := V
  refine ⟨h2, h4.2.1, rfl, rfl, rfl, rfl, rfl, rfl, ht, hb, fun i hi => ?_, hf⟩
  have := h1 i hi
  omega
theorem XI.of {g : AG} {la : Int} (V : JV g) (h5 : g 5 7 = 0 ∨ g 5 7 = 1) (h6 : g 5 6 = la) (hl : 0 ≤ la ∧ la ≤ 1000) : XI g (okM g (sdX g)) (tuM g) (g 118) (g 119) la := by
  obtain ⟨v1, v2, v3, v4, v5⟩ := V
  refine ⟨fun i kind hi k0 k1 => XDay_of hi ⟨k0, k1⟩ v2 v3 v4 h5, fun i hi => ?_, fun i hi => ?_, h6, hl⟩
  · have q := v2.2.2.2.2.2.2.2 i hi
    unfold tuX tuM
    have a := q.1.1
    have b := q.2.1
    rw [a, b]
    cases tb (g 2 10) i <;> cases tb (g 2 10) (15 + i) <;> simp
  · have := v1 i hi
    omega
theorem setOut_s {ta hd : Int} {g : AG} (ht : 0 ≤ ta ∧ ta ≤ 60) (hh : hd = 0 ∨ hd = 1) : ∃ g', Voyage_setOut ta hd g = some (0, g') ∧ FR [(5, 7), (5, 8), (47, 0)] g g' ∧ g' 5 6 = laF ta ∧ g' 5 7 = hd ∧ (∀ d : Nat, d < 14 → g' 47 d = 0) := by
  unfold Voyage_setOut laF
  simp (disch := omega) only [nw_id, ix_id, sb, if_true, if_false, if_pos, if_neg, true_and, and_true, false_and, and_false, and_self, tdE]
  refine ⟨_, rfl, Fr.fill (Fr.up (Fr.up Fr.rf rfl) rfl) (fun _ => rfl), ?_, ?_, ?_⟩
  · simp [up_at, fill_at]
  · simp [up_at, fill_at]
  · intro d hd
    simp [fill_at, hd]
theorem X_comesTo_s {a c : Nat} {ta t hd : Int} {g : AG} (V : JV g) (ha : a ≤ 15) (hc : c ≤ 15) (ht : 0 ≤ ta ∧ ta ≤ 60) (hh : hd = 0 ∨ hd = 1) (htm : TmOk t) : ∃ g', Voyage_comesTo ta a c t hd g = some ((ledF (okM g (if hd = 1 then stpM g else fun _ _ => false)) (tuM g) (g 118) (g 119) (laF ta) a c (t, [])).1, g') ∧ FR WV g g' ∧ (∀ d : Nat, d < 14 → g' 47 d = ctF d (ledF (okM g (if hd = 1 then stpM g else fun _ _ => false)) (tuM g) (g 118) (g 119) (laF ta) a c (t, [])).2) := by
  obtain ⟨g1, e1, f1, a1, a2, a3⟩ := setOut_s (g := g) ht hh
  have V1 : JV g1 := V.fr f1 rfl
  have X := XI.of (g := g1) (la := laF ta) V1 (by rw [a2]; exact hh) a1 (by unfold laF; omega)
  have k1 : sdX g1 = (if hd = 1 then stpM g else fun _ _ => false) := by
    unfold sdX
    rw [a2, stpM_fr f1 rfl]
  have k2 : okM g1 (sdX g1) = okM g (if hd = 1 then stpM g else fun _ _ => false) := by rw [k1, okM_fr f1 rfl]
  have k3 : tuM g1 = tuM g := by funext i; unfold tuM; rw [f1.cell (k := 144) (fun _ => rfl)]
  have k4 : g1 118 = g 118 := f1.cell (fun _ => rfl)
  have k5 : g1 119 = g 119 := f1.cell (fun _ => rfl)
  rw [k2, k3, k4, k5] at X
  obtain ⟨g2, e2, f2, q2⟩ := X_up_s (x2 := a) (c := c) ha (c - a) a t [] g1 X htm rfl ha hc
  refine ⟨g2, ?_, (f1.mo rfl).tr (f2.mo rfl), ?_⟩
  · unfold Voyage_comesTo
    rw [e1, sb, e2]
    rfl
  · intro d hd
    have := q2 d hd
    have := a3 d hd
    unfold ledF
    simp only [ctF] at *
    omega
theorem X_comesTo1 {a c : Nat} {ta t : Int} {g : AG} (V : JV g) (ha : a ≤ 15) (hc : c ≤ 15) (ht : 0 ≤ ta ∧ ta ≤ 60) (htm : TmOk t) : ∃ g', Voyage_comesTo ta a c t 1 g = some (ldM g ta a c t, g') ∧ FR WV g g' := by
  obtain ⟨g', e, f, _⟩ := X_comesTo_s (a := a) (c := c) (hd := 1) V ha hc ht (Or.inr rfl) htm
  exact ⟨g', e, f⟩
theorem ldM_tm {a c : Nat} {ta t : Int} {g : AG} (V : JV g) (ha : a ≤ 15) (hc : c ≤ 15) (ht : 0 ≤ ta ∧ ta ≤ 60) (htm : TmOk t) : TmOk (ldM g ta a c t) := by
  have v1 := V.1
  exact (ledF_ok (ok := okM g (stpM g)) (tu := tuM g) (mi := g 118) (lk := g 119) (lasts := laF ta) (by unfold laF; omega) (fun i hi => (v1 i hi).2.2.2.1) (fun i hi => ⟨(v1 i hi).2.2.2.2.2.1, (v1 i hi).2.2.2.2.2.2.1⟩) (p := (t, [])) ha hc htm (by intro d hd; cases hd)).1
theorem M_led1 {b a c : Nat} {t : Int} {g : AG} (V : JV g) (hf : JFlag g) (hb : b < 10) (ha : a ≤ 15) (hc : c ≤ 15) (ht : 0 ≤ g 127 b ∧ g 127 b ≤ 60) (htm : TmOk t) : ∃ g', M_led b a c t g = some (ldM g (g 127 b) a c t, g') ∧ FR [(147, 0), (148, 0), (117, 49)] g g' := by
  obtain ⟨g', e, f, _⟩ := M_led_s ha hc htm [] (MI.of V hb ht (Or.inl hf))
  exact ⟨g', e, f⟩
def JBoS (g : AG) : Prop := ∀ b : Nat, (b : Int) < g 6 7 → (2 ≤ g 48 b ∧ g 48 b ≤ 12) ∧ (0 ≤ g 49 b ∧ g 49 b ≤ 99) ∧ (0 ≤ g 50 b ∧ g 50 b ≤ 15) ∧ (0 ≤ g 51 b ∧ g 51 b ≤ 60)
theorem JBoat.parts {g : AG} (h : JBoat g) : JBoR g ∧ JBoV g ∧ JBoS g := ⟨h.1, h.2.1, h.2.2⟩
theorem sm_comes {x1 x2 x3 x4 : Int} {g : AG} (h1 : I32 x1) (h2 : I32 x2) (h3 : I32 x3) (h4 : I32 x4) (V : JV g) (B : JBoat g) (hf : JFlag g) :
    ∃ r1 r2, X_comes x1 x2 x3 x4 g = some r1 ∧ M_comes x1 x2 x3 x4 r1.2 = some r2 ∧ nw r1.1 = nw r2.1 ∧ FR [(5, 7), (5, 8), (47, 0), (147, 0), (148, 0), (117, 49)] g r2.2 := by
  unfold I32 at *
  obtain ⟨⟨b1, b2, b3⟩, bv, bs⟩ := B
  by_cases h : 0 ≤ x1 ∧ x1 < g 6 7 ∧ 0 ≤ x2 ∧ x2 ≤ 15 ∧ 0 ≤ x3 ∧ x3 ≤ 15 ∧ 0 ≤ x4 ∧ x4 ≤ 20159
  · obtain ⟨b, rfl⟩ := natOf h.1
    obtain ⟨a, rfl⟩ := natOf h.2.2.1
    obtain ⟨c, rfl⟩ := natOf h.2.2.2.2.1
    have vb := bv b (by omega)
    have sbb := bs b (by omega)
    have tm : TmOk x4 := Or.inr (by omega)
    obtain ⟨g1, e1, f1⟩ := X_comesTo1 (a := a) (c := c) (ta := g 51 b) (t := x4) V (by omega) (by omega) (by omega) tm
    have eX : X_comes b a c x4 g = some (ldM g (g 51 b) a c x4, g1) := by
      unfold X_comes
      simp (disch := omega) only [nw_id, ix_id, sb, if_true, if_false, if_pos, if_neg, true_and, and_true, false_and, and_false, and_self, X_isWay0, Int.toNat_natCast, e1]
    obtain ⟨g2, e2, f2⟩ := M_led1 (b := b) (a := a) (c := c) (t := x4) (g := g1) (V.fr f1 rfl) (by unfold JFlag; rw [f1 117 47 rfl]; exact hf) (by omega) (by omega) (by omega) (by rw [f1 127 b rfl]; omega) tm
    rw [ldM_fr f1 rfl, f1 127 b rfl, vb.2.2.2] at e2
    have q1 : g1 117 12 = g 117 12 := f1 117 12 rfl
    have eM : M_comes b a c x4 g1 = some (ldM g (g 51 b) a c x4, g2) := by
      unfold M_comes
      simp (disch := omega) only [nw_id, ix_id, sb, if_true, if_false, if_pos, if_neg, true_and, and_true, false_and, and_false, and_self, M_isBoat0, isPoint0, isTime0, e2]
    exact ⟨_, _, eX, eM, rfl, (f1.mo rfl).tr (f2.mo rfl)⟩
  · have eX : X_comes x1 x2 x3 x4 g = some (-1, g) := by
      unfold X_comes
      simp (disch := omega) only [nw_id, ix_id, sb, if_true, if_false, if_pos, if_neg, true_and, and_true, false_and, and_false, and_self, X_isWay0]
    have eM : M_comes x1 x2 x3 x4 g = some (-1, g) := by
      unfold M_comes
      revert h
      simp (disch := omega) only [nw_id, ix_id, M_isBoat0, isPoint0, isTime0]
      intro h
      by_cases c1 : x1 < 0 ∨ g 117 12 - 1 < x1
      · rw [if_pos c1]; rfl
      · rw [if_neg c1]
        by_cases c2 : x2 < 0 ∨ 15 < x2
        · rw [if_pos c2]; rfl
        · rw [if_neg c2]
          by_cases c3 : x3 < 0 ∨ 15 < x3
          · rw [if_pos c3]; rfl
          · rw [if_neg c3, if_pos (by omega)]; rfl
    exact ⟨_, _, eX, eM, rfl, Fr.rf⟩
end
section
/-! plain programs: maybe; what the boat reaches -/
theorem nw_iff {x y : Int} : nw x = nw y ↔ (x - y) % 4294967296 = 0 := by
  unfold nw
  simp only [Int.bmod]
  constructor
  · intro h
    split at h <;> split at h <;> omega
  · intro h
    split <;> split <;> omega
theorem nw_add {x x' y y' : Int} (h1 : nw x = nw x') (h2 : nw y = nw y') : nw (x + y) = nw (x' + y') := by
  rw [nw_iff] at *
  omega
theorem nw_mulc {x x' : Int} (c : Int) (h : nw x = nw x') : nw (c * x) = nw (c * x') := by
  rw [nw_iff] at *
  rw [← Int.mul_sub]
  have : (x - x') = 4294967296 * ((x - x') / 4294967296) := by omega
  rw [this, ← Int.mul_assoc, Int.mul_comm c, Int.mul_assoc]
  exact Int.mul_emod_right _ _
section REACH
variable {ok : TOK} {tu : Nat → Bool} {mi lk : Nat → Int} {la : Int}
theorem thF_fst {i : Nat} {up : Bool} {p q : Int × List Int} (h : p.1 = q.1) : (thF ok tu mi lk la i up p).1 = (thF ok tu mi lk la i up q).1 := by
  unfold thF
  rw [h]
  exact lkF_fst _ _ _ _
theorem upF_fst : ∀ (n a : Nat) (p q : Int × List Int), p.1 = q.1 → (upF ok tu mi lk la n a p).1 = (upF ok tu mi lk la n a q).1
  | 0, _, _, _, h => h
  | n + 1, a, p, q, h => upF_fst n (a + 1) _ _ (thF_fst h)
theorem dnF_fst : ∀ (n a : Nat) (p q : Int × List Int), p.1 = q.1 → (dnF ok tu mi lk la n a p).1 = (dnF ok tu mi lk la n a q).1
  | 0, _, _, _, h => h
  | n + 1, a, p, q, h => dnF_fst n (a - 1) _ _ (thF_fst h)
theorem upF_last : ∀ (n a : Nat) (p : Int × List Int), upF ok tu mi lk la (n + 1) a p = thF ok tu mi lk la (a + n) true (upF ok tu mi lk la n a p)
  | 0, _, _ => rfl
  | n + 1, a, p => by
    show upF ok tu mi lk la (n + 1) (a + 1) (thF ok tu mi lk la a true p) = _
    rw [upF_last n (a + 1), show a + 1 + n = a + (n + 1) by omega]
    rfl
theorem dnF_last : ∀ (n a : Nat) (p : Int × List Int), dnF ok tu mi lk la (n + 1) a p = thF ok tu mi lk la (a - n - 1) false (dnF ok tu mi lk la n a p)
  | 0, _, _ => rfl
  | n + 1, a, p => by
    show dnF ok tu mi lk la (n + 1) (a - 1) (thF ok tu mi lk la (a - 1) false p) = _
    rw [dnF_last n (a - 1), show a - 1 - n - 1 = a - (n + 1) - 1 by omega]
    rfl
theorem led_up {a c : Nat} {t : Int} (h : a ≤ c) : (ledF ok tu mi lk la a (c + 1) (t, [])).1 = (thF ok tu mi lk la c true ((ledF ok tu mi lk la a c (t, [])).1, [])).1 := by
  unfold ledF
  rw [show a - (c + 1) = 0 by omega, show a - c = 0 by omega, show c + 1 - a = (c - a) + 1 by omega]
  show (upF ok tu mi lk la (c - a + 1) a (t, [])).1 = (thF ok tu mi lk la c true ((upF ok tu mi lk la (c - a) a (t, [])).1, [])).1
  rw [upF_last, show a + (c - a) = c by omega]
  exact thF_fst rfl
theorem led_dn {a c : Nat} {t : Int} (h : c < a) : (ledF ok tu mi lk la a c (t, [])).1 = (thF ok tu mi lk la c false ((ledF ok tu mi lk la a (c + 1) (t, [])).1, [])).1 := by
  unfold ledF
  rw [show c - a = 0 by omega, show c + 1 - a = 0 by omega, show a - c = (a - (c + 1)) + 1 by omega]
  show (dnF ok tu mi lk la (a - (c + 1) + 1) a (t, [])).1 = (thF ok tu mi lk la c false ((dnF ok tu mi lk la (a - (c + 1)) a (t, [])).1, [])).1
  rw [dnF_last, show a - (a - (c + 1)) - 1 = c by omega]
  exact thF_fst rfl
theorem led_self {a : Nat} {t : Int} : (ledF ok tu mi lk la a a (t, [])).1 = t := by
  unfold ledF
  rw [show a - a = 0 by omega]
  rfl
theorem led_up_m1 {a c c' : Nat} {t : Int} (h : a ≤ c) (h2 : c ≤ c') (e : (ledF ok tu mi lk la a c (t, [])).1 = -1) : (ledF ok tu mi lk la a c' (t, [])).1 = -1 := by
  obtain ⟨n, rfl⟩ : ∃ n, c' = c + n := ⟨c' - c, by omega⟩
  clear h2
  induction n with
  | zero => exact e
  | succ n ih => rw [show c + (n + 1) = (c + n) + 1 by omega, led_up (by omega), ih, thF_m1]
theorem led_dn_m1 {a c c' : Nat} {t : Int} (h : c ≤ a) (h2 : c' ≤ c) (e : (ledF ok tu mi lk la a c (t, [])).1 = -1) : (ledF ok tu mi lk la a c' (t, [])).1 = -1 := by
  obtain ⟨n, hn⟩ : ∃ n, c = c' + n := ⟨c - c', by omega⟩
  induction n generalizing c' with
  | zero => rw [show c' = c by omega]; exact e
  | succ n ih => rw [led_dn (by omega), ih (c' := c' + 1) (by omega) (by omega), thF_m1]
/-- the walk outward -/
theorem reach_dn {x2 : Int} : ∀ (n a : Nat) (g : AG), XI g ok tu mi lk la → n = a → a ≤ 15 → (∀ p : Nat, p < 16 → TmOk (g 46 p)) → ∃ g', Voyage_reach_b x2 2 a g = some (0, g') ∧ FR [(46, 0), (47, 0)] g g' ∧ (∀ p : Nat, a ≤ p → g' 46 p = g 46 p) ∧ (∀ p : Nat, p < a → g' 46 p = (thF ok tu mi lk la p false (g' 46 (p + 1), [])).1) ∧ (∀ p : Nat, p < 16 → TmOk (g' 46 p)) := by
  intro n
  induction n with
  | zero =>
    intro a g X hn ha hT
    subst hn
    refine ⟨g, ?_, Fr.rf, fun p _ => rfl, fun p hp => by omega, hT⟩
    rw [Voyage_reach_b]
    simp (disch := omega) only [nw_id, ix_id, sb, if_true, if_false, if_pos, if_neg, true_and, and_true, false_and, and_false, and_self]
  | succ n ih =>
    intro a g X hn ha hT
    obtain ⟨g1, e1, f1, _⟩ := X_pass_s (i := a - 1) (by omega) (u := 0) (Or.inl rfl) [] X (hT a (by omega))
    have tm := thF_tm (i := a - 1) (by omega) (up := false) (ds := []) X (hT a (by omega))
    have f2 : FR [(46, 0), (47, 0)] g (up g1 46 (a - 1) (thF ok tu mi lk la (a - 1) false (g 46 a, [])).1) := Fr.up (f1.mo rfl) rfl
    obtain ⟨g2, e2, f3, p3, q3, t3⟩ := ih (a - 1) _ (X.fr f2 rfl) (by omega) (by omega) (by
      intro p hp
      simp only [up_at, true_and]
      by_cases e : p = a - 1
      · rw [if_pos e]; exact tm
      · rw [if_neg e, f1 46 p rfl]; exact hT p hp)
    have na : ((a - 1 : Nat) : Int) = (a : Int) - 1 := by omega
    have na2 : ((a - 1 : Nat) : Int) = (a : Int) + -1 := by omega
    have na3 : ((a : Int) - 1).toNat = a - 1 := by omega
    rw [na] at e1
    rw [na2] at e2
    refine ⟨g2, ?_, f2.tr f3, ?_, ?_, t3⟩
    · rw [Voyage_reach_b]
      simp (disch := omega) only [nw_id, ix_id, sb, if_true, if_false, if_pos, if_neg, true_and, and_true, false_and, and_false, and_self, Int.toNat_natCast, e1, na3]
      exact e2
    · intro p hp
      rw [p3 p (by omega)]
      simp only [up_at, true_and]
      rw [if_neg (by omega), f1 46 p rfl]
    · intro p hp
      by_cases e : p = a - 1
      · subst e
        rw [p3 (a - 1) (by omega), p3 (a - 1 + 1) (by omega)]
        simp only [up_at, true_and]
        rw [if_pos trivial, if_neg (by omega), f1 46 _ rfl, show a - 1 + 1 = a by omega]
      · exact q3 p (by omega)
theorem reach_up {a0 : Nat} : ∀ (n a : Nat) (g : AG), XI g ok tu mi lk la → n + a = 15 → a0 ≤ a → (∀ p : Nat, p < 16 → TmOk (g 46 p)) → ∃ g', Voyage_reach_b a0 1 a g = some (0, g') ∧ FR [(46, 0), (47, 0)] g g' ∧ (∀ p : Nat, a0 ≤ p → p ≤ a → g' 46 p = g 46 p) ∧ (∀ p : Nat, a ≤ p → p < 15 → g' 46 (p + 1) = (thF ok tu mi lk la p true (g' 46 p, [])).1) ∧ (∀ p : Nat, p < a0 → g' 46 p = (thF ok tu mi lk la p false (g' 46 (p + 1), [])).1) ∧ (∀ p : Nat, p < 16 → TmOk (g' 46 p)) := by
  intro n
  induction n with
  | zero =>
    intro a g X hn ha hT
    obtain ⟨g2, e2, f3, p3, q3, t3⟩ := reach_dn (x2 := a0) a0 a0 g X rfl (by omega) hT
    refine ⟨g2, ?_, f3, fun p h1 h2 => p3 p h1, fun p h1 h2 => by omega, q3, t3⟩
    rw [Voyage_reach_b]
    simp (disch := omega) only [nw_id, ix_id, sb, if_true, if_false, if_pos, if_neg, true_and, and_true, false_and, and_false, and_self]
    exact e2
  | succ n ih =>
    intro a g X hn ha hT
    obtain ⟨g1, e1, f1, _⟩ := X_pass_s (i := a) (by omega) (u := 1) (Or.inr rfl) [] X (hT a (by omega))
    have tm := thF_tm (i := a) (by omega) (up := true) (ds := []) X (hT a (by omega))
    have f2 : FR [(46, 0), (47, 0)] g (up g1 46 (a + 1) (thF ok tu mi lk la a true (g 46 a, [])).1) := Fr.up (f1.mo rfl) rfl
    obtain ⟨g2, e2, f3, p3, q3, r3, t3⟩ := ih (a + 1) _ (X.fr f2 rfl) (by omega) (by omega) (by
      intro p hp
      simp only [up_at, true_and]
      by_cases e : p = a + 1
      · rw [if_pos e]; exact tm
      · rw [if_neg e, f1 46 p rfl]; exact hT p hp)
    rw [show ((a + 1 : Nat) : Int) = (a : Int) + 1 from rfl] at e2
    have na3 : ((a : Int) + 1).toNat = a + 1 := by omega
    refine ⟨g2, ?_, f2.tr f3, ?_, ?_, r3, t3⟩
    · rw [Voyage_reach_b]
      simp (disch := omega) only [nw_id, ix_id, sb, if_true, if_false, if_pos, if_neg, true_and, and_true, false_and, and_false, and_self, Int.toNat_natCast, e1, na3]
      exact e2
    · intro p h1 h2
      rw [p3 p h1 (by omega)]
      simp only [up_at, true_and]
      rw [if_neg (by omega), f1 46 p rfl]
    · intro p h1 h2
      by_cases e : p = a
      · subst e
        rw [p3 (p + 1) (by omega) (by omega), p3 p (by omega) (by omega)]
        simp only [up_at, true_and]
        rw [if_pos trivial, if_neg (by omega), f1 46 _ rfl]
      · exact q3 p (by omega) h2
end REACH
theorem X_reach_s {a : Nat} {ta t : Int} {g : AG} (V : JV g) (ha : a ≤ 15) (ht : 0 ≤ ta ∧ ta ≤ 60) (htm : TmOk t) (hA : ∀ p : Nat, p < 16 → TmOk (g 46 p)) : ∃ g', Voyage_reach ta a t g = some (0, g') ∧ FR WA g g' ∧ (∀ p : Nat, p < 16 → g' 46 p = ldM g ta a p t) ∧ (∀ p : Nat, p < 16 → TmOk (g' 46 p)) := by
  obtain ⟨g1, e1, f1, a1, a2, a3⟩ := setOut_s (g := g) (ta := ta) (hd := 1) ht (Or.inr rfl)
  have f2 : FR WA g (up g1 46 a t) := Fr.up (f1.mo rfl) rfl
  have f2' : FR [(46, 0)] g1 (up g1 46 a t) := Fr.up Fr.rf rfl
  have V1 : JV (up g1 46 a t) := V.fr f2 rfl
  have h57 : (up g1 46 a t) 5 7 = 1 := by rw [f2' 5 7 rfl]; exact a2
  have X := XI.of (g := up g1 46 a t) (la := laF ta) V1 (Or.inr h57) (by rw [f2' 5 6 rfl]; exact a1) (by unfold laF; omega)
  have k1 : sdX (up g1 46 a t) = stpM g := by
    unfold sdX
    rw [if_pos h57, stpM_fr f2 rfl]
  have k2 : okM (up g1 46 a t) (sdX (up g1 46 a t)) = okM g (stpM g) := by rw [k1, okM_fr f2 rfl]
  have k3 : tuM (up g1 46 a t) = tuM g := by funext i; unfold tuM; rw [f2.cell (k := 144) (fun _ => rfl)]
  have k4 : (up g1 46 a t) 118 = g 118 := f2.cell (fun _ => rfl)
  have k5 : (up g1 46 a t) 119 = g 119 := f2.cell (fun _ => rfl)
  rw [k2, k3, k4, k5] at X
  obtain ⟨g2, e2, f3, p3, q3, r3, t3⟩ := reach_up (a0 := a) (15 - a) a (up g1 46 a t) X (by omega) (Nat.le_refl _) (by
    intro p hp
    simp only [up_at, true_and]
    by_cases e : p = a
    · rw [if_pos e]; exact htm
    · have : g1 46 p = g 46 p := f1 46 p rfl
      rw [if_neg e, this]; exact hA p hp)
  refine ⟨g2, ?_, f2.tr (f3.mo rfl), ?_, t3⟩
  · unfold Voyage_reach
    simp (disch := omega) only [nw_id, ix_id, sb, if_true, if_false, if_pos, if_neg, true_and, and_true, false_and, and_false, and_self, e1, Int.toNat_natCast]
    exact e2
  · have base : g2 46 a = t := by rw [p3 a (Nat.le_refl _) (Nat.le_refl _)]; simp [up_at]
    have up' : ∀ n : Nat, a + n < 16 → g2 46 (a + n) = ldM g ta a (a + n) t := by
      intro n
      induction n with
      | zero => intro _; rw [show a + 0 = a by omega, base]; unfold ldM; rw [led_self]
      | succ n ih =>
        intro h
        have := ih (by omega)
        rw [show a + (n + 1) = (a + n) + 1 by omega, q3 (a + n) (by omega) (by omega), this]
        unfold ldM
        rw [led_up (by omega)]
    have dn' : ∀ n : Nat, n ≤ a → g2 46 (a - n) = ldM g ta a (a - n) t := by
      intro n
      induction n with
      | zero => intro _; rw [show a - 0 = a by omega, base]; unfold ldM; rw [led_self]
      | succ n ih =>
        intro h
        have := ih (by omega)
        rw [r3 (a - (n + 1)) (by omega), show a - (n + 1) + 1 = a - n by omega, this]
        unfold ldM
        rw [led_dn (a := a) (c := a - (n + 1)) (by omega), show a - (n + 1) + 1 = a - n by omega]
    intro p hp
    by_cases e : a ≤ p
    · have := up' (p - a) (by omega)
      rw [show a + (p - a) = p by omega] at this
      exact this
    · have := dn' (a - p) (by omega)
      rw [show a - (a - p) = p by omega] at this
      exact this
theorem reached_s {x1 : Int} {g : AG} (hx : 0 ≤ x1 ∧ x1 ≤ 20159) (hA : ∀ p : Nat, p < 16 → TmOk (g 46 p)) : ∀ (n k : Nat) (v : Int), k + n = 16 → ∃ r, Voyage_reached_b x1 g v k = some r ∧ ∀ i, i < 32 → tb r i = (tb v i || decide (k ≤ i ∧ i < 16 ∧ ¬ g 46 i = -1 ∧ g 46 i ≤ x1)) := by
  intro n
  induction n with
  | zero =>
    intro k v h
    refine ⟨v, ?_, fun i hi => ?_⟩
    · rw [Voyage_reached_b]
      simp (disch := omega) only [nw_id, ix_id, sb, if_true, if_false, if_pos, if_neg, true_and, and_true, false_and, and_false, and_self]
    · have : ¬ (k ≤ i ∧ i < 16 ∧ ¬ g 46 i = -1 ∧ g 46 i ≤ x1) := by omega
      simp [this]
  | succ n ih =>
    intro k v h
    have tm := hA k (by omega)
    unfold TmOk at tm
    by_cases c : ¬ g 46 k = -1 ∧ g 46 k ≤ x1
    · obtain ⟨r, e1, e2⟩ := ih (k + 1) (orI v (shlI 1 k)) (by omega)
      rw [show ((k + 1 : Nat) : Int) = (k : Int) + 1 from rfl] at e1
      refine ⟨r, ?_, fun i hi => ?_⟩
      · rw [Voyage_reached_b]
        simp (disch := omega) only [nw_id, ix_id, sb, if_true, if_false, if_pos, if_neg, true_and, and_true, false_and, and_false, and_self, Int.toNat_natCast]
        exact e1
      · rw [e2 i hi, tb_or, tb_shl1 k (by omega) hi]
        by_cases e : i = k
        · subst e
          have : i ≤ i ∧ i < 16 ∧ ¬ g 46 i = -1 ∧ g 46 i ≤ x1 := ⟨Nat.le_refl _, by omega, c⟩
          simp [this]
        · have e3 : (k + 1 ≤ i ∧ i < 16 ∧ ¬ g 46 i = -1 ∧ g 46 i ≤ x1) ↔ (k ≤ i ∧ i < 16 ∧ ¬ g 46 i = -1 ∧ g 46 i ≤ x1) := by omega
          simp only [e3, e, decide_false, Bool.or_false]
    · obtain ⟨r, e1, e2⟩ := ih (k + 1) v (by omega)
      rw [show ((k + 1 : Nat) : Int) = (k : Int) + 1 from rfl] at e1
      refine ⟨r, ?_, fun i hi => ?_⟩
      · rw [Voyage_reached_b]
        by_cases e : g 46 k = -1
        · clear tm
          simp (disch := omega) only [nw_id, ix_id, sb, if_true, if_false, if_pos, if_neg, true_and, and_true, false_and, and_false, and_self, Int.toNat_natCast, e]
          exact e1
        · have : x1 < g 46 k := by omega
          simp (disch := omega) only [nw_id, ix_id, sb, if_true, if_false, if_pos, if_neg, true_and, and_true, false_and, and_false, and_self, Int.toNat_natCast]
          exact e1
      · rw [e2 i hi]
        by_cases e : i = k
        · subst e
          have h1 : ¬ (i + 1 ≤ i ∧ i < 16 ∧ ¬ g 46 i = -1 ∧ g 46 i ≤ x1) := by omega
          have h2 : ¬ (i ≤ i ∧ i < 16 ∧ ¬ g 46 i = -1 ∧ g 46 i ≤ x1) := fun q => c q.2.2
          simp only [h1, h2]
        · have e3 : (k + 1 ≤ i ∧ i < 16 ∧ ¬ g 46 i = -1 ∧ g 46 i ≤ x1) ↔ (k ≤ i ∧ i < 16 ∧ ¬ g 46 i = -1 ∧ g 46 i ≤ x1) := by omega
          simp only [e3]
theorem M_maybe_b_s {b a : Nat} {sn tm : Int} (hb : b < 10) (ha : a ≤ 15) (hs : 0 ≤ sn ∧ sn ≤ 20159) (htm : 0 ≤ tm ∧ tm ≤ 20159) : ∀ (n k : Nat) (v : Int) (g : AG), k + n = 16 → JV g → JFlag g → (0 ≤ g 127 b ∧ g 127 b ≤ 60) → ∃ r g', M_maybe_b b a sn tm v k g = some (r, g') ∧ FR [(147, 0), (148, 0), (117, 49)] g g' ∧ ∀ i, i < 32 → tb r i = (tb v i || decide (k ≤ i ∧ i < 16 ∧ ¬ ldM g (g 127 b) a i sn = -1 ∧ ldM g (g 127 b) a i sn ≤ tm)) := by
  intro n
  induction n with
  | zero =>
    intro k v g h V hf ht
    refine ⟨v, g, ?_, Fr.rf, fun i hi => ?_⟩
    · rw [M_maybe_b]
      simp (disch := omega) only [nw_id, ix_id, sb, if_true, if_false, if_pos, if_neg, true_and, and_true, false_and, and_false, and_self]
    · have : ¬ (k ≤ i ∧ i < 16 ∧ ¬ ldM g (g 127 b) a i sn = -1 ∧ ldM g (g 127 b) a i sn ≤ tm) := fun q => by have := q.1; have := q.2.1; omega
      simp [this]
  | succ n ih =>
    intro k v g h V hf ht
    obtain ⟨g1, e1, f1⟩ := M_led1 (b := b) (a := a) (c := k) (t := sn) V hf hb ha (by omega) ht (Or.inr hs)
    have lt := ldM_tm (g := g) (a := a) (c := k) (ta := g 127 b) (t := sn) V ha (by omega) ht (Or.inr hs)
    have hL : ldM g1 = ldM g := ldM_fr f1 rfl
    have step : ∀ w : Int, (∀ i, i < 32 → tb w i = (tb v i || decide (i = k ∧ ¬ ldM g (g 127 b) a k sn = -1 ∧ ldM g (g 127 b) a k sn ≤ tm))) → ∃ r g', M_maybe_b b a sn tm w ((k : Int) + 1) g1 = some (r, g') ∧ FR [(147, 0), (148, 0), (117, 49)] g g' ∧ ∀ i, i < 32 → tb r i = (tb v i || decide (k ≤ i ∧ i < 16 ∧ ¬ ldM g (g 127 b) a i sn = -1 ∧ ldM g (g 127 b) a i sn ≤ tm)) := by
      intro w hw
      obtain ⟨r, g2, e2, f2, q2⟩ := ih (k + 1) w g1 (by omega) (V.fr f1 rfl) (by unfold JFlag; rw [f1 117 47 rfl]; exact hf) (by rw [f1 127 b rfl]; exact ht)
      refine ⟨r, g2, e2, f1.tr f2, fun i hi => ?_⟩
      rw [q2 i hi, hw i hi, hL, f1 127 b rfl]
      by_cases e : i = k
      · subst e
        have h1 : ¬ (i + 1 ≤ i) := by omega
        have h2 : i < 16 := by omega
        simp only [h1, h2, decide_false, Bool.or_false, true_and, Nat.le_refl, false_and]
      · have e3 : (k + 1 ≤ i ∧ i < 16 ∧ ¬ ldM g (g 127 b) a i sn = -1 ∧ ldM g (g 127 b) a i sn ≤ tm) ↔ (k ≤ i ∧ i < 16 ∧ ¬ ldM g (g 127 b) a i sn = -1 ∧ ldM g (g 127 b) a i sn ≤ tm) := ⟨fun q => ⟨by have := q.1; omega, q.2⟩, fun q => ⟨by have := q.1; omega, q.2⟩⟩
        simp only [e3, e, false_and, decide_false, Bool.or_false]
    rw [M_maybe_b]
    have c0 : ¬ 16 ≤ nw (k : Int) := by rw [nw_id (by omega) (by omega)]; omega
    rw [if_neg c0, e1, sb]
    clear c0
    dsimp only
    unfold TmOk at lt
    generalize ldM g (g 127 b) a k sn = L at lt step ⊢
    refine step _ (fun i hi => ?_)
    rw [tb_or]
    congr 1
    by_cases c1 : L = -1
    · subst c1
      rw [nw_m1, if_pos rfl, tb_0]
      simp
    · have c2 : 0 ≤ L ∧ L ≤ 20159 := by omega
      clear lt step
      simp (disch := omega) only [nw_id, ix_id, sb, if_true, if_false, if_pos, if_neg, true_and, and_true, false_and, and_false, and_self]
      by_cases c3 : tm < L
      · simp (disch := omega) only [nw_id, ix_id, sb, if_true, if_false, if_pos, if_neg, true_and, and_true, false_and, and_false, and_self, tb_0]
        simp
        omega
      · simp (disch := omega) only [nw_id, ix_id, sb, if_true, if_false, if_pos, if_neg, true_and, and_true, false_and, and_false, and_self, tb_shl1 k (by omega) hi]
        by_cases e : i = k
        · simp [e]; omega
        · simp [e]
end
section
/-! plain programs: maybe, pumped -/
def JArr (g : AG) : Prop := ∀ p : Nat, p < 16 → TmOk (g 46 p)
abbrev SCV : Reg := [(5, 7), (5, 8), (47, 0), (147, 0), (148, 0), (117, 49)]
abbrev SCA : Reg := [(5, 7), (5, 8), (46, 0), (47, 0), (147, 0), (148, 0), (117, 49)]
theorem sm_maybe {x1 x2 x3 x4 : Int} {g : AG} (h1 : I32 x1) (h2 : I32 x2) (h3 : I32 x3) (h4 : I32 x4) (V : JV g) (B : JBoat g) (hf : JFlag g) (A : JArr g) :
    ∃ r1 r2, X_maybe x1 x2 x3 x4 g = some r1 ∧ M_maybe x1 x2 x3 x4 r1.2 = some r2 ∧ nw r1.1 = nw r2.1 ∧ FR SCA g r2.2 ∧ JArr r2.2 := by
  unfold I32 at *
  obtain ⟨⟨b1, b2, b3⟩, bv, bs⟩ := B
  by_cases h : 0 ≤ x1 ∧ x1 < g 6 7 ∧ 0 ≤ x2 ∧ x2 ≤ 15 ∧ 0 ≤ x3 ∧ x3 ≤ x4 ∧ x4 ≤ 20159
  · obtain ⟨b, rfl⟩ := natOf h.1
    obtain ⟨a, rfl⟩ := natOf h.2.2.1
    clear h1 h2 h3 h4
    have vb := bv b (by omega)
    have sbb := bs b (by omega)
    have tm : TmOk x3 := Or.inr (by omega)
    obtain ⟨g1, e1, f1, p1, t1⟩ := X_reach_s (a := a) (ta := g 51 b) (t := x3) V (by omega) (by omega) tm A
    obtain ⟨r, e2, q2⟩ := reached_s (x1 := x4) (g := g1) (by omega) t1 16 0 0 (by omega)
    have eX : X_maybe b a x3 x4 g = some (r, g1) := by
      unfold X_maybe Voyage_reached
      rw [show ((0 : Nat) : Int) = (0 : Int) from rfl] at e2
      simp (disch := omega) only [nw_id, ix_id, sb, if_true, if_false, if_pos, if_neg, true_and, and_true, false_and, and_false, and_self, X_isWay0, isTimeX0, Int.toNat_natCast, e1, e2]
    obtain ⟨r', g2, e3, f3, q3⟩ := M_maybe_b_s (b := b) (a := a) (sn := x3) (tm := x4) (by omega) (by omega) (by omega) (by omega) 16 0 0 g1 (by omega) (V.fr f1 rfl) (by unfold JFlag; rw [f1 117 47 rfl]; exact hf) (by rw [f1 127 b rfl]; omega)
    have q1 : g1 117 12 = g 117 12 := f1 117 12 rfl
    have eM : M_maybe b a x3 x4 g1 = some (r', g2) := by
      unfold M_maybe
      rw [show ((0 : Nat) : Int) = (0 : Int) from rfl] at e3
      simp (disch := omega) only [nw_id, ix_id, sb, if_true, if_false, if_pos, if_neg, true_and, and_true, false_and, and_false, and_self, M_isBoat0, isPoint0, isTime0, isIn0, e3]
    refine ⟨_, _, eX, eM, tb_ext (fun i hi => ?_), (f1.mo rfl).tr (f3.mo rfl), fun p hp => by show TmOk (g2 46 p); rw [f3 46 p rfl]; exact t1 p hp⟩
    dsimp only
    rw [q2 i hi, q3 i hi, ldM_fr f1 rfl, f1 127 b rfl, vb.2.2.2]
    by_cases e : i < 16
    · rw [p1 i e]
    · have z1 : ¬ (0 ≤ i ∧ i < 16 ∧ ¬ g1 46 i = -1 ∧ g1 46 i ≤ x4) := fun q => e q.2.1
      have z2 : ¬ (0 ≤ i ∧ i < 16 ∧ ¬ ldM g (g 51 b) a i x3 = -1 ∧ ldM g (g 51 b) a i x3 ≤ x4) := fun q => e q.2.1
      simp only [z1, z2]
  · have eX : X_maybe x1 x2 x3 x4 g = some (-1, g) := by
      unfold X_maybe
      revert h
      simp (disch := omega) only [nw_id, ix_id, X_isWay0, isTimeX0]
      intro h
      ((repeat (first | (split; · with_reducible rfl) | (split; rotate_left 1; · with_reducible rfl))) <;> first | with_reducible rfl | (refine absurd ?_ h; clear h; (repeat' apply And.intro) <;> omega) | omega | ((repeat' split) <;> first | rfl | omega))
    have eM : M_maybe x1 x2 x3 x4 g = some (-1, g) := by
      unfold M_maybe
      revert h
      simp (disch := omega) only [nw_id, ix_id, M_isBoat0, isPoint0, isTime0, isIn0]
      intro h
      ((repeat (first | (split; · with_reducible rfl) | (split; rotate_left 1; · with_reducible rfl))) <;> first | with_reducible rfl | (refine absurd ?_ h; clear h; (repeat' apply And.intro) <;> omega) | omega | ((repeat' split) <;> first | rfl | omega))
    exact ⟨_, _, eX, eM, rfl, Fr.rf, A⟩
/-- the next pump: (the point, when it comes there) -/
def npF (pu : Nat → Bool) (ar : Nat → Int) : Nat → Nat → Int × Int → Int × Int
  | 0, _, p => p
  | n + 1, q, p => npF pu ar n (q + 1) (if pu q = true ∧ ¬ ar q = -1 ∧ (p.1 = -1 ∨ ar q < p.2) then ((q : Int), ar q) else p)
def npOk (ar : Nat → Int) (p : Int × Int) : Prop := p = (-1, -1) ∨ (0 ≤ p.1 ∧ p.1 < 16 ∧ p.2 = ar p.1.toNat ∧ ¬ p.2 = -1)
theorem npF_ok {pu : Nat → Bool} {ar : Nat → Int} : ∀ (n q : Nat) (p : Int × Int), q + n ≤ 16 → npOk ar p → npOk ar (npF pu ar n q p)
  | 0, _, _, _, h => h
  | n + 1, q, p, hq, h => by
    unfold npF
    refine npF_ok n (q + 1) _ (by omega) ?_
    by_cases c : pu q = true ∧ ¬ ar q = -1 ∧ (p.1 = -1 ∨ ar q < p.2)
    · rw [if_pos c]
      exact Or.inr ⟨by dsimp only; omega, by dsimp only; omega, by simp, c.2.1⟩
    · rw [if_neg c]; exact h
theorem nextPump_s {g : AG} (hA : JArr g) (P : JPump g) : ∀ (n q : Nat) (p : Int × Int), q + n = 16 → npOk (g 46) p → Voyage_nextPump_b g p.1 q = some (npF (fun j => tb (g 1 6) j) (g 46) n q p).1 := by
  intro n
  induction n with
  | zero =>
    intro q p h hp
    rw [Voyage_nextPump_b]
    simp (disch := omega) only [nw_id, ix_id, sb, if_true, if_false, if_pos, if_neg, true_and, and_true, false_and, and_false, and_self]
    rfl
  | succ n ih =>
    intro q p h hp
    have tm := hA q (by omega)
    unfold TmOk at tm
    have bq := bit_q (g 1 6) q (by omega)
    have e9 := ih (q + 1) (if tb (g 1 6) q = true ∧ ¬ g 46 q = -1 ∧ (p.1 = -1 ∨ g 46 q < p.2) then ((q : Int), g 46 q) else p) (by omega) (by
      by_cases c : tb (g 1 6) q = true ∧ ¬ g 46 q = -1 ∧ (p.1 = -1 ∨ g 46 q < p.2)
      · rw [if_pos c]
        exact Or.inr ⟨by dsimp only; omega, by dsimp only; omega, by simp, c.2.1⟩
      · rw [if_neg c]; exact hp)
    rw [show ((q + 1 : Nat) : Int) = (q : Int) + 1 from rfl] at e9
    unfold npF
    rw [← e9, Voyage_nextPump_b]
    have c0 : ¬ 16 ≤ nw (q : Int) := by clear bq; rw [nw_id (by omega) (by omega)]; omega
    rw [if_neg c0, bq]
    clear c0 bq e9 ih
    cases hb : tb (g 1 6) q with
    | false =>
      simp only [Bool.false_eq_true, if_false, if_true, sb, false_and]
      simp (disch := omega) only [nw_id, ix_id, sb, if_true, if_false, if_pos, if_neg, true_and, and_true, false_and, and_false, and_self]
    | true =>
      simp only [if_true, true_and]
      by_cases c1 : g 46 q = -1
      · simp (disch := omega) only [nw_id, ix_id, sb, if_true, if_false, if_pos, if_neg, true_and, and_true, false_and, and_false, and_self, c1, Int.toNat_natCast, not_true, not_false_eq_true]
      · have c2 : 0 ≤ g 46 q ∧ g 46 q ≤ 20159 := by omega
        clear tm
        rcases hp with e | ⟨p1, p2, p3, p4⟩
        · subst e
          simp (disch := omega) only [nw_id, ix_id, sb, if_true, if_false, if_pos, if_neg, true_and, and_true, false_and, and_false, and_self, Int.toNat_natCast, not_true, not_false_eq_true, true_or]
        · have tm2 := hA p.1.toNat (by omega)
          unfold TmOk at tm2
          rw [← p3] at tm2
          have c3 : 0 ≤ p.2 ∧ p.2 ≤ 20159 := by omega
          clear tm2
          have c4 : ¬ p.1 = -1 := by omega
          rw [p3] at c3 ⊢
          clear p3 p4
          by_cases c5 : g 46 q < g 46 p.1.toNat
          · simp (disch := omega) only [nw_id, ix_id, sb, if_true, if_false, if_pos, if_neg, true_and, and_true, false_and, and_false, and_self, Int.toNat_natCast, not_true, not_false_eq_true, or_true]
          · have c6 : ¬ (p.1 = -1 ∨ g 46 q < g 46 p.1.toNat) := by omega
            simp (disch := omega) only [nw_id, ix_id, sb, if_true, if_false, if_pos, if_neg, true_and, and_true, false_and, and_false, and_self, Int.toNat_natCast, not_true, not_false_eq_true]
theorem M_pumped_b_s {b a : Nat} {t sn wh : Int} (hb : b < 10) (ha : a ≤ 15) (hs : 0 ≤ t ∧ t ≤ 20159) (hsn : 0 ≤ sn ∧ sn ≤ 20159) (hw : 0 ≤ wh ∧ wh ≤ 2) {pu : Nat → Bool} {ar : Nat → Int} (hT : ∀ q, q < 16 → TmOk (ar q)) : ∀ (n q : Nat) (p : Int × Int) (g : AG), q + n = 16 → JV g → JFlag g → (0 ≤ g 127 b ∧ g 127 b ≤ 60) → (∀ q : Nat, q < 16 → g 154 q = if pu q = true then 1 else 0) → (∀ q : Nat, q < 16 → ar q = ldM g (g 127 b) a q t) → npOk ar p → ∃ g', M_pumped_b b a t sn wh p.1 p.2 q g = some ((if (npF pu ar n q p).1 = -1 ∨ wh = 0 then (npF pu ar n q p).1 else if wh = 1 then (npF pu ar n q p).2 else if sn + 10080 < (npF pu ar n q p).2 then 1 else 0), g') ∧ FR [(147, 0), (148, 0), (117, 49)] g g' := by
  intro n
  induction n with
  | zero =>
    intro q p g h V hf ht hpu har hp
    refine ⟨g, ?_, Fr.rf⟩
    rw [M_pumped_b]
    show _ = some ((if p.1 = -1 ∨ wh = 0 then p.1 else if wh = 1 then p.2 else if sn + 10080 < p.2 then 1 else 0), g)
    have c0 : 16 ≤ nw (q : Int) := by rw [nw_id (by omega) (by omega)]; omega
    rw [if_pos c0, sb]
    clear c0
    congr 2
    rcases hp with e | ⟨p1, p2, p3, p4⟩
    · subst e
      simp (disch := omega) only [nw_id, ix_id, sb, if_true, if_false, if_pos, if_neg, true_and, and_true, false_and, and_false, and_self, true_or]
    · have tm2 := hT p.1.toNat (by omega)
      unfold TmOk at tm2
      rw [← p3] at tm2
      have c3 : 0 ≤ p.2 ∧ p.2 ≤ 20159 := by omega
      clear tm2 p3 har
      by_cases w0 : wh = 0
      · subst w0
        simp (disch := omega) only [nw_id, ix_id, sb, if_true, if_false, if_pos, if_neg, true_and, and_true, false_and, and_false, and_self, or_true, ite_self]
      · by_cases w1 : wh = 1
        · subst w1
          have c4 : ¬ (p.1 = -1 ∨ (1 : Int) = 0) := by omega
          simp (disch := omega) only [nw_id, ix_id, sb, if_true, if_false, if_pos, if_neg, true_and, and_true, false_and, and_false, and_self]
        · have c4 : ¬ (p.1 = -1 ∨ wh = 0) := by omega
          simp (disch := omega) only [nw_id, ix_id, sb, if_true, if_false, if_pos, if_neg, true_and, and_true, false_and, and_false, and_self]
          by_cases z : sn + 10080 < p.2
          · simp (disch := omega) only [nw_id, ix_id, sb, if_true, if_false, if_pos, if_neg, true_and, and_true, false_and, and_false, and_self]
          · simp (disch := omega) only [nw_id, ix_id, sb, if_true, if_false, if_pos, if_neg, true_and, and_true, false_and, and_false, and_self]
  | succ n ih =>
    intro q p g h V hf ht hpu har hp
    have pq := hpu q (by omega)
    have step : ∀ (g1 : AG) (p' : Int × Int), FR [(147, 0), (148, 0), (117, 49)] g g1 → p' = (if pu q = true ∧ ¬ ar q = -1 ∧ (p.1 = -1 ∨ ar q < p.2) then ((q : Int), ar q) else p) → ∃ g', M_pumped_b b a t sn wh p'.1 p'.2 ((q : Int) + 1) g1 = some ((if (npF pu ar (n + 1) q p).1 = -1 ∨ wh = 0 then (npF pu ar (n + 1) q p).1 else if wh = 1 then (npF pu ar (n + 1) q p).2 else if sn + 10080 < (npF pu ar (n + 1) q p).2 then 1 else 0), g') ∧ FR [(147, 0), (148, 0), (117, 49)] g g' := by
      intro g1 p' f1 hp'
      obtain ⟨g2, e2, f2⟩ := ih (q + 1) p' g1 (by omega) (V.fr f1 rfl) (by unfold JFlag; rw [f1 117 47 rfl]; exact hf) (by rw [f1 127 b rfl]; exact ht) (by intro j hj; rw [f1 154 j rfl]; exact hpu j hj) (by intro j hj; rw [ldM_fr f1 rfl, f1 127 b rfl]; exact har j hj) (by
        rw [hp']
        by_cases c : pu q = true ∧ ¬ ar q = -1 ∧ (p.1 = -1 ∨ ar q < p.2)
        · rw [if_pos c]
          exact Or.inr ⟨by dsimp only; omega, by dsimp only; omega, by simp, c.2.1⟩
        · rw [if_neg c]; exact hp)
      refine ⟨g2, ?_, f1.tr f2⟩
      unfold npF
      rw [← hp']
      exact e2
    have tm := hT q (by omega)
    unfold TmOk at tm
    rw [M_pumped_b]
    have c0 : ¬ 16 ≤ nw (q : Int) := by rw [nw_id (by omega) (by omega)]; omega
    have c1 : 0 ≤ nw (q : Int) ∧ nw (q : Int) < 16 := by clear c0; rw [nw_id (by omega) (by omega)]; omega
    have c2 : ix (q : Int) = q := by clear c0 c1; rw [ix_id (by omega) (by omega), Int.toNat_natCast]
    rw [if_neg c0, if_pos c1, c2, pq]
    clear c0 c1 c2
    cases hb2 : pu q with
    | false =>
      rw [if_neg (show ¬ (false = true) by decide), nw_0, if_pos rfl, sb]
      dsimp only
      rw [nw_m1, if_pos rfl, sb]
      exact step g p Fr.rf (by rw [hb2]; simp)
    | true =>
      obtain ⟨g1, e1, f1⟩ := M_led1 (b := b) (a := a) (c := q) (t := t) V hf hb ha (by omega) ht (Or.inr hs)
      rw [← har q (by omega)] at e1
      rw [if_pos rfl, nw_1, if_neg (by decide), e1, sb, sb]
      dsimp only
      by_cases d1 : ar q = -1
      · rw [d1, nw_m1, if_pos rfl, sb]
        exact step g1 p f1 (by rw [d1]; simp)
      · have d2 : 0 ≤ ar q ∧ ar q ≤ 20159 := by omega
        have d3 : ¬ nw (ar q) = -1 := by clear tm step; rw [nw_id (by omega) (by omega)]; omega
        have d4 : nw (ar q) = ar q := by clear d3 tm step; exact nw_id (by omega) (by omega)
        rw [if_neg d3, d4]
        clear d3 d4
        rcases hp with e | ⟨p1, p2, p3, p4⟩
        · subst e
          dsimp only
          rw [nw_m1, if_pos rfl, sb]
          exact step g1 ((q : Int), ar q) f1 (by rw [hb2, if_pos ⟨rfl, d1, Or.inl rfl⟩])
        · have tm2 := hT p.1.toNat (by omega)
          unfold TmOk at tm2
          rw [← p3] at tm2
          have d5 : 0 ≤ p.2 ∧ p.2 ≤ 20159 := by omega
          have d6 : ¬ nw p.1 = -1 := by clear tm tm2 p3 step; rw [nw_id (by omega) (by omega)]; omega
          have d7 : nw p.2 = p.2 := by clear d6 tm tm2 p3 step; exact nw_id (by omega) (by omega)
          rw [if_neg d6, d7]
          clear d6 d7
          by_cases d8 : ar q < p.2
          · rw [if_pos d8, sb]
            exact step g1 ((q : Int), ar q) f1 (by rw [hb2, if_pos ⟨rfl, d1, Or.inr d8⟩])
          · rw [if_neg d8, sb]
            exact step g1 p f1 (by rw [if_neg (fun z => by rcases z.2.2 with z | z <;> omega)])
theorem sm_pumped {x1 x2 x3 x4 x5 : Int} {g : AG} (h1 : I32 x1) (h2 : I32 x2) (h3 : I32 x3) (h4 : I32 x4) (h5 : I32 x5) (V : JV g) (B : JBoat g) (hf : JFlag g) (A : JArr g) (P : JPump g) :
    ∃ r1 r2, X_pumped x1 x2 x3 x4 x5 g = some r1 ∧ M_pumped x1 x2 x3 x4 x5 r1.2 = some r2 ∧ nw r1.1 = nw r2.1 ∧ FR SCA g r2.2 ∧ JArr r2.2 := by
  unfold I32 at *
  obtain ⟨⟨b1, b2, b3⟩, bv, bs⟩ := B
  by_cases h : 0 ≤ x1 ∧ x1 < g 6 7 ∧ 0 ≤ x2 ∧ x2 ≤ 15 ∧ 0 ≤ x3 ∧ x3 ≤ 20159 ∧ 0 ≤ x4 ∧ x4 ≤ x3
  · obtain ⟨b, rfl⟩ := natOf h.1
    obtain ⟨a, rfl⟩ := natOf h.2.2.1
    clear h1 h2 h3 h4
    have vb := bv b (by omega)
    have sbb := bs b (by omega)
    have tm : TmOk x3 := Or.inr (by omega)
    obtain ⟨g1, e1, f1, p1, t1⟩ := X_reach_s (a := a) (ta := g 51 b) (t := x3) V (by omega) (by omega) tm A
    have P1 : JPump g1 := P.cg (f1.cg rfl)
    have n1 := nextPump_s (g := g1) t1 P1 16 0 (-1, -1) (by omega) (Or.inl rfl)
    have okn := npF_ok (pu := fun j => tb (g1 1 6) j) (ar := g1 46) 16 0 (-1, -1) (by omega) (Or.inl rfl)
    have n2 : Voyage_nextPump_b g1 (-1) 0 = some (npF (fun j => tb (g1 1 6) j) (g1 46) 16 0 (-1, -1)).1 := n1
    clear n1
    by_cases hw : 0 ≤ x5 ∧ x5 ≤ 2
    · obtain ⟨g2, e3, f3⟩ := M_pumped_b_s (b := b) (a := a) (t := x3) (sn := x4) (wh := x5) (by omega) (by omega) (by omega) (by omega) hw (pu := fun j => tb (g1 1 6) j) (ar := g1 46) t1 16 0 (-1, -1) g1 (by omega) (V.fr f1 rfl) (by unfold JFlag; rw [f1 117 47 rfl]; exact hf) (by rw [f1 127 b rfl]; omega) P1 (by
        intro q hq
        rw [p1 q hq, ldM_fr f1 rfl, f1 127 b rfl, vb.2.2.2]) (Or.inl rfl)
      have q1 : g1 117 12 = g 117 12 := f1 117 12 rfl
      have eM : ∀ r, M_pumped_b b a x3 x4 x5 (-1) (-1) 0 g1 = r → M_pumped b a x3 x4 x5 g1 = r := by
        intro r hr
        unfold M_pumped
        clear okn
        simp (disch := omega) only [nw_id, ix_id, sb, if_true, if_false, if_pos, if_neg, true_and, and_true, false_and, and_false, and_self, M_isBoat0, isPoint0, isTime0, isIn0]
        exact hr
      have eX : X_pumped b a x3 x4 x5 g = some ((if (npF (fun j => tb (g1 1 6) j) (g1 46) 16 0 (-1, -1)).1 = -1 ∨ x5 = 0 then (npF (fun j => tb (g1 1 6) j) (g1 46) 16 0 (-1, -1)).1 else if x5 = 1 then (npF (fun j => tb (g1 1 6) j) (g1 46) 16 0 (-1, -1)).2 else if x4 + 10080 < (npF (fun j => tb (g1 1 6) j) (g1 46) 16 0 (-1, -1)).2 then 1 else 0), g1) := by
        unfold X_pumped Voyage_nextPump
        generalize npF (fun j => tb (g1 1 6) j) (g1 46) 16 0 (-1, -1) = p at okn n2 ⊢
        rcases okn with e | ⟨p2, p3, p4, p5⟩
        · subst e
          clear e3 eM sbb
          simp (disch := omega) only [nw_id, ix_id, sb, if_true, if_false, if_pos, if_neg, true_and, and_true, false_and, and_false, and_self, X_isWay0, isTimeX0, within0, Int.toNat_natCast, e1, n2, true_or]
        · have tm2 := t1 p.1.toNat (by omega)
          unfold TmOk at tm2
          rw [← p4] at tm2
          have d5 : 0 ≤ p.2 ∧ p.2 ≤ 20159 := by omega
          have d6 : ¬ p.1 = -1 := by omega
          clear tm2 p5 e3 eM sbb
          by_cases w0 : x5 = 0
          · simp (disch := omega) only [nw_id, ix_id, sb, if_true, if_false, if_pos, if_neg, true_and, and_true, false_and, and_false, and_self, X_isWay0, isTimeX0, within0, Int.toNat_natCast, e1, n2, or_true]
          · have d7 : ¬ (p.1 = -1 ∨ x5 = 0) := by omega
            by_cases w1 : x5 = 1
            · simp (disch := omega) only [nw_id, ix_id, sb, if_true, if_false, if_pos, if_neg, true_and, and_true, false_and, and_false, and_self, X_isWay0, isTimeX0, within0, Int.toNat_natCast, e1, n2, ← p4]
            · simp (disch := omega) only [nw_id, ix_id, sb, if_true, if_false, if_pos, if_neg, true_and, and_true, false_and, and_false, and_self, X_isWay0, isTimeX0, within0, Int.toNat_natCast, e1, n2, ← p4]
              by_cases z : x4 + 10080 < p.2
              · simp (disch := omega) only [nw_id, ix_id, sb, if_true, if_false, if_pos, if_neg, true_and, and_true, false_and, and_false, and_self]
              · simp (disch := omega) only [nw_id, ix_id, sb, if_true, if_false, if_pos, if_neg, true_and, and_true, false_and, and_false, and_self]
      exact ⟨_, _, eX, eM _ e3, rfl, (f1.mo rfl).tr (f3.mo rfl), fun p hp => by show TmOk (g2 46 p); rw [f3 46 p rfl]; exact t1 p hp⟩
    · have q1 : g1 117 12 = g 117 12 := f1 117 12 rfl
      have eX : X_pumped b a x3 x4 x5 g = some (-1, g1) := by
        unfold X_pumped Voyage_nextPump
        generalize npF (fun j => tb (g1 1 6) j) (g1 46) 16 0 (-1, -1) = p at okn n2 ⊢
        clear okn
        simp (disch := omega) only [nw_id, ix_id, sb, if_true, if_false, if_pos, if_neg, true_and, and_true, false_and, and_false, and_self, X_isWay0, isTimeX0, within0, Int.toNat_natCast, e1, n2, ite_self]
      have eM : M_pumped b a x3 x4 x5 g1 = some (-1, g1) := by
        unfold M_pumped
        clear okn
        simp (disch := omega) only [nw_id, ix_id, sb, if_true, if_false, if_pos, if_neg, true_and, and_true, false_and, and_false, and_self, M_isBoat0, isPoint0, isTime0, isIn0]
      exact ⟨_, _, eX, eM, rfl, f1.mo rfl, t1⟩
  · have eX : X_pumped x1 x2 x3 x4 x5 g = some (-1, g) := by
      unfold X_pumped
      have w1 := X_isWay0 h1.1 (Int.lt_add_one_of_le h1.2) h2.1 (Int.lt_add_one_of_le h2.2) h2.1 (Int.lt_add_one_of_le h2.2) h3.1 (Int.lt_add_one_of_le h3.2) b2 b3
      have w2 := isTimeX0 h4.1 (Int.lt_add_one_of_le h4.2)
      by_cases k1 : nw (X_isWay x1 x2 x2 x3 g) = 0
      · rw [if_pos k1]
      · rw [if_neg k1]
        rw [w1] at k1
        by_cases k2 : nw (X_isTime x4) = 0
        · rw [if_pos k2]
        · rw [if_neg k2]
          rw [w2] at k2
          clear w1 w2
          rw [nw_id h4.1 (Int.lt_add_one_of_le h4.2), nw_id h3.1 (Int.lt_add_one_of_le h3.2), if_neg (fun q => h ⟨by omega, by omega, by omega, by omega, by omega, by omega, by omega, q⟩)]
    have eM : M_pumped x1 x2 x3 x4 x5 g = some (-1, g) := by
      unfold M_pumped
      generalize M_pumped_b x1 x2 x3 x4 x5 (-1) (-1) 0 g = big
      revert h
      simp (disch := omega) only [nw_id, ix_id, M_isBoat0, isPoint0, isTime0, isIn0]
      intro h
      ((repeat (first | (split; · with_reducible rfl) | (split; rotate_left 1; · with_reducible rfl))) <;> first | with_reducible rfl | (refine absurd ?_ h; clear h; (repeat' apply And.intro) <;> omega) | omega | ((repeat' split) <;> first | rfl | omega))
    exact ⟨_, _, eX, eM, rfl, Fr.rf, A⟩
end
section
/-! plain programs: harm -/
theorem FR.drop {R : Reg} {g g' : AG} {k0 i0 : Nat} (h : FR ((k0, i0 + 1) :: R) g g') (e : g' k0 i0 = g k0 i0) : FR R g g' := by
  intro k i q
  by_cases c : k0 = k ∧ i0 = i
  · rw [← c.1, ← c.2]; exact e
  · refine h k i ?_
    show (inP (k0, i0 + 1) k i || inR R k i) = false
    rw [q, Bool.or_false]
    cases z : inP (k0, i0 + 1) k i with
    | false => rfl
    | true =>
      exfalso
      unfold inP at z
      simp only [Bool.and_eq_true, Bool.or_eq_true, Nat.beq_eq] at z
      omega
theorem FR.dropC {R : Reg} {g g' : AG} {k0 : Nat} (h : FR ((k0, 0) :: R) g g') (e : g' k0 = g k0) : FR R g g' := by
  intro k i q
  by_cases c : k0 = k
  · rw [← c, e]
  · refine h k i ?_
    show (inP (k0, 0) k i || inR R k i) = false
    rw [q, Bool.or_false]
    cases z : inP (k0, 0) k i with
    | false => rfl
    | true =>
      exfalso
      unfold inP at z
      simp only [Bool.and_eq_true, Nat.beq_eq] at z
      omega
theorem clamp_eq (v : Int) : nw (mxI 0 (mnI 999 v)) = nw (clF v) := by
  have hv := nwb v
  have e9 : nw 999 = 999 := nw_id (by decide) (by decide)
  unfold mnI clF
  rw [e9]
  by_cases a : nw v < 999
  · rw [if_pos a]
    unfold mxI
    rw [nw_0]
    by_cases b : 0 < nw v
    · rw [if_pos b, if_pos (by omega), if_pos (by omega)]
    · rw [if_neg b]
      by_cases c : 0 ≤ nw v
      · rw [if_pos c, if_pos (by omega)]
        rw [nw_0]; omega
      · rw [if_neg c]
  · rw [if_neg a]
    unfold mxI
    rw [nw_0, e9, if_pos (by omega), if_pos (by omega)]
    by_cases c : nw v ≤ 999
    · rw [if_pos c, e9]; omega
    · rw [if_neg c]
theorem X_harmOfLock_s {b d : Nat} {g : AG} (hb : b < 10) (hd : d < 14) (J : JRule g) (hV : JBoV g) (hW : JWat g) : ∃ v g', Boats_harmOfLock b d g = some (v, g') ∧ FR [(27, 0), (28, 0)] g g' ∧ nw v = nw (hwF g b d) := by
  have V := hV b hb
  obtain ⟨g1, e1, f1, a1⟩ := Rules_askDay_s (day := (d : Int)) (w := g 1 5) (g := g) (by omega) (by omega)
  have f2 : FR [(27, 0)] g (up (up (up g1 27 3 (g 48 b)) 27 5 (g 49 b)) 27 8 (g 51 b)) := Fr.up (Fr.up (Fr.up f1 rfl) rfl) rfl
  have a2 : ∀ s : Nat, 1 ≤ s → s < 10 → (up (up (up g1 27 3 (g 48 b)) 27 5 (g 49 b)) 27 8 (g 51 b)) 27 (s - 1) = fcHarm d (g 117 10) (g 124 b) (g 125 b) (g 127 b) s := by
    intro s hs hs2
    have h1 := a1 s hs hs2
    rw [V.1, V.2.1, V.2.2.2, hW.1]
    unfold fcHarm
    unfold fcDay at h1
    simp only [up_at, true_and, h1]
    ((repeat (first | (split; · with_reducible rfl) | (split; rotate_left 1; · with_reducible rfl))) <;> first | with_reducible rfl | (refine absurd ?_ h; clear h; (repeat' apply And.intro) <;> omega) | omega | ((repeat' split) <;> first | rfl | omega))
  obtain ⟨g2, e2, f3⟩ := X_serving_s (sort := 4) (x := 104) (by omega) (by omega) ((J.xrel).fr f2 rfl) a2
  rw [f2 2 3 rfl] at e2
  have fT : FR [(27, 0), (28, 0)] g g2 := (f2.mo rfl).tr (f3.mo rfl)
  have a3 : ∀ s : Nat, 1 ≤ s → s < 10 → g2 27 (s - 1) = fcHarm d (g 117 10) (g 124 b) (g 125 b) (g 127 b) s := by
    intro s hs hs2
    rw [f3 27 (s - 1) rfl]
    exact a2 s hs hs2
  have c0 : g1 48 b = g 48 b := f1 48 b rfl
  have c1 : g1 49 b = g 49 b := f1 49 b rfl
  have c2 : g1 51 b = g 51 b := f1 51 b rfl
  have pre : ∀ r, Boats_harmOfLock b d g = r ↔ ((Rules_serving 104 (up (up (up g1 27 3 (g 48 b)) 27 5 (g 49 b)) 27 8 (g 51 b))) >>= fun r10 => (if nw r10.1 = -1 then some (0, r10.2) else (Rules_valueOf r10.1 r10.2 >>= fun r13 => some (mxI 0 (mnI 999 r13.1), r13.2))) >>= fun r15 => some (r15.1, r15.2)) = r := by
    intro r
    unfold Boats_harmOfLock
    have c9 : 0 ≤ nw (b : Int) ∧ nw (b : Int) < 10 := by rw [nw_id (by omega) (by omega)]; omega
    have c8 : ix (b : Int) = b := by clear c9; rw [ix_id (by omega) (by omega), Int.toNat_natCast]
    rw [e1, sb, if_pos c9, c8, ix_lits.2.2.2.1, ix_lits.2.2.2.2.2.1, ix_lits.2.2.2.2.2.2.2.2.1]
    dsimp only
    rw [c0, sb, show (up g1 27 3 (g 48 b)) 49 b = g 49 b by simp [up_at, c1], sb, show (up (up g1 27 3 (g 48 b)) 27 5 (g 49 b)) 51 b = g 51 b by simp [up_at, c2], sb]
  have J0 := J.1
  have hr := srvF_rng (kd := g 128) (md := g 132) (en := g 133) (cd := g 134) (fc := fcHarm d (g 117 10) (g 124 b) (g 125 b) (g 127 b)) (sort := 4) (g 2 3).toNat 0
  unfold hwF srvG
  generalize srvF (g 128) (g 132) (g 133) (g 134) (fcHarm d (g 117 10) (g 124 b) (g 125 b) (g 127 b)) 4 (g 2 3).toNat 0 = s at hr e2 ⊢
  by_cases e : s = -1
  · subst e
    refine ⟨0, g2, ?_, fT, ?_⟩
    · rw [pre, e2, sb, nw_m1]
      rfl
    · rw [if_pos rfl]
      unfold clF
      simp [nw_0]
  · have hr2 : 0 ≤ s ∧ s < g 2 3 ∧ g 128 s.toNat = 4 := by
      rcases hr with hr | ⟨a, b, c⟩
      · exact absurd hr e
      · exact ⟨by omega, by omega, c⟩
    clear hr
    obtain ⟨l, rfl⟩ := natOf hr2.1
    rw [Int.toNat_natCast] at hr2 ⊢
    obtain ⟨v, g3, e3, f4, v1⟩ := (J.xrel.fr fT rfl).val a3 (l := l) (by rw [fT 2 3 rfl]; exact hr2.2.1) (by omega)
    refine ⟨mxI 0 (mnI 999 v), g3, ?_, fT.tr (f4.mo rfl), ?_⟩
    · have c7 : ¬ nw (l : Int) = -1 := by rw [nw_id (by omega) (by omega)]; omega
      rw [pre, e2, sb, if_neg c7, e3, sb, sb]
    · rw [if_neg e]
      unfold vlF
      rw [v1, clamp_eq]
/-! sums over the days -/
theorem sm_add {f h : Nat → Int} : ∀ n, sm (fun i => f i + h i) n = sm f n + sm h n
  | 0 => rfl
  | n + 1 => by show sm _ n + (f n + h n) = (sm f n + f n) + (sm h n + h n); rw [sm_add n]; omega
theorem sm_ind {w : Nat → Int} {e : Nat} : ∀ n, sm (fun i => if i = e then w i else 0) n = if e < n then w e else 0
  | 0 => rfl
  | n + 1 => by
    show sm _ n + (if n = e then w n else 0) = _
    rw [sm_ind n]
    by_cases c : n = e
    · subst c; simp
    · rw [if_neg c]
      by_cases d : e < n
      · rw [if_pos d, if_pos (by omega)]; omega
      · rw [if_neg d, if_neg (by omega)]; rfl
theorem ct_sum {w : Int → Int} : ∀ (ds : List Int), DsOk ds → sm (fun d => ctF d ds * w d) 14 = wsF w ds
  | [], _ => by show sm (fun d => 0 * w d) 14 = 0; simp [sm]
  | e :: ds, h => by
    have he := h e (List.mem_cons_self ..)
    have hd : DsOk ds := fun d hd => h d (List.mem_cons_of_mem _ hd)
    have e1 : sm (fun d : Nat => ctF d (e :: ds) * w d) 14 = sm (fun d : Nat => (if d = e.toNat then w (d : Int) else 0) + ctF d ds * w d) 14 := by
      refine sm_cg 14 (fun i hi => ?_)
      show ((if e = (i : Int) then 1 else 0) + ctF i ds) * w i = _
      by_cases c : i = e.toNat
      · rw [if_pos c, if_pos (by omega), Int.add_mul, Int.one_mul]
      · rw [if_neg c, if_neg (by omega), Int.add_mul, Int.zero_mul]
    rw [e1, sm_add, sm_ind, ct_sum ds hd, if_pos (by omega)]
    show w _ + _ = w e + _
    rw [show ((e.toNat : Nat) : Int) = e by omega]
theorem ct_rng {d : Int} : ∀ (ds : List Int), 0 ≤ ctF d ds ∧ ctF d ds ≤ ds.length
  | [] => ⟨Int.le_refl _, by simp [ctF]⟩
  | e :: ds => by
    have := ct_rng (d := d) ds
    show 0 ≤ (if e = d then 1 else 0) + ctF d ds ∧ (if e = d then 1 else 0) + ctF d ds ≤ ((ds.length + 1 : Nat) : Int)
    split <;> omega
theorem X_harmWay_s {b : Nat} {W : Int → Int} {ct : Nat → Int} (hb : b < 10) (hct : ∀ d, d < 14 → 0 ≤ ct d ∧ ct d ≤ 1000) : ∀ (n k : Nat) (v : Int) (g : AG), k + n = 14 → JRule g → JBoV g → JWat g → hwF g b = W → (∀ d : Nat, d < 14 → g 47 d = ct d) → ∃ r g', Boats_harmOfLatestWay_b b v k g = some (r, g') ∧ FR [(27, 0), (28, 0)] g g' ∧ nw r = nw (v + (sm (fun d => ct d * W d) 14 - sm (fun d => ct d * W d) k)) := by
  intro n
  induction n with
  | zero =>
    intro k v g h J hV hW hw hc
    refine ⟨v, g, ?_, Fr.rf, ?_⟩
    · rw [Boats_harmOfLatestWay_b]
      simp (disch := omega) only [nw_id, ix_id, sb, if_true, if_false, if_pos, if_neg, true_and, and_true, false_and, and_false, and_self]
    · rw [show k = 14 by omega]
      congr 1; omega
  | succ n ih =>
    intro k v g h J hV hW hw hc
    have hk := hc k (by omega)
    have hk2 := hct k (by omega)
    have fin2 : ∀ r : Int, ∀ v' : Int, nw v' = nw (v + ct k * W k) → nw r = nw (v' + (sm (fun d => ct d * W d) 14 - sm (fun d => ct d * W d) (k + 1))) → nw r = nw (v + (sm (fun d => ct d * W d) 14 - sm (fun d => ct d * W d) k)) := by
      intro r v' h1 h2
      rw [h2]
      have e : v + (sm (fun d => ct d * W d) 14 - sm (fun d => ct d * W d) k) = (v + ct k * W k) + (sm (fun d => ct d * W d) 14 - sm (fun d => ct d * W d) (k + 1)) := by
        show _ = (v + ct k * W k) + (sm (fun d => ct d * W d) 14 - (sm (fun d => ct d * W d) k + ct k * W k)); omega
      rw [e]
      exact nw_add h1 rfl
    have c0 : ¬ 14 ≤ nw (k : Int) := by clear fin2; rw [nw_id (by omega) (by omega)]; omega
    have c1 : 0 ≤ nw (k : Int) ∧ nw (k : Int) < 14 := by clear c0 fin2; rw [nw_id (by omega) (by omega)]; omega
    have c2 : ix (k : Int) = k := by clear c0 c1 fin2; rw [ix_id (by omega) (by omega), Int.toNat_natCast]
    rw [Boats_harmOfLatestWay_b, if_neg c0, if_pos c1, c2, hk]
    clear c0 c1 c2
    by_cases z : ct k ≤ 0
    · have z0 : ct k = 0 := by omega
      obtain ⟨r, g1, e1, f1, q1⟩ := ih (k + 1) v g (by omega) J hV hW hw hc
      rw [show ((k + 1 : Nat) : Int) = (k : Int) + 1 from rfl] at e1
      refine ⟨r, g1, ?_, f1, fin2 r v (by rw [z0, Int.zero_mul, Int.add_zero]) q1⟩
      have c3 : nw (ct k) ≤ 0 := by clear fin2 q1; rw [nw_id (by omega) (by omega)]; exact z
      rw [if_pos c3, sb]
      exact e1
    · obtain ⟨hv, g1, e1, f1, q1⟩ := X_harmOfLock_s (b := b) (d := k) (g := g) hb (by omega) J hV hW
      obtain ⟨r, g2, e2, f2, q2⟩ := ih (k + 1) (v + ct k * hv) g1 (by omega) (J.cg (f1.cg rfl)) (fun j hj => by rw [f1 124 j rfl, f1 125 j rfl, f1 126 j rfl, f1 127 j rfl, f1 48 j rfl, f1 49 j rfl, f1 50 j rfl, f1 51 j rfl]; exact hV j hj) (hW.cg (f1.cg rfl)) (by rw [hwF_fr f1 rfl]; exact hw) (fun j hj => by rw [f1 47 j rfl]; exact hc j hj)
      rw [show ((k + 1 : Nat) : Int) = (k : Int) + 1 from rfl] at e2
      refine ⟨r, g2, ?_, f1.tr f2, fin2 r _ (nw_add rfl ?_) q2⟩
      · have c3 : ¬ nw (ct k) ≤ 0 := by clear fin2 q1 q2; rw [nw_id (by omega) (by omega)]; exact z
        rw [if_neg c3, e1, sb, sb]
        exact e2
      · rw [← hw]
        exact nw_mulc _ q1
theorem sm_harm {x1 x2 x3 x4 : Int} {g : AG} (h1 : I32 x1) (h2 : I32 x2) (h3 : I32 x3) (h4 : I32 x4) (V : JV g) (B : JBoat g) (hf : JFlag g) :
    ∃ r1 r2, X_harm x1 x2 x3 x4 g = some r1 ∧ M_harm x1 x2 x3 x4 r1.2 = some r2 ∧ nw r1.1 = nw r2.1 ∧ FR [(5, 7), (5, 8), (47, 0), (27, 0), (28, 0), (147, 0), (148, 0), (117, 49)] g r2.2 := by
  unfold I32 at *
  have B0 := B
  obtain ⟨⟨b1, b2, b3⟩, bv, bs⟩ := B
  by_cases h : 0 ≤ x1 ∧ x1 < g 6 7 ∧ 0 ≤ x2 ∧ x2 ≤ 15 ∧ 0 ≤ x3 ∧ x3 ≤ 15 ∧ 0 ≤ x4 ∧ x4 ≤ 20159
  · obtain ⟨b, rfl⟩ := natOf h.1
    obtain ⟨a, rfl⟩ := natOf h.2.2.1
    obtain ⟨c, rfl⟩ := natOf h.2.2.2.2.1
    have vb := bv b (by omega)
    have sbb := bs b (by omega)
    have tm : TmOk x4 := Or.inr (by omega)
    obtain ⟨g1, e1, f1, ct1⟩ := X_comesTo_s (a := a) (c := c) (ta := g 51 b) (t := x4) (hd := 1) V (by omega) (by omega) (by omega) (Or.inr rfl) tm
    rw [if_pos rfl] at e1 ct1
    have v1 := V.1
    have lok := ledF_ok (ok := okM g (stpM g)) (tu := tuM g) (mi := g 118) (lk := g 119) (lasts := laF (g 51 b)) (by unfold laF; omega) (fun i hi => (v1 i hi).2.2.2.1) (fun i hi => ⟨(v1 i hi).2.2.2.2.2.1, (v1 i hi).2.2.2.2.2.2.1⟩) (a := a) (c := c) (p := (x4, [])) (by omega) (by omega) tm (by intro d hd; cases hd)
    -- the reference
    have refM : ∀ g2 : AG, FR [(5, 7), (5, 8), (47, 0), (27, 0), (28, 0)] g g2 → ∃ g3, M_harm b a c x4 g2 = some ((if (ledF (okM g (stpM g)) (tuM g) (g 118) (g 119) (laF (g 51 b)) a c (x4, [])).1 = -1 then -1 else wsF (hwF g b) (ledF (okM g (stpM g)) (tuM g) (g 118) (g 119) (laF (g 51 b)) a c (x4, [])).2), g3) ∧ FR [(147, 0), (148, 0), (117, 49)] g2 g3 := by
      intro g2 f2
      have f3 : FR [(5, 7), (5, 8), (47, 0), (27, 0), (28, 0), (117, 48), (117, 49)] g (up (up g2 117 47 1) 117 48 0) := Fr.up (Fr.up (f2.mo rfl) rfl) rfl
      have V3 := V.fr f3 rfl
      have hm := MI.of (g := up (up g2 117 47 1) 117 48 0) (b := b) V3 (by omega) (by rw [f3 127 b rfl]; omega) (Or.inr (by simp [up_at]))
      have k1 : okM (up (up g2 117 47 1) 117 48 0) (stpM (up (up g2 117 47 1) 117 48 0)) = okM g (stpM g) := by rw [stpM_fr f3 rfl, okM_fr f3 rfl]
      have k3 : tuM (up (up g2 117 47 1) 117 48 0) = tuM g := by funext i; unfold tuM; rw [f3.cell (k := 144) (fun _ => rfl)]
      have k4 : (up (up g2 117 47 1) 117 48 0) 118 = g 118 := f3.cell (fun _ => rfl)
      have k5 : (up (up g2 117 47 1) 117 48 0) 119 = g 119 := f3.cell (fun _ => rfl)
      rw [k1, k3, k4, k5, hwF_fr f3 rfl, f3 127 b rfl, vb.2.2.2] at hm
      obtain ⟨g3, e3, f4, q3⟩ := M_led_s (a := a) (c := c) (by omega) (by omega) tm [] hm
      have q4 := q3.2 (by simp [up_at])
      have f5 : FR [(147, 0), (148, 0), (117, 49), (117, 48)] g2 (up g3 117 47 0) := Fr.up ((show FR [(147, 0), (148, 0), (117, 49), (117, 48)] g2 (up (up g2 117 47 1) 117 48 0) from Fr.up (Fr.up Fr.rf rfl) rfl).tr (f4.mo rfl)) rfl
      have z0 : g2 117 47 = 0 := by rw [f2 117 47 rfl]; exact hf
      refine ⟨up g3 117 47 0, ?_, ?_⟩
      · have q1 : g2 117 12 = g 117 12 := f2 117 12 rfl
        have c1 : ¬ nw (M_isBoat b g2) = 0 := by rw [M_isBoat0 (by omega) (by omega) (by omega) (by omega)]; omega
        have c2 : ¬ nw (M_isPoint a) = 0 := by clear c1; rw [isPoint0 (by omega) (by omega)]; omega
        have c3 : ¬ nw (M_isPoint c) = 0 := by clear c1 c2; rw [isPoint0 (by omega) (by omega)]; omega
        have c4 : ¬ nw (M_isTime x4) = 0 := by clear c1 c2 c3; rw [isTime0 (by omega) (by omega)]; omega
        unfold M_harm
        rw [if_neg c1, if_neg c2, if_neg c3, if_neg c4, sb, sb, e3, sb, sb, sb]
        dsimp only
        have lt := lok.1
        unfold TmOk at lt
        have z1 : (up g3 117 47 0) 117 48 = wsF (hwF g b) (ledF (okM g (stpM g)) (tuM g) (g 118) (g 119) (laF (g 51 b)) a c (x4, [])).2 := by
          simp only [up_at, and_self, if_true, wsF] at q4
          simp only [up_at, Nat.reduceEqDiff, and_false, if_false]
          omega
        rw [z1]
        clear c1 c2 c3 c4
        congr 2
        generalize (ledF (okM g (stpM g)) (tuM g) (g 118) (g 119) (laF (g 51 b)) a c (x4, [])).1 = L at lt
        by_cases e : L = -1
        · subst e; rw [nw_m1]
        · have e2 : ¬ nw L = -1 := by rw [nw_id (by omega) (by omega)]; exact e
          rw [if_neg e, if_neg e2]
      · exact FR.drop (k0 := 117) (i0 := 47) (f5.mo rfl) (by rw [z0]; simp [up_at])
    by_cases eL : (ledF (okM g (stpM g)) (tuM g) (g 118) (g 119) (laF (g 51 b)) a c (x4, [])).1 = -1
    · obtain ⟨g3, e3, f3⟩ := refM g1 (f1.mo rfl)
      rw [eL] at e1
      rw [if_pos eL] at e3
      have eX : X_harm b a c x4 g = some (-1, g1) := by
        unfold X_harm
        clear lok
        simp (disch := omega) only [nw_id, ix_id, sb, if_true, if_false, if_pos, if_neg, true_and, and_true, false_and, and_false, and_self, X_isWay0, Int.toNat_natCast, e1]
      exact ⟨_, _, eX, e3, rfl, (f1.mo rfl).tr (f3.mo rfl)⟩
    · have lt := lok.1
      unfold TmOk at lt
      have V1 := V.fr f1 rfl
      obtain ⟨r, g2, e2, f2, q2⟩ := X_harmWay_s (b := b) (W := hwF g b) (ct := fun d => ctF d (ledF (okM g (stpM g)) (tuM g) (g 118) (g 119) (laF (g 51 b)) a c (x4, [])).2) (by omega) (fun d hd => by have := ct_rng (d := (d : Int)) (ledF (okM g (stpM g)) (tuM g) (g 118) (g 119) (laF (g 51 b)) a c (x4, [])).2; have := lok.2.2; simp at this; omega) 14 0 0 g1 (by omega) V1.2.1 (fun j hj => by rw [f1 124 j rfl, f1 125 j rfl, f1 126 j rfl, f1 127 j rfl, f1 48 j rfl, f1 49 j rfl, f1 50 j rfl, f1 51 j rfl]; exact bv j hj) V1.2.2.2.2 (hwF_fr f1 rfl) ct1
      have fT : FR [(5, 7), (5, 8), (47, 0), (27, 0), (28, 0)] g g2 := (f1.mo rfl).tr (f2.mo rfl)
      obtain ⟨g3, e3, f3⟩ := refM g2 fT
      rw [if_neg eL] at e3
      have eX : X_harm b a c x4 g = some (r, g2) := by
        unfold X_harm Boats_harmOfLatestWay
        have c9 : ¬ nw (ledF (okM g (stpM g)) (tuM g) (g 118) (g 119) (laF (g 51 b)) a c (x4, [])).1 = -1 := by
          clear refM q2
          rw [nw_id (by omega) (by omega)]; exact eL
        have c1 : ¬ nw (X_isWay b a c x4 g) = 0 := by clear c9 q2; rw [X_isWay0 (by omega) (by omega) (by omega) (by omega) (by omega) (by omega) (by omega) (by omega) (by omega) (by omega)]; omega
        have c2 : 0 ≤ nw (b : Int) ∧ nw (b : Int) < 10 := by clear c9 c1 q2; rw [nw_id (by omega) (by omega)]; omega
        have c3 : ix (b : Int) = b := by clear c9 c1 c2 q2; rw [ix_id (by omega) (by omega), Int.toNat_natCast]
        rw [show ((0 : Nat) : Int) = (0 : Int) from rfl] at e2
        rw [if_neg c1, if_pos c2, c3, e1, sb, if_neg c9, e2, sb, sb]
      refine ⟨_, _, eX, e3, ?_, fT.mo rfl |>.tr (f3.mo rfl)⟩
      dsimp only
      rw [q2, ct_sum _ lok.2.1]
      show nw (0 + (_ - 0)) = _
      rw [Int.sub_zero, Int.zero_add]
  · have eX : X_harm x1 x2 x3 x4 g = some (-1, g) := by
      unfold X_harm
      simp (disch := omega) only [nw_id, ix_id, sb, if_true, if_false, if_pos, if_neg, true_and, and_true, false_and, and_false, and_self, X_isWay0]
    have eM : M_harm x1 x2 x3 x4 g = some (-1, g) := by
      unfold M_harm
      revert h
      simp (disch := omega) only [nw_id, ix_id, M_isBoat0, isPoint0, isTime0]
      intro h
      by_cases c1 : x1 < 0 ∨ g 117 12 - 1 < x1
      · rw [if_pos c1]
      · rw [if_neg c1]
        by_cases c2 : x2 < 0 ∨ 15 < x2
        · rw [if_pos c2]
        · rw [if_neg c2]
          by_cases c3 : x3 < 0 ∨ 15 < x3
          · rw [if_pos c3]
          · rw [if_neg c3, if_pos (by omega)]
    exact ⟨_, _, eX, eM, rfl, Fr.rf⟩
end
section
/-! plain programs: enough, late, rung -/
def ehF (ld : Int → Int → Int) (t due : Int) : Nat → Nat → Int
  | 0, _ => -1
  | n + 1, m => if 20159 < t + m then -1 else if ¬ ld m (t + m) = -1 ∧ ld m (t + m) ≤ due then (m : Int) else ehF ld t due n (m + 1)
theorem X_enough_b_s {a c : Nat} {t due : Int} (ha : a ≤ 15) (hc : c ≤ 15) (ht : 0 ≤ t ∧ t ≤ 20159) (hd : 0 ≤ due ∧ due ≤ 20159) : ∀ (n m : Nat) (g : AG), n + m = 61 → JV g → ∃ g', X_enough_b a c t due 1 m g = some (ehF (fun ta t => ldM g ta a c t) t due n m, g') ∧ FR WV g g' := by
  intro n
  induction n with
  | zero =>
    intro m g h V
    refine ⟨g, ?_, Fr.rf⟩
    rw [X_enough_b]
    simp (disch := omega) only [nw_id, ix_id, sb, if_true, if_false, if_pos, if_neg, true_and, and_true, false_and, and_false, and_self]
    rfl
  | succ n ih =>
    intro m g h V
    rw [X_enough_b]
    unfold ehF
    by_cases c1 : 20159 < t + m
    · simp (disch := omega) only [nw_id, ix_id, sb, if_true, if_false, if_pos, if_neg, true_and, and_true, false_and, and_false, and_self, isTimeX0, or_true]
      exact ⟨g, rfl, Fr.rf⟩
    · obtain ⟨g1, e1, f1⟩ := X_comesTo1 (a := a) (c := c) (ta := (m : Int)) (t := t + m) V ha hc (by omega) (Or.inr (by omega))
      have lt := ldM_tm (g := g) (a := a) (c := c) (ta := (m : Int)) (t := t + m) V ha hc (by omega) (Or.inr (by omega))
      unfold TmOk at lt
      obtain ⟨g2, e2, f2⟩ := ih (m + 1) g1 (by omega) (V.fr f1 rfl)
      have e3 : X_enough_b a c t due 2 m g1 = some (ehF (fun ta t => ldM g ta a c t) t due n (m + 1), g2) := by
        rw [X_enough_b, if_neg (by decide), if_pos rfl, ← ldM_fr f1 rfl, ← e2]
        rfl
      generalize ldM g m a c (t + m) = L at e1 lt ⊢
      simp (disch := omega) only [nw_id, ix_id, sb, if_true, if_false, if_pos, if_neg, true_and, and_true, false_and, and_false, and_self, isTimeX0, e1]
      by_cases c2 : L = -1
      · simp (disch := omega) only [nw_id, ix_id, sb, if_true, if_false, if_pos, if_neg, true_and, and_true, false_and, and_false, and_self, e3, not_true]
        exact ⟨g2, rfl, f1.tr f2⟩
      · have c3 : 0 ≤ L ∧ L ≤ 20159 := by omega
        clear lt
        by_cases c4 : due < L
        · simp (disch := omega) only [nw_id, ix_id, sb, if_true, if_false, if_pos, if_neg, true_and, and_true, false_and, and_false, and_self, e3, not_false_eq_true]
          exact ⟨g2, rfl, f1.tr f2⟩
        · simp (disch := omega) only [nw_id, ix_id, sb, if_true, if_false, if_pos, if_neg, true_and, and_true, false_and, and_false, and_self, not_false_eq_true]
          exact ⟨g1, rfl, f1⟩
theorem M_enough_b_s {b a c : Nat} {t due own : Int} (hb : b < 10) (ha : a ≤ 15) (hc : c ≤ 15) (ht : 0 ≤ t ∧ t ≤ 20159) (hd : 0 ≤ due ∧ due ≤ 20159) : ∀ (n m : Nat) (g : AG), n + m = 61 → JV g → JFlag g → ∃ g', M_enough_b b a c t due own 1 (-1) m g = some (ehF (fun ta t => ldM g ta a c t) t due n m, g') ∧ FR [(127, 0), (147, 0), (148, 0), (117, 49)] g g' ∧ (∀ i : Nat, g' 127 i = if i = b then own else g 127 i) := by
  have fin : ∀ (r : Int) (m : Int) (g : AG), M_enough_b b a c t due own 2 r m g = some (r, up g 127 b own) := by
    intro r m g
    rw [M_enough_b]
    simp (disch := omega) only [nw_id, ix_id, sb, if_true, if_false, if_pos, if_neg, true_and, and_true, false_and, and_false, and_self, Int.toNat_natCast]
  have fine : ∀ g : AG, FR [(127, 0), (147, 0), (148, 0), (117, 49)] g (up g 127 b own) ∧ (∀ i : Nat, (up g 127 b own) 127 i = if i = b then own else g 127 i) := fun g => ⟨Fr.up Fr.rf rfl, fun i => by simp [up_at]⟩
  -- once found, the loop ends
  have found : ∀ (r : Int) (m : Nat) (g : AG), 0 ≤ r → r ≤ 60 → m ≤ 61 → M_enough_b b a c t due own 1 r m g = some (r, up g 127 b own) := by
    intro r m g h0 h1 h2
    rw [M_enough_b, if_pos rfl, fin]
    have c1 : ¬ nw r = -1 := by rw [nw_id (by omega) (by omega)]; omega
    rw [if_neg c1]
    split
    · rfl
    · split <;> rfl
  intro n
  induction n with
  | zero =>
    intro m g h V hf
    refine ⟨_, ?_, fine g⟩
    rw [M_enough_b, fin]
    clear fin fine found
    simp (disch := omega) only [nw_id, ix_id, sb, if_true, if_false, if_pos, if_neg, true_and, and_true, false_and, and_false, and_self]
    rfl
  | succ n ih =>
    intro m g h V hf
    unfold ehF
    by_cases c1 : 20159 < t + m
    · refine ⟨_, ?_, fine g⟩
      rw [M_enough_b, fin]
      clear fin fine found ih
      simp (disch := omega) only [nw_id, ix_id, sb, if_true, if_false, if_pos, if_neg, true_and, and_true, false_and, and_false, and_self]
    · have f0 : FR [(127, 0)] g (up g 127 b m) := Fr.up Fr.rf rfl
      have h127 : (up g 127 b m) 127 b = m := by simp [up_at]
      obtain ⟨g1, e1, f1⟩ := M_led1 (b := b) (a := a) (c := c) (t := t + m) (g := up g 127 b m) (V.fr f0 rfl) (by unfold JFlag; rw [f0 117 47 rfl]; exact hf) hb ha hc (by rw [h127]; omega) (Or.inr (by omega))
      have lt := ldM_tm (g := g) (a := a) (c := c) (ta := (m : Int)) (t := t + m) V ha hc (by omega) (Or.inr (by omega))
      unfold TmOk at lt
      rw [h127, ldM_fr f0 rfl] at e1
      have f2 : FR [(127, 0), (147, 0), (148, 0), (117, 49)] g g1 := (f0.mo rfl).tr (f1.mo rfl)
      obtain ⟨g2, e2, f3, q2⟩ := ih (m + 1) g1 (by omega) (V.fr f2 rfl) (by unfold JFlag; rw [f2 117 47 rfl]; exact hf)
      rw [ldM_fr f2 rfl] at e2
      have q1 : ∀ i : Nat, i ≠ b → g1 127 i = g 127 i := by
        intro i hi
        rw [f1 127 i rfl]
        simp [up_at, hi]
      rw [M_enough_b, fin]
      rw [show ((m + 1 : Nat) : Int) = (m : Int) + 1 from rfl] at e2
      have found1 := fun r => found r (m + 1) g1
      clear fin found ih
      generalize ldM g m a c (t + m) = L at e1 lt ⊢
      have d1 : ¬ 60 < nw (m : Int) := by clear found1 fine; rw [nw_id (by omega) (by omega)]; omega
      have d2 : ¬ 20159 < nw (t + (m : Int)) := by clear d1 found1 fine; rw [nw_id (by omega) (by omega)]; omega
      have d3 : 0 ≤ nw (b : Int) ∧ nw (b : Int) < 10 := by clear d1 d2 found1 fine; rw [nw_id (by omega) (by omega)]; omega
      have d4 : ix (b : Int) = b := by clear d1 d2 d3 found1 fine; rw [ix_id (by omega) (by omega), Int.toNat_natCast]
      rw [if_pos rfl, if_neg d1, if_neg d2, nw_m1, if_pos rfl, if_pos d3, d4, sb, e1, sb, sb]
      clear d1 d2 d3 d4
      dsimp only
      by_cases c2 : L = -1
      · subst c2
        rw [nw_m1, if_pos rfl, if_neg c1, if_neg (fun z => z.1 rfl)]
        refine ⟨g2, e2, f2.tr f3, fun i => ?_⟩
        rw [q2 i]
        by_cases z : i = b
        · rw [if_pos z, if_pos z]
        · rw [if_neg z, if_neg z, q1 i z]
      · have c3 : 0 ≤ L ∧ L ≤ 20159 := by omega
        clear lt
        have d5 : nw L = L := by clear found1 fine; exact nw_id (by omega) (by omega)
        have d6 : nw due = due := by clear d5 found1 fine; exact nw_id (by omega) (by omega)
        rw [d5, d6, if_neg c2, if_neg c1]
        clear d5 d6
        by_cases c4 : due < L
        · rw [if_pos c4, if_neg (fun z => by have := z.2; omega)]
          refine ⟨g2, e2, f2.tr f3, fun i => ?_⟩
          rw [q2 i]
          by_cases z : i = b
          · rw [if_pos z, if_pos z]
          · rw [if_neg z, if_neg z, q1 i z]
        · rw [if_neg c4, if_pos ⟨c2, by omega⟩]
          refine ⟨up g1 127 b own, found1 m (by omega) (by omega) (by omega), f2.tr (fine g1).1, fun i => ?_⟩
          rw [(fine g1).2 i]
          by_cases z : i = b
          · rw [if_pos z, if_pos z]
          · rw [if_neg z, if_neg z, q1 i z]
theorem sm_enough {x1 x2 x3 x4 x5 : Int} {g : AG} (h1 : I32 x1) (h2 : I32 x2) (h3 : I32 x3) (h4 : I32 x4) (h5 : I32 x5) (V : JV g) (B : JBoat g) (hf : JFlag g) :
    ∃ r1 r2, X_enough x1 x2 x3 x4 x5 g = some r1 ∧ M_enough x1 x2 x3 x4 x5 r1.2 = some r2 ∧ nw r1.1 = nw r2.1 ∧ FR SCV g r2.2 := by
  unfold I32 at *
  obtain ⟨⟨b1, b2, b3⟩, bv, bs⟩ := B
  by_cases h : 0 ≤ x1 ∧ x1 < g 6 7 ∧ 0 ≤ x2 ∧ x2 ≤ 15 ∧ 0 ≤ x3 ∧ x3 ≤ 15 ∧ 0 ≤ x4 ∧ x4 ≤ 20159 ∧ 0 ≤ x5 ∧ x5 ≤ 20159
  · obtain ⟨b, rfl⟩ := natOf h.1
    obtain ⟨a, rfl⟩ := natOf h.2.2.1
    obtain ⟨c, rfl⟩ := natOf h.2.2.2.2.1
    obtain ⟨g1, e1, f1⟩ := X_enough_b_s (a := a) (c := c) (t := x4) (due := x5) (by omega) (by omega) (by omega) (by omega) 61 0 g (by omega) V
    have eX : X_enough b a c x4 x5 g = some (ehF (fun ta t => ldM g ta a c t) x4 x5 61 0, g1) := by
      unfold X_enough
      simp (disch := omega) only [nw_id, ix_id, sb, if_true, if_false, if_pos, if_neg, true_and, and_true, false_and, and_false, and_self, X_isWay0, isTimeX0]
      exact e1
    obtain ⟨g2, e2, f2, q2⟩ := M_enough_b_s (b := b) (a := a) (c := c) (t := x4) (due := x5) (own := g1 127 b) (by omega) (by omega) (by omega) (by omega) (by omega) 61 0 g1 (by omega) (V.fr f1 rfl) (by unfold JFlag; rw [f1 117 47 rfl]; exact hf)
    rw [ldM_fr f1 rfl] at e2
    have q1 : g1 117 12 = g 117 12 := f1 117 12 rfl
    have eM : M_enough b a c x4 x5 g1 = some (ehF (fun ta t => ldM g ta a c t) x4 x5 61 0, g2) := by
      unfold M_enough
      simp (disch := omega) only [nw_id, ix_id, sb, if_true, if_false, if_pos, if_neg, true_and, and_true, false_and, and_false, and_self, M_isBoat0, isPoint0, isTime0, Int.toNat_natCast]
      exact e2
    have f3 : FR [(147, 0), (148, 0), (117, 49)] g1 g2 := FR.dropC (k0 := 127) (f2.mo rfl) (funext fun i => by
      rw [q2 i]
      by_cases z : i = b
      · rw [if_pos z, z]
      · rw [if_neg z])
    exact ⟨_, _, eX, eM, rfl, (f1.mo rfl).tr (f3.mo rfl)⟩
  · have eX : X_enough x1 x2 x3 x4 x5 g = some (-1, g) := by
      unfold X_enough
      revert h
      simp (disch := omega) only [nw_id, ix_id, X_isWay0, isTimeX0]
      intro h
      ((repeat (first | (split; · with_reducible rfl) | (split; rotate_left 1; · with_reducible rfl))) <;> first | with_reducible rfl | (refine absurd ?_ h; clear h; (repeat' apply And.intro) <;> omega) | omega | ((repeat' split) <;> first | rfl | omega))
    have eM : M_enough x1 x2 x3 x4 x5 g = some (-1, g) := by
      unfold M_enough
      generalize M_enough_b x1 x2 x3 x4 x5 (g 127 (ix x1)) 1 (-1) 0 g = big
      revert h
      simp (disch := omega) only [nw_id, ix_id, M_isBoat0, isPoint0, isTime0]
      intro h
      ((repeat (first | (split; · with_reducible rfl) | (split; rotate_left 1; · with_reducible rfl))) <;> first | with_reducible rfl | (refine absurd ?_ h; clear h; (repeat' apply And.intro) <;> omega) | omega | ((repeat' split) <;> first | rfl | omega))
    exact ⟨_, _, eX, eM, rfl, Fr.rf⟩
end
section
/-! plain programs: late, rung -/
def ltV (L due : Int) : Int := if L = -1 then 20160 else if L ≤ due then 0 else L - due
def ltM (g : AG) (k : Nat) : Int := ltV (ldM g (g 127 (g 149 k).toNat) (g 150 k).toNat (g 151 k).toNat (g 152 k)) (g 153 k)
theorem ltM_fr {W : Reg} {g g' : AG} (f : FR W g g') (d : djR [(117, 11), (117, 12), (121, 0), (122, 0), (123, 0), (2, 4), (128, 0), (129, 0), (130, 0), (132, 0), (133, 0), (134, 0), (142, 0), (144, 0), (118, 0), (119, 0)] W = true) (d2 : djR [(127, 0), (149, 0), (150, 0), (151, 0), (152, 0), (153, 0)] W = true) : ltM g' = ltM g := by
  have c := f.cg d2
  have c0 : g' 127 = g 127 := funext fun i => c 127 i rfl
  funext k
  unfold ltM
  rw [ldM_fr f d, c0, c 149 k rfl, c 150 k rfl, c 151 k rfl, c 152 k rfl, c 153 k rfl]
/-- what stands, for trips -/
def JT (g : AG) : Prop := JV g ∧ JBoat g ∧ JTrip g
theorem JT.fr {W : Reg} {g g' : AG} (h : JT g) (f : FR W g g') (d : djR (RWay ++ (RRule ++ (RHour ++ (RStop ++ RWat)))) W = true) (d2 : djR RBoat W = true) (d3 : djR RTrip W = true) : JT g' := ⟨h.1.fr f d, h.2.1.cg (f.cg d2), h.2.2.cg (f.cg d3)⟩
theorem JT.row {g : AG} (h : JT g) {k : Nat} (hk : (k : Int) < g 7 8) : ∃ b a c : Nat, g 76 k = b ∧ g 77 k = a ∧ g 78 k = c ∧ g 149 k = b ∧ g 150 k = a ∧ g 151 k = c ∧ g 152 k = g 79 k ∧ g 153 k = g 80 k ∧ b < 10 ∧ (b : Int) < g 6 7 ∧ a ≤ 15 ∧ c ≤ 15 ∧ (0 ≤ g 79 k ∧ g 79 k ≤ 20159) ∧ (0 ≤ g 80 k ∧ g 80 k ≤ 20159) ∧ g 127 b = g 51 b ∧ (0 ≤ g 51 b ∧ g 51 b ≤ 60) ∧ k < 20 := by
  obtain ⟨V, ⟨⟨b1, b2, b3⟩, bv, bs⟩, ⟨t1, t2, t3⟩, t4, t5⟩ := h
  have e := t4 k (by omega)
  have r := t5 k hk
  obtain ⟨b, hb⟩ := natOf r.1.1
  obtain ⟨a, ha⟩ := natOf r.2.1.1
  obtain ⟨c, hc⟩ := natOf r.2.2.1.1
  have vb := bv b (by omega)
  have sb' := bs b (by omega)
  exact ⟨b, a, c, hb, ha, hc, by omega, by omega, by omega, by omega, by omega, by omega, by omega, by omega, by omega, by omega, by omega, vb.2.2.2, sb'.2.2.2, by omega⟩
theorem M_lateOf_s {k : Nat} {g : AG} (T : JT g) (hf : JFlag g) (hk : (k : Int) < g 7 8) : ∃ g', M_lateOf k g = some (ltM g k, g') ∧ FR WM g g' := by
  obtain ⟨b, a, c, e1, e2, e3, e4, e5, e6, e7, e8, hb, hb2, ha, hc, ht, hd, hta, hr, hk20⟩ := T.row hk
  obtain ⟨g1, r1, f1⟩ := M_led1 (b := b) (a := a) (c := c) (t := g 79 k) (g := g) T.1 hf hb ha hc (by rw [hta]; exact hr) (Or.inr ht)
  have lt := ldM_tm (g := g) (a := a) (c := c) (ta := g 127 b) (t := g 79 k) T.1 ha hc (by rw [hta]; exact hr) (Or.inr ht)
  unfold TmOk at lt
  refine ⟨g1, ?_, f1⟩
  have q1 : g1 153 k = g 80 k := by rw [f1 153 k rfl, e8]
  unfold M_lateOf ltM ltV
  rw [e4, e5, e6, e7, e8, Int.toNat_natCast, Int.toNat_natCast, Int.toNat_natCast]
  generalize ldM g (g 127 b) a c (g 79 k) = L at r1 lt ⊢
  clear e1 e2 e3
  by_cases c1 : L = -1
  · subst c1
    clear lt
    simp (disch := omega) only [nw_id, ix_id, sb, if_true, if_false, if_pos, if_neg, true_and, and_true, false_and, and_false, and_self, Int.toNat_natCast, e4, e5, e6, e7, r1]
  · have c2 : 0 ≤ L ∧ L ≤ 20159 := by omega
    clear lt
    by_cases c3 : L ≤ g 80 k
    · simp (disch := omega) only [nw_id, ix_id, sb, if_true, if_false, if_pos, if_neg, true_and, and_true, false_and, and_false, and_self, Int.toNat_natCast, e4, e5, e6, e7, r1, q1]
    · simp (disch := omega) only [nw_id, ix_id, sb, if_true, if_false, if_pos, if_neg, true_and, and_true, false_and, and_false, and_self, Int.toNat_natCast, e4, e5, e6, e7, r1, q1]
/-- the canal without stoppages -/
def ldZ (g : AG) (ta : Int) (a c : Nat) (t : Int) : Int := (ledF (okM g (fun _ _ => false)) (tuM g) (g 118) (g 119) (laF ta) a c (t, [])).1
theorem ldZ_eq {g : AG} : ldM (up g 117 11 0) = ldZ g := by
  have f : FR [(117, 12)] g (up g 117 11 0) := Fr.up Fr.rf rfl
  have s1 : stpM (up g 117 11 0) = fun _ _ => false := by
    funext i d
    unfold stpM
    rw [show (up g 117 11 0) 117 11 = 0 by simp [up_at]]
    rfl
  funext ta a c t
  unfold ldM ldZ
  rw [s1, okM_fr f rfl, f.cell (k := 118) (fun _ => rfl), f.cell (k := 119) (fun _ => rfl)]
  have s3 : tuM (up g 117 11 0) = tuM g := by funext i; unfold tuM; rw [f.cell (k := 144) (fun _ => rfl)]
  rw [s3]
theorem ldZ_fr {W : Reg} {g g' : AG} (f : FR W g g') (d : djR [(117, 11), (2, 4), (128, 0), (129, 0), (130, 0), (132, 0), (133, 0), (134, 0), (142, 0), (144, 0)] W = true) (d2 : djR [(118, 0), (119, 0), (144, 0)] W = true) : ldZ g' = ldZ g := by
  have c := f.cg d2
  have c1 : g' 118 = g 118 := funext fun i => c 118 i rfl
  have c2 : g' 119 = g 119 := funext fun i => c 119 i rfl
  have c3 : g' 144 = g 144 := funext fun i => c 144 i rfl
  funext ta a c t
  unfold ldZ
  rw [okM_fr f d, c1, c2]
  have s3 : tuM g' = tuM g := by funext i; unfold tuM; rw [c3]
  rw [s3]
theorem ldZ_tm {a c : Nat} {ta t : Int} {g : AG} (V : JV g) (ha : a ≤ 15) (hc : c ≤ 15) (ht : 0 ≤ ta ∧ ta ≤ 60) (htm : TmOk t) : TmOk (ldZ g ta a c t) := by
  have v1 := V.1
  exact (ledF_ok (ok := okM g (fun _ _ => false)) (tu := tuM g) (mi := g 118) (lk := g 119) (lasts := laF ta) (by unfold laF; omega) (fun i hi => (v1 i hi).2.2.2.1) (fun i hi => ⟨(v1 i hi).2.2.2.2.2.1, (v1 i hi).2.2.2.2.2.2.1⟩) (p := (t, [])) ha hc htm (by intro d hd; cases hd)).1
def ltZ (g : AG) (k : Nat) : Int := ltV (ldZ g (g 127 (g 149 k).toNat) (g 150 k).toNat (g 151 k).toNat (g 152 k)) (g 153 k)
theorem X_lateBy_s {k : Nat} {hd : Int} {g : AG} (T : JT g) (hk : (k : Int) < g 7 8) (hh : hd = 0 ∨ hd = 1) : ∃ g', Trips_lateBy k hd g = some (if hd = 1 then ltM g k else ltZ g k, g') ∧ FR WV g g' := by
  obtain ⟨b, a, c, e1, e2, e3, e4, e5, e6, e7, e8, hb, hb2, ha, hc, ht, hd2, hta, hr, hk20⟩ := T.row hk
  obtain ⟨g1, r1, f1, _⟩ := X_comesTo_s (a := a) (c := c) (ta := g 51 b) (t := g 79 k) (hd := hd) (g := g) T.1 ha hc hr hh (Or.inr ht)
  have q1 : g1 80 k = g 80 k := f1 80 k rfl
  have key : ∀ L : Int, TmOk L → Voyage_comesTo (g 51 b) a c (g 79 k) hd g = some (L, g1) → Trips_lateBy k hd g = some (ltV L (g 153 k), g1) := by
    intro L lt r
    unfold TmOk at lt
    unfold Trips_lateBy ltV
    rw [e8]
    clear r1 e4 e5 e6 e7 e8
    by_cases c1 : L = -1
    · subst c1
      clear lt
      simp (disch := omega) only [nw_id, ix_id, sb, if_true, if_false, if_pos, if_neg, true_and, and_true, false_and, and_false, and_self, Int.toNat_natCast, e1, e2, e3, r]
    · have c2 : 0 ≤ L ∧ L ≤ 20159 := by omega
      clear lt
      by_cases c3 : L ≤ g 80 k
      · simp (disch := omega) only [nw_id, ix_id, sb, if_true, if_false, if_pos, if_neg, true_and, and_true, false_and, and_false, and_self, Int.toNat_natCast, e1, e2, e3, r, q1, mxI_s]
        congr 2
        omega
      · simp (disch := omega) only [nw_id, ix_id, sb, if_true, if_false, if_pos, if_neg, true_and, and_true, false_and, and_false, and_self, Int.toNat_natCast, e1, e2, e3, r, q1, mxI_s]
        congr 2
        omega
  refine ⟨g1, ?_, f1⟩
  rcases hh with e | e
  · subst e
    rw [if_neg (by decide)] at r1 ⊢
    have := key _ (ldZ_tm (g := g) (a := a) (c := c) (ta := g 51 b) (t := g 79 k) T.1 ha hc hr (Or.inr ht)) r1
    rw [this]
    unfold ltZ
    rw [e4, e5, e6, e7, Int.toNat_natCast, Int.toNat_natCast, Int.toNat_natCast, hta]
  · subst e
    rw [if_pos rfl] at r1 ⊢
    have := key _ (ldM_tm (g := g) (a := a) (c := c) (ta := g 51 b) (t := g 79 k) T.1 ha hc hr (Or.inr ht)) r1
    rw [this]
    unfold ltM
    rw [e4, e5, e6, e7, Int.toNat_natCast, Int.toNat_natCast, Int.toNat_natCast, hta]
theorem ltV_rng {L d : Int} (h : TmOk L) (hd : 0 ≤ d) : 0 ≤ ltV L d ∧ ltV L d ≤ 20160 := by
  unfold TmOk at h
  unfold ltV
  split
  · omega
  · split <;> omega
theorem ltM_rng {g : AG} {k : Nat} (T : JT g) (hk : (k : Int) < g 7 8) : 0 ≤ ltM g k ∧ ltM g k ≤ 20160 := by
  obtain ⟨b, a, c, e1, e2, e3, e4, e5, e6, e7, e8, hb, hb2, ha, hc, ht, hd2, hta, hr, hk20⟩ := T.row hk
  unfold ltM
  rw [e4, e5, e6, e7, e8, Int.toNat_natCast, Int.toNat_natCast, Int.toNat_natCast, hta]
  exact ltV_rng (ldM_tm T.1 ha hc hr (Or.inr ht)) hd2.1
theorem ltZ_rng {g : AG} {k : Nat} (T : JT g) (hk : (k : Int) < g 7 8) : 0 ≤ ltZ g k ∧ ltZ g k ≤ 20160 := by
  obtain ⟨b, a, c, e1, e2, e3, e4, e5, e6, e7, e8, hb, hb2, ha, hc, ht, hd2, hta, hr, hk20⟩ := T.row hk
  unfold ltZ
  rw [e4, e5, e6, e7, e8, Int.toNat_natCast, Int.toNat_natCast, Int.toNat_natCast, hta]
  exact ltV_rng (ldZ_tm T.1 ha hc hr (Or.inr ht)) hd2.1
def ctL (lt : Nat → Int) : Nat → Nat → Int → Int
  | 0, _, acc => acc
  | n + 1, k, acc => ctL lt n (k + 1) (acc + if 0 < lt k then 1 else 0)
theorem X_many_s : ∀ (n k : Nat) (acc : Int) (g : AG), JT g → ((k + n : Nat) : Int) = g 7 8 → 0 ≤ acc → acc ≤ k → ∃ g', Trips_howManyLate_b acc k g = some (ctL (ltM g) n k acc, g') ∧ FR WV g g' := by
  intro n
  induction n with
  | zero =>
    intro k acc g T h h0 h1
    have := T.2.2.1
    refine ⟨g, ?_, Fr.rf⟩
    rw [Trips_howManyLate_b]
    simp (disch := omega) only [nw_id, ix_id, sb, if_true, if_false, if_pos, if_neg, true_and, and_true, false_and, and_false, and_self]
    rfl
  | succ n ih =>
    intro k acc g T h h0 h1
    have t1 := T.2.2.1
    have lr := ltM_rng T (k := k) (by omega)
    obtain ⟨g1, e1, f1⟩ := X_lateBy_s (k := k) (hd := 1) T (by omega) (Or.inr rfl)
    rw [if_pos rfl] at e1
    have q1 : g1 7 8 = g 7 8 := f1 7 8 rfl
    obtain ⟨g2, e2, f2⟩ := ih (k + 1) (acc + if 0 < ltM g k then 1 else 0) g1 (T.fr f1 rfl rfl rfl) (by omega) (by split <;> omega) (by split <;> omega)
    rw [ltM_fr f1 rfl rfl, show ((k + 1 : Nat) : Int) = (k : Int) + 1 from rfl] at e2
    refine ⟨g2, ?_, f1.tr f2⟩
    unfold ctL
    rw [← e2, Trips_howManyLate_b]
    generalize ltM g k = L at e1 lr ⊢
    by_cases c : L ≤ 0
    · simp (disch := omega) only [nw_id, ix_id, sb, if_true, if_false, if_pos, if_neg, true_and, and_true, false_and, and_false, and_self, e1, Int.add_zero]
    · simp (disch := omega) only [nw_id, ix_id, sb, if_true, if_false, if_pos, if_neg, true_and, and_true, false_and, and_false, and_self, e1]
theorem M_many_s : ∀ (n k : Nat) (acc : Int) (g : AG), JT g → JFlag g → ((k + n : Nat) : Int) = g 7 8 → 0 ≤ acc → acc ≤ k → ∃ g', M_late_b acc k g = some (ctL (ltM g) n k acc, g') ∧ FR WM g g' := by
  intro n
  induction n with
  | zero =>
    intro k acc g T hf h h0 h1
    have := T.2.2.1
    refine ⟨g, ?_, Fr.rf⟩
    rw [M_late_b]
    simp (disch := omega) only [nw_id, ix_id, sb, if_true, if_false, if_pos, if_neg, true_and, and_true, false_and, and_false, and_self]
    rfl
  | succ n ih =>
    intro k acc g T hf h h0 h1
    have t1 := T.2.2.1
    have lr := ltM_rng T (k := k) (by omega)
    obtain ⟨g1, e1, f1⟩ := M_lateOf_s (k := k) T hf (by omega)
    have q1 : g1 7 8 = g 7 8 := f1 7 8 rfl
    obtain ⟨g2, e2, f2⟩ := ih (k + 1) (acc + if 0 < ltM g k then 1 else 0) g1 (T.fr f1 rfl rfl rfl) (by unfold JFlag; rw [f1 117 47 rfl]; exact hf) (by omega) (by split <;> omega) (by split <;> omega)
    rw [ltM_fr f1 rfl rfl, show ((k + 1 : Nat) : Int) = (k : Int) + 1 from rfl] at e2
    refine ⟨g2, ?_, f1.tr f2⟩
    unfold ctL
    rw [← e2, M_late_b]
    generalize ltM g k = L at e1 lr ⊢
    by_cases c : L ≤ 0
    · simp (disch := omega) only [nw_id, ix_id, sb, if_true, if_false, if_pos, if_neg, true_and, and_true, false_and, and_false, and_self, e1, Int.add_zero]
    · simp (disch := omega) only [nw_id, ix_id, sb, if_true, if_false, if_pos, if_neg, true_and, and_true, false_and, and_false, and_self, e1]
theorem sm_late {x1 : Int} {g : AG} (h1 : I32 x1) (T : JT g) (hf : JFlag g) :
    ∃ r1 r2, X_late x1 g = some r1 ∧ M_late x1 r1.2 = some r2 ∧ nw r1.1 = nw r2.1 ∧ FR SCV g r2.2 := by
  unfold I32 at *
  have t1 := T.2.2.1
  by_cases e : x1 = -1
  · subst e
    obtain ⟨N, hN⟩ := natOf t1.2.1
    obtain ⟨g1, e1, f1⟩ := X_many_s N 0 0 g T (by omega) (by omega) (by omega)
    have q1 : g1 7 8 = g 7 8 := f1 7 8 rfl
    obtain ⟨g2, e2, f2⟩ := M_many_s N 0 0 g1 (T.fr f1 rfl rfl rfl) (by unfold JFlag; rw [f1 117 47 rfl]; exact hf) (by omega) (by omega) (by omega)
    rw [ltM_fr f1 rfl rfl] at e2
    refine ⟨(ctL (ltM g) N 0 0, g1), (ctL (ltM g) N 0 0, g2), ?_, ?_, rfl, (f1.mo rfl).tr (f2.mo rfl)⟩
    · unfold X_late Trips_howManyLate
      rw [nw_m1, if_pos rfl]
      rw [show ((0 : Nat) : Int) = (0 : Int) from rfl] at e1
      rw [e1, sb]
    · unfold M_late
      rw [nw_m1, if_pos rfl]
      exact e2
  · by_cases h : 0 ≤ x1 ∧ x1 < g 7 8
    · obtain ⟨k, rfl⟩ := natOf h.1
      obtain ⟨g1, e1, f1⟩ := X_lateBy_s (k := k) (hd := 1) T (by omega) (Or.inr rfl)
      rw [if_pos rfl] at e1
      have q1 : g1 7 8 = g 7 8 := f1 7 8 rfl
      have q2 : g1 117 49 = g 7 8 := by rw [f1 117 49 rfl]; exact t1.1
      obtain ⟨g2, e2, f2⟩ := M_lateOf_s (k := k) (T.fr f1 rfl rfl rfl) (by unfold JFlag; rw [f1 117 47 rfl]; exact hf) (by omega)
      rw [ltM_fr f1 rfl rfl] at e2
      refine ⟨(ltM g k, g1), (ltM g k, g2), ?_, ?_, rfl, (f1.mo rfl).tr (f2.mo rfl)⟩
      · unfold X_late
        simp (disch := omega) only [nw_id, ix_id, sb, if_true, if_false, if_pos, if_neg, true_and, and_true, false_and, and_false, and_self, within0, e1]
      · unfold M_late
        simp (disch := omega) only [nw_id, ix_id, sb, if_true, if_false, if_pos, if_neg, true_and, and_true, false_and, and_false, and_self, isIn0, q2, e2]
    · refine ⟨(-1, g), (-1, g), ?_, ?_, rfl, Fr.rf⟩
      · unfold X_late
        simp (disch := omega) only [nw_id, ix_id, sb, if_true, if_false, if_pos, if_neg, true_and, and_true, false_and, and_false, and_self, within0]
      · unfold M_late
        simp (disch := omega) only [nw_id, ix_id, sb, if_true, if_false, if_pos, if_neg, true_and, and_true, false_and, and_false, and_self, isIn0, t1.1]
def rgL (lt lz : Nat → Int) : Nat → Nat → Int → Int
  | 0, _, s => s
  | n + 1, k, s => rgL lt lz n (k + 1) (if 0 < lt k ∧ lz k = 0 then orI s (shlI 1 k) else s)
theorem X_rung_b_s : ∀ (n k : Nat) (s : Int) (g : AG), JT g → ((k + n : Nat) : Int) = g 7 8 → ∃ g', X_rung_b s k g = some (rgL (ltM g) (ltZ g) n k s, g') ∧ FR WV g g' := by
  intro n
  induction n with
  | zero =>
    intro k s g T h
    have := T.2.2.1
    refine ⟨g, ?_, Fr.rf⟩
    rw [X_rung_b]
    simp (disch := omega) only [nw_id, ix_id, sb, if_true, if_false, if_pos, if_neg, true_and, and_true, false_and, and_false, and_self]
    rfl
  | succ n ih =>
    intro k s g T h
    have t1 := T.2.2.1
    have lr := ltM_rng T (k := k) (by omega)
    have lz := ltZ_rng T (k := k) (by omega)
    obtain ⟨g1, e1, f1⟩ := X_lateBy_s (k := k) (hd := 1) T (by omega) (Or.inr rfl)
    rw [if_pos rfl] at e1
    have q1 : g1 7 8 = g 7 8 := f1 7 8 rfl
    have T1 := T.fr f1 rfl rfl rfl
    have zf : ltZ g1 = ltZ g := by
      funext k
      unfold ltZ
      rw [ldZ_fr f1 rfl rfl, f1.cell (k := 127) (fun _ => rfl), f1 149 k rfl, f1 150 k rfl, f1 151 k rfl, f1 152 k rfl, f1 153 k rfl]
    obtain ⟨g2, e2, f2⟩ := X_lateBy_s (k := k) (hd := 0) T1 (by omega) (Or.inl rfl)
    rw [if_neg (by decide), zf] at e2
    have f12 := f1.tr f2
    have T2 := T1.fr f2 rfl rfl rfl
    have zf2 : ltZ g2 = ltZ g := by
      funext k
      unfold ltZ
      rw [ldZ_fr f12 rfl rfl, f12.cell (k := 127) (fun _ => rfl), f12 149 k rfl, f12 150 k rfl, f12 151 k rfl, f12 152 k rfl, f12 153 k rfl]
    have q2 : g2 7 8 = g 7 8 := f12 7 8 rfl
    obtain ⟨g3, e3, f3⟩ := ih (k + 1) s g1 T1 (by omega)
    obtain ⟨g4, e4, f4⟩ := ih (k + 1) s g2 T2 (by omega)
    obtain ⟨g5, e5, f5⟩ := ih (k + 1) (orI s (shlI 1 k)) g2 T2 (by omega)
    rw [ltM_fr f1 rfl rfl, zf, show ((k + 1 : Nat) : Int) = (k : Int) + 1 from rfl] at e3
    rw [ltM_fr f12 rfl rfl, zf2, show ((k + 1 : Nat) : Int) = (k : Int) + 1 from rfl] at e4 e5
    rw [X_rung_b]
    unfold rgL
    generalize ltM g k = L at e1 lr ⊢
    generalize ltZ g k = Z at e2 lz ⊢
    by_cases c : L ≤ 0
    · refine ⟨g3, ?_, f1.tr f3⟩
      simp (disch := omega) only [nw_id, ix_id, sb, if_true, if_false, if_pos, if_neg, true_and, and_true, false_and, and_false, and_self, e1, e3]
    · by_cases c2 : Z = 0
      · refine ⟨g5, ?_, f12.tr f5⟩
        simp (disch := omega) only [nw_id, ix_id, sb, if_true, if_false, if_pos, if_neg, true_and, and_true, false_and, and_false, and_self, e1, e2, e5]
      · refine ⟨g4, ?_, f12.tr f4⟩
        simp (disch := omega) only [nw_id, ix_id, sb, if_true, if_false, if_pos, if_neg, true_and, and_true, false_and, and_false, and_self, e1, e2, e4]
theorem M_rung_b_s : ∀ (n k : Nat) (s : Int) (g : AG), JT g → JFlag g → ((k + n : Nat) : Int) = g 7 8 → ∃ g', M_rung_b (g 117 11) s k g = some (rgL (ltM g) (ltZ g) n k s, g') ∧ FR WM g g' := by
  intro n
  induction n with
  | zero =>
    intro k s g T hf h
    have := T.2.2.1
    refine ⟨g, ?_, Fr.rf⟩
    rw [M_rung_b]
    simp (disch := omega) only [nw_id, ix_id, sb, if_true, if_false, if_pos, if_neg, true_and, and_true, false_and, and_false, and_self]
    rfl
  | succ n ih =>
    intro k s g T hf h
    have t1 := T.2.2.1
    have lr := ltM_rng T (k := k) (by omega)
    have lz := ltZ_rng T (k := k) (by omega)
    obtain ⟨g1, e1, f1⟩ := M_lateOf_s (k := k) T hf (by omega)
    have q1 : g1 7 8 = g 7 8 := f1 7 8 rfl
    have T1 := T.fr f1 rfl rfl rfl
    -- the state without stoppages
    have fz : FR [(117, 12)] g1 (up g1 117 11 0) := Fr.up Fr.rf rfl
    have f1z : FR [(147, 0), (148, 0), (117, 49), (117, 12)] g (up g1 117 11 0) := (f1.mo rfl).tr (fz.mo rfl)
    obtain ⟨b, a, c, e1', e2', e3', e4', e5', e6', e7', e8', hb, hb2, ha, hc, ht, hd2, hta, hr, hk20⟩ := T.row (k := k) (by omega)
    have hstops := T.1.2.2.2.1.2.1.1
    have MIz : MI (up g1 117 11 0) b (okM (up g1 117 11 0) (stpM (up g1 117 11 0))) (tuM (up g1 117 11 0)) ((up g1 117 11 0) 118) ((up g1 117 11 0) 119) (hwF (up g1 117 11 0) b) ((up g1 117 11 0) 127 b) := by
      refine ⟨T1.1.2.1.cg (fz.cg rfl), ⟨by simp [up_at], fun s hs => by simp [up_at] at hs; omega⟩, rfl, rfl, rfl, rfl, rfl, rfl, by rw [f1z 127 b rfl, hta]; exact hr, hb, fun i hi => ?_, Or.inl (by rw [f1z 117 47 rfl]; exact hf)⟩
      have := T.1.1 i hi
      rw [f1z 118 i rfl, f1z 119 i rfl]
      omega
    obtain ⟨g2, r2, f2, _⟩ := M_led_s (a := a) (c := c) ha hc (t := g 79 k) (Or.inr ht) [] MIz
    have r3 : M_led b a c (g 79 k) (up g1 117 11 0) = some (ldZ g (g 51 b) a c (g 79 k), g2) := by
      rw [r2]
      have : (ledF (okM (up g1 117 11 0) (stpM (up g1 117 11 0))) (tuM (up g1 117 11 0)) ((up g1 117 11 0) 118) ((up g1 117 11 0) 119) (laF ((up g1 117 11 0) 127 b)) a c (g 79 k, [])).1 = ldM (up g1 117 11 0) ((up g1 117 11 0) 127 b) a c (g 79 k) := rfl
      rw [this, ldZ_eq, ldZ_fr f1 rfl rfl, f1z 127 b rfl, hta]
    have lzt := ldZ_tm (g := g) (a := a) (c := c) (ta := g 51 b) (t := g 79 k) T.1 ha hc hr (Or.inr ht)
    have eZ : M_lateOf k (up g1 117 11 0) = some (ltZ g k, g2) := by
      have q3 : g2 153 k = g 80 k := by rw [f2 153 k rfl, f1z 153 k rfl, e8']
      have w1 : (up g1 117 11 0) 149 k = b := by rw [f1z 149 k rfl]; exact e4'
      have w2 : (up g1 117 11 0) 150 k = a := by rw [f1z 150 k rfl]; exact e5'
      have w3 : (up g1 117 11 0) 151 k = c := by rw [f1z 151 k rfl]; exact e6'
      have w4 : (up g1 117 11 0) 152 k = g 79 k := by rw [f1z 152 k rfl]; exact e7'
      unfold M_lateOf ltZ ltV
      rw [e4', e5', e6', e7', e8', Int.toNat_natCast, Int.toNat_natCast, Int.toNat_natCast, hta]
      unfold TmOk at lzt
      clear ih e1 lr lz e1' e2' e3' r2
      generalize ldZ g (g 51 b) a c (g 79 k) = L at r3 lzt ⊢
      by_cases c1 : L = -1
      · subst c1
        clear lzt
        simp (disch := omega) only [nw_id, ix_id, sb, if_true, if_false, if_pos, if_neg, true_and, and_true, false_and, and_false, and_self, Int.toNat_natCast, w1, w2, w3, w4, r3]
      · have c2 : 0 ≤ L ∧ L ≤ 20159 := by omega
        clear lzt
        by_cases c3 : L ≤ g 80 k
        · simp (disch := omega) only [nw_id, ix_id, sb, if_true, if_false, if_pos, if_neg, true_and, and_true, false_and, and_false, and_self, Int.toNat_natCast, w1, w2, w3, w4, r3, q3]
        · simp (disch := omega) only [nw_id, ix_id, sb, if_true, if_false, if_pos, if_neg, true_and, and_true, false_and, and_false, and_self, Int.toNat_natCast, w1, w2, w3, w4, r3, q3]
    have fin : ∀ g9 : AG, FR [(147, 0), (148, 0), (117, 49), (117, 12)] g g9 → FR WM g (up g9 117 11 (g 117 11)) := by
      intro g9 f9
      exact FR.drop (k0 := 117) (i0 := 11) (Fr.up (f9.mo rfl) rfl) (by simp [up_at])
    have fA := fin _ f1z
    have fB := fin g2 (f1z.tr (f2.mo rfl))
    have go : ∀ (g9 : AG) (s' : Int), FR WM g g9 → g9 117 11 = g 117 11 → ∃ g', M_rung_b (g 117 11) s' ((k : Int) + 1) g9 = some (rgL (ltM g) (ltZ g) n (k + 1) s', g') ∧ FR WM g g' := by
      intro g9 s' f9 h9
      have zf : ltZ g9 = ltZ g := by
        funext k
        unfold ltZ
        rw [ldZ_fr f9 rfl rfl, f9.cell (k := 127) (fun _ => rfl), f9 149 k rfl, f9 150 k rfl, f9 151 k rfl, f9 152 k rfl, f9 153 k rfl]
      obtain ⟨g3, e3, f3⟩ := ih (k + 1) s' g9 (T.fr f9 rfl rfl rfl) (by unfold JFlag; rw [f9 117 47 rfl]; exact hf) (by rw [f9 7 8 rfl]; omega)
      rw [h9, ltM_fr f9 rfl rfl, zf] at e3
      exact ⟨g3, e3, f9.tr f3⟩
    have hA := go (up (up g1 117 11 0) 117 11 (g 117 11)) s fA (by simp [up_at])
    have hB := fun s' => go (up g2 117 11 (g 117 11)) s' fB (by simp [up_at])
    rw [M_rung_b]
    unfold rgL
    clear fin go ih MIz r2 r3 e1' e2' e3' e4' e5' e6' e7' e8' lzt
    generalize ltM g k = L at e1 lr hA hB ⊢
    generalize ltZ g k = Z at eZ lz hA hB ⊢
    by_cases c : L ≤ 0
    · simp (disch := omega) only [nw_id, ix_id, sb, if_true, if_false, if_pos, if_neg, true_and, and_true, false_and, and_false, and_self, t1.1, e1]
      exact hA
    · by_cases c2 : Z = 0
      · simp (disch := omega) only [nw_id, ix_id, sb, if_true, if_false, if_pos, if_neg, true_and, and_true, false_and, and_false, and_self, t1.1, e1, eZ]
        exact hB _
      · simp (disch := omega) only [nw_id, ix_id, sb, if_true, if_false, if_pos, if_neg, true_and, and_true, false_and, and_false, and_self, t1.1, e1, eZ]
        exact hB _
theorem sm_rung {g : AG} (T : JT g) (hf : JFlag g) :
    ∃ r1 r2, X_rung g = some r1 ∧ M_rung r1.2 = some r2 ∧ nw r1.1 = nw r2.1 ∧ FR SCV g r2.2 := by
  have t1 := T.2.2.1
  obtain ⟨N, hN⟩ := natOf t1.2.1
  obtain ⟨g1, e1, f1⟩ := X_rung_b_s N 0 0 g T (by omega)
  have zf : ltZ g1 = ltZ g := by
    funext k
    unfold ltZ
    rw [ldZ_fr f1 rfl rfl, f1.cell (k := 127) (fun _ => rfl), f1 149 k rfl, f1 150 k rfl, f1 151 k rfl, f1 152 k rfl, f1 153 k rfl]
  obtain ⟨g2, e2, f2⟩ := M_rung_b_s N 0 0 g1 (T.fr f1 rfl rfl rfl) (by unfold JFlag; rw [f1 117 47 rfl]; exact hf) (by rw [f1 7 8 rfl]; omega)
  rw [ltM_fr f1 rfl rfl, zf] at e2
  exact ⟨(rgL (ltM g) (ltZ g) N 0 0, g1), (rgL (ltM g) (ltZ g) N 0 0, g2), e1, e2, rfl, (f1.mo rfl).tr (f2.mo rfl)⟩
end
