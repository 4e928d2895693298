/-! plain programs: water, open, price, held, harm of a lock -/
theorem sm_water {x1 : Int} {g : AG} (h1 : I32 x1) (J : JRule g) (q : JWat g) (H : JHour g) :
    ∃ r1 r2, X_water x1 g = some r1 ∧ M_water x1 r1.2 = some r2 ∧ nw r1.1 = nw r2.1 ∧ JWat r2.2 ∧ JHour r2.2 ∧ FR [(1, 6), (117, 11), (27, 0), (28, 0), (44, 0), (45, 0)] g r2.2 := by
  unfold I32 at *
  by_cases h : 0 ≤ x1 ∧ x1 ≤ 999
  · have f0 : FR [(1, 6)] g (up g 1 5 x1) := Fr.up Fr.rf rfl
    have J1 := J.cg (f0.cg rfl)
    obtain ⟨g1, e1, f1, _, a1⟩ := learn_s (w := x1) (hA := g 129) (hB := g 130) 14 0 (up g 1 5 x1) (by omega) (by simp [up_at]) J1.xrel (by
      intro l hl hk
      have := J.2.2.2.1 l (by rw [f0 2 3 rfl] at hl; exact hl) (by rw [f0 128 l rfl] at hk; exact hk)
      rw [f0 23 l rfl, f0 24 l rfl]
      omega)
    have eX : X_water x1 g = some (1, g1) := by
      unfold X_water Voyage_learnHours
      rw [show ((0 : Nat) : Int) = (0 : Int) from rfl] at e1
      simp (disch := omega) only [nw_id, ix_id, sb, if_true, if_false, if_pos, if_neg, true_and, and_true, false_and, and_false, and_self, within0, e1]
    have eM : M_water x1 g1 = some (1, up g1 117 10 x1) := by
      unfold M_water
      simp (disch := omega) only [nw_id, ix_id, sb, if_true, if_false, if_pos, if_neg, true_and, and_true, false_and, and_false, and_self, isIn0]
    have fT : FR [(1, 6), (117, 11), (27, 0), (28, 0), (44, 0), (45, 0)] g (up g1 117 10 x1) := Fr.up ((f0.mo rfl).tr (f1.mo rfl)) rfl
    refine ⟨_, _, eX, eM, rfl, ?_, ?_, fT⟩
    · have p : FR [(27, 0), (28, 0), (44, 0), (45, 0)] (up g 1 5 x1) g1 := f1
      refine ⟨?_, ?_, ?_⟩ <;> simp [up_at] <;> rw [p 1 5 rfl] <;> simp [up_at] <;> omega
    · intro d hd
      have a := a1 d (by omega) hd
      have c : ∀ k, (k = 128 ∨ k = 129 ∨ k = 130 ∨ k = 132 ∨ k = 133 ∨ k = 134) → up g1 117 10 x1 k = g k := by
        rintro k (e | e | e | e | e | e) <;> subst e <;> exact fT.cell (fun _ => rfl)
      have c1 : (up g 1 5 x1) 128 = g 128 := f0.cell (fun _ => rfl)
      have c2 : (up g 1 5 x1) 132 = g 132 := f0.cell (fun _ => rfl)
      have c3 : (up g 1 5 x1) 133 = g 133 := f0.cell (fun _ => rfl)
      have c4 : (up g 1 5 x1) 134 = g 134 := f0.cell (fun _ => rfl)
      have c5 : (up g 1 5 x1) 2 3 = g 2 3 := f0 2 3 rfl
      rw [c1, c2, c3, c4, c5] at a
      unfold hrA hrB srvG
      dsimp only
      have c0 : up g1 117 10 x1 2 3 = g 2 3 := fT 2 3 rfl
      simp only [c 128 (by simp), c 129 (by simp), c 130 (by simp), c 132 (by simp), c 133 (by simp), c 134 (by simp), c0]
      simp only [up_at, Nat.reduceEqDiff, false_and, if_false, true_and, if_true]
      exact a
  · have eX : X_water x1 g = some (0, g) := by
      unfold X_water
      simp (disch := omega) only [nw_id, ix_id, sb, if_true, if_false, if_pos, if_neg, true_and, and_true, false_and, and_false, and_self, within0]
    have eM : M_water x1 g = some (0, g) := by
      unfold M_water
      simp (disch := omega) only [nw_id, ix_id, sb, if_true, if_false, if_pos, if_neg, true_and, and_true, false_and, and_false, and_self, isIn0]
    exact ⟨_, _, eX, eM, rfl, q, H, Fr.rf⟩
theorem M_open_s {x1 x2 : Int} {g : AG} (h1 : 0 ≤ x1 ∧ x1 ≤ 13) (h2 : 0 ≤ x2 ∧ x2 ≤ 1) (J : JRule g) : ∃ g', M_open x1 x2 g = some (if x2 = 0 then hrA g (g 117 10) x1.toNat else hrB g (g 117 10) x1.toNat, g') ∧ FR [(147, 0), (148, 0)] g g' := by
  obtain ⟨g1, e1, f1⟩ := M_locksLine_s (day := x1) J h1.1 (by omega)
  have hr := srvF_rng (kd := g 128) (md := g 132) (en := g 133) (cd := g 134) (fc := fcDay x1 (g 117 10)) (sort := 0) (g 2 3).toNat 0
  have J0 := J.1
  refine ⟨g1, ?_, f1⟩
  unfold M_open
  unfold hrA hrB
  rw [show ((x1.toNat : Nat) : Int) = x1 by omega]
  unfold srvG at e1 ⊢
  have c1 : g1 129 = g 129 := f1.cell (fun _ => rfl)
  have c2 : g1 130 = g 130 := f1.cell (fun _ => rfl)
  simp (disch := omega) only [nw_id, ix_id, sb, if_true, if_false, if_pos, if_neg, true_and, and_true, false_and, and_false, and_self, isIn0, e1]
  generalize srvF (g 128) (g 132) (g 133) (g 134) (fcDay x1 (g 117 10)) 0 (g 2 3).toNat 0 = l at hr ⊢
  by_cases e : l = -1
  · subst e
    simp (disch := omega) only [nw_id, ix_id, sb, if_true, if_false, if_pos, if_neg, true_and, and_true, false_and, and_false, and_self]
  · have hr2 : 0 ≤ l ∧ l < 16 := by rcases hr with hr | ⟨a, b, c⟩ <;> omega
    clear hr
    simp (disch := omega) only [nw_id, ix_id, sb, if_true, if_false, if_pos, if_neg, true_and, and_true, false_and, and_false, and_self, c1, c2]
    by_cases e2 : x2 = 0
    · simp (disch := omega) only [nw_id, ix_id, sb, if_true, if_false, if_pos, if_neg, true_and, and_true, false_and, and_false, and_self]
    · simp (disch := omega) only [nw_id, ix_id, sb, if_true, if_false, if_pos, if_neg, true_and, and_true, false_and, and_false, and_self]
theorem sm_open {x1 x2 : Int} {g : AG} (h1 : I32 x1) (h2 : I32 x2) (J : JRule g) (H : JHour g) :
    ∃ v1 r2, X_open x1 x2 g = some v1 ∧ M_open x1 x2 g = some r2 ∧ nw v1 = nw r2.1 ∧ FR [(147, 0), (148, 0)] g r2.2 := by
  unfold I32 at *
  by_cases h : 0 ≤ x1 ∧ x1 ≤ 13 ∧ 0 ≤ x2 ∧ x2 ≤ 1
  · obtain ⟨g1, e1, f1⟩ := M_open_s (x1 := x1) (x2 := x2) (g := g) (by omega) (by omega) J
    have H1 := H x1.toNat (by omega)
    refine ⟨_, _, ?_, e1, rfl, f1⟩
    unfold X_open
    by_cases e2 : x2 = 0
    · simp (disch := omega) only [nw_id, ix_id, sb, if_true, if_false, if_pos, if_neg, true_and, and_true, false_and, and_false, and_self, within0]
      rw [H1.1]
    · simp (disch := omega) only [nw_id, ix_id, sb, if_true, if_false, if_pos, if_neg, true_and, and_true, false_and, and_false, and_self, within0]
      rw [H1.2]
  · have eX : X_open x1 x2 g = some (-1) := by
      unfold X_open
      revert h
      simp (disch := omega) only [nw_id, ix_id, within0]
      intro h
      ((repeat' split) <;> first | rfl | omega)
    have eM : M_open x1 x2 g = some (-1, g) := by
      unfold M_open
      by_cases e1 : x1 < 0 ∨ 13 < x1
      · simp (disch := omega) only [nw_id, ix_id, sb, if_true, if_false, if_pos, if_neg, true_and, and_true, false_and, and_false, and_self, isIn0]
      · simp (disch := omega) only [nw_id, ix_id, sb, if_true, if_false, if_pos, if_neg, true_and, and_true, false_and, and_false, and_self, isIn0]
    exact ⟨_, _, eX, eM, rfl, Fr.rf⟩
theorem Rules_askWeek_s {wk : Int} {g : AG} : ∃ g', Rules_askWeek wk g = some (0, g') ∧ FR [(27, 0)] g g' ∧ (∀ i : Nat, i < 9 → g' 27 i = if i = 1 then wk else 0) := by
  unfold Rules_askWeek
  rw [ix_lits.2.1]
  simp (disch := omega) only [nw_id, ix_id, sb, if_true, if_false, if_pos, if_neg, true_and, and_true, false_and, and_false, and_self]
  refine ⟨_, rfl, Fr.up (Fr.fill Fr.rf (fun _ => rfl)) rfl, ?_⟩
  intro i hi
  simp only [up_at, fill_at, true_and]
  ((repeat' split) <;> first | rfl | omega)
theorem X_priceLine_s {b : Nat} {wk aw : Int} {g : AG} (hb : b < 10) (ha : aw = 0 ∨ aw = 1) (J : JRule g) : ∃ g', Boats_priceLine b wk aw g = some (srvG g (fcPrice wk (g 48 b) aw (g 49 b)) 2 (g 2 3).toNat 0, g') ∧ FR [(27, 0), (28, 0)] g g' ∧ (∀ s : Nat, 1 ≤ s → s < 10 → g' 27 (s - 1) = fcPrice wk (g 48 b) aw (g 49 b) s) := by
  obtain ⟨g1, e1, f1, a1⟩ := Rules_askWeek_s (wk := wk) (g := g)
  have f2 : FR [(27, 0)] g (up (up (up g1 27 3 (g 48 b)) 27 4 aw) 27 5 (g 49 b)) := Fr.up (Fr.up (Fr.up f1 rfl) rfl) rfl
  have a2 : ∀ s : Nat, 1 ≤ s → s < 10 → (up (up (up g1 27 3 (g 48 b)) 27 4 aw) 27 5 (g 49 b)) 27 (s - 1) = fcPrice wk (g 48 b) aw (g 49 b) s := by
    intro s hs hs2
    have := a1 (s - 1) (by omega)
    unfold fcPrice
    simp only [up_at, true_and, this]
    ((repeat' split) <;> first | rfl | omega)
  obtain ⟨g2, e2, f3⟩ := X_serving_s (sort := 2) (x := 102) (by omega) (by omega) ((J.xrel).fr f2 rfl) a2
  refine ⟨g2, ?_, (f2.mo rfl).tr (f3.mo rfl), ?_⟩
  · unfold Boats_priceLine
    have c1 : g1 48 b = g 48 b := f1 48 b rfl
    have c2 : g1 49 b = g 49 b := f1 49 b rfl
    have c3 : (if nw aw = 0 then (0 : Int) else 1) = aw := by rcases ha with rfl | rfl <;> simp (disch := omega) only [nw_id, ix_id, sb, if_true, if_false, if_pos, if_neg, true_and, and_true, false_and, and_false, and_self]
    rw [e1, sb, if_pos (by rw [nw_id (by omega) (by omega)]; omega), ix_lits.2.2.2.1, ix_lits.2.2.2.2.1, ix_lits.2.2.2.2.2.1, ix_id (by omega) (by omega), Int.toNat_natCast]
    dsimp only
    rw [c1, sb, sb, c3, sb]
    rw [show (up (up g1 27 3 (g 48 b)) 27 4 aw) 49 b = g 49 b by simp [up_at, c2], sb, e2, sb, f2 2 3 rfl]
  · intro s hs hs2
    rw [f3 27 (s - 1) rfl]
    exact a2 s hs hs2
/-- M's facts for a price -/
theorem M_priceFc {b : Nat} {wk aw : Int} {g : AG} : ∃ g1, g1 = up (up (up (up (fun a b => if a = 148 ∧ b < 10 then 0 else g a b) 148 2 wk) 148 4 (g 124 b)) 148 5 aw) 148 6 (g 125 b) ∧ FR [(148, 0)] g g1 ∧ (∀ k, k < 10 → g1 148 k = fcPrice wk (g 124 b) aw (g 125 b) k) := by
  refine ⟨_, rfl, ?_, ?_⟩
  · intro a b hab
    have n1 : a ≠ 148 := fun e => by subst e; revert hab; simp [inR, inP]
    simp only [up_at, n1, false_and, if_false]
  · intro k hk
    unfold fcPrice
    simp only [up_at, true_and]
    ((repeat' split) <;> first | rfl | omega)
def JBoR (g : AG) : Prop := g 117 12 = g 6 7 ∧ 0 ≤ g 6 7 ∧ g 6 7 ≤ 10
theorem M_price_s {b : Nat} {wk aw : Int} {g : AG} (hb : (b : Int) < g 6 7) (hB : JBoR g) (hw : 0 ≤ wk ∧ wk ≤ 9) (ha : aw = 0 ∨ aw = 1) (J : JRule g) :
    (srvG g (fcPrice wk (g 124 b) aw (g 125 b)) 2 (g 2 3).toNat 0 = -1 → ∃ g', M_price b wk aw g = some (-1000000, g') ∧ FR [(147, 0), (148, 0), (117, 101)] g g' ∧ g' 117 100 = 0) ∧
    (¬ srvG g (fcPrice wk (g 124 b) aw (g 125 b)) 2 (g 2 3).toNat 0 = -1 → ∃ l v g', srvG g (fcPrice wk (g 124 b) aw (g 125 b)) 2 (g 2 3).toNat 0 = (l : Nat) ∧ (l : Int) < g 2 3 ∧ g 128 l = 2 ∧ evl (g 134) (fcPrice wk (g 124 b) aw (g 125 b)) (g 132 l - g 131 l).toNat (g 131 l).toNat [] = some [v] ∧ M_price b wk aw g = some (v, g') ∧ FR [(147, 0), (148, 0), (117, 101)] g g' ∧ g' 117 100 = 1) := by
  obtain ⟨g1, rfl, f1, a1⟩ := M_priceFc (b := b) (wk := wk) (aw := aw) (g := g)
  obtain ⟨g2, e2, f2⟩ := M_serves_s (sort := 2) (by omega) (J.cg (f1.cg rfl)) a1
  have hB0 := hB
  obtain ⟨b1, b2, b3⟩ := hB
  have J0 := J.1
  have fT : FR [(147, 0), (148, 0)] g g2 := (f1.mo rfl).tr (f2.mo rfl)
  have c3 : (if nw aw = 0 then (0 : Int) else 1) = aw := by rcases ha with rfl | rfl <;> simp (disch := omega) only [nw_id, ix_id, sb, if_true, if_false, if_pos, if_neg, true_and, and_true, false_and, and_false, and_self]
  have k1 : ∀ G : AG, G = up (up (up (up (fun a b => if a = 148 ∧ b < 10 then 0 else g a b) 148 2 wk) 148 4 (g 124 b)) 148 5 aw) 148 6 (g 125 b) → G 128 = g 128 ∧ G 132 = g 132 ∧ G 133 = g 133 ∧ G 134 = g 134 ∧ G 2 3 = g 2 3 := by
    intro G hG
    rw [hG]
    exact ⟨f1.cell (fun _ => rfl), f1.cell (fun _ => rfl), f1.cell (fun _ => rfl), f1.cell (fun _ => rfl), f1 2 3 rfl⟩
  obtain ⟨k2, k3, k4, k5, k6⟩ := k1 _ rfl
  unfold srvG at e2
  rw [k2, k3, k4, k5, k6] at e2
  have hr := srvF_rng (kd := g 128) (md := g 132) (en := g 133) (cd := g 134) (fc := fcPrice wk (g 124 b) aw (g 125 b)) (sort := 2) (g 2 3).toNat 0
  have pre : ∀ r, M_price b wk aw g = r ↔ ((M_serves 2 (up (up (up (up (fun a b => if a = 148 ∧ b < 10 then 0 else g a b) 148 2 wk) 148 4 (g 124 b)) 148 5 aw) 148 6 (g 125 b))) >>= fun r16 => some (if nw r16.1 = -1 then 0 else 1) >>= fun t18 => some (up r16.2 117 100 t18) >>= fun g20 => (if nw r16.1 = -1 then some (-1000000, g20) else if 0 ≤ nw r16.1 ∧ nw r16.1 < 16 then (M_comesTo (g20 131 (ix r16.1)) (g20 132 (ix r16.1)) g20 >>= fun r24 => some (r24.1, r24.2)) else none) >>= fun r26 => some (r26.1, r26.2)) = r := by
    intro r
    unfold M_price
    rw [M_forgets_s, ix_lits.2.2.1, ix_lits.2.2.2.2.1, ix_lits.2.2.2.2.2.1, ix_lits.2.2.2.2.2.2.1]
    simp (disch := omega) only [M_isBoat0, isIn0, if_neg, sb, nw_id (a := (b : Int)), if_pos, ix_id (a := (b : Int)), Int.toNat_natCast, c3]
    simp only [up_at, Nat.reduceEqDiff, false_and, if_false]
  unfold srvG
  constructor
  · intro e
    rw [e] at e2
    refine ⟨up g2 117 100 0, ?_, Fr.up (fT.mo rfl) rfl, by simp [up_at]⟩
    rw [pre, e2, sb, nw_m1]
    rfl
  · intro e
    generalize srvF (g 128) (g 132) (g 133) (g 134) (fcPrice wk (g 124 b) aw (g 125 b)) 2 (g 2 3).toNat 0 = s at hr e e2 ⊢
    have hr2 : 0 ≤ s ∧ s < g 2 3 ∧ g 128 s.toNat = 2 := by
      rcases hr with hr | ⟨a, b, c⟩
      · exact absurd hr e
      · exact ⟨by omega, by omega, c⟩
    clear hr
    obtain ⟨l, rfl⟩ := natOf hr2.1
    rw [Int.toNat_natCast] at hr2
    have f3 : FR [(147, 0), (148, 0), (117, 101)] g (up g2 117 100 1) := Fr.up (fT.mo rfl) rfl
    obtain ⟨v, g3, e3, f4, v1⟩ := (J.cg (f3.cg rfl)).val (fc := fcPrice wk (g 124 b) aw (g 125 b)) (by
      intro k hk
      have := a1 k hk
      rw [show (up g2 117 100 1) 148 k = g2 148 k by simp [up_at], f2 148 k rfl]
      exact this) (l := l) (by rw [f3 2 3 rfl]; exact hr2.2.1) (by rw [f3 128 l rfl]; omega)
    have q1 : (up g2 117 100 1) 134 = g 134 := f3.cell (fun _ => rfl)
    have q2 : (up g2 117 100 1) 132 l = g 132 l := f3 132 l rfl
    have q3 : (up g2 117 100 1) 131 l = g 131 l := f3 131 l rfl
    refine ⟨l, v, g3, rfl, hr2.2.1, hr2.2.2, ?_, ?_, f3.tr (f4.mo rfl), ?_⟩
    · rw [q1, q2, q3] at v1; exact v1
    · rw [pre, e2, sb]
      simp (disch := omega) only [nw_id (a := (l : Int)), if_neg, sb, if_pos, ix_id (a := (l : Int)), Int.toNat_natCast, e3]
    · rw [f4 117 100 rfl]; simp [up_at]

theorem X_price_s {b : Nat} {wk aw : Int} {g : AG} (hb : (b : Int) < g 6 7) (hB : JBoR g) (hw : 0 ≤ wk ∧ wk ≤ 9) (ha : aw = 0 ∨ aw = 1) (J : JRule g) :
    (srvG g (fcPrice wk (g 48 b) aw (g 49 b)) 2 (g 2 3).toNat 0 = -1 → ∃ g', X_price b wk aw g = some (-1000000, g') ∧ FR [(27, 0), (28, 0)] g g') ∧
    (∀ l : Nat, srvG g (fcPrice wk (g 48 b) aw (g 49 b)) 2 (g 2 3).toNat 0 = l → (l : Int) < g 2 3 → g 128 l = 2 → ∀ v, evl (g 134) (fcPrice wk (g 48 b) aw (g 49 b)) (g 132 l - g 131 l).toNat (g 131 l).toNat [] = some [v] → ∃ g', X_price b wk aw g = some (v, g') ∧ FR [(27, 0), (28, 0)] g g') := by
  obtain ⟨b1, b2, b3⟩ := hB
  obtain ⟨g1, e1, f1, a1⟩ := X_priceLine_s (b := b) (wk := wk) (aw := aw) (by omega) ha J
  have J0 := J.1
  constructor
  · intro e
    rw [e] at e1
    refine ⟨g1, ?_, f1⟩
    unfold X_price
    have c1 : ¬ nw (X_isBoat b g) = 0 := by rw [X_isBoat0 (by omega) (by omega) b2 b3]; omega
    have c2 : ¬ nw (X_isWeek wk) = 0 := by clear c1; rw [isWeek0 (by omega) (by omega)]; omega
    rw [if_neg c1, if_neg c2, e1, sb, nw_m1, if_pos rfl, sb]
  · intro l e hl hk v hv
    rw [e] at e1
    obtain ⟨v', g2, e2, f2, hv'⟩ := (J.xrel.fr f1 rfl).val a1 (l := l) (by rw [f1 2 3 rfl]; exact hl) (by omega)
    rw [hv] at hv'
    cases hv'
    refine ⟨g2, ?_, f1.tr (f2.mo rfl)⟩
    unfold X_price
    have c3 : ¬ nw (l : Int) = -1 := by rw [nw_id (by omega) (by omega)]; omega
    have c1 : ¬ nw (X_isBoat b g) = 0 := by clear c3; rw [X_isBoat0 (by omega) (by omega) b2 b3]; omega
    have c2 : ¬ nw (X_isWeek wk) = 0 := by clear c1 c3; rw [isWeek0 (by omega) (by omega)]; omega
    rw [if_neg c1, if_neg c2, e1, sb, if_neg c3, e2, sb, sb]
def JBoV (g : AG) : Prop := ∀ b : Nat, b < 10 → g 124 b = g 48 b ∧ g 125 b = g 49 b ∧ g 126 b = g 50 b ∧ g 127 b = g 51 b
theorem sm_price {x1 x2 x3 : Int} {g : AG} (h1 : I32 x1) (h2 : I32 x2) (h3 : x3 = 0 ∨ x3 = 1) (J : JRule g) (hB : JBoR g) (hV : JBoV g) :
    ∃ r1 r2, X_price x1 x2 x3 g = some r1 ∧ M_price x1 x2 x3 r1.2 = some r2 ∧ nw r1.1 = nw r2.1 ∧ FR [(27, 0), (28, 0), (147, 0), (148, 0), (117, 101)] g r2.2 := by
  unfold I32 at *
  have hB0 := hB
  obtain ⟨b1, b2, b3⟩ := hB
  by_cases h : 0 ≤ x1 ∧ x1 < g 6 7 ∧ 0 ≤ x2 ∧ x2 ≤ 9
  · obtain ⟨b, rfl⟩ := natOf h.1
    have V := hV b (by omega)
    have key : ∀ g1 : AG, FR [(27, 0), (28, 0)] g g1 → (srvG g (fcPrice x2 (g 48 b) x3 (g 49 b)) 2 (g 2 3).toNat 0 = -1 → ∃ g', M_price b x2 x3 g1 = some (-1000000, g') ∧ FR [(147, 0), (148, 0), (117, 101)] g1 g') ∧ (¬ srvG g (fcPrice x2 (g 48 b) x3 (g 49 b)) 2 (g 2 3).toNat 0 = -1 → ∃ l v g', srvG g (fcPrice x2 (g 48 b) x3 (g 49 b)) 2 (g 2 3).toNat 0 = (l : Nat) ∧ (l : Int) < g 2 3 ∧ g 128 l = 2 ∧ evl (g 134) (fcPrice x2 (g 48 b) x3 (g 49 b)) (g 132 l - g 131 l).toNat (g 131 l).toNat [] = some [v] ∧ M_price b x2 x3 g1 = some (v, g') ∧ FR [(147, 0), (148, 0), (117, 101)] g1 g') := by
      intro g1 f1
      have m := M_price_s (b := b) (wk := x2) (aw := x3) (g := g1) (by rw [f1 6 7 rfl]; omega) ⟨by rw [f1 117 12 rfl, f1 6 7 rfl]; exact b1, by rw [f1 6 7 rfl]; exact b2, by rw [f1 6 7 rfl]; exact b3⟩ (by omega) h3 (J.cg (f1.cg rfl))
      have c1 : g1 128 = g 128 := f1.cell (fun _ => rfl)
      have c2 : g1 132 = g 132 := f1.cell (fun _ => rfl)
      have c3 : g1 133 = g 133 := f1.cell (fun _ => rfl)
      have c4 : g1 134 = g 134 := f1.cell (fun _ => rfl)
      have c5 : g1 131 = g 131 := f1.cell (fun _ => rfl)
      unfold srvG at m ⊢
      rw [c1, c2, c3, c4, c5, f1 2 3 rfl, f1 124 b rfl, f1 125 b rfl, V.1, V.2.1] at m
      refine ⟨fun e => ?_, fun e => ?_⟩
      · obtain ⟨g', p1, p2, p3⟩ := m.1 e
        exact ⟨g', p1, p2⟩
      · obtain ⟨l, v, g', p1, p2, p3, p4, p5, p6, p7⟩ := m.2 e
        exact ⟨l, v, g', p1, p2, p3, p4, p5, p6⟩
    have hx := X_price_s (b := b) (wk := x2) (aw := x3) (g := g) (by omega) hB0 (by omega) h3 J
    by_cases e : srvG g (fcPrice x2 (g 48 b) x3 (g 49 b)) 2 (g 2 3).toNat 0 = -1
    · obtain ⟨g1, e1, f1⟩ := hx.1 e
      obtain ⟨g2, e2, f2⟩ := (key g1 f1).1 e
      exact ⟨_, _, e1, e2, rfl, (f1.mo rfl).tr (f2.mo rfl)⟩
    · obtain ⟨l, v, _, p1, p2, p3, p4, _, _⟩ := (key g Fr.rf).2 e
      obtain ⟨g1, e1, f1⟩ := hx.2 l p1 p2 p3 v p4
      obtain ⟨l', v', g2, q1, q2, q3, q4, q5, q6⟩ := (key g1 f1).2 e
      rw [p1] at q1
      have : l = l' := by omega
      subst this
      rw [p4] at q4
      cases q4
      exact ⟨_, _, e1, q5, rfl, (f1.mo rfl).tr (q6.mo rfl)⟩
  · have eX : X_price x1 x2 x3 g = some (-1000000, g) := by
      unfold X_price
      by_cases e : x1 < 0 ∨ g 6 7 - 1 < x1
      · simp (disch := omega) only [nw_id, ix_id, sb, if_true, if_false, if_pos, if_neg, true_and, and_true, false_and, and_false, and_self, X_isBoat0]
      · simp (disch := omega) only [nw_id, ix_id, sb, if_true, if_false, if_pos, if_neg, true_and, and_true, false_and, and_false, and_self, X_isBoat0, isWeek0]
    have eM : M_price x1 x2 x3 g = some (-1000000, g) := by
      unfold M_price
      by_cases e : x1 < 0 ∨ g 6 7 - 1 < x1
      · simp (disch := omega) only [nw_id, ix_id, sb, if_true, if_false, if_pos, if_neg, true_and, and_true, false_and, and_false, and_self, M_isBoat0]
      · simp (disch := omega) only [nw_id, ix_id, sb, if_true, if_false, if_pos, if_neg, true_and, and_true, false_and, and_false, and_self, M_isBoat0, isIn0]
    exact ⟨_, _, eX, eM, rfl, Fr.rf⟩
