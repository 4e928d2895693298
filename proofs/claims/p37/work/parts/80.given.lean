/-! plain programs: booking, given, more -/
theorem sm_booking {x1 x2 x3 x4 : Int} {g : AG} (h1 : I32 x1) (h2 : I32 x2) (h3 : I32 x3) (h4 : I32 x4) (J : JBook g) :
    ∃ r1 r2, X_booking x1 x2 x3 x4 g = some r1 ∧ M_booking x1 x2 x3 x4 r1.2 = some r2 ∧ nw r1.1 = nw r2.1 ∧ JBook r2.2 ∧ FR [(9, 5), (9, 12), (85, 0), (86, 0), (87, 0), (88, 0), (89, 0), (117, 66), (162, 0), (163, 0), (164, 0), (165, 0)] g r2.2 := by
  unfold I32 at *
  obtain ⟨c, o, J⟩ := J
  have J0 := J
  obtain ⟨K, q1, q2, q3, O, q5, BT, q7, q8⟩ := J
  have hc := K.1
  have wX1 := isPointX0 (x := x1) (by (try clear wM3); (try clear wM4); (try clear nc); (try clear ic); omega) (by (try clear wM3); (try clear wM4); (try clear nc); (try clear ic); omega)
  have wX2 := isPointX0 (x := x2) (by (try clear wM3); (try clear wM4); (try clear nc); (try clear ic); omega) (by (try clear wM3); (try clear wM4); (try clear nc); (try clear ic); omega)
  have wX3 := isWeek0 (x := x3) (by (try clear wM3); (try clear wM4); (try clear nc); (try clear ic); omega) (by (try clear wM3); (try clear wM4); (try clear nc); (try clear ic); omega)
  have wX4 := isBerths0 (x := x4) (by (try clear wM3); (try clear wM4); (try clear nc); (try clear ic); omega) (by (try clear wM3); (try clear wM4); (try clear nc); (try clear ic); omega)
  have wM1 := isPoint0 (x := x1) (by (try clear wM3); (try clear wM4); (try clear nc); (try clear ic); omega) (by (try clear wM3); (try clear wM4); (try clear nc); (try clear ic); omega)
  have wM2 := isPoint0 (x := x2) (by (try clear wM3); (try clear wM4); (try clear nc); (try clear ic); omega) (by (try clear wM3); (try clear wM4); (try clear nc); (try clear ic); omega)
  have wM3 : (nw (M_isIn x3 0 9) = 0) = (x3 < 0 ∨ 9 < x3) := isIn0 (by (try clear wM3); (try clear wM4); (try clear nc); (try clear ic); omega) (by (try clear wM3); (try clear wM4); (try clear nc); (try clear ic); omega) (by decide) (by decide) (by decide) (by decide)
  have wM4 : (nw (M_isIn x4 2 12) = 0) = (x4 < 2 ∨ 12 < x4) := isIn0 (by (try clear wM3); (try clear wM4); (try clear nc); (try clear ic); omega) (by (try clear wM3); (try clear wM4); (try clear nc); (try clear ic); omega) (by decide) (by decide) (by decide) (by decide)
  have nc : nw (c : Int) = c := nwN _ (by (try clear wM3); (try clear wM4); (try clear nc); (try clear ic); omega)
  have ic : ix (c : Int) = c := ixN _ (by (try clear wM3); (try clear wM4); (try clear nc); (try clear ic); omega)
  by_cases ok : (0 ≤ x1 ∧ x1 ≤ 15) ∧ (0 ≤ x2 ∧ x2 ≤ 15) ∧ (0 ≤ x3 ∧ x3 ≤ 9) ∧ (2 ≤ x4 ∧ x4 ≤ 12)
  · obtain ⟨o1, o2, o3, o4⟩ := ok
    by_cases c8 : c < 8
    · obtain ⟨gq, hgq⟩ : ∃ gq : AG, gq = up (up (up (up (up (up g 85 c x1) 86 c x2) 87 c x3) 88 c x4) 9 4 ((c : Int) + 1)) 9 11 0 := ⟨_, rfl⟩
      have fq : FR [(9, 5), (9, 12), (85, 0), (86, 0), (87, 0), (88, 0)] g gq := by rw [hgq]; exact Fr.up (Fr.up (Fr.up (Fr.up (Fr.up (Fr.up Fr.rf rfl) rfl) rfl) rfl) rfl) rfl
      have v4 : gq 9 4 = (c + 1 : Nat) := by rw [hgq, up_at, if_neg (by (try clear wM3); (try clear wM4); (try clear nc); (try clear ic); omega), up_at, if_pos ⟨rfl, rfl⟩]; rfl
      have v85 : ∀ j, gq 85 j = if j = c then x1 else g 85 j := fun j => by rw [hgq]; simp only [up_at, Nat.reduceEqDiff, false_and, if_false, true_and]
      have v86 : ∀ j, gq 86 j = if j = c then x2 else g 86 j := fun j => by rw [hgq]; simp only [up_at, Nat.reduceEqDiff, false_and, if_false, true_and]
      have v87 : ∀ j, gq 87 j = if j = c then x3 else g 87 j := fun j => by rw [hgq]; simp only [up_at, Nat.reduceEqDiff, false_and, if_false, true_and]
      have v88 : ∀ j, gq 88 j = if j = c then x4 else g 88 j := fun j => by rw [hgq]; simp only [up_at, Nat.reduceEqDiff, false_and, if_false, true_and]
      have K' : BkOk (c + 1) (gq 85) (gq 86) (gq 87) (gq 88) := ⟨by (try clear wM3); (try clear wM4); (try clear nc); (try clear ic); omega, fun j hj => by
        rw [v85, v86, v87, v88]
        by_cases z : j = c
        · rw [if_pos z, if_pos z, if_pos z, if_pos z]; exact ⟨o1, o2, o3, o4⟩
        · rw [if_neg z, if_neg z, if_neg z, if_neg z]; exact K.2 j (by (try clear wM3); (try clear wM4); (try clear nc); (try clear ic); omega)⟩
      have hw : ∀ j, j < c + 1 → 0 ≤ gq 87 j ∧ gq 87 j ≤ 9 := fun j hj => (K'.2 j hj).2.2.1
      obtain ⟨gX, o', eX, fX, O', rX⟩ := X_ord1_s (c := c + 1) (bw := gq 87) (by (try clear wM3); (try clear wM4); (try clear nc); (try clear ic); omega) hw 10 0 0 0 (fun _ => 0) gq (by (try clear wM3); (try clear wM4); (try clear nc); (try clear ic); omega) v4 (fun _ _ => rfl) ⟨fun p hp => by (try clear wM3); (try clear wM4); (try clear nc); (try clear ic); omega, fun p q _ hq => by (try clear wM3); (try clear wM4); (try clear nc); (try clear ic); omega, fun j hj hh => by have := hw j hj; omega, by
        show ((0 : Nat) : Int) = _ + (0 : Int)
        rw [sm_cg (h := fun _ => 0) (c + 1) (fun j hj => by have := hw j hj; rw [if_neg (by (try clear wM3); (try clear wM4); (try clear nc); (try clear ic); omega)]), sm_z]
        rfl⟩ (fun p hp => by (try clear wM3); (try clear wM4); (try clear nc); (try clear ic); omega)
      have e1 : X_booking x1 x2 x3 x4 g = some (gX 9 4 - 1, gX) := by
        have eX' : Bookings_putInOrder gq = some (0, gX) := eX
        unfold X_booking Bookings_add
        have u1 : (up g 85 c x1) 9 4 = c := by rw [up_at, if_neg (by (try clear wM3); (try clear wM4); (try clear nc); (try clear ic); omega)]; exact q1
        have u2 : (up (up g 85 c x1) 86 c x2) 9 4 = c := by rw [up_at, if_neg (by (try clear wM3); (try clear wM4); (try clear nc); (try clear ic); omega)]; exact u1
        have u3 : (up (up (up g 85 c x1) 86 c x2) 87 c x3) 9 4 = c := by rw [up_at, if_neg (by (try clear wM3); (try clear wM4); (try clear nc); (try clear ic); omega)]; exact u2
        have u4 : (up (up (up (up g 85 c x1) 86 c x2) 87 c x3) 88 c x4) 9 4 = c := by rw [up_at, if_neg (by (try clear wM3); (try clear wM4); (try clear nc); (try clear ic); omega)]; exact u3
        rw [if_neg (by rw [wX1]; (try clear wM3); (try clear wM4); (try clear nc); (try clear ic); omega), if_neg (by rw [wX2]; (try clear wM3); (try clear wM4); (try clear nc); (try clear ic); omega), if_neg (by rw [wX3]; (try clear wM3); (try clear wM4); (try clear nc); (try clear ic); omega), if_neg (by rw [wX4]; (try clear wM3); (try clear wM4); (try clear nc); (try clear ic); omega), q1, nc, ic, if_pos (by (try clear wM3); (try clear wM4); (try clear nc); (try clear ic); omega), if_pos (by (try clear wM3); (try clear wM4); (try clear nc); (try clear ic); omega), sb, u1, nc, ic, if_pos (by (try clear wM3); (try clear wM4); (try clear nc); (try clear ic); omega), sb, u2, nc, ic, if_pos (by (try clear wM3); (try clear wM4); (try clear nc); (try clear ic); omega), sb, u3, nc, ic, if_pos (by (try clear wM3); (try clear wM4); (try clear nc); (try clear ic); omega), sb, u4, sb, sb, ← hgq, eX', sb, sb]
      obtain ⟨gm, hgm⟩ : ∃ gm : AG, gm = up (up (up (up (up gX 162 c x1) 163 c x2) 164 c x3) 165 c x4) 117 65 ((c : Int) + 1) := ⟨_, rfl⟩
      have fm : FR [(117, 66), (162, 0), (163, 0), (164, 0), (165, 0)] gX gm := by rw [hgm]; exact Fr.up (Fr.up (Fr.up (Fr.up (Fr.up Fr.rf rfl) rfl) rfl) rfl) rfl
      have m65 : gX 117 65 = c := by rw [fX 117 65 rfl, fq 117 65 rfl]; exact q2
      have e2 : M_booking x1 x2 x3 x4 gX = some ((c : Int) + 1 - 1, gm) := by
        unfold M_booking
        have u1 : (up gX 162 c x1) 117 65 = c := by rw [up_at, if_neg (by (try clear wM3); (try clear wM4); (try clear nc); (try clear ic); omega)]; exact m65
        have u2 : (up (up gX 162 c x1) 163 c x2) 117 65 = c := by rw [up_at, if_neg (by (try clear wM3); (try clear wM4); (try clear nc); (try clear ic); omega)]; exact u1
        have u3 : (up (up (up gX 162 c x1) 163 c x2) 164 c x3) 117 65 = c := by rw [up_at, if_neg (by (try clear wM3); (try clear wM4); (try clear nc); (try clear ic); omega)]; exact u2
        have u4 : (up (up (up (up gX 162 c x1) 163 c x2) 164 c x3) 165 c x4) 117 65 = c := by rw [up_at, if_neg (by (try clear wM3); (try clear wM4); (try clear nc); (try clear ic); omega)]; exact u3
        rw [if_neg (by rw [wM1]; (try clear wM3); (try clear wM4); (try clear nc); (try clear ic); omega), if_neg (by rw [wM2]; (try clear wM3); (try clear wM4); (try clear nc); (try clear ic); omega), if_neg (by rw [wM3]; (try clear wM3); (try clear wM4); (try clear nc); (try clear ic); omega), if_neg (by rw [wM4]; (try clear wM3); (try clear wM4); (try clear nc); (try clear ic); omega), m65, nc, ic, if_neg (by (try clear wM3); (try clear wM4); (try clear nc); (try clear ic); omega), if_pos (by (try clear wM3); (try clear wM4); (try clear nc); (try clear ic); omega), sb, u1, nc, ic, if_pos (by (try clear wM3); (try clear wM4); (try clear nc); (try clear ic); omega), sb, u2, nc, ic, if_pos (by (try clear wM3); (try clear wM4); (try clear nc); (try clear ic); omega), sb, u3, nc, ic, if_pos (by (try clear wM3); (try clear wM4); (try clear nc); (try clear ic); omega), sb, u4, sb, ← hgm]
        have : gm 117 65 = (c : Int) + 1 := by rw [hgm, up_at, if_pos ⟨rfl, rfl⟩]
        rw [this]
      have k85 : gm 85 = gq 85 := funext fun i => (fm 85 i rfl).trans (fX 85 i rfl)
      have k86 : gm 86 = gq 86 := funext fun i => (fm 86 i rfl).trans (fX 86 i rfl)
      have k87 : gm 87 = gq 87 := funext fun i => (fm 87 i rfl).trans (fX 87 i rfl)
      have k88 : gm 88 = gq 88 := funext fun i => (fm 88 i rfl).trans (fX 88 i rfl)
      have k90 : gm 90 = g 90 := funext fun i => ((fm 90 i rfl).trans (fX 90 i rfl)).trans (fq 90 i rfl)
      have k91 : gm 91 = g 91 := funext fun i => ((fm 91 i rfl).trans (fX 91 i rfl)).trans (fq 91 i rfl)
      have s11 : gm 9 11 = 0 := by rw [fm 9 11 rfl, fX 9 11 rfl, hgq, up_at, if_pos ⟨rfl, rfl⟩]
      refine ⟨_, _, e1, e2, ?_, ⟨c + 1, o', ?_⟩, (FR.mo fq rfl).tr ((FR.mo fX rfl).tr (FR.mo fm rfl))⟩
      · dsimp only
        rw [fX 9 4 rfl, v4]
        rfl
      · dsimp only
        unfold JB
        rw [k85, k86, k87, k88, k90, k91, s11]
        refine ⟨K', by rw [fm 9 4 rfl, fX 9 4 rfl]; exact v4, by rw [hgm, up_at, if_pos ⟨rfl, rfl⟩]; rfl, fun j hj => ?_, O', fun p hp => by rw [fm 89 p rfl]; exact rX p hp, BT, by (try clear wM3); (try clear wM4); (try clear nc); (try clear ic); omega, fun z => absurd rfl z⟩
        rw [hgm, v85, v86, v87, v88]
        simp only [up_at, Nat.reduceEqDiff, false_and, if_false, true_and]
        by_cases z : j = c
        · rw [if_pos z, if_pos z, if_pos z, if_pos z, if_pos z, if_pos z, if_pos z, if_pos z]; exact ⟨rfl, rfl, rfl, rfl⟩
        · have p := q3 j (by (try clear wM3); (try clear wM4); (try clear nc); (try clear ic); omega)
          have fXq : FR [(9, 5), (9, 12), (85, 0), (86, 0), (87, 0), (88, 0), (89, 0)] g gX := (FR.mo fq rfl).tr (FR.mo fX rfl)
          rw [if_neg z, if_neg z, if_neg z, if_neg z, if_neg z, if_neg z, if_neg z, if_neg z, fXq 162 j rfl, fXq 163 j rfl, fXq 164 j rfl, fXq 165 j rfl]
          exact p
    · refine ⟨(-1, g), (-1, g), ?_, ?_, rfl, ⟨c, o, J0⟩, Fr.rf⟩
      · unfold X_booking Bookings_add
        rw [if_neg (by rw [wX1]; (try clear wM3); (try clear wM4); (try clear nc); (try clear ic); omega), if_neg (by rw [wX2]; (try clear wM3); (try clear wM4); (try clear nc); (try clear ic); omega), if_neg (by rw [wX3]; (try clear wM3); (try clear wM4); (try clear nc); (try clear ic); omega), if_neg (by rw [wX4]; (try clear wM3); (try clear wM4); (try clear nc); (try clear ic); omega), q1, nc, if_neg (by (try clear wM3); (try clear wM4); (try clear nc); (try clear ic); omega), sb]
      · unfold M_booking
        dsimp only
        rw [if_neg (by rw [wM1]; (try clear wM3); (try clear wM4); (try clear nc); (try clear ic); omega), if_neg (by rw [wM2]; (try clear wM3); (try clear wM4); (try clear nc); (try clear ic); omega), if_neg (by rw [wM3]; (try clear wM3); (try clear wM4); (try clear nc); (try clear ic); omega), if_neg (by rw [wM4]; (try clear wM3); (try clear wM4); (try clear nc); (try clear ic); omega), if_pos (by rw [q2, nc]; (try clear wM3); (try clear wM4); (try clear nc); (try clear ic); omega)]
  · refine ⟨(-1, g), (-1, g), ?_, ?_, rfl, ⟨c, o, J0⟩, Fr.rf⟩
    · unfold X_booking
      by_cases z1 : 0 ≤ x1 ∧ x1 ≤ 15
      · rw [if_neg (by rw [wX1]; (try clear wM3); (try clear wM4); (try clear nc); (try clear ic); omega)]
        by_cases z2 : 0 ≤ x2 ∧ x2 ≤ 15
        · rw [if_neg (by rw [wX2]; (try clear wM3); (try clear wM4); (try clear nc); (try clear ic); omega)]
          by_cases z3 : 0 ≤ x3 ∧ x3 ≤ 9
          · rw [if_neg (by rw [wX3]; (try clear wM3); (try clear wM4); (try clear nc); (try clear ic); omega), if_pos (by rw [wX4]; (try clear wM3); (try clear wM4); (try clear nc); (try clear ic); omega)]
          · rw [if_pos (by rw [wX3]; (try clear wM3); (try clear wM4); (try clear nc); (try clear ic); omega)]
        · rw [if_pos (by rw [wX2]; (try clear wM3); (try clear wM4); (try clear nc); (try clear ic); omega)]
      · rw [if_pos (by rw [wX1]; (try clear wM3); (try clear wM4); (try clear nc); (try clear ic); omega)]
    · unfold M_booking
      by_cases z1 : 0 ≤ x1 ∧ x1 ≤ 15
      · rw [if_neg (by rw [wM1]; (try clear wM3); (try clear wM4); (try clear nc); (try clear ic); omega)]
        by_cases z2 : 0 ≤ x2 ∧ x2 ≤ 15
        · rw [if_neg (by rw [wM2]; (try clear wM3); (try clear wM4); (try clear nc); (try clear ic); omega)]
          by_cases z3 : 0 ≤ x3 ∧ x3 ≤ 9
          · rw [if_neg (by rw [wM3]; (try clear wM3); (try clear wM4); (try clear nc); (try clear ic); omega), if_pos (by rw [wM4]; (try clear wM3); (try clear wM4); (try clear nc); (try clear ic); omega)]
          · rw [if_pos (by rw [wM3]; (try clear wM3); (try clear wM4); (try clear nc); (try clear ic); omega)]
        · rw [if_pos (by rw [wM2]; (try clear wM3); (try clear wM4); (try clear nc); (try clear ic); omega)]
      · rw [if_pos (by rw [wM1]; (try clear wM3); (try clear wM4); (try clear nc); (try clear ic); omega)]
theorem X_hires_s {c : Nat} {o : Nat → Nat} {k : Nat} (hk : k ≤ 4) {f48 f50 : Nat → Int} (hr : ∀ x, x < k → (0 ≤ f48 x ∧ f48 x ≤ 15) ∧ (0 ≤ f50 x ∧ f50 x ≤ 15)) : ∀ (n b : Nat) (g : AG), b + n = k → JB c o g → (∀ x, x < k → g 48 x = f48 x ∧ g 50 x = f50 x) → (∀ x, x < b → g 90 x = f48 x ∧ g 91 x = f50 x) → ∃ g', X_hireFirst_b k b g = some (0, g') ∧ FR [(9, 12), (90, 0), (91, 0)] g g' ∧ JB c o g' ∧ ∀ x, x < k → g' 90 x = f48 x ∧ g' 91 x = f50 x := by
  intro n
  induction n with
  | zero =>
    intro b g h J h1 h2
    have e : b = k := by (try clear n0); (try clear n1); (try clear n2); omega
    subst e
    refine ⟨g, ?_, Fr.rf, J, h2⟩
    rw [X_hireFirst_b, if_pos (Int.le_refl _)]
  | succ n ih =>
    intro b g h J h1 h2
    have r := hr b (by (try clear n0); (try clear n1); (try clear n2); omega)
    have v := h1 b (by (try clear n0); (try clear n1); (try clear n2); omega)
    obtain ⟨g1, e1, f1, J1, a1, a2, a3⟩ := X_hire_s J (b := b) (x2 := f48 b) (x3 := f50 b) (by (try clear n0); (try clear n1); (try clear n2); omega) r.1 r.2
    obtain ⟨g', e', f', J', r'⟩ := ih (b + 1) g1 (by (try clear n0); (try clear n1); (try clear n2); omega) J1 (fun x hx => by rw [f1 48 x rfl, f1 50 x rfl]; exact h1 x hx) (fun x hx => by
      by_cases z : x = b
      · rw [z]; exact ⟨a1, a2⟩
      · have := a3 x z
        rw [this.1, this.2]
        exact h2 x (by (try clear n0); (try clear n1); (try clear n2); omega))
    refine ⟨g', ?_, f1.tr f', J', r'⟩
    have n0 : nw (k : Int) = k := nwN _ (by (try clear n0); (try clear n1); (try clear n2); omega)
    have n1 : nw (b : Int) = b := nwN _ (by (try clear n0); (try clear n1); (try clear n2); omega)
    have n2 : ix (b : Int) = b := ixN _ (by (try clear n0); (try clear n1); (try clear n2); omega)
    rw [X_hireFirst_b, n0, n1, n2, if_neg (by (try clear n0); (try clear n1); (try clear n2); omega), if_pos (by (try clear n0); (try clear n1); (try clear n2); omega), v.1, v.2, e1, sb]
    exact e'
theorem M_asks_s {k : Nat} (hk : k ≤ 4) : ∀ (n b : Nat) (g : AG), b + n = k → (∀ x, x < b → g 171 x = g 124 x ∧ g 172 x = g 126 x) → ∃ g', M_asks_b k b g = some (0, g') ∧ FR [(171, 0), (172, 0)] g g' ∧ ∀ x, x < k → g' 171 x = g 124 x ∧ g' 172 x = g 126 x := by
  intro n
  induction n with
  | zero =>
    intro b g h h2
    have e : b = k := by (try clear n0); (try clear n1); (try clear n2); omega
    subst e
    refine ⟨g, ?_, Fr.rf, h2⟩
    rw [M_asks_b, if_pos (Int.le_refl _)]
  | succ n ih =>
    intro b g h h2
    obtain ⟨g1, hg1⟩ : ∃ g1 : AG, g1 = up (up g 171 b (g 124 b)) 172 b (g 126 b) := ⟨_, rfl⟩
    have f1 : FR [(171, 0), (172, 0)] g g1 := by rw [hg1]; exact Fr.up (Fr.up Fr.rf rfl) rfl
    obtain ⟨g', e', f', r'⟩ := ih (b + 1) g1 (by (try clear n0); (try clear n1); (try clear n2); omega) (fun x hx => by
      rw [f1 124 x rfl, f1 126 x rfl, hg1]
      by_cases z : x = b
      · rw [z, up_at, if_neg (fun q => absurd q.1 (by decide)), up_at, if_pos ⟨rfl, rfl⟩, up_at, if_pos ⟨rfl, rfl⟩]; exact ⟨rfl, rfl⟩
      · rw [up_at, if_neg (fun q => absurd q.1 (by decide)), up_at, if_neg (fun q => z q.2), up_at, if_neg (fun q => z q.2), up_at, if_neg (fun q => absurd q.1 (by decide))]
        exact h2 x (by (try clear n0); (try clear n1); (try clear n2); omega))
    refine ⟨g', ?_, f1.tr f', fun x hx => by rw [(r' x hx).1, (r' x hx).2, f1 124 x rfl, f1 126 x rfl]; exact ⟨rfl, rfl⟩⟩
    have n0 : nw (k : Int) = k := nwN _ (by (try clear n0); (try clear n1); (try clear n2); omega)
    have n1 : nw (b : Int) = b := nwN _ (by (try clear n0); (try clear n1); (try clear n2); omega)
    have n2 : ix (b : Int) = b := ixN _ (by (try clear n0); (try clear n1); (try clear n2); omega)
    have u : (up g 171 b (g 124 b)) 126 b = g 126 b := by rw [up_at, if_neg (fun q => absurd q.1 (by decide))]
    rw [M_asks_b, n0, n1, n2, if_neg (by (try clear n0); (try clear n1); (try clear n2); omega), if_pos (by (try clear n0); (try clear n1); (try clear n2); omega), if_pos (by (try clear n0); (try clear n1); (try clear n2); omega), sb, u, sb, ← hg1]
    exact e'
abbrev WG : Reg := [(9, 11), (9, 12), (9, 16), (9, 17), (90, 0), (91, 0), (92, 0), (93, 0), (94, 0), (95, 0), (96, 0), (117, 67), (117, 68), (166, 0), (167, 0), (168, 0), (169, 0), (170, 0), (171, 0), (172, 0)]
theorem sm_given {x1 x2 : Int} {g : AG} (h1 : I32 x1) (h2 : I32 x2) (B : JBoat g) (J : JBook g) :
    ∃ r1 r2, X_given x1 x2 g = some r1 ∧ M_given x1 x2 r1.2 = some r2 ∧ nw r1.1 = nw r2.1 ∧ JBook r2.2 ∧ FR WG g r2.2 := by
  unfold I32 at *
  obtain ⟨c, o, J⟩ := J
  have J0 := J
  obtain ⟨K, q1, q2, q3, O, q5, BT, q7, q8⟩ := J
  have hc := K.1
  obtain ⟨b1, b2, b3⟩ := B
  have wX : (nw (X_within x1 1 4) = 0) = (x1 < 1 ∨ 4 < x1) := within0 (by (try clear wX); (try clear wM); (try clear w0); (try clear w1); (try clear nx2); (try clear nx1); (try clear n67); (try clear xE); (try clear nb4); (try clear mb); (try clear n12); (try clear m1); (try clear m2); omega) (by (try clear wX); (try clear wM); (try clear w0); (try clear w1); (try clear nx2); (try clear nx1); (try clear n67); (try clear xE); (try clear nb4); (try clear mb); (try clear n12); (try clear m1); (try clear m2); omega) (by decide) (by decide) (by decide) (by decide)
  have wM : (nw (M_isIn x1 1 4) = 0) = (x1 < 1 ∨ 4 < x1) := isIn0 (by (try clear wX); (try clear wM); (try clear w0); (try clear w1); (try clear nx2); (try clear nx1); (try clear n67); (try clear xE); (try clear nb4); (try clear mb); (try clear n12); (try clear m1); (try clear m2); omega) (by (try clear wX); (try clear wM); (try clear w0); (try clear w1); (try clear nx2); (try clear nx1); (try clear n67); (try clear xE); (try clear nb4); (try clear mb); (try clear n12); (try clear m1); (try clear m2); omega) (by decide) (by decide) (by decide) (by decide)
  have w0 : (nw (M_isIn x2 0 1) = 0) = (x2 < 0 ∨ 1 < x2) := isIn0 (by (try clear wX); (try clear wM); (try clear w0); (try clear w1); (try clear nx2); (try clear nx1); (try clear n67); (try clear xE); (try clear nb4); (try clear mb); (try clear n12); (try clear m1); (try clear m2); omega) (by (try clear wX); (try clear wM); (try clear w0); (try clear w1); (try clear nx2); (try clear nx1); (try clear n67); (try clear xE); (try clear nb4); (try clear mb); (try clear n12); (try clear m1); (try clear m2); omega) (by decide) (by decide) (by decide) (by decide)
  have w1 : ∀ g' : AG, g' 117 65 = c → (nw (M_isIn x2 10 (9 + g' 117 65)) = 0) = (x2 < 10 ∨ 9 + (c : Int) < x2) := fun g' e => by
    rw [e]
    exact isIn0 (by (try clear wX); (try clear wM); (try clear w0); (try clear w1); (try clear nx2); (try clear nx1); (try clear n67); (try clear xE); (try clear nb4); (try clear mb); (try clear n12); (try clear m1); (try clear m2); omega) (by (try clear wX); (try clear wM); (try clear w0); (try clear w1); (try clear nx2); (try clear nx1); (try clear n67); (try clear xE); (try clear nb4); (try clear mb); (try clear n12); (try clear m1); (try clear m2); omega) (by decide) (by decide) (by (try clear wX); (try clear wM); (try clear w0); (try clear w1); (try clear nx2); (try clear nx1); (try clear n67); (try clear xE); (try clear nb4); (try clear mb); (try clear n12); (try clear m1); (try clear m2); omega) (by (try clear wX); (try clear wM); (try clear w0); (try clear w1); (try clear nx2); (try clear nx1); (try clear n67); (try clear xE); (try clear nb4); (try clear mb); (try clear n12); (try clear m1); (try clear m2); omega)
  have nx2 : nw x2 = x2 := nw_id (by (try clear wX); (try clear wM); (try clear w0); (try clear w1); (try clear nx2); (try clear nx1); (try clear n67); (try clear xE); (try clear nb4); (try clear mb); (try clear n12); (try clear m1); (try clear m2); omega) (by (try clear wX); (try clear wM); (try clear w0); (try clear w1); (try clear nx2); (try clear nx1); (try clear n67); (try clear xE); (try clear nb4); (try clear mb); (try clear n12); (try clear m1); (try clear m2); omega)
  have nx1 : nw x1 = x1 := nw_id (by (try clear wX); (try clear wM); (try clear w0); (try clear w1); (try clear nx2); (try clear nx1); (try clear n67); (try clear xE); (try clear nb4); (try clear mb); (try clear n12); (try clear m1); (try clear m2); omega) (by (try clear wX); (try clear wM); (try clear w0); (try clear w1); (try clear nx2); (try clear nx1); (try clear n67); (try clear xE); (try clear nb4); (try clear mb); (try clear n12); (try clear m1); (try clear m2); omega)
  have n67 : nw (g 6 7) = g 6 7 := nw_id (by (try clear wX); (try clear wM); (try clear w0); (try clear w1); (try clear nx2); (try clear nx1); (try clear n67); (try clear xE); (try clear nb4); (try clear mb); (try clear n12); (try clear m1); (try clear m2); omega) (by (try clear wX); (try clear wM); (try clear w0); (try clear w1); (try clear nx2); (try clear nx1); (try clear n67); (try clear xE); (try clear nb4); (try clear mb); (try clear n12); (try clear m1); (try clear m2); omega)
  by_cases a : 1 ≤ x1 ∧ x1 ≤ 4
  · by_cases a2 : x1 ≤ g 6 7
    · obtain ⟨k, rfl⟩ := natOf (show 0 ≤ x1 by (try clear wX); (try clear wM); (try clear w0); (try clear w1); (try clear nx2); (try clear nx1); (try clear n67); (try clear xE); (try clear nb4); (try clear mb); (try clear n12); (try clear m1); (try clear m2); omega)
      have hk : 1 ≤ k ∧ k ≤ 4 := by (try clear wX); (try clear wM); (try clear w0); (try clear w1); (try clear nx2); (try clear nx1); (try clear n67); (try clear xE); (try clear nb4); (try clear mb); (try clear n12); (try clear m1); (try clear m2); omega
      obtain ⟨gA, eA, fA, JA, rA⟩ := X_hires_s hk.2 (f48 := g 48) (f50 := g 50) (fun x hx => by have := b3 x (by (try clear wX); (try clear wM); (try clear w0); (try clear w1); (try clear nx2); (try clear nx1); (try clear n67); (try clear xE); (try clear nb4); (try clear mb); (try clear n12); (try clear m1); (try clear m2); omega); omega) k 0 g (by (try clear wX); (try clear wM); (try clear w0); (try clear w1); (try clear nx2); (try clear nx1); (try clear n67); (try clear xE); (try clear nb4); (try clear mb); (try clear n12); (try clear m1); (try clear m2); omega) J0 (fun x _ => ⟨rfl, rfl⟩) (fun x hx => by (try clear wX); (try clear wM); (try clear w0); (try clear w1); (try clear nx2); (try clear nx1); (try clear n67); (try clear xE); (try clear nb4); (try clear mb); (try clear n12); (try clear m1); (try clear m2); omega)
      have eA' : X_hireFirst k g = some (0, gA) := eA
      obtain ⟨gB, eB, fB, JB', s1, s2, s3⟩ := X_kept_s JA hk
      have fAB : FR WG g gB := (FR.mo fA rfl).tr (FR.mo fB rfl)
      have bB : gB 9 4 = c := JB'.2.1
      have xE : X_given k x2 g = (if x2 = 0 then some (gB 9 15, gB) else if x2 = 1 then some (gB 9 16, gB) else if x2 < 10 then some (-1, gB) else if nw (x2 - 10) < nw (gB 9 4) then (if 0 ≤ nw (x2 - 10) ∧ nw (x2 - 10) < 8 then some (gB 96 (ix (x2 - 10)), gB) else none) else some (-1, gB)) := by
        unfold X_given
        rw [if_neg (by rw [wX]; (try clear wX); (try clear wM); (try clear w0); (try clear w1); (try clear nx2); (try clear nx1); (try clear n67); (try clear xE); (try clear nb4); (try clear mb); (try clear n12); (try clear m1); (try clear m2); omega), nx1, n67, if_pos a2, eA', sb, eB, sb, nx2]
      have nb4 : nw (gB 9 4) = c := by rw [bB]; exact nwN _ (by (try clear wX); (try clear wM); (try clear w0); (try clear w1); (try clear nx2); (try clear nx1); (try clear n67); (try clear xE); (try clear nb4); (try clear mb); (try clear n12); (try clear m1); (try clear m2); omega)
      -- the reference
      obtain ⟨gC, eC, fC, rC⟩ := M_asks_s hk.2 k 0 gB (by (try clear wX); (try clear wM); (try clear w0); (try clear w1); (try clear nx2); (try clear nx1); (try clear n67); (try clear xE); (try clear nb4); (try clear mb); (try clear n12); (try clear m1); (try clear m2); omega) (fun x hx => by (try clear wX); (try clear wM); (try clear w0); (try clear w1); (try clear nx2); (try clear nx1); (try clear n67); (try clear xE); (try clear nb4); (try clear mb); (try clear n12); (try clear m1); (try clear m2); omega)
      have eC' : M_asks k gB = some (0, gC) := eC
      have KA := JA.1
      obtain ⟨gD, eD, fD, t1, t2, t3⟩ := M_gbest_s (g := gC) KA (JA.2.2.2.2.2.2.1.mono hk.2) JA.2.2.2.2.1 (by rw [fC 117 65 rfl, fB 117 65 rfl]; exact JA.2.2.1) (fun j hj => by
        rw [fC 162 j rfl, fC 163 j rfl, fC 164 j rfl, fC 165 j rfl, fB 162 j rfl, fB 163 j rfl, fB 164 j rfl, fB 165 j rfl]
        exact JA.2.2.2.1 j hj) (fun b hb => by
        rw [(rC b hb).1, (rC b hb).2, (rA b hb).1, (rA b hb).2, fAB 124 b rfl, fAB 126 b rfl]
        have := b2 b (by (try clear wX); (try clear wM); (try clear w0); (try clear w1); (try clear nx2); (try clear nx1); (try clear n67); (try clear xE); (try clear nb4); (try clear mb); (try clear n12); (try clear m1); (try clear m2); omega)
        exact ⟨this.1, this.2.2.1⟩)
      have fE : FR WG g gD := fAB.tr ((FR.mo fC rfl).tr (FR.mo fD rfl))
      have JD : JBook gD := ⟨c, o, (JB'.cg (fC.cg rfl)).cg (fD.cg rfl)⟩
      have mb : M_given_b k x2 gB = ((((if x2 = 0 then some (gD 117 66, gD) else if x2 = 1 then some (gD 117 67, gD) else if 0 ≤ nw (x2 - 10) ∧ nw (x2 - 10) < 8 then some (gD 168 (ix (x2 - 10)), gD) else none)) : Option (Int × AG)) >>= fun r8 => some (r8.1, r8.2)) := by
        unfold M_given_b
        rw [eC', sb, eD, sb, nx2]
      have mtop : ∀ R, M_given_b k x2 gB = R → ((0 ≤ x2 ∧ x2 ≤ 1) ∨ (10 ≤ x2 ∧ x2 ≤ 9 + (c : Int))) → M_given k x2 gB = R := fun R hR ok => by
        unfold M_given
        have n12 : nw (gB 117 12) = g 6 7 := by rw [fAB 117 12 rfl, b1.1]; exact n67
        rw [if_neg (by rw [wM]; (try clear wX); (try clear wM); (try clear w0); (try clear w1); (try clear nx2); (try clear nx1); (try clear n67); (try clear xE); (try clear nb4); (try clear mb); (try clear n12); (try clear m1); (try clear m2); omega), n12, nx1, if_neg (by (try clear wX); (try clear wM); (try clear w0); (try clear w1); (try clear nx2); (try clear nx1); (try clear n67); (try clear xE); (try clear nb4); (try clear mb); (try clear n12); (try clear m1); (try clear m2); omega)]
        by_cases z : 0 ≤ x2 ∧ x2 ≤ 1
        · rw [if_neg (by rw [w0]; (try clear wX); (try clear wM); (try clear w0); (try clear w1); (try clear nx2); (try clear nx1); (try clear n67); (try clear xE); (try clear nb4); (try clear mb); (try clear n12); (try clear m1); (try clear m2); omega)]; exact hR
        · rw [if_pos (by rw [w0]; (try clear wX); (try clear wM); (try clear w0); (try clear w1); (try clear nx2); (try clear nx1); (try clear n67); (try clear xE); (try clear nb4); (try clear mb); (try clear n12); (try clear m1); (try clear m2); omega), if_neg (by rw [w1 gB (by rw [fB 117 65 rfl]; exact JA.2.2.1)]; (try clear wX); (try clear wM); (try clear w0); (try clear w1); (try clear nx2); (try clear nx1); (try clear n67); (try clear xE); (try clear nb4); (try clear mb); (try clear n12); (try clear m1); (try clear m2); omega)]; exact hR
      by_cases z0 : x2 = 0
      · refine ⟨(gB 9 15, gB), (gD 117 66, gD), by rw [xE, if_pos z0], mtop _ ?_ (Or.inl (by rw [z0]; decide)), ?_, JD, fE⟩
        · rw [mb, if_pos z0, sb]
        · dsimp only; rw [s1, t1]
      by_cases z1 : x2 = 1
      · refine ⟨(gB 9 16, gB), (gD 117 67, gD), by rw [xE, if_neg z0, if_pos z1], mtop _ ?_ (Or.inl (by rw [z1]; decide)), ?_, JD, fE⟩
        · rw [mb, if_neg z0, if_pos z1, sb]
        · dsimp only; rw [s2, t2]
      by_cases z2 : 10 ≤ x2 ∧ x2 ≤ 9 + (c : Int)
      · obtain ⟨j, hj⟩ : ∃ j : Nat, x2 - 10 = j := ⟨(x2 - 10).toNat, by (try clear wX); (try clear wM); (try clear w0); (try clear w1); (try clear nx2); (try clear nx1); (try clear n67); (try clear xE); (try clear nb4); (try clear mb); (try clear n12); (try clear m1); (try clear m2); omega⟩
        have m1 : nw (x2 - 10) = j := by rw [hj]; exact nwN _ (by (try clear wX); (try clear wM); (try clear w0); (try clear w1); (try clear nx2); (try clear nx1); (try clear n67); (try clear xE); (try clear nb4); (try clear mb); (try clear n12); (try clear m1); (try clear m2); omega)
        have m2 : ix (x2 - 10) = j := by rw [hj]; exact ixN _ (by (try clear wX); (try clear wM); (try clear w0); (try clear w1); (try clear nx2); (try clear nx1); (try clear n67); (try clear xE); (try clear nb4); (try clear mb); (try clear n12); (try clear m1); (try clear m2); omega)
        refine ⟨(gB 96 j, gB), (gD 168 j, gD), ?_, mtop _ ?_ (Or.inr z2), ?_, JD, fE⟩
        · rw [xE, if_neg z0, if_neg z1, if_neg (by (try clear wX); (try clear wM); (try clear w0); (try clear w1); (try clear nx2); (try clear nx1); (try clear n67); (try clear xE); (try clear nb4); (try clear mb); (try clear n12); (try clear m1); (try clear m2); omega), m1, m2, if_pos (by rw [nb4]; (try clear wX); (try clear wM); (try clear w0); (try clear w1); (try clear nx2); (try clear nx1); (try clear n67); (try clear xE); (try clear nb4); (try clear mb); (try clear n12); (try clear m1); (try clear m2); omega), if_pos (by (try clear wX); (try clear wM); (try clear w0); (try clear w1); (try clear nx2); (try clear nx1); (try clear n67); (try clear xE); (try clear nb4); (try clear mb); (try clear n12); (try clear m1); (try clear m2); omega)]
        · rw [mb, if_neg z0, if_neg z1, m1, m2, if_pos (by (try clear wX); (try clear wM); (try clear w0); (try clear w1); (try clear nx2); (try clear nx1); (try clear n67); (try clear xE); (try clear nb4); (try clear mb); (try clear n12); (try clear m1); (try clear m2); omega), sb]
        · dsimp only; rw [s3 j (by (try clear wX); (try clear wM); (try clear w0); (try clear w1); (try clear nx2); (try clear nx1); (try clear n67); (try clear xE); (try clear nb4); (try clear mb); (try clear n12); (try clear m1); (try clear m2); omega), t3 j (by (try clear wX); (try clear wM); (try clear w0); (try clear w1); (try clear nx2); (try clear nx1); (try clear n67); (try clear xE); (try clear nb4); (try clear mb); (try clear n12); (try clear m1); (try clear m2); omega)]
      · refine ⟨(-1, gB), (-1, gB), ?_, ?_, rfl, ⟨c, o, JB'⟩, fAB⟩
        · rw [xE, if_neg z0, if_neg z1]
          by_cases y : x2 < 10
          · rw [if_pos y]
          · have m1 : nw (x2 - 10) = x2 - 10 := nw_id (by (try clear wX); (try clear wM); (try clear w0); (try clear w1); (try clear nx2); (try clear nx1); (try clear n67); (try clear xE); (try clear nb4); (try clear mb); (try clear n12); (try clear m1); (try clear m2); omega) (by (try clear wX); (try clear wM); (try clear w0); (try clear w1); (try clear nx2); (try clear nx1); (try clear n67); (try clear xE); (try clear nb4); (try clear mb); (try clear n12); (try clear m1); (try clear m2); omega)
            rw [if_neg y, if_neg (by rw [m1, nb4]; (try clear wX); (try clear wM); (try clear w0); (try clear w1); (try clear nx2); (try clear nx1); (try clear n67); (try clear xE); (try clear nb4); (try clear mb); (try clear n12); (try clear m1); (try clear m2); omega)]
        · unfold M_given
          have n12 : nw (gB 117 12) = g 6 7 := by rw [fAB 117 12 rfl, b1.1]; exact n67
          rw [if_neg (by rw [wM]; (try clear wX); (try clear wM); (try clear w0); (try clear w1); (try clear nx2); (try clear nx1); (try clear n67); (try clear xE); (try clear nb4); (try clear mb); (try clear n12); (try clear m1); (try clear m2); omega), n12, nx1, if_neg (by (try clear wX); (try clear wM); (try clear w0); (try clear w1); (try clear nx2); (try clear nx1); (try clear n67); (try clear xE); (try clear nb4); (try clear mb); (try clear n12); (try clear m1); (try clear m2); omega), if_pos (by rw [w0]; (try clear wX); (try clear wM); (try clear w0); (try clear w1); (try clear nx2); (try clear nx1); (try clear n67); (try clear xE); (try clear nb4); (try clear mb); (try clear n12); (try clear m1); (try clear m2); omega), if_pos (by rw [w1 gB (by rw [fB 117 65 rfl]; exact JA.2.2.1)]; (try clear wX); (try clear wM); (try clear w0); (try clear w1); (try clear nx2); (try clear nx1); (try clear n67); (try clear xE); (try clear nb4); (try clear mb); (try clear n12); (try clear m1); (try clear m2); omega)]
    · refine ⟨(-1, g), (-1, g), ?_, ?_, rfl, ⟨c, o, J0⟩, Fr.rf⟩
      · unfold X_given
        rw [if_neg (by rw [wX]; (try clear wX); (try clear wM); (try clear w0); (try clear w1); (try clear nx2); (try clear nx1); (try clear n67); (try clear xE); (try clear nb4); (try clear mb); (try clear n12); (try clear m1); (try clear m2); omega), nx1, n67, if_neg a2]
      · unfold M_given
        rw [if_neg (by rw [wM]; (try clear wX); (try clear wM); (try clear w0); (try clear w1); (try clear nx2); (try clear nx1); (try clear n67); (try clear xE); (try clear nb4); (try clear mb); (try clear n12); (try clear m1); (try clear m2); omega), nx1, if_pos (by dsimp only; rw [b1.1, n67]; (try clear wX); (try clear wM); (try clear w0); (try clear w1); (try clear nx2); (try clear nx1); (try clear n67); (try clear xE); (try clear nb4); (try clear mb); (try clear n12); (try clear m1); (try clear m2); omega)]
  · refine ⟨(-1, g), (-1, g), ?_, ?_, rfl, ⟨c, o, J0⟩, Fr.rf⟩
    · unfold X_given
      rw [if_pos (by rw [wX]; (try clear wX); (try clear wM); (try clear w0); (try clear w1); (try clear nx2); (try clear nx1); (try clear n67); (try clear xE); (try clear nb4); (try clear mb); (try clear n12); (try clear m1); (try clear m2); omega)]
    · unfold M_given
      rw [if_pos (by rw [wM]; (try clear wX); (try clear wM); (try clear w0); (try clear w1); (try clear nx2); (try clear nx1); (try clear n67); (try clear xE); (try clear nb4); (try clear mb); (try clear n12); (try clear m1); (try clear m2); omega)]
theorem sm_more {x1 x2 x3 : Int} {g : AG} (h1 : I32 x1) (h2 : I32 x2) (h3 : I32 x3) (B : JBoat g) (J : JBook g) :
    ∃ r1 r2, X_more x1 x2 x3 g = some r1 ∧ M_more x1 x2 x3 r1.2 = some r2 ∧ nw r1.1 = nw r2.1 ∧ JBook r2.2 ∧ FR WG g r2.2 := by
  unfold I32 at *
  obtain ⟨c, o, J⟩ := J
  have J0 := J
  obtain ⟨K, q1, q2, q3, O, q5, BT, q7, q8⟩ := J
  have hc := K.1
  obtain ⟨b1, b2, b3⟩ := B
  have wX : (nw (X_within x1 1 3) = 0) = (x1 < 1 ∨ 3 < x1) := within0 (by (try clear wX); (try clear wM); (try clear wM2); (try clear nx1); (try clear n67); (try clear nk); (try clear ik); (try clear n12); omega) (by (try clear wX); (try clear wM); (try clear wM2); (try clear nx1); (try clear n67); (try clear nk); (try clear ik); (try clear n12); omega) (by decide) (by decide) (by decide) (by decide)
  have wM : (nw (M_isIn x1 1 3) = 0) = (x1 < 1 ∨ 3 < x1) := isIn0 (by (try clear wX); (try clear wM); (try clear wM2); (try clear nx1); (try clear n67); (try clear nk); (try clear ik); (try clear n12); omega) (by (try clear wX); (try clear wM); (try clear wM2); (try clear nx1); (try clear n67); (try clear nk); (try clear ik); (try clear n12); omega) (by decide) (by decide) (by decide) (by decide)
  have wX2 := isBerths0 (x := x2) (by (try clear wX); (try clear wM); (try clear wM2); (try clear nx1); (try clear n67); (try clear nk); (try clear ik); (try clear n12); omega) (by (try clear wX); (try clear wM); (try clear wM2); (try clear nx1); (try clear n67); (try clear nk); (try clear ik); (try clear n12); omega)
  have wM2 : (nw (M_isIn x2 2 12) = 0) = (x2 < 2 ∨ 12 < x2) := isIn0 (by (try clear wX); (try clear wM); (try clear wM2); (try clear nx1); (try clear n67); (try clear nk); (try clear ik); (try clear n12); omega) (by (try clear wX); (try clear wM); (try clear wM2); (try clear nx1); (try clear n67); (try clear nk); (try clear ik); (try clear n12); omega) (by decide) (by decide) (by decide) (by decide)
  have wX3 := isPointX0 (x := x3) (by (try clear wX); (try clear wM); (try clear wM2); (try clear nx1); (try clear n67); (try clear nk); (try clear ik); (try clear n12); omega) (by (try clear wX); (try clear wM); (try clear wM2); (try clear nx1); (try clear n67); (try clear nk); (try clear ik); (try clear n12); omega)
  have wM3 := isPoint0 (x := x3) (by (try clear wX); (try clear wM); (try clear wM2); (try clear nx1); (try clear n67); (try clear nk); (try clear ik); (try clear n12); omega) (by (try clear wX); (try clear wM); (try clear wM2); (try clear nx1); (try clear n67); (try clear nk); (try clear ik); (try clear n12); omega)
  have nx1 : nw x1 = x1 := nw_id (by (try clear wX); (try clear wM); (try clear wM2); (try clear nx1); (try clear n67); (try clear nk); (try clear ik); (try clear n12); omega) (by (try clear wX); (try clear wM); (try clear wM2); (try clear nx1); (try clear n67); (try clear nk); (try clear ik); (try clear n12); omega)
  have n67 : nw (g 6 7) = g 6 7 := nw_id (by (try clear wX); (try clear wM); (try clear wM2); (try clear nx1); (try clear n67); (try clear nk); (try clear ik); (try clear n12); omega) (by (try clear wX); (try clear wM); (try clear wM2); (try clear nx1); (try clear n67); (try clear nk); (try clear ik); (try clear n12); omega)
  by_cases a : 1 ≤ x1 ∧ x1 ≤ 3
  · by_cases a2 : x1 ≤ g 6 7
    · by_cases a3 : 2 ≤ x2 ∧ x2 ≤ 12
      · by_cases a4 : 0 ≤ x3 ∧ x3 ≤ 15
        · obtain ⟨k, rfl⟩ := natOf (show 0 ≤ x1 by (try clear wX); (try clear wM); (try clear wM2); (try clear nx1); (try clear n67); (try clear nk); (try clear ik); (try clear n12); omega)
          have hk : 1 ≤ k ∧ k ≤ 3 := by (try clear wX); (try clear wM); (try clear wM2); (try clear nx1); (try clear n67); (try clear nk); (try clear ik); (try clear n12); omega
          obtain ⟨gA, eA, fA, JA, rA⟩ := X_hires_s (show k ≤ 4 by (try clear wX); (try clear wM); (try clear wM2); (try clear nx1); (try clear n67); (try clear nk); (try clear ik); (try clear n12); omega) (f48 := g 48) (f50 := g 50) (fun x hx => by have := b3 x (by (try clear wX); (try clear wM); (try clear wM2); (try clear nx1); (try clear n67); (try clear nk); (try clear ik); (try clear n12); omega); omega) k 0 g (by (try clear wX); (try clear wM); (try clear wM2); (try clear nx1); (try clear n67); (try clear nk); (try clear ik); (try clear n12); omega) J0 (fun x _ => ⟨rfl, rfl⟩) (fun x hx => by (try clear wX); (try clear wM); (try clear wM2); (try clear nx1); (try clear n67); (try clear nk); (try clear ik); (try clear n12); omega)
          have eA' : X_hireFirst k g = some (0, gA) := eA
          obtain ⟨gH, eH, fH, JH, rH1, rH2, rH3⟩ := X_hire_s JA (b := k) (x2 := x2) (x3 := x3) (by (try clear wX); (try clear wM); (try clear wM2); (try clear nx1); (try clear n67); (try clear nk); (try clear ik); (try clear n12); omega) (by (try clear wX); (try clear wM); (try clear wM2); (try clear nx1); (try clear n67); (try clear nk); (try clear ik); (try clear n12); omega) a4
          obtain ⟨gB, eB, fB, JB', s1, _, _⟩ := X_kept_s JH (k := k) (by (try clear wX); (try clear wM); (try clear wM2); (try clear nx1); (try clear n67); (try clear nk); (try clear ik); (try clear n12); omega)
          obtain ⟨gC, eC, fC, JC, u1, _, _⟩ := X_kept_s JB' (k := k + 1) (by (try clear wX); (try clear wM); (try clear wM2); (try clear nx1); (try clear n67); (try clear nk); (try clear ik); (try clear n12); omega)
          have eC' : Bookings_giveBest ((k : Int) + 1) gB = some (0, gC) := eC
          have fABC : FR WG g gC := (FR.mo fA rfl).tr ((FR.mo fH rfl).tr ((FR.mo fB rfl).tr (FR.mo fC rfl)))
          have c85 : gB 85 = gH 85 := funext fun i => fB 85 i rfl
          have c86 : gB 86 = gH 86 := funext fun i => fB 86 i rfl
          have c87 : gB 87 = gH 87 := funext fun i => fB 87 i rfl
          have c88 : gB 88 = gH 88 := funext fun i => fB 88 i rfl
          have c90 : gB 90 = gH 90 := funext fun i => fB 90 i rfl
          have c91 : gB 91 = gH 91 := funext fun i => fB 91 i rfl
          rw [c85, c86, c87, c88, c90, c91] at u1
          have fBC : FR WG gH gC := (FR.mo fB rfl).tr (FR.mo fC rfl)
          -- the reference
          obtain ⟨gD, eD, fD, rD⟩ := M_asks_s (show k ≤ 4 by (try clear wX); (try clear wM); (try clear wM2); (try clear nx1); (try clear n67); (try clear nk); (try clear ik); (try clear n12); omega) k 0 gC (by (try clear wX); (try clear wM); (try clear wM2); (try clear nx1); (try clear n67); (try clear nk); (try clear ik); (try clear n12); omega) (fun x hx => by (try clear wX); (try clear wM); (try clear wM2); (try clear nx1); (try clear n67); (try clear nk); (try clear ik); (try clear n12); omega)
          have eD' : M_asks k gC = some (0, gD) := eD
          have rD' : ∀ b, b < k → gD 171 b = gH 90 b ∧ gD 172 b = gH 91 b := fun b hb => by
            have h3' := rH3 b (by (try clear wX); (try clear wM); (try clear wM2); (try clear nx1); (try clear n67); (try clear nk); (try clear ik); (try clear n12); omega)
            rw [(rD b hb).1, (rD b hb).2, h3'.1, h3'.2, (rA b hb).1, (rA b hb).2, fABC 124 b rfl, fABC 126 b rfl]
            have := b2 b (by (try clear wX); (try clear wM); (try clear wM2); (try clear nx1); (try clear n67); (try clear nk); (try clear ik); (try clear n12); omega)
            exact ⟨this.1, this.2.2.1⟩
          have m65 : gD 117 65 = c := by rw [fD 117 65 rfl, fBC 117 65 rfl]; exact JH.2.2.1
          have mbk : ∀ j, j < c → gD 162 j = gH 85 j ∧ gD 163 j = gH 86 j ∧ gD 164 j = gH 87 j ∧ gD 165 j = gH 88 j := fun j hj => by
            rw [fD 162 j rfl, fD 163 j rfl, fD 164 j rfl, fD 165 j rfl, fBC 162 j rfl, fBC 163 j rfl, fBC 164 j rfl, fBC 165 j rfl]
            exact JH.2.2.2.1 j hj
          obtain ⟨gE, eE, fE, t1, _, _⟩ := M_gbest_s (g := gD) (k := k) JH.1 (JH.2.2.2.2.2.2.1.mono (by (try clear wX); (try clear wM); (try clear wM2); (try clear nx1); (try clear n67); (try clear nk); (try clear ik); (try clear n12); omega)) JH.2.2.2.2.1 m65 mbk rD'
          obtain ⟨gF, hgF⟩ : ∃ gF : AG, gF = up (up gE 171 k x2) 172 k x3 := ⟨_, rfl⟩
          have fF : FR [(171, 0), (172, 0)] gE gF := by rw [hgF]; exact Fr.up (Fr.up Fr.rf rfl) rfl
          obtain ⟨gG, eG, fG, v1, _, _⟩ := M_gbest_s (g := gF) (k := k + 1) JH.1 (JH.2.2.2.2.2.2.1.mono (by (try clear wX); (try clear wM); (try clear wM2); (try clear nx1); (try clear n67); (try clear nk); (try clear ik); (try clear n12); omega)) JH.2.2.2.2.1 (by rw [fF 117 65 rfl, fE 117 65 rfl]; exact m65) (fun j hj => by
            rw [fF 162 j rfl, fF 163 j rfl, fF 164 j rfl, fF 165 j rfl, fE 162 j rfl, fE 163 j rfl, fE 164 j rfl, fE 165 j rfl]
            exact mbk j hj) (fun b hb => by
            rw [hgF]
            by_cases z : b = k
            · rw [z, up_at, if_neg (fun q => absurd q.1 (by decide)), up_at, if_pos ⟨rfl, rfl⟩, up_at, if_pos ⟨rfl, rfl⟩]
              exact ⟨rH1.symm, rH2.symm⟩
            · rw [up_at, if_neg (fun q => absurd q.1 (by decide)), up_at, if_neg (fun q => z q.2), up_at, if_neg (fun q => z q.2), up_at, if_neg (fun q => absurd q.1 (by decide)), fE 171 b rfl, fE 172 b rfl]
              exact rD' b (by (try clear wX); (try clear wM); (try clear wM2); (try clear nx1); (try clear n67); (try clear nk); (try clear ik); (try clear n12); omega))
          have eG' : M_givesBest ((k : Int) + 1) gF = some (0, gG) := eG
          have nk : nw (k : Int) = k := nwN _ (by (try clear wX); (try clear wM); (try clear wM2); (try clear nx1); (try clear n67); (try clear nk); (try clear ik); (try clear n12); omega)
          have ik : ix (k : Int) = k := ixN _ (by (try clear wX); (try clear wM); (try clear wM2); (try clear nx1); (try clear n67); (try clear nk); (try clear ik); (try clear n12); omega)
          refine ⟨(gC 9 15 - gB 9 15, gC), (gG 117 66 - gE 117 66, gG), ?_, ?_, ?_, ⟨c, o, ((((JC.cg (fD.cg rfl)).cg (fE.cg rfl)).cg (fF.cg rfl)).cg (fG.cg rfl))⟩, fABC.tr ((FR.mo fD rfl).tr ((FR.mo fE rfl).tr ((FR.mo fF rfl).tr (FR.mo fG rfl))))⟩
          · unfold X_more
            rw [if_neg (by rw [wX]; (try clear wX); (try clear wM); (try clear wM2); (try clear nx1); (try clear n67); (try clear nk); (try clear ik); (try clear n12); omega), nx1, n67, if_pos a2, if_neg (by rw [wX2]; (try clear wX); (try clear wM); (try clear wM2); (try clear nx1); (try clear n67); (try clear nk); (try clear ik); (try clear n12); omega), if_neg (by rw [wX3]; (try clear wX); (try clear wM); (try clear wM2); (try clear nx1); (try clear n67); (try clear nk); (try clear ik); (try clear n12); omega), eA', sb, eH, sb, eB, sb, eC', sb]
          · unfold M_more
            have n12 : nw (gC 117 12) = g 6 7 := by rw [fABC 117 12 rfl, b1.1]; exact n67
            rw [if_neg (by rw [wM]; (try clear wX); (try clear wM); (try clear wM2); (try clear nx1); (try clear n67); (try clear nk); (try clear ik); (try clear n12); omega), n12, nx1, if_neg (by (try clear wX); (try clear wM); (try clear wM2); (try clear nx1); (try clear n67); (try clear nk); (try clear ik); (try clear n12); omega), if_neg (by rw [wM2]; (try clear wX); (try clear wM); (try clear wM2); (try clear nx1); (try clear n67); (try clear nk); (try clear ik); (try clear n12); omega), if_neg (by rw [wM3]; (try clear wX); (try clear wM); (try clear wM2); (try clear nx1); (try clear n67); (try clear nk); (try clear ik); (try clear n12); omega), eD', sb, eE, sb, ik, if_pos (by (try clear wX); (try clear wM); (try clear wM2); (try clear nx1); (try clear n67); (try clear nk); (try clear ik); (try clear n12); omega), sb, sb, ← hgF, eG', sb]
          · dsimp only
            rw [u1, s1, v1, t1]
        · refine ⟨(-1, g), (-1, g), ?_, ?_, rfl, ⟨c, o, J0⟩, Fr.rf⟩
          · unfold X_more
            rw [if_neg (by rw [wX]; (try clear wX); (try clear wM); (try clear wM2); (try clear nx1); (try clear n67); (try clear nk); (try clear ik); (try clear n12); omega), nx1, n67, if_pos a2, if_neg (by rw [wX2]; (try clear wX); (try clear wM); (try clear wM2); (try clear nx1); (try clear n67); (try clear nk); (try clear ik); (try clear n12); omega), if_pos (by rw [wX3]; (try clear wX); (try clear wM); (try clear wM2); (try clear nx1); (try clear n67); (try clear nk); (try clear ik); (try clear n12); omega)]
          · unfold M_more
            rw [if_neg (by rw [wM]; (try clear wX); (try clear wM); (try clear wM2); (try clear nx1); (try clear n67); (try clear nk); (try clear ik); (try clear n12); omega), nx1, if_neg (by dsimp only; rw [b1.1, n67]; (try clear wX); (try clear wM); (try clear wM2); (try clear nx1); (try clear n67); (try clear nk); (try clear ik); (try clear n12); omega), if_neg (by rw [wM2]; (try clear wX); (try clear wM); (try clear wM2); (try clear nx1); (try clear n67); (try clear nk); (try clear ik); (try clear n12); omega), if_pos (by rw [wM3]; (try clear wX); (try clear wM); (try clear wM2); (try clear nx1); (try clear n67); (try clear nk); (try clear ik); (try clear n12); omega)]
      · refine ⟨(-1, g), (-1, g), ?_, ?_, rfl, ⟨c, o, J0⟩, Fr.rf⟩
        · unfold X_more
          rw [if_neg (by rw [wX]; (try clear wX); (try clear wM); (try clear wM2); (try clear nx1); (try clear n67); (try clear nk); (try clear ik); (try clear n12); omega), nx1, n67, if_pos a2, if_pos (by rw [wX2]; (try clear wX); (try clear wM); (try clear wM2); (try clear nx1); (try clear n67); (try clear nk); (try clear ik); (try clear n12); omega)]
        · unfold M_more
          rw [if_neg (by rw [wM]; (try clear wX); (try clear wM); (try clear wM2); (try clear nx1); (try clear n67); (try clear nk); (try clear ik); (try clear n12); omega), nx1, if_neg (by dsimp only; rw [b1.1, n67]; (try clear wX); (try clear wM); (try clear wM2); (try clear nx1); (try clear n67); (try clear nk); (try clear ik); (try clear n12); omega), if_pos (by rw [wM2]; (try clear wX); (try clear wM); (try clear wM2); (try clear nx1); (try clear n67); (try clear nk); (try clear ik); (try clear n12); omega)]
    · refine ⟨(-1, g), (-1, g), ?_, ?_, rfl, ⟨c, o, J0⟩, Fr.rf⟩
      · unfold X_more
        rw [if_neg (by rw [wX]; (try clear wX); (try clear wM); (try clear wM2); (try clear nx1); (try clear n67); (try clear nk); (try clear ik); (try clear n12); omega), nx1, n67, if_neg a2]
      · unfold M_more
        rw [if_neg (by rw [wM]; (try clear wX); (try clear wM); (try clear wM2); (try clear nx1); (try clear n67); (try clear nk); (try clear ik); (try clear n12); omega), nx1, if_pos (by dsimp only; rw [b1.1, n67]; (try clear wX); (try clear wM); (try clear wM2); (try clear nx1); (try clear n67); (try clear nk); (try clear ik); (try clear n12); omega)]
  · refine ⟨(-1, g), (-1, g), ?_, ?_, rfl, ⟨c, o, J0⟩, Fr.rf⟩
    · unfold X_more
      rw [if_pos (by rw [wX]; (try clear wX); (try clear wM); (try clear wM2); (try clear nx1); (try clear n67); (try clear nk); (try clear ik); (try clear n12); omega)]
    · unfold M_more
      rw [if_pos (by rw [wM]; (try clear wX); (try clear wM); (try clear wM2); (try clear nx1); (try clear n67); (try clear nk); (try clear ik); (try clear n12); omega)]
