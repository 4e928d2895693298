/-! plain programs: maybe, pumped -/
def JArr (g : AG) : Prop := ∀ p : Nat, p < 16 → TmOk (g 46 p)
abbrev SCV : Reg := [(5, 7), (5, 8), (47, 0), (147, 0), (148, 0), (117, 49)]
abbrev SCA : Reg := [(5, 7), (5, 8), (46, 0), (47, 0), (147, 0), (148, 0), (117, 49)]
theorem sm_maybe {x1 x2 x3 x4 : Int} {g : AG} (h1 : I32 x1) (h2 : I32 x2) (h3 : I32 x3) (h4 : I32 x4) (V : JV g) (B : JBoat g) (hf : JFlag g) (A : JArr g) :
    ∃ r1 r2, X_maybe x1 x2 x3 x4 g = some r1 ∧ M_maybe x1 x2 x3 x4 r1.2 = some r2 ∧ nw r1.1 = nw r2.1 ∧ FR SCA g r2.2 ∧ JArr r2.2 := by
  unfold I32 at *
  obtain ⟨⟨b1, b2, b3⟩, bv, bs⟩ := B
  by_cases h : 0 ≤ x1 ∧ x1 < g 6 7 ∧ 0 ≤ x2 ∧ x2 ≤ 15 ∧ 0 ≤ x3 ∧ x3 ≤ x4 ∧ x4 ≤ 20159
  · obtain ⟨b, rfl⟩ := natOf h.1
    obtain ⟨a, rfl⟩ := natOf h.2.2.1
    clear h1 h2 h3 h4
    have vb := bv b (by omega)
    have sbb := bs b (by omega)
    have tm : TmOk x3 := Or.inr (by omega)
    obtain ⟨g1, e1, f1, p1, t1⟩ := X_reach_s (a := a) (ta := g 51 b) (t := x3) V (by omega) (by omega) tm A
    obtain ⟨r, e2, q2⟩ := reached_s (x1 := x4) (g := g1) (by omega) t1 16 0 0 (by omega)
    have eX : X_maybe b a x3 x4 g = some (r, g1) := by
      unfold X_maybe Voyage_reached
      rw [show ((0 : Nat) : Int) = (0 : Int) from rfl] at e2
      simp (disch := omega) only [nw_id, ix_id, sb, if_true, if_false, if_pos, if_neg, true_and, and_true, false_and, and_false, and_self, X_isWay0, isTimeX0, Int.toNat_natCast, e1, e2]
    obtain ⟨r', g2, e3, f3, q3⟩ := M_maybe_b_s (b := b) (a := a) (sn := x3) (tm := x4) (by omega) (by omega) (by omega) (by omega) 16 0 0 g1 (by omega) (V.fr f1 rfl) (by unfold JFlag; rw [f1 117 47 rfl]; exact hf) (by rw [f1 127 b rfl]; omega)
    have q1 : g1 117 12 = g 117 12 := f1 117 12 rfl
    have eM : M_maybe b a x3 x4 g1 = some (r', g2) := by
      unfold M_maybe
      rw [show ((0 : Nat) : Int) = (0 : Int) from rfl] at e3
      simp (disch := omega) only [nw_id, ix_id, sb, if_true, if_false, if_pos, if_neg, true_and, and_true, false_and, and_false, and_self, M_isBoat0, isPoint0, isTime0, isIn0, e3]
    refine ⟨_, _, eX, eM, tb_ext (fun i hi => ?_), (f1.mo rfl).tr (f3.mo rfl), fun p hp => by show TmOk (g2 46 p); rw [f3 46 p rfl]; exact t1 p hp⟩
    dsimp only
    rw [q2 i hi, q3 i hi, ldM_fr f1 rfl, f1 127 b rfl, vb.2.2.2]
    by_cases e : i < 16
    · rw [p1 i e]
    · have z1 : ¬ (0 ≤ i ∧ i < 16 ∧ ¬ g1 46 i = -1 ∧ g1 46 i ≤ x4) := fun q => e q.2.1
      have z2 : ¬ (0 ≤ i ∧ i < 16 ∧ ¬ ldM g (g 51 b) a i x3 = -1 ∧ ldM g (g 51 b) a i x3 ≤ x4) := fun q => e q.2.1
      simp only [z1, z2]
  · have eX : X_maybe x1 x2 x3 x4 g = some (-1, g) := by
      unfold X_maybe
      revert h
      simp (disch := omega) only [nw_id, ix_id, X_isWay0, isTimeX0]
      intro h
      ((repeat' split) <;> first | rfl | omega)
    have eM : M_maybe x1 x2 x3 x4 g = some (-1, g) := by
      unfold M_maybe
      revert h
      simp (disch := omega) only [nw_id, ix_id, M_isBoat0, isPoint0, isTime0, isIn0]
      intro h
      ((repeat' split) <;> first | rfl | omega)
    exact ⟨_, _, eX, eM, rfl, Fr.rf, A⟩
/-- the next pump: (the point, when it comes there) -/
def npF (pu : Nat → Bool) (ar : Nat → Int) : Nat → Nat → Int × Int → Int × Int
  | 0, _, p => p
  | n + 1, q, p => npF pu ar n (q + 1) (if pu q = true ∧ ¬ ar q = -1 ∧ (p.1 = -1 ∨ ar q < p.2) then ((q : Int), ar q) else p)
def npOk (ar : Nat → Int) (p : Int × Int) : Prop := p = (-1, -1) ∨ (0 ≤ p.1 ∧ p.1 < 16 ∧ p.2 = ar p.1.toNat ∧ ¬ p.2 = -1)
theorem npF_ok {pu : Nat → Bool} {ar : Nat → Int} : ∀ (n q : Nat) (p : Int × Int), q + n ≤ 16 → npOk ar p → npOk ar (npF pu ar n q p)
  | 0, _, _, _, h => h
  | n + 1, q, p, hq, h => by
    unfold npF
    refine npF_ok n (q + 1) _ (by omega) ?_
    by_cases c : pu q = true ∧ ¬ ar q = -1 ∧ (p.1 = -1 ∨ ar q < p.2)
    · rw [if_pos c]
      exact Or.inr ⟨by dsimp only; omega, by dsimp only; omega, by simp, c.2.1⟩
    · rw [if_neg c]; exact h
theorem nextPump_s {g : AG} (hA : JArr g) (P : JPump g) : ∀ (n q : Nat) (p : Int × Int), q + n = 16 → npOk (g 46) p → Voyage_nextPump_b g p.1 q = some (npF (fun j => tb (g 1 6) j) (g 46) n q p).1 := by
  intro n
  induction n with
  | zero =>
    intro q p h hp
    rw [Voyage_nextPump_b]
    simp (disch := omega) only [nw_id, ix_id, sb, if_true, if_false, if_pos, if_neg, true_and, and_true, false_and, and_false, and_self]
    rfl
  | succ n ih =>
    intro q p h hp
    have tm := hA q (by omega)
    unfold TmOk at tm
    have bq := bit_q (g 1 6) q (by omega)
    have e9 := ih (q + 1) (if tb (g 1 6) q = true ∧ ¬ g 46 q = -1 ∧ (p.1 = -1 ∨ g 46 q < p.2) then ((q : Int), g 46 q) else p) (by omega) (by
      by_cases c : tb (g 1 6) q = true ∧ ¬ g 46 q = -1 ∧ (p.1 = -1 ∨ g 46 q < p.2)
      · rw [if_pos c]
        exact Or.inr ⟨by dsimp only; omega, by dsimp only; omega, by simp, c.2.1⟩
      · rw [if_neg c]; exact hp)
    rw [show ((q + 1 : Nat) : Int) = (q : Int) + 1 from rfl] at e9
    unfold npF
    rw [← e9, Voyage_nextPump_b]
    have c0 : ¬ 16 ≤ nw (q : Int) := by clear bq; rw [nw_id (by omega) (by omega)]; omega
    rw [if_neg c0, bq]
    clear c0 bq e9 ih
    cases hb : tb (g 1 6) q with
    | false =>
      simp only [Bool.false_eq_true, if_false, if_true, sb, false_and]
      simp (disch := omega) only [nw_id, ix_id, sb, if_true, if_false, if_pos, if_neg, true_and, and_true, false_and, and_false, and_self]
    | true =>
      simp only [if_true, true_and]
      by_cases c1 : g 46 q = -1
      · simp (disch := omega) only [nw_id, ix_id, sb, if_true, if_false, if_pos, if_neg, true_and, and_true, false_and, and_false, and_self, c1, Int.toNat_natCast, not_true, not_false_eq_true]
      · have c2 : 0 ≤ g 46 q ∧ g 46 q ≤ 20159 := by omega
        clear tm
        rcases hp with e | ⟨p1, p2, p3, p4⟩
        · subst e
          simp (disch := omega) only [nw_id, ix_id, sb, if_true, if_false, if_pos, if_neg, true_and, and_true, false_and, and_false, and_self, Int.toNat_natCast, not_true, not_false_eq_true, true_or]
        · have tm2 := hA p.1.toNat (by omega)
          unfold TmOk at tm2
          rw [← p3] at tm2
          have c3 : 0 ≤ p.2 ∧ p.2 ≤ 20159 := by omega
          clear tm2
          have c4 : ¬ p.1 = -1 := by omega
          rw [p3] at c3 ⊢
          clear p3 p4
          by_cases c5 : g 46 q < g 46 p.1.toNat
          · simp (disch := omega) only [nw_id, ix_id, sb, if_true, if_false, if_pos, if_neg, true_and, and_true, false_and, and_false, and_self, Int.toNat_natCast, not_true, not_false_eq_true, or_true]
          · have c6 : ¬ (p.1 = -1 ∨ g 46 q < g 46 p.1.toNat) := by omega
            simp (disch := omega) only [nw_id, ix_id, sb, if_true, if_false, if_pos, if_neg, true_and, and_true, false_and, and_false, and_self, Int.toNat_natCast, not_true, not_false_eq_true]
theorem M_pumped_b_s {b a : Nat} {t sn wh : Int} (hb : b < 10) (ha : a ≤ 15) (hs : 0 ≤ t ∧ t ≤ 20159) (hsn : 0 ≤ sn ∧ sn ≤ 20159) (hw : 0 ≤ wh ∧ wh ≤ 2) {pu : Nat → Bool} {ar : Nat → Int} (hT : ∀ q, q < 16 → TmOk (ar q)) : ∀ (n q : Nat) (p : Int × Int) (g : AG), q + n = 16 → JV g → JFlag g → (0 ≤ g 127 b ∧ g 127 b ≤ 60) → (∀ q : Nat, q < 16 → g 154 q = if pu q = true then 1 else 0) → (∀ q : Nat, q < 16 → ar q = ldM g (g 127 b) a q t) → npOk ar p → ∃ g', M_pumped_b b a t sn wh p.1 p.2 q g = some ((if (npF pu ar n q p).1 = -1 ∨ wh = 0 then (npF pu ar n q p).1 else if wh = 1 then (npF pu ar n q p).2 else if sn + 10080 < (npF pu ar n q p).2 then 1 else 0), g') ∧ FR [(147, 0), (148, 0), (117, 49)] g g' := by
  intro n
  induction n with
  | zero =>
    intro q p g h V hf ht hpu har hp
    refine ⟨g, ?_, Fr.rf⟩
    rw [M_pumped_b]
    show _ = some ((if p.1 = -1 ∨ wh = 0 then p.1 else if wh = 1 then p.2 else if sn + 10080 < p.2 then 1 else 0), g)
    have c0 : 16 ≤ nw (q : Int) := by rw [nw_id (by omega) (by omega)]; omega
    rw [if_pos c0, sb]
    clear c0
    congr 2
    rcases hp with e | ⟨p1, p2, p3, p4⟩
    · subst e
      simp (disch := omega) only [nw_id, ix_id, sb, if_true, if_false, if_pos, if_neg, true_and, and_true, false_and, and_false, and_self, true_or]
    · have tm2 := hT p.1.toNat (by omega)
      unfold TmOk at tm2
      rw [← p3] at tm2
      have c3 : 0 ≤ p.2 ∧ p.2 ≤ 20159 := by omega
      clear tm2 p3 har
      by_cases w0 : wh = 0
      · subst w0
        simp (disch := omega) only [nw_id, ix_id, sb, if_true, if_false, if_pos, if_neg, true_and, and_true, false_and, and_false, and_self, or_true, ite_self]
      · by_cases w1 : wh = 1
        · subst w1
          have c4 : ¬ (p.1 = -1 ∨ (1 : Int) = 0) := by omega
          simp (disch := omega) only [nw_id, ix_id, sb, if_true, if_false, if_pos, if_neg, true_and, and_true, false_and, and_false, and_self]
        · have c4 : ¬ (p.1 = -1 ∨ wh = 0) := by omega
          simp (disch := omega) only [nw_id, ix_id, sb, if_true, if_false, if_pos, if_neg, true_and, and_true, false_and, and_false, and_self]
          by_cases z : sn + 10080 < p.2
          · simp (disch := omega) only [nw_id, ix_id, sb, if_true, if_false, if_pos, if_neg, true_and, and_true, false_and, and_false, and_self]
          · simp (disch := omega) only [nw_id, ix_id, sb, if_true, if_false, if_pos, if_neg, true_and, and_true, false_and, and_false, and_self]
  | succ n ih =>
    intro q p g h V hf ht hpu har hp
    have pq := hpu q (by omega)
    have step : ∀ (g1 : AG) (p' : Int × Int), FR [(147, 0), (148, 0), (117, 49)] g g1 → p' = (if pu q = true ∧ ¬ ar q = -1 ∧ (p.1 = -1 ∨ ar q < p.2) then ((q : Int), ar q) else p) → ∃ g', M_pumped_b b a t sn wh p'.1 p'.2 ((q : Int) + 1) g1 = some ((if (npF pu ar (n + 1) q p).1 = -1 ∨ wh = 0 then (npF pu ar (n + 1) q p).1 else if wh = 1 then (npF pu ar (n + 1) q p).2 else if sn + 10080 < (npF pu ar (n + 1) q p).2 then 1 else 0), g') ∧ FR [(147, 0), (148, 0), (117, 49)] g g' := by
      intro g1 p' f1 hp'
      obtain ⟨g2, e2, f2⟩ := ih (q + 1) p' g1 (by omega) (V.fr f1 rfl) (by unfold JFlag; rw [f1 117 47 rfl]; exact hf) (by rw [f1 127 b rfl]; exact ht) (by intro j hj; rw [f1 154 j rfl]; exact hpu j hj) (by intro j hj; rw [ldM_fr f1 rfl, f1 127 b rfl]; exact har j hj) (by
        rw [hp']
        by_cases c : pu q = true ∧ ¬ ar q = -1 ∧ (p.1 = -1 ∨ ar q < p.2)
        · rw [if_pos c]
          exact Or.inr ⟨by dsimp only; omega, by dsimp only; omega, by simp, c.2.1⟩
        · rw [if_neg c]; exact hp)
      refine ⟨g2, ?_, f1.tr f2⟩
      unfold npF
      rw [← hp']
      exact e2
    have tm := hT q (by omega)
    unfold TmOk at tm
    rw [M_pumped_b]
    have c0 : ¬ 16 ≤ nw (q : Int) := by rw [nw_id (by omega) (by omega)]; omega
    have c1 : 0 ≤ nw (q : Int) ∧ nw (q : Int) < 16 := by clear c0; rw [nw_id (by omega) (by omega)]; omega
    have c2 : ix (q : Int) = q := by clear c0 c1; rw [ix_id (by omega) (by omega), Int.toNat_natCast]
    rw [if_neg c0, if_pos c1, c2, pq]
    clear c0 c1 c2
    cases hb2 : pu q with
    | false =>
      rw [if_neg (show ¬ (false = true) by decide), nw_0, if_pos rfl, sb]
      dsimp only
      rw [nw_m1, if_pos rfl, sb]
      exact step g p Fr.rf (by rw [hb2]; simp)
    | true =>
      obtain ⟨g1, e1, f1⟩ := M_led1 (b := b) (a := a) (c := q) (t := t) V hf hb ha (by omega) ht (Or.inr hs)
      rw [← har q (by omega)] at e1
      rw [if_pos rfl, nw_1, if_neg (by decide), e1, sb, sb]
      dsimp only
      by_cases d1 : ar q = -1
      · rw [d1, nw_m1, if_pos rfl, sb]
        exact step g1 p f1 (by rw [d1]; simp)
      · have d2 : 0 ≤ ar q ∧ ar q ≤ 20159 := by omega
        have d3 : ¬ nw (ar q) = -1 := by clear tm step; rw [nw_id (by omega) (by omega)]; omega
        have d4 : nw (ar q) = ar q := by clear d3 tm step; exact nw_id (by omega) (by omega)
        rw [if_neg d3, d4]
        clear d3 d4
        rcases hp with e | ⟨p1, p2, p3, p4⟩
        · subst e
          dsimp only
          rw [nw_m1, if_pos rfl, sb]
          exact step g1 ((q : Int), ar q) f1 (by rw [hb2, if_pos ⟨rfl, d1, Or.inl rfl⟩])
        · have tm2 := hT p.1.toNat (by omega)
          unfold TmOk at tm2
          rw [← p3] at tm2
          have d5 : 0 ≤ p.2 ∧ p.2 ≤ 20159 := by omega
          have d6 : ¬ nw p.1 = -1 := by clear tm tm2 p3 step; rw [nw_id (by omega) (by omega)]; omega
          have d7 : nw p.2 = p.2 := by clear d6 tm tm2 p3 step; exact nw_id (by omega) (by omega)
          rw [if_neg d6, d7]
          clear d6 d7
          by_cases d8 : ar q < p.2
          · rw [if_pos d8, sb]
            exact step g1 ((q : Int), ar q) f1 (by rw [hb2, if_pos ⟨rfl, d1, Or.inr d8⟩])
          · rw [if_neg d8, sb]
            exact step g1 p f1 (by rw [if_neg (fun z => by rcases z.2.2 with z | z <;> omega)])
theorem sm_pumped {x1 x2 x3 x4 x5 : Int} {g : AG} (h1 : I32 x1) (h2 : I32 x2) (h3 : I32 x3) (h4 : I32 x4) (h5 : I32 x5) (V : JV g) (B : JBoat g) (hf : JFlag g) (A : JArr g) (P : JPump g) :
    ∃ r1 r2, X_pumped x1 x2 x3 x4 x5 g = some r1 ∧ M_pumped x1 x2 x3 x4 x5 r1.2 = some r2 ∧ nw r1.1 = nw r2.1 ∧ FR SCA g r2.2 ∧ JArr r2.2 := by
  unfold I32 at *
  obtain ⟨⟨b1, b2, b3⟩, bv, bs⟩ := B
  by_cases h : 0 ≤ x1 ∧ x1 < g 6 7 ∧ 0 ≤ x2 ∧ x2 ≤ 15 ∧ 0 ≤ x3 ∧ x3 ≤ 20159 ∧ 0 ≤ x4 ∧ x4 ≤ x3
  · obtain ⟨b, rfl⟩ := natOf h.1
    obtain ⟨a, rfl⟩ := natOf h.2.2.1
    clear h1 h2 h3 h4
    have vb := bv b (by omega)
    have sbb := bs b (by omega)
    have tm : TmOk x3 := Or.inr (by omega)
    obtain ⟨g1, e1, f1, p1, t1⟩ := X_reach_s (a := a) (ta := g 51 b) (t := x3) V (by omega) (by omega) tm A
    have P1 : JPump g1 := P.cg (f1.cg rfl)
    have n1 := nextPump_s (g := g1) t1 P1 16 0 (-1, -1) (by omega) (Or.inl rfl)
    have okn := npF_ok (pu := fun j => tb (g1 1 6) j) (ar := g1 46) 16 0 (-1, -1) (by omega) (Or.inl rfl)
    have n2 : Voyage_nextPump_b g1 (-1) 0 = some (npF (fun j => tb (g1 1 6) j) (g1 46) 16 0 (-1, -1)).1 := n1
    clear n1
    by_cases hw : 0 ≤ x5 ∧ x5 ≤ 2
    · obtain ⟨g2, e3, f3⟩ := M_pumped_b_s (b := b) (a := a) (t := x3) (sn := x4) (wh := x5) (by omega) (by omega) (by omega) (by omega) hw (pu := fun j => tb (g1 1 6) j) (ar := g1 46) t1 16 0 (-1, -1) g1 (by omega) (V.fr f1 rfl) (by unfold JFlag; rw [f1 117 47 rfl]; exact hf) (by rw [f1 127 b rfl]; omega) P1 (by
        intro q hq
        rw [p1 q hq, ldM_fr f1 rfl, f1 127 b rfl, vb.2.2.2]) (Or.inl rfl)
      have q1 : g1 117 12 = g 117 12 := f1 117 12 rfl
      have eM : ∀ r, M_pumped_b b a x3 x4 x5 (-1) (-1) 0 g1 = r → M_pumped b a x3 x4 x5 g1 = r := by
        intro r hr
        unfold M_pumped
        clear okn
        simp (disch := omega) only [nw_id, ix_id, sb, if_true, if_false, if_pos, if_neg, true_and, and_true, false_and, and_false, and_self, M_isBoat0, isPoint0, isTime0, isIn0]
        exact hr
      have eX : X_pumped b a x3 x4 x5 g = some ((if (npF (fun j => tb (g1 1 6) j) (g1 46) 16 0 (-1, -1)).1 = -1 ∨ x5 = 0 then (npF (fun j => tb (g1 1 6) j) (g1 46) 16 0 (-1, -1)).1 else if x5 = 1 then (npF (fun j => tb (g1 1 6) j) (g1 46) 16 0 (-1, -1)).2 else if x4 + 10080 < (npF (fun j => tb (g1 1 6) j) (g1 46) 16 0 (-1, -1)).2 then 1 else 0), g1) := by
        unfold X_pumped Voyage_nextPump
        generalize npF (fun j => tb (g1 1 6) j) (g1 46) 16 0 (-1, -1) = p at okn n2 ⊢
        rcases okn with e | ⟨p2, p3, p4, p5⟩
        · subst e
          clear e3
          simp (disch := omega) only [nw_id, ix_id, sb, if_true, if_false, if_pos, if_neg, true_and, and_true, false_and, and_false, and_self, X_isWay0, isTimeX0, within0, Int.toNat_natCast, e1, n2, true_or]
        · have tm2 := t1 p.1.toNat (by omega)
          unfold TmOk at tm2
          rw [← p4] at tm2
          have d5 : 0 ≤ p.2 ∧ p.2 ≤ 20159 := by omega
          have d6 : ¬ p.1 = -1 := by omega
          clear tm2 p5 e3
          by_cases w0 : x5 = 0
          · simp (disch := omega) only [nw_id, ix_id, sb, if_true, if_false, if_pos, if_neg, true_and, and_true, false_and, and_false, and_self, X_isWay0, isTimeX0, within0, Int.toNat_natCast, e1, n2, or_true]
          · have d7 : ¬ (p.1 = -1 ∨ x5 = 0) := by omega
            by_cases w1 : x5 = 1
            · simp (disch := omega) only [nw_id, ix_id, sb, if_true, if_false, if_pos, if_neg, true_and, and_true, false_and, and_false, and_self, X_isWay0, isTimeX0, within0, Int.toNat_natCast, e1, n2, ← p4]
            · simp (disch := omega) only [nw_id, ix_id, sb, if_true, if_false, if_pos, if_neg, true_and, and_true, false_and, and_false, and_self, X_isWay0, isTimeX0, within0, Int.toNat_natCast, e1, n2, ← p4]
              by_cases z : x4 + 10080 < p.2
              · simp (disch := omega) only [nw_id, ix_id, sb, if_true, if_false, if_pos, if_neg, true_and, and_true, false_and, and_false, and_self]
              · simp (disch := omega) only [nw_id, ix_id, sb, if_true, if_false, if_pos, if_neg, true_and, and_true, false_and, and_false, and_self]
      exact ⟨_, _, eX, eM _ e3, rfl, (f1.mo rfl).tr (f3.mo rfl), fun p hp => by show TmOk (g2 46 p); rw [f3 46 p rfl]; exact t1 p hp⟩
    · have q1 : g1 117 12 = g 117 12 := f1 117 12 rfl
      have eX : X_pumped b a x3 x4 x5 g = some (-1, g1) := by
        unfold X_pumped Voyage_nextPump
        generalize npF (fun j => tb (g1 1 6) j) (g1 46) 16 0 (-1, -1) = p at okn n2 ⊢
        clear okn
        simp (disch := omega) only [nw_id, ix_id, sb, if_true, if_false, if_pos, if_neg, true_and, and_true, false_and, and_false, and_self, X_isWay0, isTimeX0, within0, Int.toNat_natCast, e1, n2, ite_self]
      have eM : M_pumped b a x3 x4 x5 g1 = some (-1, g1) := by
        unfold M_pumped
        clear okn
        simp (disch := omega) only [nw_id, ix_id, sb, if_true, if_false, if_pos, if_neg, true_and, and_true, false_and, and_false, and_self, M_isBoat0, isPoint0, isTime0, isIn0]
      exact ⟨_, _, eX, eM, rfl, f1.mo rfl, t1⟩
  · have eX : X_pumped x1 x2 x3 x4 x5 g = some (-1, g) := by
      unfold X_pumped
      revert h
      simp (disch := omega) only [nw_id, ix_id, X_isWay0, isTimeX0]
      intro h
      ((repeat' split) <;> first | rfl | omega)
    have eM : M_pumped x1 x2 x3 x4 x5 g = some (-1, g) := by
      unfold M_pumped
      generalize M_pumped_b x1 x2 x3 x4 x5 (-1) (-1) 0 g = big
      revert h
      simp (disch := omega) only [nw_id, ix_id, M_isBoat0, isPoint0, isTime0, isIn0]
      intro h
      ((repeat' split) <;> first | rfl | omega)
    exact ⟨_, _, eX, eM, rfl, Fr.rf, A⟩
