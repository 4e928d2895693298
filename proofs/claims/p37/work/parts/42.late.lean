/-! plain programs: enough, late, rung -/
def ehF (ld : Int → Int → Int) (t due : Int) : Nat → Nat → Int
  | 0, _ => -1
  | n + 1, m => if 20159 < t + m then -1 else if ¬ ld m (t + m) = -1 ∧ ld m (t + m) ≤ due then (m : Int) else ehF ld t due n (m + 1)
theorem X_enough_b_s {a c : Nat} {t due : Int} (ha : a ≤ 15) (hc : c ≤ 15) (ht : 0 ≤ t ∧ t ≤ 20159) (hd : 0 ≤ due ∧ due ≤ 20159) : ∀ (n m : Nat) (g : AG), n + m = 61 → JV g → ∃ g', X_enough_b a c t due 1 m g = some (ehF (fun ta t => ldM g ta a c t) t due n m, g') ∧ FR WV g g' := by
  intro n
  induction n with
  | zero =>
    intro m g h V
    refine ⟨g, ?_, Fr.rf⟩
    rw [X_enough_b]
    simp (disch := omega) only [nw_id, ix_id, sb, if_true, if_false, if_pos, if_neg, true_and, and_true, false_and, and_false, and_self]
    rfl
  | succ n ih =>
    intro m g h V
    rw [X_enough_b]
    unfold ehF
    by_cases c1 : 20159 < t + m
    · simp (disch := omega) only [nw_id, ix_id, sb, if_true, if_false, if_pos, if_neg, true_and, and_true, false_and, and_false, and_self, isTimeX0, or_true]
      exact ⟨g, rfl, Fr.rf⟩
    · obtain ⟨g1, e1, f1⟩ := X_comesTo1 (a := a) (c := c) (ta := (m : Int)) (t := t + m) V ha hc (by omega) (Or.inr (by omega))
      have lt := ldM_tm (g := g) (a := a) (c := c) (ta := (m : Int)) (t := t + m) V ha hc (by omega) (Or.inr (by omega))
      unfold TmOk at lt
      obtain ⟨g2, e2, f2⟩ := ih (m + 1) g1 (by omega) (V.fr f1 rfl)
      have e3 : X_enough_b a c t due 2 m g1 = some (ehF (fun ta t => ldM g ta a c t) t due n (m + 1), g2) := by
        rw [X_enough_b, if_neg (by decide), if_pos rfl, ← ldM_fr f1 rfl, ← e2]
        rfl
      generalize ldM g m a c (t + m) = L at e1 lt ⊢
      simp (disch := omega) only [nw_id, ix_id, sb, if_true, if_false, if_pos, if_neg, true_and, and_true, false_and, and_false, and_self, isTimeX0, e1]
      by_cases c2 : L = -1
      · simp (disch := omega) only [nw_id, ix_id, sb, if_true, if_false, if_pos, if_neg, true_and, and_true, false_and, and_false, and_self, e3, not_true]
        exact ⟨g2, rfl, f1.tr f2⟩
      · have c3 : 0 ≤ L ∧ L ≤ 20159 := by omega
        clear lt
        by_cases c4 : due < L
        · simp (disch := omega) only [nw_id, ix_id, sb, if_true, if_false, if_pos, if_neg, true_and, and_true, false_and, and_false, and_self, e3, not_false_eq_true]
          exact ⟨g2, rfl, f1.tr f2⟩
        · simp (disch := omega) only [nw_id, ix_id, sb, if_true, if_false, if_pos, if_neg, true_and, and_true, false_and, and_false, and_self, not_false_eq_true]
          exact ⟨g1, rfl, f1⟩
theorem M_enough_b_s {b a c : Nat} {t due own : Int} (hb : b < 10) (ha : a ≤ 15) (hc : c ≤ 15) (ht : 0 ≤ t ∧ t ≤ 20159) (hd : 0 ≤ due ∧ due ≤ 20159) : ∀ (n m : Nat) (g : AG), n + m = 61 → JV g → JFlag g → ∃ g', M_enough_b b a c t due own 1 (-1) m g = some (ehF (fun ta t => ldM g ta a c t) t due n m, g') ∧ FR [(127, 0), (147, 0), (148, 0), (117, 49)] g g' ∧ (∀ i : Nat, g' 127 i = if i = b then own else g 127 i) := by
  have fin : ∀ (r : Int) (m : Int) (g : AG), M_enough_b b a c t due own 2 r m g = some (r, up g 127 b own) := by
    intro r m g
    rw [M_enough_b]
    simp (disch := omega) only [nw_id, ix_id, sb, if_true, if_false, if_pos, if_neg, true_and, and_true, false_and, and_false, and_self, Int.toNat_natCast]
  have fine : ∀ g : AG, FR [(127, 0), (147, 0), (148, 0), (117, 49)] g (up g 127 b own) ∧ (∀ i : Nat, (up g 127 b own) 127 i = if i = b then own else g 127 i) := fun g => ⟨Fr.up Fr.rf rfl, fun i => by simp [up_at]⟩
  -- once found, the loop ends
  have found : ∀ (r : Int) (m : Nat) (g : AG), 0 ≤ r → r ≤ 60 → m ≤ 61 → M_enough_b b a c t due own 1 r m g = some (r, up g 127 b own) := by
    intro r m g h0 h1 h2
    rw [M_enough_b, if_pos rfl, fin]
    have c1 : ¬ nw r = -1 := by rw [nw_id (by omega) (by omega)]; omega
    rw [if_neg c1]
    split
    · rfl
    · split <;> rfl
  intro n
  induction n with
  | zero =>
    intro m g h V hf
    refine ⟨_, ?_, fine g⟩
    rw [M_enough_b, fin]
    clear fin fine found
    simp (disch := omega) only [nw_id, ix_id, sb, if_true, if_false, if_pos, if_neg, true_and, and_true, false_and, and_false, and_self]
    rfl
  | succ n ih =>
    intro m g h V hf
    unfold ehF
    by_cases c1 : 20159 < t + m
    · refine ⟨_, ?_, fine g⟩
      rw [M_enough_b, fin]
      clear fin fine found ih
      simp (disch := omega) only [nw_id, ix_id, sb, if_true, if_false, if_pos, if_neg, true_and, and_true, false_and, and_false, and_self]
    · have f0 : FR [(127, 0)] g (up g 127 b m) := Fr.up Fr.rf rfl
      have h127 : (up g 127 b m) 127 b = m := by simp [up_at]
      obtain ⟨g1, e1, f1⟩ := M_led1 (b := b) (a := a) (c := c) (t := t + m) (g := up g 127 b m) (V.fr f0 rfl) (by unfold JFlag; rw [f0 117 47 rfl]; exact hf) hb ha hc (by rw [h127]; omega) (Or.inr (by omega))
      have lt := ldM_tm (g := g) (a := a) (c := c) (ta := (m : Int)) (t := t + m) V ha hc (by omega) (Or.inr (by omega))
      unfold TmOk at lt
      rw [h127, ldM_fr f0 rfl] at e1
      have f2 : FR [(127, 0), (147, 0), (148, 0), (117, 49)] g g1 := (f0.mo rfl).tr (f1.mo rfl)
      obtain ⟨g2, e2, f3, q2⟩ := ih (m + 1) g1 (by omega) (V.fr f2 rfl) (by unfold JFlag; rw [f2 117 47 rfl]; exact hf)
      rw [ldM_fr f2 rfl] at e2
      have q1 : ∀ i : Nat, i ≠ b → g1 127 i = g 127 i := by
        intro i hi
        rw [f1 127 i rfl]
        simp [up_at, hi]
      rw [M_enough_b, fin]
      rw [show ((m + 1 : Nat) : Int) = (m : Int) + 1 from rfl] at e2
      have found1 := fun r => found r (m + 1) g1
      clear fin found ih
      generalize ldM g m a c (t + m) = L at e1 lt ⊢
      have d1 : ¬ 60 < nw (m : Int) := by clear found1 fine; rw [nw_id (by omega) (by omega)]; omega
      have d2 : ¬ 20159 < nw (t + (m : Int)) := by clear d1 found1 fine; rw [nw_id (by omega) (by omega)]; omega
      have d3 : 0 ≤ nw (b : Int) ∧ nw (b : Int) < 10 := by clear d1 d2 found1 fine; rw [nw_id (by omega) (by omega)]; omega
      have d4 : ix (b : Int) = b := by clear d1 d2 d3 found1 fine; rw [ix_id (by omega) (by omega), Int.toNat_natCast]
      rw [if_pos rfl, if_neg d1, if_neg d2, nw_m1, if_pos rfl, if_pos d3, d4, sb, e1, sb, sb]
      clear d1 d2 d3 d4
      dsimp only
      by_cases c2 : L = -1
      · subst c2
        rw [nw_m1, if_pos rfl, if_neg c1, if_neg (fun z => z.1 rfl)]
        refine ⟨g2, e2, f2.tr f3, fun i => ?_⟩
        rw [q2 i]
        by_cases z : i = b
        · rw [if_pos z, if_pos z]
        · rw [if_neg z, if_neg z, q1 i z]
      · have c3 : 0 ≤ L ∧ L ≤ 20159 := by omega
        clear lt
        have d5 : nw L = L := by clear found1 fine; exact nw_id (by omega) (by omega)
        have d6 : nw due = due := by clear d5 found1 fine; exact nw_id (by omega) (by omega)
        rw [d5, d6, if_neg c2, if_neg c1]
        clear d5 d6
        by_cases c4 : due < L
        · rw [if_pos c4, if_neg (fun z => by have := z.2; omega)]
          refine ⟨g2, e2, f2.tr f3, fun i => ?_⟩
          rw [q2 i]
          by_cases z : i = b
          · rw [if_pos z, if_pos z]
          · rw [if_neg z, if_neg z, q1 i z]
        · rw [if_neg c4, if_pos ⟨c2, by omega⟩]
          refine ⟨up g1 127 b own, found1 m (by omega) (by omega) (by omega), f2.tr (fine g1).1, fun i => ?_⟩
          rw [(fine g1).2 i]
          by_cases z : i = b
          · rw [if_pos z, if_pos z]
          · rw [if_neg z, if_neg z, q1 i z]
theorem sm_enough {x1 x2 x3 x4 x5 : Int} {g : AG} (h1 : I32 x1) (h2 : I32 x2) (h3 : I32 x3) (h4 : I32 x4) (h5 : I32 x5) (V : JV g) (B : JBoat g) (hf : JFlag g) :
    ∃ r1 r2, X_enough x1 x2 x3 x4 x5 g = some r1 ∧ M_enough x1 x2 x3 x4 x5 r1.2 = some r2 ∧ nw r1.1 = nw r2.1 ∧ FR SCV g r2.2 := by
  unfold I32 at *
  obtain ⟨⟨b1, b2, b3⟩, bv, bs⟩ := B
  by_cases h : 0 ≤ x1 ∧ x1 < g 6 7 ∧ 0 ≤ x2 ∧ x2 ≤ 15 ∧ 0 ≤ x3 ∧ x3 ≤ 15 ∧ 0 ≤ x4 ∧ x4 ≤ 20159 ∧ 0 ≤ x5 ∧ x5 ≤ 20159
  · obtain ⟨b, rfl⟩ := natOf h.1
    obtain ⟨a, rfl⟩ := natOf h.2.2.1
    obtain ⟨c, rfl⟩ := natOf h.2.2.2.2.1
    obtain ⟨g1, e1, f1⟩ := X_enough_b_s (a := a) (c := c) (t := x4) (due := x5) (by omega) (by omega) (by omega) (by omega) 61 0 g (by omega) V
    have eX : X_enough b a c x4 x5 g = some (ehF (fun ta t => ldM g ta a c t) x4 x5 61 0, g1) := by
      unfold X_enough
      simp (disch := omega) only [nw_id, ix_id, sb, if_true, if_false, if_pos, if_neg, true_and, and_true, false_and, and_false, and_self, X_isWay0, isTimeX0]
      exact e1
    obtain ⟨g2, e2, f2, q2⟩ := M_enough_b_s (b := b) (a := a) (c := c) (t := x4) (due := x5) (own := g1 127 b) (by omega) (by omega) (by omega) (by omega) (by omega) 61 0 g1 (by omega) (V.fr f1 rfl) (by unfold JFlag; rw [f1 117 47 rfl]; exact hf)
    rw [ldM_fr f1 rfl] at e2
    have q1 : g1 117 12 = g 117 12 := f1 117 12 rfl
    have eM : M_enough b a c x4 x5 g1 = some (ehF (fun ta t => ldM g ta a c t) x4 x5 61 0, g2) := by
      unfold M_enough
      simp (disch := omega) only [nw_id, ix_id, sb, if_true, if_false, if_pos, if_neg, true_and, and_true, false_and, and_false, and_self, M_isBoat0, isPoint0, isTime0, Int.toNat_natCast]
      exact e2
    have f3 : FR [(147, 0), (148, 0), (117, 49)] g1 g2 := FR.dropC (k0 := 127) (f2.mo rfl) (funext fun i => by
      rw [q2 i]
      by_cases z : i = b
      · rw [if_pos z, z]
      · rw [if_neg z])
    exact ⟨_, _, eX, eM, rfl, (f1.mo rfl).tr (f3.mo rfl)⟩
  · have eX : X_enough x1 x2 x3 x4 x5 g = some (-1, g) := by
      unfold X_enough
      revert h
      simp (disch := omega) only [nw_id, ix_id, X_isWay0, isTimeX0]
      intro h
      ((repeat' split) <;> first | rfl | omega)
    have eM : M_enough x1 x2 x3 x4 x5 g = some (-1, g) := by
      unfold M_enough
      generalize M_enough_b x1 x2 x3 x4 x5 (g 127 (ix x1)) 1 (-1) 0 g = big
      revert h
      simp (disch := omega) only [nw_id, ix_id, M_isBoat0, isPoint0, isTime0]
      intro h
      ((repeat' split) <;> first | rfl | omega)
    exact ⟨_, _, eX, eM, rfl, Fr.rf⟩
