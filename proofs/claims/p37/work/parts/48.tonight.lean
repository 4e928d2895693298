/-! plain programs: tonight -/
def lsN (lt : Nat → Int) (t : Int) : Nat → Nat → Nat
  | 0, j => j
  | m + 1, j => if lt j ≤ t then lsN lt t m (j + 1) else j
theorem lsN_rng {lt : Nat → Int} {t : Int} : ∀ (m j : Nat), j ≤ lsN lt t m j ∧ lsN lt t m j ≤ j + m
  | 0, j => ⟨Nat.le_refl _, Nat.le_refl _⟩
  | m + 1, j => by
    unfold lsN
    split
    · have := lsN_rng (lt := lt) (t := t) m (j + 1); omega
    · omega
/-- which of a boat's places is the last not behind t -/
def llF (g : AG) (b : Nat) (t : Int) : Nat := lsN (g (64 + b)) t (g 74 b).toNat 0
def mayB (g : AG) (t : Int) (p b : Nat) : Bool := decide (¬ ldM g (g 51 b) (plF g b (llF g b t)) p (tmF g b (llF g b t)) = -1 ∧ ldM g (g 51 b) (plF g b (llF g b t)) p (tmF g b (llF g b t)) ≤ t)
def tnN (may : Nat → Bool) : Nat → Nat
  | 0 => 0
  | k + 1 => tnN may k + if may k = true then 2 ^ k else 0
theorem tnN_lt {may : Nat → Bool} : ∀ k, tnN may k < 2 ^ k
  | 0 => Nat.lt_succ_self 0
  | k + 1 => by
    have := tnN_lt (may := may) k
    have hp2 : 2 ^ (k + 1) = 2 ^ k + 2 ^ k := by rw [Nat.pow_succ]; omega
    unfold tnN
    split <;> omega
theorem mayB_fr {W : Reg} {g g' : AG} {b : Nat} {t : Int} (hb : b < 10) (f : FR W g g') (d : djR [(117, 11), (117, 12), (121, 0), (122, 0), (123, 0), (2, 4), (128, 0), (129, 0), (130, 0), (132, 0), (133, 0), (134, 0), (142, 0), (144, 0), (118, 0), (119, 0)] W = true) (d2 : djR ((50, 0) :: (51, 0) :: RLog) W = true) (p : Nat) : mayB g' t p b = mayB g t p b := by
  have c := f.cg d2
  have c1 : g' 50 b = g 50 b := c 50 b rfl
  have c2 : g' 51 b = g 51 b := c 51 b rfl
  have c3 : g' 74 b = g 74 b := c 74 b rfl
  have up' : ∀ k i, inR RLog k i = true → inR ((50, 0) :: (51, 0) :: RLog) k i = true := by
    intro k i h
    show (inP (50, 0) k i || (inP (51, 0) k i || inR RLog k i)) = true
    rw [h]; simp
  have c4 : g' (53 + b) = g (53 + b) := funext fun i => c _ i (up' _ i (RLog_at b hb i).1)
  have c5 : g' (64 + b) = g (64 + b) := funext fun i => c _ i (up' _ i (RLog_at b hb i).2)
  unfold mayB plF tmF llF
  rw [ldM_fr f d, c1, c2, c3, c4, c5]
theorem X_lastLog_s {b : Nat} {t : Int} {g : AG} (L : JL g) (hb : (b : Int) < g 6 7) (ht : 0 ≤ t ∧ t ≤ 20159) : ∀ (m j : Nat), ((j + m : Nat) : Int) = g 74 b → Boats_lastLog_b b t g ((j : Int) - 1) j = some ((lsN (g (64 + b)) t m j : Int) - 1) := by
  obtain ⟨hb10, _, _, _, _, ⟨n, e5, e6⟩, _, hj⟩ := L.row hb
  intro m
  induction m with
  | zero =>
    intro j h
    rw [Boats_lastLog_b]
    simp (disch := omega) only [nw_id, ix_id, sb, if_true, if_false, if_pos, if_neg, true_and, and_true, false_and, and_false, and_self, Int.toNat_natCast]
    rfl
  | succ m ih =>
    intro j h
    obtain ⟨_, qt, _⟩ := hj j (by omega)
    have e := ih (j + 1) (by omega)
    rw [show ((j + 1 : Nat) : Int) - 1 = (j : Int) by omega, show ((j + 1 : Nat) : Int) = (j : Int) + 1 from rfl] at e
    rw [Boats_lastLog_b]
    unfold lsN
    by_cases c : g (64 + b) j ≤ t
    · simp (disch := omega) only [nw_id, ix_id, sb, if_true, if_false, if_pos, if_neg, true_and, and_true, false_and, and_false, and_self, Int.toNat_natCast, e]
    · simp (disch := omega) only [nw_id, ix_id, sb, if_true, if_false, if_pos, if_neg, true_and, and_true, false_and, and_false, and_self, Int.toNat_natCast]
theorem or_zero : ∀ k : Nat, k < 10 → ∀ S : Nat, S < 2 ^ k → orI (S : Int) (shlI 0 (k : Int)) = (S : Int) := by decide +kernel
theorem bit_v (x : Int) (k : Nat) (hk : k < 32) : andI (shrI x k) 1 = if tb x k = true then 1 else 0 := by
  rw [← nw_and, bit_q x k hk]
/-- the sixteen points, for one boat -/
theorem X_points_s {t r : Int} {b : Nat} (hb : b < 10) {S : Nat → Nat} (hS : ∀ p, S p < 2 ^ b) : ∀ (n k : Nat) (g : AG), k + n = 16 → (∀ p : Nat, k ≤ p → p < 16 → g 75 p = (S p : Int)) → ∃ g', Boats_settleTonight_b t 2 b r k g = Boats_settleTonight_b t 1 ((b : Int) + 1) r 16 g' ∧ FR [(75, 0)] g g' ∧ (∀ p : Nat, p < k → g' 75 p = g 75 p) ∧ (∀ p : Nat, k ≤ p → p < 16 → g' 75 p = ((S p + if tb r p = true then 2 ^ b else 0 : Nat) : Int)) := by
  intro n
  induction n with
  | zero =>
    intro k g h hg
    refine ⟨g, ?_, Fr.rf, fun p _ => rfl, fun p h1 h2 => by omega⟩
    rw [Boats_settleTonight_b.eq_1 _ 2]
    have : k = 16 := by omega
    subst this
    rw [if_neg (by decide), if_pos rfl, if_pos (by rw [nw_id (by omega) (by omega)]; omega)]
    rfl
  | succ n ih =>
    intro k g h hg
    have gk := hg k (Nat.le_refl _) (by omega)
    have f1 : FR [(75, 0)] g (up g 75 k (orI (S k) (shlI (if tb r k = true then 1 else 0) b))) := Fr.up Fr.rf rfl
    obtain ⟨g2, e2, f2, p2, q2⟩ := ih (k + 1) (up g 75 k (orI (S k) (shlI (if tb r k = true then 1 else 0) b))) (by omega) (by
      intro p h1 h2
      simp only [up_at, true_and]
      rw [if_neg (by omega)]
      exact hg p (by omega) h2)
    rw [show ((k + 1 : Nat) : Int) = (k : Int) + 1 from rfl] at e2
    have c0 : ¬ 16 ≤ nw (k : Int) := by rw [nw_id (by omega) (by omega)]; omega
    have c1 : 0 ≤ nw (k : Int) ∧ nw (k : Int) < 16 := by clear c0; rw [nw_id (by omega) (by omega)]; omega
    have c2 : ix (k : Int) = k := by clear c0 c1; rw [ix_id (by omega) (by omega), Int.toNat_natCast]
    refine ⟨g2, ?_, f1.tr f2, ?_, ?_⟩
    · rw [Boats_settleTonight_b.eq_1 _ 2, if_neg (by decide), if_pos rfl, if_neg c0, if_pos c1, c2, gk, bit_v r k (by omega), sb]
      exact e2
    · intro p hp
      rw [p2 p (by omega)]
      simp only [up_at, true_and]
      rw [if_neg (by omega)]
    · intro p h1 h2
      by_cases e : p = k
      · subst e
        rw [p2 p (by omega)]
        simp only [up_at, and_self, if_true]
        cases tb r p with
        | true => rw [if_pos rfl, if_pos rfl]; exact or_add b hb (S p) (hS p)
        | false => rw [if_neg (by decide), if_neg (by decide)]; exact or_zero b hb (S p) (hS p)
      · exact q2 p (by omega) h2
theorem X_settle_s {t : Int} (ht : 0 ≤ t ∧ t ≤ 20159) {may : Nat → Nat → Bool} : ∀ (n b : Nat) (x4 x5 : Int) (g : AG), ((b + n : Nat) : Int) = g 6 7 → JL g → JArr g → (∀ p b : Nat, (b : Int) < g 6 7 → mayB g t p b = may p b) → (∀ p : Nat, p < 16 → g 75 p = (tnN (may p) b : Int)) → ∃ g', Boats_settleTonight_b t 1 b x4 x5 g = some (0, g') ∧ FR [(5, 7), (5, 8), (46, 0), (47, 0), (75, 0)] g g' ∧ (∀ p : Nat, p < 16 → g' 75 p = (tnN (may p) (b + n) : Int)) ∧ JArr g' := by
  intro n
  induction n with
  | zero =>
    intro b x4 x5 g h L A hm hg
    have B := L.2.1.1
    refine ⟨g, ?_, Fr.rf, hg, A⟩
    rw [Boats_settleTonight_b]
    simp (disch := omega) only [nw_id, ix_id, sb, if_true, if_false, if_pos, if_neg, true_and, and_true, false_and, and_false, and_self]
  | succ n ih =>
    intro b x4 x5 g h L A hm hg
    have B := L.2.1.1
    have hb : (b : Int) < g 6 7 := by omega
    obtain ⟨hb10, _, _, _, hr, ⟨m, e5, e6⟩, _, _⟩ := L.row hb
    have eL := X_lastLog_s L hb ht m 0 (by omega)
    have hll : lsN (g (64 + b)) t m 0 = llF g b t := by unfold llF; rw [e5, Int.toNat_natCast]
    rw [hll, show ((0 : Nat) : Int) - 1 = -1 by decide] at eL
    have hlr : ((llF g b t : Nat) : Int) ≤ g 74 b := by
      have := lsN_rng (lt := g (64 + b)) (t := t) m 0
      rw [← hll, e5]; omega
    have ePl := X_placeOf_s L hb hlr
    have eTm := X_timeOf_s L hb hlr
    have pl := L.place hb hlr
    obtain ⟨g1, r1, f1, p1, t1⟩ := X_reach_s (a := plF g b (llF g b t)) (ta := g 51 b) (t := tmF g b (llF g b t)) L.1 pl.1 hr (Or.inr pl.2) A
    obtain ⟨r, e2, q2⟩ := reached_s (x1 := t) (g := g1) ht t1 16 0 0 (by omega)
    obtain ⟨g2, e3, f3, _, q3⟩ := X_points_s (t := t) (r := r) (b := b) hb10 (S := fun p => tnN (may p) b) (fun p => tnN_lt b) 16 0 g1 (by omega) (by
      intro p _ hp
      rw [f1 75 p rfl]
      exact hg p hp)
    have f13 : FR [(5, 7), (5, 8), (46, 0), (47, 0), (75, 0)] g g2 := (f1.mo rfl).tr (f3.mo rfl)
    have h75 : ∀ p : Nat, p < 16 → g2 75 p = (tnN (may p) (b + 1) : Int) := by
      intro p hp
      rw [q3 p (by omega) hp, q2 p (by omega), tb_0, p1 p hp]
      show _ = ((tnN (may p) b + if may p b = true then 2 ^ b else 0 : Nat) : Int)
      rw [← hm p b hb]
      unfold mayB
      have hz : (0 ≤ p ∧ p < 16 ∧ ¬ ldM g (g 51 b) (plF g b (llF g b t)) p (tmF g b (llF g b t)) = -1 ∧ ldM g (g 51 b) (plF g b (llF g b t)) p (tmF g b (llF g b t)) ≤ t) ↔ (¬ ldM g (g 51 b) (plF g b (llF g b t)) p (tmF g b (llF g b t)) = -1 ∧ ldM g (g 51 b) (plF g b (llF g b t)) p (tmF g b (llF g b t)) ≤ t) := ⟨fun q => q.2.2, fun q => ⟨Nat.zero_le _, hp, q⟩⟩
      simp only [hz, Bool.false_or]
    obtain ⟨g4, e4, f4, q4, A4⟩ := ih (b + 1) r 16 g2 (by rw [f13 6 7 rfl]; omega) (L.fr f13 rfl rfl rfl) (fun p hp => by rw [f3 46 p rfl]; exact t1 p hp) (fun p b' hb' => by
      rw [f13 6 7 rfl] at hb'
      rw [mayB_fr (by omega) f13 rfl rfl]
      exact hm p b' hb') h75
    rw [show ((b + 1 : Nat) : Int) = (b : Int) + 1 from rfl] at e4
    refine ⟨g4, ?_, f13.tr f4, by rw [show b + (n + 1) = b + 1 + n by omega]; exact q4, A4⟩
    rw [← e4, ← e3]
    have c0 : ¬ nw (g 6 7) ≤ nw (b : Int) := by rw [nw_id (by omega) (by omega), nw_id (by omega) (by omega)]; omega
    have c1 : 0 ≤ nw (b : Int) ∧ nw (b : Int) < 10 := by clear c0; rw [nw_id (by omega) (by omega)]; omega
    have c2 : ix (b : Int) = b := by clear c0 c1; rw [ix_id (by omega) (by omega), Int.toNat_natCast]
    rw [Boats_settleTonight_b.eq_1 _ 1, if_pos rfl, if_neg c0]
    unfold Boats_lastLog Voyage_reached
    rw [show ((0 : Nat) : Int) = (0 : Int) from rfl] at eL e2
    rw [eL, sb, if_pos c1, ePl, sb, eTm, sb, c2, r1, sb]
    dsimp only
    rw [e2, sb]
    rfl
/-- where most are -/
def cwF (pc : Nat → Int) : Nat → Nat → Nat → Nat
  | 0, _, best => best
  | n + 1, q, best => cwF pc n (q + 1) (if pc best < pc q then q else best)
theorem cwF_lt {pc : Nat → Int} : ∀ (n q best : Nat), q + n ≤ 16 → best < 16 → cwF pc n q best < 16
  | 0, _, _, _, h => h
  | n + 1, q, best, h1, h2 => cwF_lt n (q + 1) _ (by omega) (by split <;> omega)
theorem X_crowd_s {g : AG} {S : Nat → Nat} (hS : ∀ p, p < 16 → S p < 1024) (hg : ∀ p : Nat, p < 16 → g 75 p = (S p : Int)) : ∀ (n q best : Nat), q + n = 16 → best < 16 → Boats_crowd_b g best q = some ((cwF (fun p => pcF (S p)) n q best : Nat) : Int) := by
  intro n
  induction n with
  | zero =>
    intro q best h hb
    rw [Boats_crowd_b]
    simp (disch := omega) only [nw_id, ix_id, sb, if_true, if_false, if_pos, if_neg, true_and, and_true, false_and, and_false, and_self]
    rfl
  | succ n ih =>
    intro q best h hb
    have e := ih (q + 1) (if pcF (S best) < pcF (S q) then q else best) (by omega) (by split <;> omega)
    rw [show ((q + 1 : Nat) : Int) = (q : Int) + 1 from rfl] at e
    have g1 := hg q (by omega)
    have g2 := hg best hb
    have s1 := pc_s (hS q (by omega)) g
    have s2 := pc_s (hS best hb) g
    have r1 := pc_rng (S q)
    have r2 := pc_rng (S best)
    unfold cwF
    rw [← e, Boats_crowd_b]
    have c0 : ¬ 16 ≤ nw (q : Int) := by clear r1 r2; rw [nw_id (by omega) (by omega)]; omega
    have c1 : 0 ≤ nw (q : Int) ∧ nw (q : Int) < 16 := by clear r1 r2 c0; rw [nw_id (by omega) (by omega)]; omega
    have c2 : ix (q : Int) = q := by clear r1 r2 c0 c1; rw [ix_id (by omega) (by omega), Int.toNat_natCast]
    have c3 : 0 ≤ nw (best : Int) ∧ nw (best : Int) < 16 := by clear r1 r2 c0 c1 c2; rw [nw_id (by omega) (by omega)]; omega
    have c4 : ix (best : Int) = best := by clear r1 r2 c0 c1 c2 c3; rw [ix_id (by omega) (by omega), Int.toNat_natCast]
    rw [if_neg c0, if_pos c1, c2, g1, s1, sb, if_pos c3, c4, g2, s2, sb]
    clear c0 c1 c2 c3 c4 s1 s2 g1 g2
    generalize pcF (S q) = P at r1 ⊢
    generalize pcF (S best) = Q at r2 ⊢
    have n1 : nw P = P := nw_id (by omega) (by omega)
    have n2 : nw Q = Q := by clear n1; exact nw_id (by omega) (by omega)
    by_cases c : Q < P
    · have c' : ¬ nw P ≤ nw Q := by rw [n1, n2]; clear n1 n2; omega
      rw [if_neg c', if_pos c, sb]
    · have c' : nw P ≤ nw Q := by rw [n1, n2]; clear n1 n2; omega
      rw [if_pos c', if_neg c, sb]
/-! the reference -/
theorem M_log3_s {t wh : Int} {c m p S cnt b : Int} {bn : Nat} (hbn : b = bn) {g : AG} (L : JL g) (hb : (bn : Int) < g 6 7) (ht : 0 ≤ t ∧ t ≤ 20159) : ∀ (n j : Nat), ((j + n : Nat) : Int) = g 74 bn → M_tonight_b t wh 3 (c, m, p, S, cnt, b, (j : Int) - 1) g = M_tonight_b t wh 4 (c, m, p, S, cnt, b, (lsN (g (64 + bn)) t n j : Int) - 1) g := by
  subst hbn
  obtain ⟨hb10, _, _, _, _, ⟨n0, e5, e6⟩, e7, hj⟩ := L.row hb
  have c1 : 0 ≤ nw (bn : Int) ∧ nw (bn : Int) < 10 := by rw [nw_id (by omega) (by omega)]; omega
  have c2 : ix (bn : Int) = bn := by clear c1; rw [ix_id (by omega) (by omega), Int.toNat_natCast]
  have c7 : nw (g 74 bn) = g 74 bn := by clear c1 c2; exact nw_id (by omega) (by omega)
  intro n
  induction n with
  | zero =>
    intro j h
    have c3 : nw (g 74 bn) ≤ nw ((j : Int) - 1 + 1) := by rw [c7]; clear c1 c2 c7; rw [nw_id (by omega) (by omega)]; omega
    rw [M_tonight_b.eq_1 _ _ 3, if_neg (by decide), if_neg (by decide), if_pos rfl, if_pos c1, c2, e7, if_pos c3]
    rfl
  | succ n ih =>
    intro j h
    obtain ⟨_, qt, _, q4⟩ := hj j (by clear c1 c2 c7; omega)
    have c3 : ¬ nw (g 74 bn) ≤ nw ((j : Int) - 1 + 1) := by rw [c7]; clear c1 c2 c7; rw [nw_id (by omega) (by omega)]; omega
    have c4 : 0 ≤ nw (10 * (bn : Int) + ((j : Int) - 1) + 1) ∧ nw (10 * (bn : Int) + ((j : Int) - 1) + 1) < 100 := by clear c1 c2 c7 c3; rw [nw_id (by omega) (by omega)]; omega
    have c5 : ix (10 * (bn : Int) + ((j : Int) - 1) + 1) = 10 * bn + j := by clear c1 c2 c7 c3 c4; rw [ix_id (by omega) (by omega)]; omega
    have c6 : nw (g (64 + bn) j) = g (64 + bn) j := by clear c1 c2 c7 c3 c4 c5; exact nw_id (by omega) (by omega)
    have c8 : nw t = t := by clear c1 c2 c7 c3 c4 c5 c6; exact nw_id (by omega) (by omega)
    rw [M_tonight_b.eq_1 _ _ 3, if_neg (by decide), if_neg (by decide), if_pos rfl, if_pos c1, c2, e7, if_neg c3, if_pos c4, c5]
    dsimp only
    rw [q4]
    unfold lsN
    by_cases d : g (64 + bn) j ≤ t
    · have d' : ¬ nw t < nw (g (64 + bn) j) := by rw [c6, c8]; clear c1 c2 c7 c3 c4 c5 c6 c8; omega
      rw [if_neg d', if_pos d]
      have e := ih (j + 1) (by clear c1 c2 c7 c3 c4 c5 c6 c8 d'; omega)
      rw [show ((j + 1 : Nat) : Int) - 1 = (j : Int) - 1 + 1 by clear c1 c2 c7 c3 c4 c5 c6 c8 d'; omega] at e
      exact e
    · have d' : nw t < nw (g (64 + bn) j) := by rw [c6, c8]; clear c1 c2 c7 c3 c4 c5 c6 c8; omega
      rw [if_pos d', if_neg d]
