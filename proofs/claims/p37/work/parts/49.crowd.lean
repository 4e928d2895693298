/-! plain programs: tonight, the reference's loops -/
theorem M_four_s {t wh : Int} {c m cnt : Int} {bn p S : Nat} {g : AG} (L : JL g) (hf : JFlag g) (hb : (bn : Int) < g 6 7) (hp : p ≤ 15) (ht : 0 ≤ t ∧ t ≤ 20159) (hS : S < 2 ^ bn) : ∃ (g' : AG) (j' : Int), M_tonight_b t wh 3 (c, m, p, S, cnt, bn, -1) g = M_tonight_b t wh 2 (c, m, p, ((S + if mayB g t p bn = true then 2 ^ bn else 0 : Nat) : Int), cnt + (if mayB g t p bn = true then 1 else 0), (bn : Int) + 1, j') g' ∧ FR WM g g' := by
  obtain ⟨hb10, ⟨hm, e1, e2⟩, e3, e4, hr, ⟨n0, e5, e6⟩, e7, hj⟩ := L.row hb
  have hll : lsN (g (64 + bn)) t n0 0 = llF g bn t := by unfold llF; rw [e5, Int.toNat_natCast]
  have hlr : ((llF g bn t : Nat) : Int) ≤ g 74 bn := by
    have := lsN_rng (lt := g (64 + bn)) (t := t) n0 0
    rw [← hll, e5]; omega
  have e0 := M_log3_s (t := t) (wh := wh) (c := c) (m := m) (p := p) (S := S) (cnt := cnt) rfl L hb ht n0 0 (by omega)
  rw [hll, show ((0 : Nat) : Int) - 1 = -1 by decide] at e0
  rw [e0]
  clear e0
  have pl := L.place hb hlr
  obtain ⟨g1, r1, f1⟩ := M_led1 (b := bn) (a := plF g bn (llF g bn t)) (c := p) (t := tmF g bn (llF g bn t)) (g := g) L.1 hf hb10 pl.1 hp (by rw [e4]; exact hr) (Or.inr pl.2)
  rw [e4] at r1
  have lt := ldM_tm (g := g) (a := plF g bn (llF g bn t)) (c := p) (ta := g 51 bn) (t := tmF g bn (llF g bn t)) L.1 pl.1 hp hr (Or.inr pl.2)
  have oa := or_add bn hb10 S hS
  -- what is led
  have c1 : 0 ≤ nw (bn : Int) ∧ nw (bn : Int) < 10 := by clear lt r1 pl hll; rw [nw_id (by omega) (by omega)]; omega
  have c2 : ix (bn : Int) = bn := by clear c1 lt r1 pl hll; rw [ix_id (by omega) (by omega), Int.toNat_natCast]
  have head : (if nw ((llF g bn t : Int) - 1) = -1 then (if 0 ≤ nw (bn : Int) ∧ nw (bn : Int) < 10 then (M_led bn (g 126 (ix (bn : Int))) p 0 g >>= fun r6 => some (r6.1, r6.2)) else none) else (if 0 ≤ nw (10 * (bn : Int) + ((llF g bn t : Int) - 1)) ∧ nw (10 * (bn : Int) + ((llF g bn t : Int) - 1)) < 100 then (M_led bn (g 156 (ix (10 * (bn : Int) + ((llF g bn t : Int) - 1)))) p (g 157 (ix (10 * (bn : Int) + ((llF g bn t : Int) - 1)))) g >>= fun r3 => some (r3.1, r3.2)) else none)) = some (ldM g (g 51 bn) (plF g bn (llF g bn t)) p (tmF g bn (llF g bn t)), g1) := by
    rw [← r1]
    clear r1 lt oa
    generalize llF g bn t = k at hlr pl
    unfold plF tmF at pl ⊢
    by_cases z : k = 0
    · subst z
      rw [show ((0 : Nat) : Int) - 1 = -1 by decide, nw_m1, if_pos rfl, if_pos c1, c2, e3, if_pos rfl, if_pos rfl, e1, Int.toNat_natCast]
      cases M_led bn hm p 0 g <;> rfl
    · obtain ⟨⟨q, q1, q2⟩, qt, q3, q4⟩ := hj (k - 1) (by clear c1 c2; omega)
      have z1 : ¬ nw ((k : Int) - 1) = -1 := by clear c1 c2; rw [nw_id (by omega) (by omega)]; omega
      have z2 : 0 ≤ nw (10 * (bn : Int) + ((k : Int) - 1)) ∧ nw (10 * (bn : Int) + ((k : Int) - 1)) < 100 := by clear c1 c2 z1; rw [nw_id (by omega) (by omega)]; omega
      have z3 : ix (10 * (bn : Int) + ((k : Int) - 1)) = 10 * bn + (k - 1) := by clear c1 c2 z1 z2; rw [ix_id (by omega) (by omega)]; omega
      rw [if_neg z1, if_pos z2, z3, if_neg z, if_neg z, q3, q4, q1, Int.toNat_natCast]
      cases M_led bn q p (g (64 + bn) (k - 1)) g <;> rfl
  refine ⟨g1, (llF g bn t : Int) - 1, ?_, f1⟩
  rw [M_tonight_b.eq_1 _ _ 4, if_neg (by decide), if_neg (by decide), if_neg (by decide), if_pos rfl]
  dsimp only
  rw [head, sb]
  dsimp only
  unfold mayB
  clear head r1 pl hll hlr
  generalize ldM g (g 51 bn) (plF g bn (llF g bn t)) p (tmF g bn (llF g bn t)) = M at lt ⊢
  have lt1 : M = -1 ∨ (0 ≤ M ∧ M ≤ 20159) := lt
  clear lt c1 c2
  by_cases d1 : M = -1
  · have d2 : ¬ (¬ M = -1 ∧ M ≤ t) := fun q => q.1 d1
    rw [decide_eq_false d2, d1, nw_m1, if_pos rfl, sb]
    dsimp only
    rw [if_neg (by decide), if_neg (by decide), Nat.add_zero, Int.add_zero]
  · have n1 : nw M = M := nw_id (by omega) (by omega)
    have n2 : nw t = t := by clear n1; exact nw_id (by omega) (by omega)
    have n3 : ¬ nw M = -1 := by rw [n1]; exact d1
    rw [if_neg n3]
    by_cases d3 : M ≤ t
    · have d2 : (¬ M = -1 ∧ M ≤ t) := ⟨d1, d3⟩
      rw [decide_eq_true d2, if_pos (by rw [n1, n2]; exact d3), sb]
      dsimp only
      rw [oa, if_pos rfl, if_pos rfl]
    · have d2 : ¬ (¬ M = -1 ∧ M ≤ t) := fun q => d3 q.2
      rw [decide_eq_false d2, if_neg (by rw [n1, n2]; exact d3), sb]
      dsimp only
      rw [if_neg (by decide), if_neg (by decide), Nat.add_zero, Int.add_zero]
theorem pc_tn {may : Nat → Bool} : ∀ k, k ≤ 10 → ∀ b, b = (if may k = true then (1 : Int) else 0) → k < 10 → pcF (tnN may (k + 1)) = pcF (tnN may k) + b := by
  intro k hk b hb h10
  subst hb
  show pcF (tnN may k + if may k = true then 2 ^ k else 0) = _
  cases h : may k with
  | true => rw [if_pos rfl, if_pos rfl]; exact pc_add k h10 _ (tnN_lt k)
  | false => rw [if_neg (by decide), if_neg (by decide)]; simp
/-- all boats, at one point -/
theorem M_boats_s {t wh : Int} (ht : 0 ≤ t ∧ t ≤ 20159) {p : Nat} (hp : p ≤ 15) {may : Nat → Bool} {c m : Int} : ∀ (n b : Nat) (j : Int) (g : AG), ((b + n : Nat) : Int) = g 6 7 → JL g → JFlag g → (∀ b : Nat, (b : Int) < g 6 7 → mayB g t p b = may b) → ∃ (g' : AG) (j' : Int), M_tonight_b t wh 2 (c, m, p, (tnN may b : Nat), pcF (tnN may b), b, j) g = (if (p : Int) = nw wh then some (((tnN may (b + n) : Nat) : Int), g') else M_tonight_b t wh 1 ((if pcF (tnN may (b + n)) ≤ nw m then c else p), (if pcF (tnN may (b + n)) ≤ nw m then m else pcF (tnN may (b + n))), (p : Int) + 1, (tnN may (b + n) : Nat), pcF (tnN may (b + n)), ((b + n : Nat) : Int), j') g') ∧ FR WM g g' := by
  intro n
  induction n with
  | zero =>
    intro b j g h L hf hm
    have B := L.2.1.1
    refine ⟨g, j, ?_, Fr.rf⟩
    have pr := pc_rng (tnN may b)
    have c0 : nw (g 117 12) ≤ nw (b : Int) := by clear pr; rw [nw_id (by omega) (by omega), nw_id (by omega) (by omega)]; omega
    have c1 : nw (p : Int) = p := by clear c0 pr; exact nw_id (by omega) (by omega)
    have c2 : nw (pcF (tnN may b)) = pcF (tnN may b) := by clear c0 c1; exact nw_id (by omega) (by omega)
    rw [M_tonight_b.eq_1 _ _ 2, if_neg (by decide), if_pos rfl]
    dsimp only
    rw [if_pos c0]
    simp only [c1, c2, sb, Nat.add_zero]
  | succ n ih =>
    intro b j g h L hf hm
    have B := L.2.1.1
    have hb : (b : Int) < g 6 7 := by omega
    have hb10 : b < 10 := by omega
    obtain ⟨g1, j1, e1, f1⟩ := M_four_s (t := t) (wh := wh) (c := c) (m := m) (cnt := pcF (tnN may b)) L hf hb hp ht (tnN_lt (may := may) b)
    rw [hm b hb] at e1
    have e2 : ((tnN may b + if may b = true then 2 ^ b else 0 : Nat) : Int) = (tnN may (b + 1) : Nat) := rfl
    have e3 : pcF (tnN may b) + (if may b = true then 1 else 0) = pcF (tnN may (b + 1)) := (pc_tn b (by omega) _ rfl hb10).symm
    rw [e2, e3] at e1
    obtain ⟨g2, j2, e4, f2⟩ := ih (b + 1) j1 g1 (by rw [f1 6 7 rfl]; omega) (L.fr f1 rfl rfl rfl) (by unfold JFlag; rw [f1 117 47 rfl]; exact hf) (fun b' hb' => by
      rw [f1 6 7 rfl] at hb'
      rw [mayB_fr (by omega) f1 rfl rfl]
      exact hm b' hb')
    rw [show ((b + 1 : Nat) : Int) = (b : Int) + 1 from rfl, show b + 1 + n = b + (n + 1) by omega] at e4
    refine ⟨g2, j2, ?_, f1.tr f2⟩
    rw [← e4, ← e1]
    have c0 : ¬ nw (g 117 12) ≤ nw (b : Int) := by rw [nw_id (by omega) (by omega), nw_id (by omega) (by omega)]; omega
    rw [M_tonight_b.eq_1 _ _ 2, if_neg (by decide), if_pos rfl]
    dsimp only
    rw [if_neg c0]
theorem cwF_step {pc : Nat → Int} {n q best : Nat} : cwF pc (n + 1) q best = cwF pc n (q + 1) (if pc best < pc q then q else best) := rfl
/-- the points from q on -/
theorem M_pts_s {t wh : Int} (ht : 0 ≤ t ∧ t ≤ 20159) (hw : 0 ≤ wh ∧ wh ≤ 17) {may : Nat → Nat → Bool} {N : Nat} : ∀ (n q : Nat) (best : Nat) (m c S cnt b j : Int) (g : AG), q + n = 16 → ((N : Nat) : Int) = g 6 7 → JL g → JFlag g → (∀ p b : Nat, (b : Int) < g 6 7 → mayB g t p b = may p b) → c = best → best < 16 → ((q = 0 ∧ m = 0 ∧ best = 0) ∨ (0 < q ∧ m = pcF (tnN (may best) N))) → (wh < q → 16 ≤ wh) → ∃ g', M_tonight_b t wh 1 (c, m, q, S, cnt, b, j) g = some ((if wh < 16 then (tnN (may wh.toNat) N : Int) else if wh = 16 then ((cwF (fun p => pcF (tnN (may p) N)) n q best : Nat) : Int) else pcF (tnN (may (cwF (fun p => pcF (tnN (may p) N)) n q best)) N)), g') ∧ FR WM g g' := by
  intro n
  induction n with
  | zero =>
    intro q best m c S cnt b j g h hN L hf hm hc hb16 hmm hwq
    refine ⟨g, ?_, Fr.rf⟩
    have hm2 : m = pcF (tnN (may best) N) := by omega
    have w16 : ¬ wh < 16 := by omega
    have c0 : 16 ≤ nw (q : Int) := by rw [nw_id (by omega) (by omega)]; omega
    have c1 : nw wh = wh := by clear c0; exact nw_id (by omega) (by omega)
    rw [M_tonight_b, if_pos rfl]
    dsimp only
    rw [if_pos c0, sb, if_neg w16, hm2, hc]
    simp only [c1]
    rfl
  | succ n ih =>
    intro q best m c S cnt b j g h hN L hf hm hc hb16 hmm hwq
    have B := L.2.1.1
    obtain ⟨g1, j1, e1, f1⟩ := M_boats_s (t := t) (wh := wh) ht (p := q) (by omega) (may := may q) (c := c) (m := m) N 0 j g (by omega) L hf (fun b hb => hm q b hb)
    have c0 : ¬ 16 ≤ nw (q : Int) := by rw [nw_id (by omega) (by omega)]; omega
    have c1 : nw wh = wh := by clear c0; exact nw_id (by omega) (by omega)
    have e0 : M_tonight_b t wh 1 (c, m, q, S, cnt, b, j) g = M_tonight_b t wh 2 (c, m, q, ((tnN (may q) 0 : Nat) : Int), pcF (tnN (may q) 0), ((0 : Nat) : Int), j) g := by
      rw [M_tonight_b.eq_1 _ _ 1, if_pos rfl]
      dsimp only
      have z0 : tnN (may q) 0 = 0 := rfl
      have z1 : pcF 0 = 0 := by decide
      rw [if_neg c0, z0, z1]
      rfl
    rw [e0, e1, c1, Nat.zero_add]
    clear c0 c1 e0 e1
    have pr := pc_rng (tnN (may q) N)
    have prb := pc_rng (tnN (may best) N)
    have nm : nw m = m := by
      rcases hmm with ⟨_, z, _⟩ | ⟨_, z⟩
      · rw [z]; exact nw_0
      · rw [z]; exact nw_id (by omega) (by omega)
    by_cases d : (q : Int) = wh
    · rw [if_pos d, if_pos (by clear nm pr prb; omega), ← d, Int.toNat_natCast]
      exact ⟨g1, rfl, f1⟩
    · rw [if_neg d, nm]
      obtain ⟨best', hb', hbl, hcase⟩ : ∃ best' : Nat, best' = (if pcF (tnN (may best) N) < pcF (tnN (may q) N) then q else best) ∧ best' < 16 ∧ True := ⟨_, rfl, by split <;> (clear nm pr prb; omega), trivial⟩
      have hcm : (if pcF (tnN (may q) N) ≤ m then c else (q : Int)) = best' ∧ (if pcF (tnN (may q) N) ≤ m then m else pcF (tnN (may q) N)) = pcF (tnN (may best') N) := by
        clear nm
        rcases hmm with ⟨z1, z2, z3⟩ | ⟨z1, z2⟩
        · subst z1; subst z3
          rw [if_neg (Int.lt_irrefl _)] at hb'
          rw [hb', z2, hc]
          by_cases y : pcF (tnN (may 0) N) ≤ 0
          · rw [if_pos y, if_pos y]
            exact ⟨rfl, by omega⟩
          · rw [if_neg y, if_neg y]
            exact ⟨rfl, rfl⟩
        · rw [z2, hc]
          by_cases y : pcF (tnN (may best) N) < pcF (tnN (may q) N)
          · rw [if_pos y] at hb'
            rw [if_neg (by omega), if_neg (by omega), hb']
            exact ⟨rfl, rfl⟩
          · rw [if_neg y] at hb'
            rw [if_pos (by omega), if_pos (by omega), hb']
            exact ⟨rfl, rfl⟩
      obtain ⟨g2, e2, f2⟩ := ih (q + 1) best' (pcF (tnN (may best') N)) best' (tnN (may q) N : Nat) (pcF (tnN (may q) N)) ((N : Nat) : Int) j1 g1 (by clear nm pr prb; omega) (by rw [f1 6 7 rfl]; exact hN) (L.fr f1 rfl rfl rfl) (by unfold JFlag; rw [f1 117 47 rfl]; exact hf) (fun p b' hb' => by
        rw [f1 6 7 rfl] at hb'
        have : b' < 10 := by clear nm pr prb; omega
        rw [mayB_fr this f1 rfl rfl]
        exact hm p b' hb') rfl hbl (Or.inr ⟨by clear nm pr prb; omega, rfl⟩) (by clear nm pr prb; intro z; omega)
      rw [show ((q + 1 : Nat) : Int) = (q : Int) + 1 from rfl] at e2
      refine ⟨g2, ?_, f1.tr f2⟩
      rw [hcm.1, hcm.2, e2, cwF_step, ← hb']
theorem sm_tonight {x1 x2 : Int} {g : AG} (h1 : I32 x1) (h2 : I32 x2) (L : JL g) (hf : JFlag g) (A : JArr g) :
    ∃ r1 r2, X_tonight x1 x2 g = some r1 ∧ M_tonight x1 x2 r1.2 = some r2 ∧ nw r1.1 = nw r2.1 ∧ FR [(5, 7), (5, 8), (46, 0), (47, 0), (75, 0), (147, 0), (148, 0), (117, 49)] g r2.2 ∧ JArr r2.2 := by
  unfold I32 at *
  have B := L.2.1.1
  by_cases h : 0 ≤ x1 ∧ x1 ≤ 20159 ∧ 0 ≤ x2 ∧ x2 ≤ 17
  · obtain ⟨N, hN⟩ := natOf B.2.1
    have f0 : FR [(75, 0)] g (fillG g 75 16 0) := Fr.fill Fr.rf (fun _ => rfl)
    have L0 := L.fr f0 rfl rfl rfl
    obtain ⟨g1, e1, f1, p1, A1⟩ := X_settle_s (t := x1) (by omega) (may := fun p b => mayB g x1 p b) N 0 0 0 (fillG g 75 16 0) (by rw [f0 6 7 rfl]; omega) L0 (fun p hp => by rw [f0 46 p rfl]; exact A p hp) (fun p b hb => by
      rw [f0 6 7 rfl] at hb
      exact mayB_fr (by omega) f0 rfl rfl p) (fun p hp => by simp [fill_at, hp, tnN])
    rw [Nat.zero_add] at p1
    have fT : FR [(5, 7), (5, 8), (46, 0), (47, 0), (75, 0)] g g1 := (f0.mo rfl).tr f1
    have hS : ∀ p, p < 16 → tnN (fun b => mayB g x1 p b) N < 1024 := fun p _ => Nat.lt_of_lt_of_le (tnN_lt N) (Nat.le_trans (Nat.pow_le_pow_right (by decide) (show N ≤ 10 by omega)) (by decide))
    have cr := X_crowd_s (g := g1) (S := fun p => tnN (fun b => mayB g x1 p b) N) hS p1 15 1 0 (by omega) (by omega)
    have crl := cwF_lt (pc := fun p => pcF (tnN (fun b => mayB g x1 p b) N)) 15 1 0 (by omega) (by omega)
    have cw0 : cwF (fun p => pcF (tnN (fun b => mayB g x1 p b) N)) 16 0 0 = cwF (fun p => pcF (tnN (fun b => mayB g x1 p b) N)) 15 1 0 := by
      rw [cwF_step, ite_self]
    obtain ⟨g2, e2, f2⟩ := M_pts_s (t := x1) (wh := x2) (by omega) (by omega) (may := fun p b => mayB g x1 p b) (N := N) 16 0 0 0 0 0 0 0 0 g1 (by omega) (by rw [fT 6 7 rfl]; omega) (L.fr fT rfl rfl rfl) (by unfold JFlag; rw [fT 117 47 rfl]; exact hf) (fun p b hb => by
      rw [fT 6 7 rfl] at hb
      exact mayB_fr (by omega) fT rfl rfl p) rfl (by omega) (Or.inl ⟨rfl, rfl, rfl⟩) (by omega)
    rw [cw0] at e2
    generalize cwF (fun p => pcF (tnN (fun b => mayB g x1 p b) N)) 15 1 0 = cw at cr crl e2
    have eX : X_tonight x1 x2 g = some ((if x2 < 16 then (tnN (fun b => mayB g x1 x2.toNat b) N : Int) else if x2 = 16 then (cw : Int) else pcF (tnN (fun b => mayB g x1 cw b) N)), g1) := by
      have d1 : ¬ nw (X_isTime x1) = 0 := by rw [isTimeX0 (by omega) (by omega)]; omega
      have d2 : ¬ nw (X_within x2 0 17) = 0 := by clear d1; rw [within0 (by omega) (by omega) (by omega) (by omega) (by omega) (by omega)]; omega
      have d3 : nw x2 = x2 := by clear d1 d2; exact nw_id (by omega) (by omega)
      have es : Boats_settleTonight x1 g = some (0, g1) := by
        unfold Boats_settleTonight
        rw [sb]
        exact e1
      unfold X_tonight
      rw [if_neg d1, if_neg d2, es, sb]
      dsimp only
      rw [d3]
      by_cases y : x2 < 16
      · have d4 : ix x2 = x2.toNat := by clear d1 d2 d3; exact ix_id (by omega) (by omega)
        rw [if_neg (by clear d1 d2 d3; omega), if_pos (by clear d1 d2 d3; omega), if_pos y, d4, p1 x2.toNat (by clear d1 d2 d3 d4; omega)]
      · have ec : Boats_crowd g1 = some (cw : Int) := cr
        rw [if_pos (by clear d1 d2 d3; omega), ec, sb, if_neg y]
        by_cases y2 : x2 = 16
        · rw [if_pos y2, if_pos y2, sb]
        · have d4 : 0 ≤ nw (cw : Int) ∧ nw (cw : Int) < 16 := by clear d1 d2 d3; rw [nw_id (by omega) (by omega)]; omega
          have d5 : ix (cw : Int) = cw := by clear d1 d2 d3 d4; rw [ix_id (by omega) (by omega), Int.toNat_natCast]
          rw [if_neg y2, if_neg y2, if_pos d4, d5, p1 cw crl, pc_s (hS cw crl), sb, sb]
    have d1 : ¬ nw (M_isTime x1) = 0 := by rw [isTime0 (by omega) (by omega)]; omega
    have d2 : ¬ nw (M_isIn x2 0 17) = 0 := by clear d1; rw [isIn0 (by omega) (by omega) (by omega) (by omega) (by omega) (by omega)]; omega
    have eM : ∀ v, M_tonight_b x1 x2 1 (((0 : Nat) : Int), 0, ((0 : Nat) : Int), 0, 0, 0, 0) g1 = some v → M_tonight x1 x2 g1 = some v := by
      intro v hv
      unfold M_tonight
      rw [if_neg d1, if_neg d2]
      exact hv
    exact ⟨_, _, eX, eM _ e2, rfl, (fT.mo rfl).tr (f2.mo rfl), fun p hp => by show TmOk (g2 46 p); rw [f2 46 p rfl]; exact A1 p hp⟩
  · have eX : X_tonight x1 x2 g = some (-1, g) := by
      unfold X_tonight
      by_cases c1 : x1 < 0 ∨ 20159 < x1
      · simp (disch := omega) only [nw_id, ix_id, sb, if_true, if_false, if_pos, if_neg, true_and, and_true, false_and, and_false, and_self, isTimeX0]
      · simp (disch := omega) only [nw_id, ix_id, sb, if_true, if_false, if_pos, if_neg, true_and, and_true, false_and, and_false, and_self, isTimeX0, within0]
    have eM : M_tonight x1 x2 g = some (-1, g) := by
      unfold M_tonight
      by_cases c1 : x1 < 0 ∨ 20159 < x1
      · simp (disch := omega) only [nw_id, ix_id, sb, if_true, if_false, if_pos, if_neg, true_and, and_true, false_and, and_false, and_self, isTime0]
      · simp (disch := omega) only [nw_id, ix_id, sb, if_true, if_false, if_pos, if_neg, true_and, and_true, false_and, and_false, and_self, isTime0, isIn0]
    exact ⟨_, _, eX, eM, rfl, Fr.rf, A⟩
