/-! plain programs: late, rung -/
def ltV (L due : Int) : Int := if L = -1 then 20160 else if L ≤ due then 0 else L - due
def ltM (g : AG) (k : Nat) : Int := ltV (ldM g (g 127 (g 149 k).toNat) (g 150 k).toNat (g 151 k).toNat (g 152 k)) (g 153 k)
theorem ltM_fr {W : Reg} {g g' : AG} (f : FR W g g') (d : djR [(117, 11), (117, 12), (121, 0), (122, 0), (123, 0), (2, 4), (128, 0), (129, 0), (130, 0), (132, 0), (133, 0), (134, 0), (142, 0), (144, 0), (118, 0), (119, 0)] W = true) (d2 : djR [(127, 0), (149, 0), (150, 0), (151, 0), (152, 0), (153, 0)] W = true) : ltM g' = ltM g := by
  have c := f.cg d2
  have c0 : g' 127 = g 127 := funext fun i => c 127 i rfl
  funext k
  unfold ltM
  rw [ldM_fr f d, c0, c 149 k rfl, c 150 k rfl, c 151 k rfl, c 152 k rfl, c 153 k rfl]
/-- what stands, for trips -/
def JT (g : AG) : Prop := JV g ∧ JBoat g ∧ JTrip g
theorem JT.fr {W : Reg} {g g' : AG} (h : JT g) (f : FR W g g') (d : djR (RWay ++ (RRule ++ (RHour ++ (RStop ++ RWat)))) W = true) (d2 : djR RBoat W = true) (d3 : djR RTrip W = true) : JT g' := ⟨h.1.fr f d, h.2.1.cg (f.cg d2), h.2.2.cg (f.cg d3)⟩
theorem JT.row {g : AG} (h : JT g) {k : Nat} (hk : (k : Int) < g 7 8) : ∃ b a c : Nat, g 76 k = b ∧ g 77 k = a ∧ g 78 k = c ∧ g 149 k = b ∧ g 150 k = a ∧ g 151 k = c ∧ g 152 k = g 79 k ∧ g 153 k = g 80 k ∧ b < 10 ∧ (b : Int) < g 6 7 ∧ a ≤ 15 ∧ c ≤ 15 ∧ (0 ≤ g 79 k ∧ g 79 k ≤ 20159) ∧ (0 ≤ g 80 k ∧ g 80 k ≤ 20159) ∧ g 127 b = g 51 b ∧ (0 ≤ g 51 b ∧ g 51 b ≤ 60) ∧ k < 20 := by
  obtain ⟨V, ⟨⟨b1, b2, b3⟩, bv, bs⟩, ⟨t1, t2, t3⟩, t4, t5⟩ := h
  have e := t4 k (by omega)
  have r := t5 k hk
  obtain ⟨b, hb⟩ := natOf r.1.1
  obtain ⟨a, ha⟩ := natOf r.2.1.1
  obtain ⟨c, hc⟩ := natOf r.2.2.1.1
  have vb := bv b (by omega)
  have sb' := bs b (by omega)
  exact ⟨b, a, c, hb, ha, hc, by omega, by omega, by omega, by omega, by omega, by omega, by omega, by omega, by omega, by omega, by omega, vb.2.2.2, sb'.2.2.2, by omega⟩
theorem M_lateOf_s {k : Nat} {g : AG} (T : JT g) (hf : JFlag g) (hk : (k : Int) < g 7 8) : ∃ g', M_lateOf k g = some (ltM g k, g') ∧ FR WM g g' := by
  obtain ⟨b, a, c, e1, e2, e3, e4, e5, e6, e7, e8, hb, hb2, ha, hc, ht, hd, hta, hr, hk20⟩ := T.row hk
  obtain ⟨g1, r1, f1⟩ := M_led1 (b := b) (a := a) (c := c) (t := g 79 k) (g := g) T.1 hf hb ha hc (by rw [hta]; exact hr) (Or.inr ht)
  have lt := ldM_tm (g := g) (a := a) (c := c) (ta := g 127 b) (t := g 79 k) T.1 ha hc (by rw [hta]; exact hr) (Or.inr ht)
  unfold TmOk at lt
  refine ⟨g1, ?_, f1⟩
  have q1 : g1 153 k = g 80 k := by rw [f1 153 k rfl, e8]
  unfold M_lateOf ltM ltV
  rw [e4, e5, e6, e7, e8, Int.toNat_natCast, Int.toNat_natCast, Int.toNat_natCast]
  generalize ldM g (g 127 b) a c (g 79 k) = L at r1 lt ⊢
  clear e1 e2 e3
  by_cases c1 : L = -1
  · subst c1
    clear lt
    simp (disch := omega) only [nw_id, ix_id, sb, if_true, if_false, if_pos, if_neg, true_and, and_true, false_and, and_false, and_self, Int.toNat_natCast, e4, e5, e6, e7, r1]
  · have c2 : 0 ≤ L ∧ L ≤ 20159 := by omega
    clear lt
    by_cases c3 : L ≤ g 80 k
    · simp (disch := omega) only [nw_id, ix_id, sb, if_true, if_false, if_pos, if_neg, true_and, and_true, false_and, and_false, and_self, Int.toNat_natCast, e4, e5, e6, e7, r1, q1]
    · simp (disch := omega) only [nw_id, ix_id, sb, if_true, if_false, if_pos, if_neg, true_and, and_true, false_and, and_false, and_self, Int.toNat_natCast, e4, e5, e6, e7, r1, q1]
/-- the canal without stoppages -/
def ldZ (g : AG) (ta : Int) (a c : Nat) (t : Int) : Int := (ledF (okM g (fun _ _ => false)) (tuM g) (g 118) (g 119) (laF ta) a c (t, [])).1
theorem ldZ_eq {g : AG} : ldM (up g 117 11 0) = ldZ g := by
  have f : FR [(117, 12)] g (up g 117 11 0) := Fr.up Fr.rf rfl
  have s1 : stpM (up g 117 11 0) = fun _ _ => false := by
    funext i d
    unfold stpM
    rw [show (up g 117 11 0) 117 11 = 0 by simp [up_at]]
    rfl
  funext ta a c t
  unfold ldM ldZ
  rw [s1, okM_fr f rfl, f.cell (k := 118) (fun _ => rfl), f.cell (k := 119) (fun _ => rfl)]
  have s3 : tuM (up g 117 11 0) = tuM g := by funext i; unfold tuM; rw [f.cell (k := 144) (fun _ => rfl)]
  rw [s3]
theorem ldZ_fr {W : Reg} {g g' : AG} (f : FR W g g') (d : djR [(117, 11), (2, 4), (128, 0), (129, 0), (130, 0), (132, 0), (133, 0), (134, 0), (142, 0), (144, 0)] W = true) (d2 : djR [(118, 0), (119, 0), (144, 0)] W = true) : ldZ g' = ldZ g := by
  have c := f.cg d2
  have c1 : g' 118 = g 118 := funext fun i => c 118 i rfl
  have c2 : g' 119 = g 119 := funext fun i => c 119 i rfl
  have c3 : g' 144 = g 144 := funext fun i => c 144 i rfl
  funext ta a c t
  unfold ldZ
  rw [okM_fr f d, c1, c2]
  have s3 : tuM g' = tuM g := by funext i; unfold tuM; rw [c3]
  rw [s3]
theorem ldZ_tm {a c : Nat} {ta t : Int} {g : AG} (V : JV g) (ha : a ≤ 15) (hc : c ≤ 15) (ht : 0 ≤ ta ∧ ta ≤ 60) (htm : TmOk t) : TmOk (ldZ g ta a c t) := by
  have v1 := V.1
  exact (ledF_ok (ok := okM g (fun _ _ => false)) (tu := tuM g) (mi := g 118) (lk := g 119) (lasts := laF ta) (by unfold laF; omega) (fun i hi => (v1 i hi).2.2.2.1) (fun i hi => ⟨(v1 i hi).2.2.2.2.2.1, (v1 i hi).2.2.2.2.2.2.1⟩) (p := (t, [])) ha hc htm (by intro d hd; cases hd)).1
def ltZ (g : AG) (k : Nat) : Int := ltV (ldZ g (g 127 (g 149 k).toNat) (g 150 k).toNat (g 151 k).toNat (g 152 k)) (g 153 k)
theorem X_lateBy_s {k : Nat} {hd : Int} {g : AG} (T : JT g) (hk : (k : Int) < g 7 8) (hh : hd = 0 ∨ hd = 1) : ∃ g', Trips_lateBy k hd g = some (if hd = 1 then ltM g k else ltZ g k, g') ∧ FR WV g g' := by
  obtain ⟨b, a, c, e1, e2, e3, e4, e5, e6, e7, e8, hb, hb2, ha, hc, ht, hd2, hta, hr, hk20⟩ := T.row hk
  obtain ⟨g1, r1, f1, _⟩ := X_comesTo_s (a := a) (c := c) (ta := g 51 b) (t := g 79 k) (hd := hd) (g := g) T.1 ha hc hr hh (Or.inr ht)
  have q1 : g1 80 k = g 80 k := f1 80 k rfl
  have key : ∀ L : Int, TmOk L → Voyage_comesTo (g 51 b) a c (g 79 k) hd g = some (L, g1) → Trips_lateBy k hd g = some (ltV L (g 153 k), g1) := by
    intro L lt r
    unfold TmOk at lt
    unfold Trips_lateBy ltV
    rw [e8]
    clear r1 e4 e5 e6 e7 e8
    by_cases c1 : L = -1
    · subst c1
      clear lt
      simp (disch := omega) only [nw_id, ix_id, sb, if_true, if_false, if_pos, if_neg, true_and, and_true, false_and, and_false, and_self, Int.toNat_natCast, e1, e2, e3, r]
    · have c2 : 0 ≤ L ∧ L ≤ 20159 := by omega
      clear lt
      by_cases c3 : L ≤ g 80 k
      · simp (disch := omega) only [nw_id, ix_id, sb, if_true, if_false, if_pos, if_neg, true_and, and_true, false_and, and_false, and_self, Int.toNat_natCast, e1, e2, e3, r, q1, mxI_s]
        congr 2
        omega
      · simp (disch := omega) only [nw_id, ix_id, sb, if_true, if_false, if_pos, if_neg, true_and, and_true, false_and, and_false, and_self, Int.toNat_natCast, e1, e2, e3, r, q1, mxI_s]
        congr 2
        omega
  refine ⟨g1, ?_, f1⟩
  rcases hh with e | e
  · subst e
    rw [if_neg (by decide)] at r1 ⊢
    have := key _ (ldZ_tm (g := g) (a := a) (c := c) (ta := g 51 b) (t := g 79 k) T.1 ha hc hr (Or.inr ht)) r1
    rw [this]
    unfold ltZ
    rw [e4, e5, e6, e7, Int.toNat_natCast, Int.toNat_natCast, Int.toNat_natCast, hta]
  · subst e
    rw [if_pos rfl] at r1 ⊢
    have := key _ (ldM_tm (g := g) (a := a) (c := c) (ta := g 51 b) (t := g 79 k) T.1 ha hc hr (Or.inr ht)) r1
    rw [this]
    unfold ltM
    rw [e4, e5, e6, e7, Int.toNat_natCast, Int.toNat_natCast, Int.toNat_natCast, hta]
theorem ltV_rng {L d : Int} (h : TmOk L) (hd : 0 ≤ d) : 0 ≤ ltV L d ∧ ltV L d ≤ 20160 := by
  unfold TmOk at h
  unfold ltV
  split
  · omega
  · split <;> omega
theorem ltM_rng {g : AG} {k : Nat} (T : JT g) (hk : (k : Int) < g 7 8) : 0 ≤ ltM g k ∧ ltM g k ≤ 20160 := by
  obtain ⟨b, a, c, e1, e2, e3, e4, e5, e6, e7, e8, hb, hb2, ha, hc, ht, hd2, hta, hr, hk20⟩ := T.row hk
  unfold ltM
  rw [e4, e5, e6, e7, e8, Int.toNat_natCast, Int.toNat_natCast, Int.toNat_natCast, hta]
  exact ltV_rng (ldM_tm T.1 ha hc hr (Or.inr ht)) hd2.1
theorem ltZ_rng {g : AG} {k : Nat} (T : JT g) (hk : (k : Int) < g 7 8) : 0 ≤ ltZ g k ∧ ltZ g k ≤ 20160 := by
  obtain ⟨b, a, c, e1, e2, e3, e4, e5, e6, e7, e8, hb, hb2, ha, hc, ht, hd2, hta, hr, hk20⟩ := T.row hk
  unfold ltZ
  rw [e4, e5, e6, e7, e8, Int.toNat_natCast, Int.toNat_natCast, Int.toNat_natCast, hta]
  exact ltV_rng (ldZ_tm T.1 ha hc hr (Or.inr ht)) hd2.1
def ctL (lt : Nat → Int) : Nat → Nat → Int → Int
  | 0, _, acc => acc
  | n + 1, k, acc => ctL lt n (k + 1) (acc + if 0 < lt k then 1 else 0)
theorem X_many_s : ∀ (n k : Nat) (acc : Int) (g : AG), JT g → ((k + n : Nat) : Int) = g 7 8 → 0 ≤ acc → acc ≤ k → ∃ g', Trips_howManyLate_b acc k g = some (ctL (ltM g) n k acc, g') ∧ FR WV g g' := by
  intro n
  induction n with
  | zero =>
    intro k acc g T h h0 h1
    have := T.2.2.1
    refine ⟨g, ?_, Fr.rf⟩
    rw [Trips_howManyLate_b]
    simp (disch := omega) only [nw_id, ix_id, sb, if_true, if_false, if_pos, if_neg, true_and, and_true, false_and, and_false, and_self]
    rfl
  | succ n ih =>
    intro k acc g T h h0 h1
    have t1 := T.2.2.1
    have lr := ltM_rng T (k := k) (by omega)
    obtain ⟨g1, e1, f1⟩ := X_lateBy_s (k := k) (hd := 1) T (by omega) (Or.inr rfl)
    rw [if_pos rfl] at e1
    have q1 : g1 7 8 = g 7 8 := f1 7 8 rfl
    obtain ⟨g2, e2, f2⟩ := ih (k + 1) (acc + if 0 < ltM g k then 1 else 0) g1 (T.fr f1 rfl rfl rfl) (by omega) (by split <;> omega) (by split <;> omega)
    rw [ltM_fr f1 rfl rfl, show ((k + 1 : Nat) : Int) = (k : Int) + 1 from rfl] at e2
    refine ⟨g2, ?_, f1.tr f2⟩
    unfold ctL
    rw [← e2, Trips_howManyLate_b]
    generalize ltM g k = L at e1 lr ⊢
    by_cases c : L ≤ 0
    · simp (disch := omega) only [nw_id, ix_id, sb, if_true, if_false, if_pos, if_neg, true_and, and_true, false_and, and_false, and_self, e1, Int.add_zero]
    · simp (disch := omega) only [nw_id, ix_id, sb, if_true, if_false, if_pos, if_neg, true_and, and_true, false_and, and_false, and_self, e1]
theorem M_many_s : ∀ (n k : Nat) (acc : Int) (g : AG), JT g → JFlag g → ((k + n : Nat) : Int) = g 7 8 → 0 ≤ acc → acc ≤ k → ∃ g', M_late_b acc k g = some (ctL (ltM g) n k acc, g') ∧ FR WM g g' := by
  intro n
  induction n with
  | zero =>
    intro k acc g T hf h h0 h1
    have := T.2.2.1
    refine ⟨g, ?_, Fr.rf⟩
    rw [M_late_b]
    simp (disch := omega) only [nw_id, ix_id, sb, if_true, if_false, if_pos, if_neg, true_and, and_true, false_and, and_false, and_self]
    rfl
  | succ n ih =>
    intro k acc g T hf h h0 h1
    have t1 := T.2.2.1
    have lr := ltM_rng T (k := k) (by omega)
    obtain ⟨g1, e1, f1⟩ := M_lateOf_s (k := k) T hf (by omega)
    have q1 : g1 7 8 = g 7 8 := f1 7 8 rfl
    obtain ⟨g2, e2, f2⟩ := ih (k + 1) (acc + if 0 < ltM g k then 1 else 0) g1 (T.fr f1 rfl rfl rfl) (by unfold JFlag; rw [f1 117 47 rfl]; exact hf) (by omega) (by split <;> omega) (by split <;> omega)
    rw [ltM_fr f1 rfl rfl, show ((k + 1 : Nat) : Int) = (k : Int) + 1 from rfl] at e2
    refine ⟨g2, ?_, f1.tr f2⟩
    unfold ctL
    rw [← e2, M_late_b]
    generalize ltM g k = L at e1 lr ⊢
    by_cases c : L ≤ 0
    · simp (disch := omega) only [nw_id, ix_id, sb, if_true, if_false, if_pos, if_neg, true_and, and_true, false_and, and_false, and_self, e1, Int.add_zero]
    · simp (disch := omega) only [nw_id, ix_id, sb, if_true, if_false, if_pos, if_neg, true_and, and_true, false_and, and_false, and_self, e1]
theorem sm_late {x1 : Int} {g : AG} (h1 : I32 x1) (T : JT g) (hf : JFlag g) :
    ∃ r1 r2, X_late x1 g = some r1 ∧ M_late x1 r1.2 = some r2 ∧ nw r1.1 = nw r2.1 ∧ FR SCV g r2.2 := by
  unfold I32 at *
  have t1 := T.2.2.1
  by_cases e : x1 = -1
  · subst e
    obtain ⟨N, hN⟩ := natOf t1.2.1
    obtain ⟨g1, e1, f1⟩ := X_many_s N 0 0 g T (by omega) (by omega) (by omega)
    have q1 : g1 7 8 = g 7 8 := f1 7 8 rfl
    obtain ⟨g2, e2, f2⟩ := M_many_s N 0 0 g1 (T.fr f1 rfl rfl rfl) (by unfold JFlag; rw [f1 117 47 rfl]; exact hf) (by omega) (by omega) (by omega)
    rw [ltM_fr f1 rfl rfl] at e2
    refine ⟨(ctL (ltM g) N 0 0, g1), (ctL (ltM g) N 0 0, g2), ?_, ?_, rfl, (f1.mo rfl).tr (f2.mo rfl)⟩
    · unfold X_late Trips_howManyLate
      rw [nw_m1, if_pos rfl]
      rw [show ((0 : Nat) : Int) = (0 : Int) from rfl] at e1
      rw [e1, sb]
    · unfold M_late
      rw [nw_m1, if_pos rfl]
      exact e2
  · by_cases h : 0 ≤ x1 ∧ x1 < g 7 8
    · obtain ⟨k, rfl⟩ := natOf h.1
      obtain ⟨g1, e1, f1⟩ := X_lateBy_s (k := k) (hd := 1) T (by omega) (Or.inr rfl)
      rw [if_pos rfl] at e1
      have q1 : g1 7 8 = g 7 8 := f1 7 8 rfl
      have q2 : g1 117 49 = g 7 8 := by rw [f1 117 49 rfl]; exact t1.1
      obtain ⟨g2, e2, f2⟩ := M_lateOf_s (k := k) (T.fr f1 rfl rfl rfl) (by unfold JFlag; rw [f1 117 47 rfl]; exact hf) (by omega)
      rw [ltM_fr f1 rfl rfl] at e2
      refine ⟨(ltM g k, g1), (ltM g k, g2), ?_, ?_, rfl, (f1.mo rfl).tr (f2.mo rfl)⟩
      · unfold X_late
        simp (disch := omega) only [nw_id, ix_id, sb, if_true, if_false, if_pos, if_neg, true_and, and_true, false_and, and_false, and_self, within0, e1]
      · unfold M_late
        simp (disch := omega) only [nw_id, ix_id, sb, if_true, if_false, if_pos, if_neg, true_and, and_true, false_and, and_false, and_self, isIn0, q2, e2]
    · refine ⟨(-1, g), (-1, g), ?_, ?_, rfl, Fr.rf⟩
      · unfold X_late
        simp (disch := omega) only [nw_id, ix_id, sb, if_true, if_false, if_pos, if_neg, true_and, and_true, false_and, and_false, and_self, within0]
      · unfold M_late
        simp (disch := omega) only [nw_id, ix_id, sb, if_true, if_false, if_pos, if_neg, true_and, and_true, false_and, and_false, and_self, isIn0, t1.1]
def rgL (lt lz : Nat → Int) : Nat → Nat → Int → Int
  | 0, _, s => s
  | n + 1, k, s => rgL lt lz n (k + 1) (if 0 < lt k ∧ lz k = 0 then orI s (shlI 1 k) else s)
theorem X_rung_b_s : ∀ (n k : Nat) (s : Int) (g : AG), JT g → ((k + n : Nat) : Int) = g 7 8 → ∃ g', X_rung_b s k g = some (rgL (ltM g) (ltZ g) n k s, g') ∧ FR WV g g' := by
  intro n
  induction n with
  | zero =>
    intro k s g T h
    have := T.2.2.1
    refine ⟨g, ?_, Fr.rf⟩
    rw [X_rung_b]
    simp (disch := omega) only [nw_id, ix_id, sb, if_true, if_false, if_pos, if_neg, true_and, and_true, false_and, and_false, and_self]
    rfl
  | succ n ih =>
    intro k s g T h
    have t1 := T.2.2.1
    have lr := ltM_rng T (k := k) (by omega)
    have lz := ltZ_rng T (k := k) (by omega)
    obtain ⟨g1, e1, f1⟩ := X_lateBy_s (k := k) (hd := 1) T (by omega) (Or.inr rfl)
    rw [if_pos rfl] at e1
    have q1 : g1 7 8 = g 7 8 := f1 7 8 rfl
    have T1 := T.fr f1 rfl rfl rfl
    have zf : ltZ g1 = ltZ g := by
      funext k
      unfold ltZ
      rw [ldZ_fr f1 rfl rfl, f1.cell (k := 127) (fun _ => rfl), f1 149 k rfl, f1 150 k rfl, f1 151 k rfl, f1 152 k rfl, f1 153 k rfl]
    obtain ⟨g2, e2, f2⟩ := X_lateBy_s (k := k) (hd := 0) T1 (by omega) (Or.inl rfl)
    rw [if_neg (by decide), zf] at e2
    have f12 := f1.tr f2
    have T2 := T1.fr f2 rfl rfl rfl
    have zf2 : ltZ g2 = ltZ g := by
      funext k
      unfold ltZ
      rw [ldZ_fr f12 rfl rfl, f12.cell (k := 127) (fun _ => rfl), f12 149 k rfl, f12 150 k rfl, f12 151 k rfl, f12 152 k rfl, f12 153 k rfl]
    have q2 : g2 7 8 = g 7 8 := f12 7 8 rfl
    obtain ⟨g3, e3, f3⟩ := ih (k + 1) s g1 T1 (by omega)
    obtain ⟨g4, e4, f4⟩ := ih (k + 1) s g2 T2 (by omega)
    obtain ⟨g5, e5, f5⟩ := ih (k + 1) (orI s (shlI 1 k)) g2 T2 (by omega)
    rw [ltM_fr f1 rfl rfl, zf, show ((k + 1 : Nat) : Int) = (k : Int) + 1 from rfl] at e3
    rw [ltM_fr f12 rfl rfl, zf2, show ((k + 1 : Nat) : Int) = (k : Int) + 1 from rfl] at e4 e5
    rw [X_rung_b]
    unfold rgL
    generalize ltM g k = L at e1 lr ⊢
    generalize ltZ g k = Z at e2 lz ⊢
    by_cases c : L ≤ 0
    · refine ⟨g3, ?_, f1.tr f3⟩
      simp (disch := omega) only [nw_id, ix_id, sb, if_true, if_false, if_pos, if_neg, true_and, and_true, false_and, and_false, and_self, e1, e3]
    · by_cases c2 : Z = 0
      · refine ⟨g5, ?_, f12.tr f5⟩
        simp (disch := omega) only [nw_id, ix_id, sb, if_true, if_false, if_pos, if_neg, true_and, and_true, false_and, and_false, and_self, e1, e2, e5]
      · refine ⟨g4, ?_, f12.tr f4⟩
        simp (disch := omega) only [nw_id, ix_id, sb, if_true, if_false, if_pos, if_neg, true_and, and_true, false_and, and_false, and_self, e1, e2, e4]
theorem M_rung_b_s : ∀ (n k : Nat) (s : Int) (g : AG), JT g → JFlag g → ((k + n : Nat) : Int) = g 7 8 → ∃ g', M_rung_b (g 117 11) s k g = some (rgL (ltM g) (ltZ g) n k s, g') ∧ FR WM g g' := by
  intro n
  induction n with
  | zero =>
    intro k s g T hf h
    have := T.2.2.1
    refine ⟨g, ?_, Fr.rf⟩
    rw [M_rung_b]
    simp (disch := omega) only [nw_id, ix_id, sb, if_true, if_false, if_pos, if_neg, true_and, and_true, false_and, and_false, and_self]
    rfl
  | succ n ih =>
    intro k s g T hf h
    have t1 := T.2.2.1
    have lr := ltM_rng T (k := k) (by omega)
    have lz := ltZ_rng T (k := k) (by omega)
    obtain ⟨g1, e1, f1⟩ := M_lateOf_s (k := k) T hf (by omega)
    have q1 : g1 7 8 = g 7 8 := f1 7 8 rfl
    have T1 := T.fr f1 rfl rfl rfl
    -- the state without stoppages
    have fz : FR [(117, 12)] g1 (up g1 117 11 0) := Fr.up Fr.rf rfl
    have f1z : FR [(147, 0), (148, 0), (117, 49), (117, 12)] g (up g1 117 11 0) := (f1.mo rfl).tr (fz.mo rfl)
    obtain ⟨b, a, c, e1', e2', e3', e4', e5', e6', e7', e8', hb, hb2, ha, hc, ht, hd2, hta, hr, hk20⟩ := T.row (k := k) (by omega)
    have hstops := T.1.2.2.2.1.2.1.1
    have MIz : MI (up g1 117 11 0) b (okM (up g1 117 11 0) (stpM (up g1 117 11 0))) (tuM (up g1 117 11 0)) ((up g1 117 11 0) 118) ((up g1 117 11 0) 119) (hwF (up g1 117 11 0) b) ((up g1 117 11 0) 127 b) := by
      refine ⟨T1.1.2.1.cg (fz.cg rfl), ⟨by simp [up_at], fun s hs => by simp [up_at] at hs; omega⟩, rfl, rfl, rfl, rfl, rfl, rfl, by rw [f1z 127 b rfl, hta]; exact hr, hb, fun i hi => ?_, Or.inl (by rw [f1z 117 47 rfl]; exact hf)⟩
      have := T.1.1 i hi
      rw [f1z 118 i rfl, f1z 119 i rfl]
      omega
    obtain ⟨g2, r2, f2, _⟩ := M_led_s (a := a) (c := c) ha hc (t := g 79 k) (Or.inr ht) [] MIz
    have r3 : M_led b a c (g 79 k) (up g1 117 11 0) = some (ldZ g (g 51 b) a c (g 79 k), g2) := by
      rw [r2]
      have : (ledF (okM (up g1 117 11 0) (stpM (up g1 117 11 0))) (tuM (up g1 117 11 0)) ((up g1 117 11 0) 118) ((up g1 117 11 0) 119) (laF ((up g1 117 11 0) 127 b)) a c (g 79 k, [])).1 = ldM (up g1 117 11 0) ((up g1 117 11 0) 127 b) a c (g 79 k) := rfl
      rw [this, ldZ_eq, ldZ_fr f1 rfl rfl, f1z 127 b rfl, hta]
    have lzt := ldZ_tm (g := g) (a := a) (c := c) (ta := g 51 b) (t := g 79 k) T.1 ha hc hr (Or.inr ht)
    have eZ : M_lateOf k (up g1 117 11 0) = some (ltZ g k, g2) := by
      have q3 : g2 153 k = g 80 k := by rw [f2 153 k rfl, f1z 153 k rfl, e8']
      have w1 : (up g1 117 11 0) 149 k = b := by rw [f1z 149 k rfl]; exact e4'
      have w2 : (up g1 117 11 0) 150 k = a := by rw [f1z 150 k rfl]; exact e5'
      have w3 : (up g1 117 11 0) 151 k = c := by rw [f1z 151 k rfl]; exact e6'
      have w4 : (up g1 117 11 0) 152 k = g 79 k := by rw [f1z 152 k rfl]; exact e7'
      unfold M_lateOf ltZ ltV
      rw [e4', e5', e6', e7', e8', Int.toNat_natCast, Int.toNat_natCast, Int.toNat_natCast, hta]
      unfold TmOk at lzt
      clear ih e1 lr lz e1' e2' e3' r2
      generalize ldZ g (g 51 b) a c (g 79 k) = L at r3 lzt ⊢
      by_cases c1 : L = -1
      · subst c1
        clear lzt
        simp (disch := omega) only [nw_id, ix_id, sb, if_true, if_false, if_pos, if_neg, true_and, and_true, false_and, and_false, and_self, Int.toNat_natCast, w1, w2, w3, w4, r3]
      · have c2 : 0 ≤ L ∧ L ≤ 20159 := by omega
        clear lzt
        by_cases c3 : L ≤ g 80 k
        · simp (disch := omega) only [nw_id, ix_id, sb, if_true, if_false, if_pos, if_neg, true_and, and_true, false_and, and_false, and_self, Int.toNat_natCast, w1, w2, w3, w4, r3, q3]
        · simp (disch := omega) only [nw_id, ix_id, sb, if_true, if_false, if_pos, if_neg, true_and, and_true, false_and, and_false, and_self, Int.toNat_natCast, w1, w2, w3, w4, r3, q3]
    have fin : ∀ g9 : AG, FR [(147, 0), (148, 0), (117, 49), (117, 12)] g g9 → FR WM g (up g9 117 11 (g 117 11)) := by
      intro g9 f9
      exact FR.drop (k0 := 117) (i0 := 11) (Fr.up (f9.mo rfl) rfl) (by simp [up_at])
    have fA := fin _ f1z
    have fB := fin g2 (f1z.tr (f2.mo rfl))
    have go : ∀ (g9 : AG) (s' : Int), FR WM g g9 → g9 117 11 = g 117 11 → ∃ g', M_rung_b (g 117 11) s' ((k : Int) + 1) g9 = some (rgL (ltM g) (ltZ g) n (k + 1) s', g') ∧ FR WM g g' := by
      intro g9 s' f9 h9
      have zf : ltZ g9 = ltZ g := by
        funext k
        unfold ltZ
        rw [ldZ_fr f9 rfl rfl, f9.cell (k := 127) (fun _ => rfl), f9 149 k rfl, f9 150 k rfl, f9 151 k rfl, f9 152 k rfl, f9 153 k rfl]
      obtain ⟨g3, e3, f3⟩ := ih (k + 1) s' g9 (T.fr f9 rfl rfl rfl) (by unfold JFlag; rw [f9 117 47 rfl]; exact hf) (by rw [f9 7 8 rfl]; omega)
      rw [h9, ltM_fr f9 rfl rfl, zf] at e3
      exact ⟨g3, e3, f9.tr f3⟩
    have hA := go (up (up g1 117 11 0) 117 11 (g 117 11)) s fA (by simp [up_at])
    have hB := fun s' => go (up g2 117 11 (g 117 11)) s' fB (by simp [up_at])
    rw [M_rung_b]
    unfold rgL
    clear fin go ih MIz r2 r3 e1' e2' e3' e4' e5' e6' e7' e8' lzt
    generalize ltM g k = L at e1 lr hA hB ⊢
    generalize ltZ g k = Z at eZ lz hA hB ⊢
    by_cases c : L ≤ 0
    · simp (disch := omega) only [nw_id, ix_id, sb, if_true, if_false, if_pos, if_neg, true_and, and_true, false_and, and_false, and_self, t1.1, e1]
      exact hA
    · by_cases c2 : Z = 0
      · simp (disch := omega) only [nw_id, ix_id, sb, if_true, if_false, if_pos, if_neg, true_and, and_true, false_and, and_false, and_self, t1.1, e1, eZ]
        exact hB _
      · simp (disch := omega) only [nw_id, ix_id, sb, if_true, if_false, if_pos, if_neg, true_and, and_true, false_and, and_false, and_self, t1.1, e1, eZ]
        exact hB _
theorem sm_rung {g : AG} (T : JT g) (hf : JFlag g) :
    ∃ r1 r2, X_rung g = some r1 ∧ M_rung r1.2 = some r2 ∧ nw r1.1 = nw r2.1 ∧ FR SCV g r2.2 := by
  have t1 := T.2.2.1
  obtain ⟨N, hN⟩ := natOf t1.2.1
  obtain ⟨g1, e1, f1⟩ := X_rung_b_s N 0 0 g T (by omega)
  have zf : ltZ g1 = ltZ g := by
    funext k
    unfold ltZ
    rw [ldZ_fr f1 rfl rfl, f1.cell (k := 127) (fun _ => rfl), f1 149 k rfl, f1 150 k rfl, f1 151 k rfl, f1 152 k rfl, f1 153 k rfl]
  obtain ⟨g2, e2, f2⟩ := M_rung_b_s N 0 0 g1 (T.fr f1 rfl rfl rfl) (by unfold JFlag; rw [f1 117 47 rfl]; exact hf) (by rw [f1 7 8 rfl]; omega)
  rw [ltM_fr f1 rfl rfl, zf] at e2
  exact ⟨(rgL (ltM g) (ltZ g) N 0 0, g1), (rgL (ltM g) (ltZ g) N 0 0, g2), e1, e2, rfl, (f1.mo rfl).tr (f2.mo rfl)⟩
