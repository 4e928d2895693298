section
/-! plain programs: the bookings, both sides -/
def gBest (bf bt bw bb hb hh : Nat → Int) (o : Nat → Nat) (k c : Nat) : GS := gS bf bt bw bb hb hh o k c 0 0 hh (fun _ => -1) (fun _ => 0) (-1, -1, fun _ => 0)
theorem GI.start {c : Nat} {bt bw hb hh : Nat → Int} {o : Nat → Nat} {k : Nat} (BT : BtOk k hb hh) (hw : ∀ j, j < c → 0 ≤ bw j ∧ bw j ≤ 9) (O : Ord c bw o) : GI c bt bw hh o k 0 0 hh (fun _ => -1) := by
  refine ⟨by omega, fun b hb' => ⟨(BT.2 b hb').2, by dsimp only; omega⟩, fun b _ p _ hp => ?_, fun b _ => Or.inl rfl⟩
  have := hw (o p) (O.1 p hp)
  dsimp only
  omega
abbrev RXT : Reg := [(9, 11), (9, 12), (9, 16), (9, 17), (92, 0), (93, 0), (94, 0), (95, 0), (96, 0)]
theorem X_best1_s {k : Nat} (hk : k ≤ 4) {c : Nat} {hh : Nat → Int} : ∀ (n b : Nat) (g : AG), b + n = k → g 9 10 = k → (∀ x, x < k → g 91 x = hh x) → (∀ x, x < b → g 92 x = hh x ∧ g 93 x = -1) → ∃ g', Bookings_giveBest_b 1 b g = Bookings_giveBest_b 1 k g' ∧ FR [(92, 0), (93, 0)] g g' ∧ ∀ x, x < k → g' 92 x = hh x ∧ g' 93 x = -1 := by
  intro n
  induction n with
  | zero =>
    intro b g h h1 h2 h3
    have e : b = k := by (try clear n0); (try clear n1); (try clear n2); omega
    subst e
    exact ⟨g, rfl, Fr.rf, h3⟩
  | succ n ih =>
    intro b g h h1 h2 h3
    have n0 : nw (g 9 10) = k := by rw [h1, nwN _ (by (try clear n0); (try clear n1); (try clear n2); omega)]
    have n1 : nw (b : Int) = b := nwN _ (by (try clear n0); (try clear n1); (try clear n2); omega)
    have n2 : ix (b : Int) = b := ixN _ (by (try clear n0); (try clear n1); (try clear n2); omega)
    obtain ⟨g', e, f, r⟩ := ih (b + 1) (up (up g 92 b (hh b)) 93 b (-1)) (by (try clear n0); (try clear n1); (try clear n2); omega) (by rw [up_at, if_neg (fun q => absurd q.1 (by decide)), up_at, if_neg (fun q => absurd q.1 (by decide))]; exact h1) (fun x hx => by rw [up_at, if_neg (fun q => absurd q.1 (by decide)), up_at, if_neg (fun q => absurd q.1 (by decide))]; exact h2 x hx) (fun x hx => by
      rw [up_at, if_neg (fun q => absurd q.1 (by decide)), up_at, up_at]
      by_cases y : x = b
      · rw [if_pos ⟨rfl, y⟩, if_pos ⟨rfl, y⟩, y]; exact ⟨rfl, rfl⟩
      · rw [if_neg (fun q => y q.2), if_neg (fun q => y q.2), up_at, if_neg (fun q => absurd q.1 (by decide))]; exact h3 x (by (try clear n0); (try clear n1); (try clear n2); omega))
    refine ⟨g', ?_, (Fr.up (Fr.up Fr.rf rfl) rfl).tr f, r⟩
    rw [Bookings_giveBest_b.eq_1 1, n0, n1, n2, h2 b (by (try clear n0); (try clear n1); (try clear n2); omega), if_pos rfl, if_neg (by (try clear n0); (try clear n1); (try clear n2); omega), if_pos (by (try clear n0); (try clear n1); (try clear n2); omega), sb, sb]
    exact e
theorem X_best2_s {c : Nat} {bf bt bw bb hb hh : Nat → Int} {o : Nat → Nat} {k : Nat} (K : BkOk c bf bt bw bb) (BT : BtOk k hb hh) (O : Ord c bw o) : ∀ (m : Nat) (g : AG), m ≤ c → XBk g c bf bt bw bb → g 9 10 = k → (∀ b, b < k → g 90 b = hb b ∧ g 91 b = hh b) → (∀ p, p < c → g 89 p = (o p : Nat)) → g 94 c = 0 → (∀ i, m ≤ i → i < c → (g 94 i = g 94 (i + 1) ∨ g 94 i = g 94 (i + 1) + 1) ∧ (cEv c bf bt bw bb hb hh k (o i) → g 94 i = g 94 (i + 1) + 1)) → (∀ i, m ≤ i → i ≤ c → 0 ≤ g 94 i ∧ g 94 i ≤ c - i) → ∃ g', Bookings_giveBest_b 2 ((m : Int) - 1) g = (Bookings_giveNext 10 0 0 g' >>= fun r2 => some (0, r2.2)) ∧ FR [(94, 0)] g g' ∧ Hop c bf bt bw bb hb hh o k (g' 94) ∧ ∀ i, i ≤ c → 0 ≤ g' 94 i ∧ g' 94 i ≤ 8 := by
  intro m
  induction m with
  | zero =>
    intro g hm D h1 h2 h3 h4 h5 h6
    have hc := K.1
    refine ⟨g, ?_, Fr.rf, ⟨h4, fun i hi => h5 i (by (try clear n0); (try clear n1); (try clear n2); (try clear n3); omega) hi⟩, fun i hi => by have := h6 i (by (try clear n0); (try clear n1); (try clear n2); (try clear n3); omega) hi; omega⟩
    rw [Bookings_giveBest_b.eq_1 2, show ((0 : Nat) : Int) - 1 = -1 from rfl, nw_m1, if_neg (by decide), if_pos rfl, if_pos (by decide)]
  | succ m ih =>
    intro g hm D h1 h2 h3 h4 h5 h6
    have hc := K.1
    have hk := BT.1
    have om := O.1 m (by (try clear n0); (try clear n1); (try clear n2); (try clear n3); omega)
    obtain ⟨v, ev, r1, r2⟩ := X_ever_s K BT D h1 h2 om k 0 (by (try clear n0); (try clear n1); (try clear n2); (try clear n3); omega)
    have ev' : Bookings_canEverBeGiven (o m : Nat) g = some v := ev
    have b6 := h6 (m + 1) (Nat.le_refl _) (by (try clear n0); (try clear n1); (try clear n2); (try clear n3); omega)
    obtain ⟨t, ht⟩ : ∃ t : Int, t = (if nw v = 0 then 0 else 1) := ⟨_, rfl⟩
    have tv : t = v := by
      rw [ht]
      rcases r1 with a | a <;> rw [a]
      · rw [nw_0]; rfl
      · rw [nw_1]; rfl
    obtain ⟨g1, hg1⟩ : ∃ g1 : AG, g1 = up g 94 m (g 94 (m + 1) + t) := ⟨_, rfl⟩
    have f1 : FR [(94, 0)] g g1 := by rw [hg1]; exact Fr.up Fr.rf rfl
    have v1 : ∀ x, x ≠ m → g1 94 x = g 94 x := fun x hx => by rw [hg1, up_at, if_neg (fun q => hx q.2)]
    have v2 : g1 94 m = g 94 (m + 1) + t := by rw [hg1, up_at, if_pos ⟨rfl, rfl⟩]
    obtain ⟨g', e', f', H', R'⟩ := ih g1 (by (try clear n0); (try clear n1); (try clear n2); (try clear n3); omega) ⟨by rw [f1 9 4 rfl]; exact D.1, fun j hj => by rw [f1 85 j rfl, f1 86 j rfl, f1 87 j rfl, f1 88 j rfl]; exact D.2 j hj⟩ (by rw [f1 9 10 rfl]; exact h1) (fun b hb' => by rw [f1 90 b rfl, f1 91 b rfl]; exact h2 b hb') (fun p hp => by rw [f1 89 p rfl]; exact h3 p hp) (by rw [v1 c (by (try clear n0); (try clear n1); (try clear n2); (try clear n3); omega)]; exact h4) (fun i q1 q2 => by
      by_cases y : i = m
      · rw [y, v2, v1 (m + 1) (by (try clear n0); (try clear n1); (try clear n2); (try clear n3); omega), tv]
        refine ⟨by (try clear n0); (try clear n1); (try clear n2); (try clear n3); omega, fun ce => ?_⟩
        have : v = 1 := r2 (by
          obtain ⟨b, c1, c2, c3⟩ := ce
          exact ⟨b, by (try clear n0); (try clear n1); (try clear n2); (try clear n3); omega, c1, c2, c3⟩)
        (try clear n0); (try clear n1); (try clear n2); (try clear n3); omega
      · rw [v1 i y, v1 (i + 1) (by (try clear n0); (try clear n1); (try clear n2); (try clear n3); omega)]
        exact h5 i (by (try clear n0); (try clear n1); (try clear n2); (try clear n3); omega) q2) (fun i q1 q2 => by
      by_cases y : i = m
      · rw [y, v2, tv]; (try clear n0); (try clear n1); (try clear n2); (try clear n3); omega
      · rw [v1 i y]; exact h6 i (by (try clear n0); (try clear n1); (try clear n2); (try clear n3); omega) q2)
    refine ⟨g', ?_, f1.tr f', H', R'⟩
    have n0 : nw (((m + 1 : Nat) : Int) - 1) = m := by rw [show ((m + 1 : Nat) : Int) - 1 = (m : Nat) by (try clear n0); (try clear n1); (try clear n2); (try clear n3); omega]; exact nwN _ (by (try clear n0); (try clear n1); (try clear n2); (try clear n3); omega)
    have n1 : ix (((m + 1 : Nat) : Int) - 1) = m := by rw [show ((m + 1 : Nat) : Int) - 1 = (m : Nat) by (try clear n0); (try clear n1); (try clear n2); (try clear n3); omega]; exact ixN _ (by (try clear n0); (try clear n1); (try clear n2); (try clear n3); omega)
    have n2 : nw (((m + 1 : Nat) : Int) - 1 + 1) = (m + 1 : Nat) := by rw [show ((m + 1 : Nat) : Int) - 1 + 1 = (m + 1 : Nat) by (try clear n0); (try clear n1); (try clear n2); (try clear n3); omega]; exact nwN _ (by (try clear n0); (try clear n1); (try clear n2); (try clear n3); omega)
    have n3 : ix (((m + 1 : Nat) : Int) - 1 + 1) = m + 1 := by rw [show ((m + 1 : Nat) : Int) - 1 + 1 = (m + 1 : Nat) by (try clear n0); (try clear n1); (try clear n2); (try clear n3); omega]; exact ixN _ (by (try clear n0); (try clear n1); (try clear n2); (try clear n3); omega)
    rw [Bookings_giveBest_b.eq_1 2, n0, n1, n2, n3, h3 m (by (try clear n0); (try clear n1); (try clear n2); (try clear n3); omega), ev', if_neg (by decide), if_pos rfl, if_neg (by (try clear n0); (try clear n1); (try clear n2); (try clear n3); omega), if_pos (by (try clear n0); (try clear n1); (try clear n2); (try clear n3); omega), if_pos (by (try clear n0); (try clear n1); (try clear n2); (try clear n3); omega), sb, ← ht, sb, if_pos (by (try clear n0); (try clear n1); (try clear n2); (try clear n3); omega), sb, ← hg1]
    rw [show ((m + 1 : Nat) : Int) - 1 + -1 = (m : Int) - 1 by (try clear n0); (try clear n1); (try clear n2); (try clear n3); omega]
    exact e'
theorem X_gbest_s {c : Nat} {bf bt bw bb hb hh : Nat → Int} {o : Nat → Nat} {k : Nat} (K : BkOk c bf bt bw bb) (BT : BtOk k hb hh) (O : Ord c bw o) (hk1 : 1 ≤ k) {g : AG} (D : XBk g c bf bt bw bb) (h2 : ∀ b, b < k → g 90 b = hb b ∧ g 91 b = hh b) (h3 : ∀ p, p < c → g 89 p = (o p : Nat)) (hs : nw (k : Int) ≠ nw (g 9 11)) : ∃ g', Bookings_giveBest k g = some (0, g') ∧ FR RXT g g' ∧ g' 9 11 = k ∧ g' 9 15 = (gBest bf bt bw bb hb hh o k c).1 ∧ g' 9 16 = (gBest bf bt bw bb hb hh o k c).2.1 ∧ ∀ j, j < c → g' 96 j = (gBest bf bt bw bb hb hh o k c).2.2 j := by
  have hc := K.1
  have hk := BT.1
  have hw : ∀ j, j < c → 0 ≤ bw j ∧ bw j ≤ 9 := fun j hj => (K.2 j hj).2.2.1
  have n0 : nw (k : Int) = k := nwN _ (by (try clear n0); (try clear n4); (try clear m0); (try clear m1); (try clear m2); omega)
  have n4 : nw (4 : Int) = 4 := nwN 4 (by (try clear n0); (try clear n4); (try clear m0); (try clear m1); (try clear m2); omega)
  have mn : mnI (k : Int) 4 = k := by
    unfold mnI
    rw [n0, n4, if_neg (by (try clear n0); (try clear n4); (try clear m0); (try clear m1); (try clear m2); omega)]
  obtain ⟨g8, hg8⟩ : ∃ g8 : AG, g8 = up (up (up (up g 9 10 k) 9 11 k) 9 15 (-1)) 9 16 (-1) := ⟨_, rfl⟩
  have f8 : FR RXT g g8 := by rw [hg8]; exact Fr.up (Fr.up (Fr.up (Fr.up Fr.rf rfl) rfl) rfl) rfl
  have v10 : g8 9 10 = k := by rw [hg8, up_at, if_neg (by (try clear n0); (try clear n4); (try clear m0); (try clear m1); (try clear m2); omega), up_at, if_neg (by (try clear n0); (try clear n4); (try clear m0); (try clear m1); (try clear m2); omega), up_at, if_neg (by (try clear n0); (try clear n4); (try clear m0); (try clear m1); (try clear m2); omega), up_at, if_pos ⟨rfl, rfl⟩]
  have v11 : g8 9 11 = k := by rw [hg8, up_at, if_neg (by (try clear n0); (try clear n4); (try clear m0); (try clear m1); (try clear m2); omega), up_at, if_neg (by (try clear n0); (try clear n4); (try clear m0); (try clear m1); (try clear m2); omega), up_at, if_pos ⟨rfl, rfl⟩]
  have v15 : g8 9 15 = -1 := by rw [hg8, up_at, if_neg (by (try clear n0); (try clear n4); (try clear m0); (try clear m1); (try clear m2); omega), up_at, if_pos ⟨rfl, rfl⟩]
  have v16 : g8 9 16 = -1 := by rw [hg8, up_at, if_pos ⟨rfl, rfl⟩]
  obtain ⟨g9, e9, f9, r9⟩ := X_best1_s hk (c := c) (hh := hh) k 0 g8 (by (try clear n0); (try clear n4); (try clear m0); (try clear m1); (try clear m2); omega) v10 (fun x hx => by rw [f8 91 x rfl]; exact (h2 x hx).2) (fun x hx => by (try clear n0); (try clear n4); (try clear m0); (try clear m1); (try clear m2); omega)
  obtain ⟨ga, hga⟩ : ∃ ga : AG, ga = up g9 94 c 0 := ⟨_, rfl⟩
  have fa : FR [(92, 0), (93, 0), (94, 0)] g8 ga := by rw [hga]; exact Fr.up (FR.mo f9 rfl) rfl
  have va : ga 94 c = 0 := by rw [hga, up_at, if_pos ⟨rfl, rfl⟩]
  have fga : FR RXT g ga := f8.tr (FR.mo fa rfl)
  obtain ⟨gb, eb, fb, H, R⟩ := X_best2_s (hb := hb) (hh := hh) (k := k) K BT O c ga (Nat.le_refl c) ⟨by rw [fga 9 4 rfl]; exact D.1, fun j hj => by rw [fga 85 j rfl, fga 86 j rfl, fga 87 j rfl, fga 88 j rfl]; exact D.2 j hj⟩ (by rw [fa 9 10 rfl]; exact v10) (fun b hb' => by rw [fga 90 b rfl, fga 91 b rfl]; exact h2 b hb') (fun p hp => by rw [fga 89 p rfl]; exact h3 p hp) va (fun i q1 q2 => by (try clear n0); (try clear n4); (try clear m0); (try clear m1); (try clear m2); omega) (fun i q1 q2 => by
    have : i = c := by (try clear n0); (try clear n4); (try clear m0); (try clear m1); (try clear m2); omega
    rw [this, va]
    omega)
  have fgb : FR RXT g gb := fga.tr (FR.mo fb rfl)
  have XKb : XK gb c bf bt bw bb hb hh o k (gb 94) := ⟨by rw [fgb 9 4 rfl]; exact D.1, by rw [fb 9 10 rfl, fa 9 10 rfl]; exact v10, fun j hj => by
    rw [fgb 85 j rfl, fgb 86 j rfl, fgb 87 j rfl, fgb 88 j rfl, fgb 89 j rfl]
    have := D.2 j hj
    exact ⟨this.1, this.2.1, this.2.2.1, this.2.2.2, h3 j hj⟩, fun b hb' => by rw [fgb 90 b rfl, fgb 91 b rfl]; exact h2 b hb', fun i hi => ⟨rfl, R i hi⟩⟩
  obtain ⟨g', e', f', _, _, B'⟩ := X_gives_t K BT O H c 10 0 0 hh (fun _ => -1) (fun _ => 0) (-1, -1, fun _ => 0) gb (by (try clear n0); (try clear n4); (try clear m0); (try clear m1); (try clear m2); omega) (by (try clear n0); (try clear n4); (try clear m0); (try clear m1); (try clear m2); omega) XKb (GI.start BT hw O) (fun b hb' => by
    rw [fb 92 b rfl, fb 93 b rfl, hga, up_at, if_neg (fun q => absurd q.1 (by decide)), up_at, if_neg (fun q => absurd q.1 (by decide))]
    exact r9 b hb') (fun p hp => by (try clear n0); (try clear n4); (try clear m0); (try clear m1); (try clear m2); omega) ⟨by rw [fb 9 15 rfl, fa 9 15 rfl]; exact v15, by rw [fb 9 16 rfl, fa 9 16 rfl]; exact v16, by dsimp only; (try clear n0); (try clear n4); (try clear m0); (try clear m1); (try clear m2); omega, by dsimp only; (try clear n0); (try clear n4); (try clear m0); (try clear m1); (try clear m2); omega, fun q => by dsimp only at q; omega⟩
  refine ⟨g', ?_, fgb.tr (FR.mo f' rfl), by rw [f' 9 11 rfl, fb 9 11 rfl, fa 9 11 rfl]; exact v11, B'.1, B'.2.1, fun j hj => B'.2.2.2.2 (gS_some c 0 0 _ _ _ _ (Int.le_refl 0)) j hj⟩
  have e9' : Bookings_giveBest_b 1 0 g8 = Bookings_giveBest_b 1 k g9 := e9
  have e'' : Bookings_giveNext 10 0 0 gb = some (0, g') := e'
  have m0 : nw (g9 9 10) = k := by rw [f9 9 10 rfl, v10]; exact n0
  have c0 : g9 9 4 = c := by rw [f9 9 4 rfl, f8 9 4 rfl]; exact D.1
  have m1 : nw (c : Int) = c := nwN _ (by (try clear n0); (try clear n4); (try clear m0); (try clear m1); (try clear m2); omega)
  have m2 : ix (c : Int) = c := ixN _ (by (try clear n0); (try clear n4); (try clear m0); (try clear m1); (try clear m2); omega)
  have ca : ga 9 4 = c := by rw [fga 9 4 rfl]; exact D.1
  unfold Bookings_giveBest
  rw [if_neg hs, mn, sb, sb, sb, sb, ← hg8, e9', Bookings_giveBest_b.eq_1 1, if_pos rfl, m0, n0, if_pos (Int.le_refl _), c0, m1, m2, if_pos (by (try clear n0); (try clear n4); (try clear m0); (try clear m1); (try clear m2); omega), sb, ← hga, ca, eb, e'', sb]
theorem M_best1_s {k : Nat} (hk : k ≤ 4) {hh : Nat → Int} : ∀ (n b : Nat) (g : AG), b + n = k → (∀ x, x < k → g 172 x = hh x) → (∀ x, x < b → g 169 x = hh x ∧ g 170 x = -1) → ∃ g', M_givesBest_b k b g = M_givesBest_b k k g' ∧ FR [(169, 0), (170, 0)] g g' ∧ ∀ x, x < k → g' 169 x = hh x ∧ g' 170 x = -1 := by
  intro n
  induction n with
  | zero =>
    intro b g h h2 h3
    have e : b = k := by (try clear n0); (try clear n1); (try clear n2); omega
    subst e
    exact ⟨g, rfl, Fr.rf, h3⟩
  | succ n ih =>
    intro b g h h2 h3
    have n0 : nw (k : Int) = k := nwN _ (by (try clear n0); (try clear n1); (try clear n2); omega)
    have n1 : nw (b : Int) = b := nwN _ (by (try clear n0); (try clear n1); (try clear n2); omega)
    have n2 : ix (b : Int) = b := ixN _ (by (try clear n0); (try clear n1); (try clear n2); omega)
    obtain ⟨g', e, f, r⟩ := ih (b + 1) (up (up g 169 b (hh b)) 170 b (-1)) (by (try clear n0); (try clear n1); (try clear n2); omega) (fun x hx => by rw [up_at, if_neg (fun q => absurd q.1 (by decide)), up_at, if_neg (fun q => absurd q.1 (by decide))]; exact h2 x hx) (fun x hx => by
      rw [up_at, if_neg (fun q => absurd q.1 (by decide)), up_at, up_at]
      by_cases y : x = b
      · rw [if_pos ⟨rfl, y⟩, if_pos ⟨rfl, y⟩, y]; exact ⟨rfl, rfl⟩
      · rw [if_neg (fun q => y q.2), if_neg (fun q => y q.2), up_at, if_neg (fun q => absurd q.1 (by decide))]; exact h3 x (by (try clear n0); (try clear n1); (try clear n2); omega))
    refine ⟨g', ?_, (Fr.up (Fr.up Fr.rf rfl) rfl).tr f, r⟩
    rw [M_givesBest_b, n0, n1, n2, h2 b (by (try clear n0); (try clear n1); (try clear n2); omega), if_neg (by (try clear n0); (try clear n1); (try clear n2); omega), if_pos (by (try clear n0); (try clear n1); (try clear n2); omega), sb, sb]
    exact e
abbrev RMT : Reg := [(117, 67), (117, 68), (166, 0), (167, 0), (168, 0), (169, 0), (170, 0)]
theorem M_gbest_s {c : Nat} {bf bt bw bb hb hh : Nat → Int} {o : Nat → Nat} {k : Nat} (K : BkOk c bf bt bw bb) (BT : BtOk k hb hh) (O : Ord c bw o) {g : AG} (h1 : g 117 65 = c) (h2 : ∀ j, j < c → g 162 j = bf j ∧ g 163 j = bt j ∧ g 164 j = bw j ∧ g 165 j = bb j) (h3 : ∀ b, b < k → g 171 b = hb b ∧ g 172 b = hh b) : ∃ g', M_givesBest k g = some (0, g') ∧ FR RMT g g' ∧ g' 117 66 = (gBest bf bt bw bb hb hh o k c).1 ∧ g' 117 67 = (gBest bf bt bw bb hb hh o k c).2.1 ∧ ∀ j, j < c → g' 168 j = (gBest bf bt bw bb hb hh o k c).2.2 j := by
  have hc := K.1
  have hk := BT.1
  have hw : ∀ j, j < c → 0 ≤ bw j ∧ bw j ≤ 9 := fun j hj => (K.2 j hj).2.2.1
  obtain ⟨g1, o', e1, f1, O', r1⟩ := M_sorts_t hc hw c 0 0 (fun _ => 0) g (by omega) h1 (fun j hj => (h2 j hj).2.2.1) (Ord.zero bw _) (fun p hp => by omega)
  have eo := O'.one O
  obtain ⟨g2, e2, f2, r2⟩ := M_best1_s hk (hh := hh) k 0 g1 (by omega) (fun x hx => by rw [f1 172 x rfl]; exact (h3 x hx).2) (fun x hx => by omega)
  obtain ⟨g4, hg4⟩ : ∃ g4 : AG, g4 = up (up g2 117 66 (-1)) 117 67 (-1) := ⟨_, rfl⟩
  have f4 : FR RMT g g4 := by rw [hg4]; exact Fr.up (Fr.up ((FR.mo f1 rfl).tr (FR.mo f2 rfl)) rfl) rfl
  have MK4 : MK g4 c bf bt bw bb hb hh o k := by
    refine ⟨by rw [f4 117 65 rfl]; exact h1, fun j hj => ?_, fun b hb' => by rw [f4 171 b rfl, f4 172 b rfl]; exact h3 b hb'⟩
    have := h2 j hj
    rw [f4 162 j rfl, f4 163 j rfl, f4 164 j rfl, f4 165 j rfl]
    refine ⟨this.1, this.2.1, this.2.2.1, this.2.2.2, ?_⟩
    rw [hg4, up_at, if_neg (fun q => absurd q.1 (by decide)), up_at, if_neg (fun q => absurd q.1 (by decide)), f2 166 j rfl, r1 j hj, eo j hj]
  obtain ⟨g', e', f', _, _, B'⟩ := M_gives_t K BT O c 10 0 0 hh (fun _ => -1) (fun _ => 0) (-1, -1, fun _ => 0) g4 (by omega) (by omega) MK4 (GI.start BT hw O) (fun b hb' => by
    rw [hg4, up_at, if_neg (fun q => absurd q.1 (by decide)), up_at, if_neg (fun q => absurd q.1 (by decide)), up_at, if_neg (fun q => absurd q.1 (by decide)), up_at, if_neg (fun q => absurd q.1 (by decide))]
    exact r2 b hb') (fun p hp => by omega) ⟨by rw [hg4, up_at, if_neg (by omega), up_at, if_pos ⟨rfl, rfl⟩], by rw [hg4, up_at, if_pos ⟨rfl, rfl⟩], by dsimp only; omega, by dsimp only; omega, fun q => by dsimp only at q; omega⟩
  refine ⟨g', ?_, f4.tr (FR.mo f' rfl), B'.1, B'.2.1, fun j hj => B'.2.2.2.2 (gS_some c 0 0 _ _ _ _ (Int.le_refl 0)) j hj⟩
  have e1' : M_sorts g = some (0, g1) := e1
  have e2' : M_givesBest_b k 0 g1 = M_givesBest_b k k g2 := e2
  have e'' : M_gives 10 0 k 0 g4 = some (0, g') := e'
  unfold M_givesBest
  rw [e1', sb, e2', M_givesBest_b, if_pos (Int.le_refl _), sb, sb, ← hg4, e'', sb]
/-- what both hold of the bookings -/
def JB (c : Nat) (o : Nat → Nat) (g : AG) : Prop := BkOk c (g 85) (g 86) (g 87) (g 88) ∧ g 9 4 = c ∧ g 117 65 = c ∧ (∀ j, j < c → g 162 j = g 85 j ∧ g 163 j = g 86 j ∧ g 164 j = g 87 j ∧ g 165 j = g 88 j) ∧ Ord c (g 87) o ∧ (∀ p, p < c → g 89 p = (o p : Nat)) ∧ BtOk 4 (g 90) (g 91) ∧ (0 ≤ g 9 11 ∧ g 9 11 ≤ 4) ∧ (g 9 11 ≠ 0 → g 9 15 = (gBest (g 85) (g 86) (g 87) (g 88) (g 90) (g 91) o (g 9 11).toNat c).1 ∧ g 9 16 = (gBest (g 85) (g 86) (g 87) (g 88) (g 90) (g 91) o (g 9 11).toNat c).2.1 ∧ ∀ j, j < c → g 96 j = (gBest (g 85) (g 86) (g 87) (g 88) (g 90) (g 91) o (g 9 11).toNat c).2.2 j)
def RBook : Reg := [(9, 5), (9, 12), (9, 16), (9, 17), (85, 0), (86, 0), (87, 0), (88, 0), (89, 0), (90, 0), (91, 0), (96, 0), (117, 66), (162, 0), (163, 0), (164, 0), (165, 0)]
theorem JB.cg {c : Nat} {o : Nat → Nat} {g g' : AG} (h : ∀ k i, inR RBook k i = true → g' k i = g k i) (q : JB c o g) : JB c o g' := by
  have q1 : JB c o (rs (inR RBook) g) := q
  rw [← rs_eq h] at q1
  exact q1
def JBook (g : AG) : Prop := ∃ c o, JB c o g
theorem JBook.cg {g g' : AG} (h : ∀ k i, inR RBook k i = true → g' k i = g k i) (q : JBook g) : JBook g' := by
  obtain ⟨c, o, q⟩ := q
  exact ⟨c, o, q.cg h⟩
theorem BtOk.mono {k : Nat} {hb hh : Nat → Int} (h : BtOk 4 hb hh) (hk : k ≤ 4) : BtOk k hb hh := ⟨hk, fun b hb' => h.2 b (by omega)⟩
/-- the class's best way, kept or looked for -/
theorem X_kept_s {c : Nat} {o : Nat → Nat} {g : AG} (J : JB c o g) {k : Nat} (hk : 1 ≤ k ∧ k ≤ 4) : ∃ g', Bookings_giveBest k g = some (0, g') ∧ FR RXT g g' ∧ JB c o g' ∧ g' 9 15 = (gBest (g 85) (g 86) (g 87) (g 88) (g 90) (g 91) o k c).1 ∧ g' 9 16 = (gBest (g 85) (g 86) (g 87) (g 88) (g 90) (g 91) o k c).2.1 ∧ ∀ j, j < c → g' 96 j = (gBest (g 85) (g 86) (g 87) (g 88) (g 90) (g 91) o k c).2.2 j := by
  have J0 := J
  obtain ⟨K, q1, q2, q3, O, q5, BT, q7, q8⟩ := J
  have n0 : nw (k : Int) = k := nwN _ (by (try clear n0); (try clear n1); omega)
  have n1 : nw (g 9 11) = g 9 11 := nw_id (by (try clear n0); (try clear n1); omega) (by (try clear n0); (try clear n1); omega)
  by_cases z : (k : Int) = g 9 11
  · have e : (g 9 11).toNat = k := by (try clear n0); (try clear n1); omega
    have r := q8 (by (try clear n0); (try clear n1); omega)
    rw [e] at r
    refine ⟨g, ?_, Fr.rf, J0, r⟩
    unfold Bookings_giveBest
    rw [n0, n1, if_pos z]
  · obtain ⟨g', e, f, r1, r2, r3, r4⟩ := X_gbest_s K (BT.mono hk.2) O hk.1 ⟨q1, fun j _ => ⟨rfl, rfl, rfl, rfl⟩⟩ (fun b _ => ⟨rfl, rfl⟩) q5 (by rw [n0, n1]; exact z)
    refine ⟨g', e, f, ?_, r2, r3, r4⟩
    have c85 : g' 85 = g 85 := funext fun i => f 85 i rfl
    have c86 : g' 86 = g 86 := funext fun i => f 86 i rfl
    have c87 : g' 87 = g 87 := funext fun i => f 87 i rfl
    have c88 : g' 88 = g 88 := funext fun i => f 88 i rfl
    have c90 : g' 90 = g 90 := funext fun i => f 90 i rfl
    have c91 : g' 91 = g 91 := funext fun i => f 91 i rfl
    unfold JB
    rw [c85, c86, c87, c88, c90, c91, r1, Int.toNat_natCast]
    refine ⟨K, by rw [f 9 4 rfl]; exact q1, by rw [f 117 65 rfl]; exact q2, fun j hj => ?_, O, fun p hp => by rw [f 89 p rfl]; exact q5 p hp, BT, by (try clear n0); (try clear n1); omega, fun _ => ⟨r2, r3, r4⟩⟩
    rw [f 162 j rfl, f 163 j rfl, f 164 j rfl, f 165 j rfl]
    exact q3 j hj
theorem X_hire_s {c : Nat} {o : Nat → Nat} {g : AG} (J : JB c o g) {b : Nat} {x2 x3 : Int} (hb : b < 4) (h2 : 0 ≤ x2 ∧ x2 ≤ 15) (h3 : 0 ≤ x3 ∧ x3 ≤ 15) : ∃ g', Bookings_hire b x2 x3 g = some (0, g') ∧ FR [(9, 12), (90, 0), (91, 0)] g g' ∧ JB c o g' ∧ g' 90 b = x2 ∧ g' 91 b = x3 ∧ ∀ x, x ≠ b → g' 90 x = g 90 x ∧ g' 91 x = g 91 x := by
  obtain ⟨K, q1, q2, q3, O, q5, BT, q7, q8⟩ := J
  have r := BT.2 b hb
  have n0 : nw (b : Int) = b := nwN _ (by (try clear n0); (try clear n1); (try clear n2); (try clear n3); (try clear n4); (try clear n5); omega)
  have n1 : ix (b : Int) = b := ixN _ (by (try clear n0); (try clear n1); (try clear n2); (try clear n3); (try clear n4); (try clear n5); omega)
  have n2 : nw (g 90 b) = g 90 b := nw_id (by (try clear n0); (try clear n1); (try clear n2); (try clear n3); (try clear n4); (try clear n5); omega) (by (try clear n0); (try clear n1); (try clear n2); (try clear n3); (try clear n4); (try clear n5); omega)
  have n3 : nw (g 91 b) = g 91 b := nw_id (by (try clear n0); (try clear n1); (try clear n2); (try clear n3); (try clear n4); (try clear n5); omega) (by (try clear n0); (try clear n1); (try clear n2); (try clear n3); (try clear n4); (try clear n5); omega)
  have n4 : nw x2 = x2 := nw_id (by (try clear n0); (try clear n1); (try clear n2); (try clear n3); (try clear n4); (try clear n5); omega) (by (try clear n0); (try clear n1); (try clear n2); (try clear n3); (try clear n4); (try clear n5); omega)
  have n5 : nw x3 = x3 := nw_id (by (try clear n0); (try clear n1); (try clear n2); (try clear n3); (try clear n4); (try clear n5); omega) (by (try clear n0); (try clear n1); (try clear n2); (try clear n3); (try clear n4); (try clear n5); omega)
  -- either nothing is new, or nothing is settled
  have lem : ∀ r8 : AG, (r8 = g ∧ g 90 b = x2 ∧ g 91 b = x3) ∨ r8 = up g 9 11 0 → FR [(9, 12), (90, 0), (91, 0)] g (up (up r8 90 b x2) 91 b x3) ∧ JB c o (up (up r8 90 b x2) 91 b x3) ∧ (up (up r8 90 b x2) 91 b x3) 90 b = x2 ∧ (up (up r8 90 b x2) 91 b x3) 91 b = x3 ∧ ∀ x, x ≠ b → (up (up r8 90 b x2) 91 b x3) 90 x = g 90 x ∧ (up (up r8 90 b x2) 91 b x3) 91 x = g 91 x := by
    intro r8 h8
    have f8 : FR [(9, 12), (90, 0), (91, 0)] g r8 := by
      rcases h8 with h | h
      · rw [h.1]; exact Fr.rf
      · rw [h]; exact Fr.up Fr.rf rfl
    obtain ⟨g', hg'⟩ : ∃ g' : AG, g' = up (up r8 90 b x2) 91 b x3 := ⟨_, rfl⟩
    have f : FR [(9, 12), (90, 0), (91, 0)] g g' := by rw [hg']; exact Fr.up (Fr.up f8 rfl) rfl
    rw [← hg']
    have a90 : g' 90 b = x2 := by rw [hg', up_at, if_neg (fun q => absurd q.1 (by decide)), up_at, if_pos ⟨rfl, rfl⟩]
    have a91 : g' 91 b = x3 := by rw [hg', up_at, if_pos ⟨rfl, rfl⟩]
    have b90 : ∀ x, x ≠ b → g' 90 x = g 90 x := fun x hx => by
      rw [hg', up_at, if_neg (fun q => absurd q.1 (by decide)), up_at, if_neg (fun q => hx q.2)]
      rcases h8 with h | h
      · rw [h.1]
      · rw [h, up_at, if_neg (fun q => absurd q.1 (by decide))]
    have b91 : ∀ x, x ≠ b → g' 91 x = g 91 x := fun x hx => by
      rw [hg', up_at, if_neg (fun q => hx q.2), up_at, if_neg (fun q => absurd q.1 (by decide))]
      rcases h8 with h | h
      · rw [h.1]
      · rw [h, up_at, if_neg (fun q => absurd q.1 (by decide))]
    refine ⟨f, ?_, a90, a91, fun x hx => ⟨b90 x hx, b91 x hx⟩⟩
    have c85 : g' 85 = g 85 := funext fun i => f 85 i rfl
    have c86 : g' 86 = g 86 := funext fun i => f 86 i rfl
    have c87 : g' 87 = g 87 := funext fun i => f 87 i rfl
    have c88 : g' 88 = g 88 := funext fun i => f 88 i rfl
    have BT' : BtOk 4 (g' 90) (g' 91) := ⟨by (try clear n0); (try clear n1); (try clear n2); (try clear n3); (try clear n4); (try clear n5); omega, fun x hx => by
      by_cases y : x = b
      · rw [y, a90, a91]; exact ⟨h2, h3⟩
      · rw [b90 x y, b91 x y]; exact BT.2 x hx⟩
    unfold JB
    rw [c85, c86, c87, c88]
    refine ⟨K, by rw [f 9 4 rfl]; exact q1, by rw [f 117 65 rfl]; exact q2, fun j hj => by rw [f 162 j rfl, f 163 j rfl, f 164 j rfl, f 165 j rfl]; exact q3 j hj, O, fun p hp => by rw [f 89 p rfl]; exact q5 p hp, BT', ?_, ?_⟩
    · rcases h8 with h | h
      · rw [hg', up_at, if_neg (fun q => absurd q.1 (by decide)), up_at, if_neg (fun q => absurd q.1 (by decide)), h.1]; exact q7
      · rw [hg', up_at, if_neg (fun q => absurd q.1 (by decide)), up_at, if_neg (fun q => absurd q.1 (by decide)), h, up_at, if_pos ⟨rfl, rfl⟩]; (try clear n0); (try clear n1); (try clear n2); (try clear n3); (try clear n4); (try clear n5); omega
    · rcases h8 with h | h
      · have e90 : g' 90 = g 90 := funext fun x => by
          by_cases y : x = b
          · rw [y, a90]; exact h.2.1.symm
          · exact b90 x y
        have e91 : g' 91 = g 91 := funext fun x => by
          by_cases y : x = b
          · rw [y, a91]; exact h.2.2.symm
          · exact b91 x y
        have e11 : g' 9 11 = g 9 11 := by rw [hg', up_at, if_neg (fun q => absurd q.1 (by decide)), up_at, if_neg (fun q => absurd q.1 (by decide)), h.1]
        rw [e90, e91, e11, f 9 15 rfl, f 9 16 rfl]
        intro z
        have := q8 z
        exact ⟨this.1, this.2.1, fun j hj => by rw [f 96 j rfl]; exact this.2.2 j hj⟩
      · intro z
        exfalso
        apply z
        rw [hg', up_at, if_neg (fun q => absurd q.1 (by decide)), up_at, if_neg (fun q => absurd q.1 (by decide)), h, up_at, if_pos ⟨rfl, rfl⟩]
  have top : ∀ R : Option (Int × AG), (∀ r8 : AG, (r8 = g ∧ g 90 b = x2 ∧ g 91 b = x3) ∨ r8 = up g 9 11 0 → R = some ((0 : Int), up (up r8 90 b x2) 91 b x3) → ∃ g', R = some (0, g') ∧ FR [(9, 12), (90, 0), (91, 0)] g g' ∧ JB c o g' ∧ g' 90 b = x2 ∧ g' 91 b = x3 ∧ ∀ x, x ≠ b → g' 90 x = g 90 x ∧ g' 91 x = g 91 x) := fun R r8 h8 e => ⟨_, e, lem r8 h8⟩
  unfold Bookings_hire
  rw [n0, n1, n2, n3, n4, n5, if_pos (by (try clear n0); (try clear n1); (try clear n2); (try clear n3); (try clear n4); (try clear n5); omega)]
  by_cases z1 : g 90 b = x2
  · rw [if_pos z1]
    by_cases z2 : g 91 b = x3
    · rw [if_pos z2, sb, sb, sb]
      exact top _ g (Or.inl ⟨rfl, z1, z2⟩) rfl
    · rw [if_neg z2, sb, sb, sb, sb]
      exact top _ _ (Or.inr rfl) rfl
  · rw [if_neg z1, sb, sb, sb, sb]
    exact top _ _ (Or.inr rfl) rfl
end
section
/-! plain programs: booking, given, more -/
theorem sm_booking {x1 x2 x3 x4 : Int} {g : AG} (h1 : I32 x1) (h2 : I32 x2) (h3 : I32 x3) (h4 : I32 x4) (J : JBook g) :
    ∃ r1 r2, X_booking x1 x2 x3 x4 g = some r1 ∧ M_booking x1 x2 x3 x4 r1.2 = some r2 ∧ nw r1.1 = nw r2.1 ∧ JBook r2.2 ∧ FR [(9, 5), (9, 12), (85, 0), (86, 0), (87, 0), (88, 0), (89, 0), (117, 66), (162, 0), (163, 0), (164, 0), (165, 0)] g r2.2 := by
  unfold I32 at *
  obtain ⟨c, o, J⟩ := J
  have J0 := J
  obtain ⟨K, q1, q2, q3, O, q5, BT, q7, q8⟩ := J
  have hc := K.1
  have wX1 := isPointX0 (x := x1) (by (try clear wM3); (try clear wM4); (try clear nc); (try clear ic); omega) (by (try clear wM3); (try clear wM4); (try clear nc); (try clear ic); omega)
  have wX2 := isPointX0 (x := x2) (by (try clear wM3); (try clear wM4); (try clear nc); (try clear ic); omega) (by (try clear wM3); (try clear wM4); (try clear nc); (try clear ic); omega)
  have wX3 := isWeek0 (x := x3) (by (try clear wM3); (try clear wM4); (try clear nc); (try clear ic); omega) (by (try clear wM3); (try clear wM4); (try clear nc); (try clear ic); omega)
  have wX4 := isBerths0 (x := x4) (by (try clear wM3); (try clear wM4); (try clear nc); (try clear ic); omega) (by (try clear wM3); (try clear wM4); (try clear nc); (try clear ic); omega)
  have wM1 := isPoint0 (x := x1) (by (try clear wM3); (try clear wM4); (try clear nc); (try clear ic); omega) (by (try clear wM3); (try clear wM4); (try clear nc); (try clear ic); omega)
  have wM2 := isPoint0 (x := x2) (by (try clear wM3); (try clear wM4); (try clear nc); (try clear ic); omega) (by (try clear wM3); (try clear wM4); (try clear nc); (try clear ic); omega)
  have wM3 : (nw (M_isIn x3 0 9) = 0) = (x3 < 0 ∨ 9 < x3) := isIn0 (by (try clear wM3); (try clear wM4); (try clear nc); (try clear ic); omega) (by (try clear wM3); (try clear wM4); (try clear nc); (try clear ic); omega) (by decide) (by decide) (by decide) (by decide)
  have wM4 : (nw (M_isIn x4 2 12) = 0) = (x4 < 2 ∨ 12 < x4) := isIn0 (by (try clear wM3); (try clear wM4); (try clear nc); (try clear ic); omega) (by (try clear wM3); (try clear wM4); (try clear nc); (try clear ic); omega) (by decide) (by decide) (by decide) (by decide)
  have nc : nw (c : Int) = c := nwN _ (by (try clear wM3); (try clear wM4); (try clear nc); (try clear ic); omega)
  have ic : ix (c : Int) = c := ixN _ (by (try clear wM3); (try clear wM4); (try clear nc); (try clear ic); omega)
  by_cases ok : (0 ≤ x1 ∧ x1 ≤ 15) ∧ (0 ≤ x2 ∧ x2 ≤ 15) ∧ (0 ≤ x3 ∧ x3 ≤ 9) ∧ (2 ≤ x4 ∧ x4 ≤ 12)
  · obtain ⟨o1, o2, o3, o4⟩ := ok
    by_cases c8 : c < 8
    · obtain ⟨gq, hgq⟩ : ∃ gq : AG, gq = up (up (up (up (up (up g 85 c x1) 86 c x2) 87 c x3) 88 c x4) 9 4 ((c : Int) + 1)) 9 11 0 := ⟨_, rfl⟩
      have fq : FR [(9, 5), (9, 12), (85, 0), (86, 0), (87, 0), (88, 0)] g gq := by rw [hgq]; exact Fr.up (Fr.up (Fr.up (Fr.up (Fr.up (Fr.up Fr.rf rfl) rfl) rfl) rfl) rfl) rfl
      have v4 : gq 9 4 = (c + 1 : Nat) := by rw [hgq, up_at, if_neg (by (try clear wM3); (try clear wM4); (try clear nc); (try clear ic); omega), up_at, if_pos ⟨rfl, rfl⟩]; rfl
      have v85 : ∀ j, gq 85 j = if j = c then x1 else g 85 j := fun j => by rw [hgq]; simp only [up_at, Nat.reduceEqDiff, false_and, if_false, true_and]
      have v86 : ∀ j, gq 86 j = if j = c then x2 else g 86 j := fun j => by rw [hgq]; simp only [up_at, Nat.reduceEqDiff, false_and, if_false, true_and]
      have v87 : ∀ j, gq 87 j = if j = c then x3 else g 87 j := fun j => by rw [hgq]; simp only [up_at, Nat.reduceEqDiff, false_and, if_false, true_and]
      have v88 : ∀ j, gq 88 j = if j = c then x4 else g 88 j := fun j => by rw [hgq]; simp only [up_at, Nat.reduceEqDiff, false_and, if_false, true_and]
      have K' : BkOk (c + 1) (gq 85) (gq 86) (gq 87) (gq 88) := ⟨by (try clear wM3); (try clear wM4); (try clear nc); (try clear ic); omega, fun j hj => by
        rw [v85, v86, v87, v88]
        by_cases z : j = c
        · rw [if_pos z, if_pos z, if_pos z, if_pos z]; exact ⟨o1, o2, o3, o4⟩
        · rw [if_neg z, if_neg z, if_neg z, if_neg z]; exact K.2 j (by (try clear wM3); (try clear wM4); (try clear nc); (try clear ic); omega)⟩
      have hw : ∀ j, j < c + 1 → 0 ≤ gq 87 j ∧ gq 87 j ≤ 9 := fun j hj => (K'.2 j hj).2.2.1
      obtain ⟨gX, o', eX, fX, O', rX⟩ := X_ord1_s (c := c + 1) (bw := gq 87) (by (try clear wM3); (try clear wM4); (try clear nc); (try clear ic); omega) hw 10 0 0 0 (fun _ => 0) gq (by (try clear wM3); (try clear wM4); (try clear nc); (try clear ic); omega) v4 (fun _ _ => rfl) ⟨fun p hp => by (try clear wM3); (try clear wM4); (try clear nc); (try clear ic); omega, fun p q _ hq => by (try clear wM3); (try clear wM4); (try clear nc); (try clear ic); omega, fun j hj hh => by have := hw j hj; omega, by
        show ((0 : Nat) : Int) = _ + (0 : Int)
        rw [sm_cg (h := fun _ => 0) (c + 1) (fun j hj => by have := hw j hj; rw [if_neg (by (try clear wM3); (try clear wM4); (try clear nc); (try clear ic); omega)]), sm_z]
        rfl⟩ (fun p hp => by (try clear wM3); (try clear wM4); (try clear nc); (try clear ic); omega)
      have e1 : X_booking x1 x2 x3 x4 g = some (gX 9 4 - 1, gX) := by
        have eX' : Bookings_putInOrder gq = some (0, gX) := eX
        unfold X_booking Bookings_add
        have u1 : (up g 85 c x1) 9 4 = c := by rw [up_at, if_neg (by (try clear wM3); (try clear wM4); (try clear nc); (try clear ic); omega)]; exact q1
        have u2 : (up (up g 85 c x1) 86 c x2) 9 4 = c := by rw [up_at, if_neg (by (try clear wM3); (try clear wM4); (try clear nc); (try clear ic); omega)]; exact u1
        have u3 : (up (up (up g 85 c x1) 86 c x2) 87 c x3) 9 4 = c := by rw [up_at, if_neg (by (try clear wM3); (try clear wM4); (try clear nc); (try clear ic); omega)]; exact u2
        have u4 : (up (up (up (up g 85 c x1) 86 c x2) 87 c x3) 88 c x4) 9 4 = c := by rw [up_at, if_neg (by (try clear wM3); (try clear wM4); (try clear nc); (try clear ic); omega)]; exact u3
        rw [if_neg (by rw [wX1]; (try clear wM3); (try clear wM4); (try clear nc); (try clear ic); omega), if_neg (by rw [wX2]; (try clear wM3); (try clear wM4); (try clear nc); (try clear ic); omega), if_neg (by rw [wX3]; (try clear wM3); (try clear wM4); (try clear nc); (try clear ic); omega), if_neg (by rw [wX4]; (try clear wM3); (try clear wM4); (try clear nc); (try clear ic); omega), q1, nc, ic, if_pos (by (try clear wM3); (try clear wM4); (try clear nc); (try clear ic); omega), if_pos (by (try clear wM3); (try clear wM4); (try clear nc); (try clear ic); omega), sb, u1, nc, ic, if_pos (by (try clear wM3); (try clear wM4); (try clear nc); (try clear ic); omega), sb, u2, nc, ic, if_pos (by (try clear wM3); (try clear wM4); (try clear nc); (try clear ic); omega), sb, u3, nc, ic, if_pos (by (try clear wM3); (try clear wM4); (try clear nc); (try clear ic); omega), sb, u4, sb, sb, ← hgq, eX', sb, sb]
      obtain ⟨gm, hgm⟩ : ∃ gm : AG, gm = up (up (up (up (up gX 162 c x1) 163 c x2) 164 c x3) 165 c x4) 117 65 ((c : Int) + 1) := ⟨_, rfl⟩
      have fm : FR [(117, 66), (162, 0), (163, 0), (164, 0), (165, 0)] gX gm := by rw [hgm]; exact Fr.up (Fr.up (Fr.up (Fr.up (Fr.up Fr.rf rfl) rfl) rfl) rfl) rfl
      have m65 : gX 117 65 = c := by rw [fX 117 65 rfl, fq 117 65 rfl]; exact q2
      have e2 : M_booking x1 x2 x3 x4 gX = some ((c : Int) + 1 - 1, gm) := by
        unfold M_booking
        have u1 : (up gX 162 c x1) 117 65 = c := by rw [up_at, if_neg (by (try clear wM3); (try clear wM4); (try clear nc); (try clear ic); omega)]; exact m65
        have u2 : (up (up gX 162 c x1) 163 c x2) 117 65 = c := by rw [up_at, if_neg (by (try clear wM3); (try clear wM4); (try clear nc); (try clear ic); omega)]; exact u1
        have u3 : (up (up (up gX 162 c x1) 163 c x2) 164 c x3) 117 65 = c := by rw [up_at, if_neg (by (try clear wM3); (try clear wM4); (try clear nc); (try clear ic); omega)]; exact u2
        have u4 : (up (up (up (up gX 162 c x1) 163 c x2) 164 c x3) 165 c x4) 117 65 = c := by rw [up_at, if_neg (by (try clear wM3); (try clear wM4); (try clear nc); (try clear ic); omega)]; exact u3
        rw [if_neg (by rw [wM1]; (try clear wM3); (try clear wM4); (try clear nc); (try clear ic); omega), if_neg (by rw [wM2]; (try clear wM3); (try clear wM4); (try clear nc); (try clear ic); omega), if_neg (by rw [wM3]; (try clear wM3); (try clear wM4); (try clear nc); (try clear ic); omega), if_neg (by rw [wM4]; (try clear wM3); (try clear wM4); (try clear nc); (try clear ic); omega), m65, nc, ic, if_neg (by (try clear wM3); (try clear wM4); (try clear nc); (try clear ic); omega), if_pos (by (try clear wM3); (try clear wM4); (try clear nc); (try clear ic); omega), sb, u1, nc, ic, if_pos (by (try clear wM3); (try clear wM4); (try clear nc); (try clear ic); omega), sb, u2, nc, ic, if_pos (by (try clear wM3); (try clear wM4); (try clear nc); (try clear ic); omega), sb, u3, nc, ic, if_pos (by (try clear wM3); (try clear wM4); (try clear nc); (try clear ic); omega), sb, u4, sb, ← hgm]
        have : gm 117 65 = (c : Int) + 1 := by rw [hgm, up_at, if_pos ⟨rfl, rfl⟩]
        rw [this]
      have k85 : gm 85 = gq 85 := funext fun i => (fm 85 i rfl).trans (fX 85 i rfl)
      have k86 : gm 86 = gq 86 := funext fun i => (fm 86 i rfl).trans (fX 86 i rfl)
      have k87 : gm 87 = gq 87 := funext fun i => (fm 87 i rfl).trans (fX 87 i rfl)
      have k88 : gm 88 = gq 88 := funext fun i => (fm 88 i rfl).trans (fX 88 i rfl)
      have k90 : gm 90 = g 90 := funext fun i => ((fm 90 i rfl).trans (fX 90 i rfl)).trans (fq 90 i rfl)
      have k91 : gm 91 = g 91 := funext fun i => ((fm 91 i rfl).trans (fX 91 i rfl)).trans (fq 91 i rfl)
      have s11 : gm 9 11 = 0 := by rw [fm 9 11 rfl, fX 9 11 rfl, hgq, up_at, if_pos ⟨rfl, rfl⟩]
      refine ⟨_, _, e1, e2, ?_, ⟨c + 1, o', ?_⟩, (FR.mo fq rfl).tr ((FR.mo fX rfl).tr (FR.mo fm rfl))⟩
      · dsimp only
        rw [fX 9 4 rfl, v4]
        rfl
      · dsimp only
        unfold JB
        rw [k85, k86, k87, k88, k90, k91, s11]
        refine ⟨K', by rw [fm 9 4 rfl, fX 9 4 rfl]; exact v4, by rw [hgm, up_at, if_pos ⟨rfl, rfl⟩]; rfl, fun j hj => ?_, O', fun p hp => by rw [fm 89 p rfl]; exact rX p hp, BT, by (try clear wM3); (try clear wM4); (try clear nc); (try clear ic); omega, fun z => absurd rfl z⟩
        rw [hgm, v85, v86, v87, v88]
        simp only [up_at, Nat.reduceEqDiff, false_and, if_false, true_and]
        by_cases z : j = c
        · rw [if_pos z, if_pos z, if_pos z, if_pos z, if_pos z, if_pos z, if_pos z, if_pos z]; exact ⟨rfl, rfl, rfl, rfl⟩
        · have p := q3 j (by (try clear wM3); (try clear wM4); (try clear nc); (try clear ic); omega)
          have fXq : FR [(9, 5), (9, 12), (85, 0), (86, 0), (87, 0), (88, 0), (89, 0)] g gX := (FR.mo fq rfl).tr (FR.mo fX rfl)
          rw [if_neg z, if_neg z, if_neg z, if_neg z, if_neg z, if_neg z, if_neg z, if_neg z, fXq 162 j rfl, fXq 163 j rfl, fXq 164 j rfl, fXq 165 j rfl]
          exact p
    · refine ⟨(-1, g), (-1, g), ?_, ?_, rfl, ⟨c, o, J0⟩, Fr.rf⟩
      · unfold X_booking Bookings_add
        rw [if_neg (by rw [wX1]; (try clear wM3); (try clear wM4); (try clear nc); (try clear ic); omega), if_neg (by rw [wX2]; (try clear wM3); (try clear wM4); (try clear nc); (try clear ic); omega), if_neg (by rw [wX3]; (try clear wM3); (try clear wM4); (try clear nc); (try clear ic); omega), if_neg (by rw [wX4]; (try clear wM3); (try clear wM4); (try clear nc); (try clear ic); omega), q1, nc, if_neg (by (try clear wM3); (try clear wM4); (try clear nc); (try clear ic); omega), sb]
      · unfold M_booking
        dsimp only
        rw [if_neg (by rw [wM1]; (try clear wM3); (try clear wM4); (try clear nc); (try clear ic); omega), if_neg (by rw [wM2]; (try clear wM3); (try clear wM4); (try clear nc); (try clear ic); omega), if_neg (by rw [wM3]; (try clear wM3); (try clear wM4); (try clear nc); (try clear ic); omega), if_neg (by rw [wM4]; (try clear wM3); (try clear wM4); (try clear nc); (try clear ic); omega), if_pos (by rw [q2, nc]; (try clear wM3); (try clear wM4); (try clear nc); (try clear ic); omega)]
  · refine ⟨(-1, g), (-1, g), ?_, ?_, rfl, ⟨c, o, J0⟩, Fr.rf⟩
    · unfold X_booking
      by_cases z1 : 0 ≤ x1 ∧ x1 ≤ 15
      · rw [if_neg (by rw [wX1]; (try clear wM3); (try clear wM4); (try clear nc); (try clear ic); omega)]
        by_cases z2 : 0 ≤ x2 ∧ x2 ≤ 15
        · rw [if_neg (by rw [wX2]; (try clear wM3); (try clear wM4); (try clear nc); (try clear ic); omega)]
          by_cases z3 : 0 ≤ x3 ∧ x3 ≤ 9
          · rw [if_neg (by rw [wX3]; (try clear wM3); (try clear wM4); (try clear nc); (try clear ic); omega), if_pos (by rw [wX4]; (try clear wM3); (try clear wM4); (try clear nc); (try clear ic); omega)]
          · rw [if_pos (by rw [wX3]; (try clear wM3); (try clear wM4); (try clear nc); (try clear ic); omega)]
        · rw [if_pos (by rw [wX2]; (try clear wM3); (try clear wM4); (try clear nc); (try clear ic); omega)]
      · rw [if_pos (by rw [wX1]; (try clear wM3); (try clear wM4); (try clear nc); (try clear ic); omega)]
    · unfold M_booking
      by_cases z1 : 0 ≤ x1 ∧ x1 ≤ 15
      · rw [if_neg (by rw [wM1]; (try clear wM3); (try clear wM4); (try clear nc); (try clear ic); omega)]
        by_cases z2 : 0 ≤ x2 ∧ x2 ≤ 15
        · rw [if_neg (by rw [wM2]; (try clear wM3); (try clear wM4); (try clear nc); (try clear ic); omega)]
          by_cases z3 : 0 ≤ x3 ∧ x3 ≤ 9
          · rw [if_neg (by rw [wM3]; (try clear wM3); (try clear wM4); (try clear nc); (try clear ic); omega), if_pos (by rw [wM4]; (try clear wM3); (try clear wM4); (try clear nc); (try clear ic); omega)]
          · rw [if_pos (by rw [wM3]; (try clear wM3); (try clear wM4); (try clear nc); (try clear ic); omega)]
        · rw [if_pos (by rw [wM2]; (try clear wM3); (try clear wM4); (try clear nc); (try clear ic); omega)]
      · rw [if_pos (by rw [wM1]; (try clear wM3); (try clear wM4); (try clear nc); (try clear ic); omega)]
theorem X_hires_s {c : Nat} {o : Nat → Nat} {k : Nat} (hk : k ≤ 4) {f48 f50 : Nat → Int} (hr : ∀ x, x < k → (0 ≤ f48 x ∧ f48 x ≤ 15) ∧ (0 ≤ f50 x ∧ f50 x ≤ 15)) : ∀ (n b : Nat) (g : AG), b + n = k → JB c o g → (∀ x, x < k → g 48 x = f48 x ∧ g 50 x = f50 x) → (∀ x, x < b → g 90 x = f48 x ∧ g 91 x = f50 x) → ∃ g', X_hireFirst_b k b g = some (0, g') ∧ FR [(9, 12), (90, 0), (91, 0)] g g' ∧ JB c o g' ∧ ∀ x, x < k → g' 90 x = f48 x ∧ g' 91 x = f50 x := by
  intro n
  induction n with
  | zero =>
    intro b g h J h1 h2
    have e : b = k := by (try clear n0); (try clear n1); (try clear n2); omega
    subst e
    refine ⟨g, ?_, Fr.rf, J, h2⟩
    rw [X_hireFirst_b, if_pos (Int.le_refl _)]
  | succ n ih =>
    intro b g h J h1 h2
    have r := hr b (by (try clear n0); (try clear n1); (try clear n2); omega)
    have v := h1 b (by (try clear n0); (try clear n1); (try clear n2); omega)
    obtain ⟨g1, e1, f1, J1, a1, a2, a3⟩ := X_hire_s J (b := b) (x2 := f48 b) (x3 := f50 b) (by (try clear n0); (try clear n1); (try clear n2); omega) r.1 r.2
    obtain ⟨g', e', f', J', r'⟩ := ih (b + 1) g1 (by (try clear n0); (try clear n1); (try clear n2); omega) J1 (fun x hx => by rw [f1 48 x rfl, f1 50 x rfl]; exact h1 x hx) (fun x hx => by
      by_cases z : x = b
      · rw [z]; exact ⟨a1, a2⟩
      · have := a3 x z
        rw [this.1, this.2]
        exact h2 x (by (try clear n0); (try clear n1); (try clear n2); omega))
    refine ⟨g', ?_, f1.tr f', J', r'⟩
    have n0 : nw (k : Int) = k := nwN _ (by (try clear n0); (try clear n1); (try clear n2); omega)
    have n1 : nw (b : Int) = b := nwN _ (by (try clear n0); (try clear n1); (try clear n2); omega)
    have n2 : ix (b : Int) = b := ixN _ (by (try clear n0); (try clear n1); (try clear n2); omega)
    rw [X_hireFirst_b, n0, n1, n2, if_neg (by (try clear n0); (try clear n1); (try clear n2); omega), if_pos (by (try clear n0); (try clear n1); (try clear n2); omega), v.1, v.2, e1, sb]
    exact e'
theorem M_asks_s {k : Nat} (hk : k ≤ 4) : ∀ (n b : Nat) (g : AG), b + n = k → (∀ x, x < b → g 171 x = g 124 x ∧ g 172 x = g 126 x) → ∃ g', M_asks_b k b g = some (0, g') ∧ FR [(171, 0), (172, 0)] g g' ∧ ∀ x, x < k → g' 171 x = g 124 x ∧ g' 172 x = g 126 x := by
  intro n
  induction n with
  | zero =>
    intro b g h h2
    have e : b = k := by (try clear n0); (try clear n1); (try clear n2); omega
    subst e
    refine ⟨g, ?_, Fr.rf, h2⟩
    rw [M_asks_b, if_pos (Int.le_refl _)]
  | succ n ih =>
    intro b g h h2
    obtain ⟨g1, hg1⟩ : ∃ g1 : AG, g1 = up (up g 171 b (g 124 b)) 172 b (g 126 b) := ⟨_, rfl⟩
    have f1 : FR [(171, 0), (172, 0)] g g1 := by rw [hg1]; exact Fr.up (Fr.up Fr.rf rfl) rfl
    obtain ⟨g', e', f', r'⟩ := ih (b + 1) g1 (by (try clear n0); (try clear n1); (try clear n2); omega) (fun x hx => by
      rw [f1 124 x rfl, f1 126 x rfl, hg1]
      by_cases z : x = b
      · rw [z, up_at, if_neg (fun q => absurd q.1 (by decide)), up_at, if_pos ⟨rfl, rfl⟩, up_at, if_pos ⟨rfl, rfl⟩]; exact ⟨rfl, rfl⟩
      · rw [up_at, if_neg (fun q => absurd q.1 (by decide)), up_at, if_neg (fun q => z q.2), up_at, if_neg (fun q => z q.2), up_at, if_neg (fun q => absurd q.1 (by decide))]
        exact h2 x (by (try clear n0); (try clear n1); (try clear n2); omega))
    refine ⟨g', ?_, f1.tr f', fun x hx => by rw [(r' x hx).1, (r' x hx).2, f1 124 x rfl, f1 126 x rfl]; exact ⟨rfl, rfl⟩⟩
    have n0 : nw (k : Int) = k := nwN _ (by (try clear n0); (try clear n1); (try clear n2); omega)
    have n1 : nw (b : Int) = b := nwN _ (by (try clear n0); (try clear n1); (try clear n2); omega)
    have n2 : ix (b : Int) = b := ixN _ (by (try clear n0); (try clear n1); (try clear n2); omega)
    have u : (up g 171 b (g 124 b)) 126 b = g 126 b := by rw [up_at, if_neg (fun q => absurd q.1 (by decide))]
    rw [M_asks_b, n0, n1, n2, if_neg (by (try clear n0); (try clear n1); (try clear n2); omega), if_pos (by (try clear n0); (try clear n1); (try clear n2); omega), if_pos (by (try clear n0); (try clear n1); (try clear n2); omega), sb, u, sb, ← hg1]
    exact e'
abbrev WG : Reg := [(9, 11), (9, 12), (9, 16), (9, 17), (90, 0), (91, 0), (92, 0), (93, 0), (94, 0), (95, 0), (96, 0), (117, 67), (117, 68), (166, 0), (167, 0), (168, 0), (169, 0), (170, 0), (171, 0), (172, 0)]
theorem sm_given {x1 x2 : Int} {g : AG} (h1 : I32 x1) (h2 : I32 x2) (B : JBoat g) (J : JBook g) :
    ∃ r1 r2, X_given x1 x2 g = some r1 ∧ M_given x1 x2 r1.2 = some r2 ∧ nw r1.1 = nw r2.1 ∧ JBook r2.2 ∧ FR WG g r2.2 := by
  unfold I32 at *
  obtain ⟨c, o, J⟩ := J
  have J0 := J
  obtain ⟨K, q1, q2, q3, O, q5, BT, q7, q8⟩ := J
  have hc := K.1
  obtain ⟨b1, b2, b3⟩ := B
  have wX : (nw (X_within x1 1 4) = 0) = (x1 < 1 ∨ 4 < x1) := within0 (by (try clear wX); (try clear wM); (try clear w0); (try clear w1); (try clear nx2); (try clear nx1); (try clear n67); (try clear xE); (try clear nb4); (try clear mb); (try clear n12); (try clear m1); (try clear m2); omega) (by (try clear wX); (try clear wM); (try clear w0); (try clear w1); (try clear nx2); (try clear nx1); (try clear n67); (try clear xE); (try clear nb4); (try clear mb); (try clear n12); (try clear m1); (try clear m2); omega) (by decide) (by decide) (by decide) (by decide)
  have wM : (nw (M_isIn x1 1 4) = 0) = (x1 < 1 ∨ 4 < x1) := isIn0 (by (try clear wX); (try clear wM); (try clear w0); (try clear w1); (try clear nx2); (try clear nx1); (try clear n67); (try clear xE); (try clear nb4); (try clear mb); (try clear n12); (try clear m1); (try clear m2); omega) (by (try clear wX); (try clear wM); (try clear w0); (try clear w1); (try clear nx2); (try clear nx1); (try clear n67); (try clear xE); (try clear nb4); (try clear mb); (try clear n12); (try clear m1); (try clear m2); omega) (by decide) (by decide) (by decide) (by decide)
  have w0 : (nw (M_isIn x2 0 1) = 0) = (x2 < 0 ∨ 1 < x2) := isIn0 (by (try clear wX); (try clear wM); (try clear w0); (try clear w1); (try clear nx2); (try clear nx1); (try clear n67); (try clear xE); (try clear nb4); (try clear mb); (try clear n12); (try clear m1); (try clear m2); omega) (by (try clear wX); (try clear wM); (try clear w0); (try clear w1); (try clear nx2); (try clear nx1); (try clear n67); (try clear xE); (try clear nb4); (try clear mb); (try clear n12); (try clear m1); (try clear m2); omega) (by decide) (by decide) (by decide) (by decide)
  have w1 : ∀ g' : AG, g' 117 65 = c → (nw (M_isIn x2 10 (9 + g' 117 65)) = 0) = (x2 < 10 ∨ 9 + (c : Int) < x2) := fun g' e => by
    rw [e]
    exact isIn0 (by (try clear wX); (try clear wM); (try clear w0); (try clear w1); (try clear nx2); (try clear nx1); (try clear n67); (try clear xE); (try clear nb4); (try clear mb); (try clear n12); (try clear m1); (try clear m2); omega) (by (try clear wX); (try clear wM); (try clear w0); (try clear w1); (try clear nx2); (try clear nx1); (try clear n67); (try clear xE); (try clear nb4); (try clear mb); (try clear n12); (try clear m1); (try clear m2); omega) (by decide) (by decide) (by (try clear wX); (try clear wM); (try clear w0); (try clear w1); (try clear nx2); (try clear nx1); (try clear n67); (try clear xE); (try clear nb4); (try clear mb); (try clear n12); (try clear m1); (try clear m2); omega) (by (try clear wX); (try clear wM); (try clear w0); (try clear w1); (try clear nx2); (try clear nx1); (try clear n67); (try clear xE); (try clear nb4); (try clear mb); (try clear n12); (try clear m1); (try clear m2); omega)
  have nx2 : nw x2 = x2 := nw_id (by (try clear wX); (try clear wM); (try clear w0); (try clear w1); (try clear nx2); (try clear nx1); (try clear n67); (try clear xE); (try clear nb4); (try clear mb); (try clear n12); (try clear m1); (try clear m2); omega) (by (try clear wX); (try clear wM); (try clear w0); (try clear w1); (try clear nx2); (try clear nx1); (try clear n67); (try clear xE); (try clear nb4); (try clear mb); (try clear n12); (try clear m1); (try clear m2); omega)
  have nx1 : nw x1 = x1 := nw_id (by (try clear wX); (try clear wM); (try clear w0); (try clear w1); (try clear nx2); (try clear nx1); (try clear n67); (try clear xE); (try clear nb4); (try clear mb); (try clear n12); (try clear m1); (try clear m2); omega) (by (try clear wX); (try clear wM); (try clear w0); (try clear w1); (try clear nx2); (try clear nx1); (try clear n67); (try clear xE); (try clear nb4); (try clear mb); (try clear n12); (try clear m1); (try clear m2); omega)
  have n67 : nw (g 6 7) = g 6 7 := nw_id (by (try clear wX); (try clear wM); (try clear w0); (try clear w1); (try clear nx2); (try clear nx1); (try clear n67); (try clear xE); (try clear nb4); (try clear mb); (try clear n12); (try clear m1); (try clear m2); omega) (by (try clear wX); (try clear wM); (try clear w0); (try clear w1); (try clear nx2); (try clear nx1); (try clear n67); (try clear xE); (try clear nb4); (try clear mb); (try clear n12); (try clear m1); (try clear m2); omega)
  by_cases a : 1 ≤ x1 ∧ x1 ≤ 4
  · by_cases a2 : x1 ≤ g 6 7
    · obtain ⟨k, rfl⟩ := natOf (show 0 ≤ x1 by (try clear wX); (try clear wM); (try clear w0); (try clear w1); (try clear nx2); (try clear nx1); (try clear n67); (try clear xE); (try clear nb4); (try clear mb); (try clear n12); (try clear m1); (try clear m2); omega)
      have hk : 1 ≤ k ∧ k ≤ 4 := by (try clear wX); (try clear wM); (try clear w0); (try clear w1); (try clear nx2); (try clear nx1); (try clear n67); (try clear xE); (try clear nb4); (try clear mb); (try clear n12); (try clear m1); (try clear m2); omega
      obtain ⟨gA, eA, fA, JA, rA⟩ := X_hires_s hk.2 (f48 := g 48) (f50 := g 50) (fun x hx => by have := b3 x (by (try clear wX); (try clear wM); (try clear w0); (try clear w1); (try clear nx2); (try clear nx1); (try clear n67); (try clear xE); (try clear nb4); (try clear mb); (try clear n12); (try clear m1); (try clear m2); omega); omega) k 0 g (by (try clear wX); (try clear wM); (try clear w0); (try clear w1); (try clear nx2); (try clear nx1); (try clear n67); (try clear xE); (try clear nb4); (try clear mb); (try clear n12); (try clear m1); (try clear m2); omega) J0 (fun x _ => ⟨rfl, rfl⟩) (fun x hx => by (try clear wX); (try clear wM); (try clear w0); (try clear w1); (try clear nx2); (try clear nx1); (try clear n67); (try clear xE); (try clear nb4); (try clear mb); (try clear n12); (try clear m1); (try clear m2); omega)
      have eA' : X_hireFirst k g = some (0, gA) := eA
      obtain ⟨gB, eB, fB, JB', s1, s2, s3⟩ := X_kept_s JA hk
      have fAB : FR WG g gB := (FR.mo fA rfl).tr (FR.mo fB rfl)
      have bB : gB 9 4 = c := JB'.2.1
      have xE : X_given k x2 g = (if x2 = 0 then some (gB 9 15, gB) else if x2 = 1 then some (gB 9 16, gB) else if x2 < 10 then some (-1, gB) else if nw (x2 - 10) < nw (gB 9 4) then (if 0 ≤ nw (x2 - 10) ∧ nw (x2 - 10) < 8 then some (gB 96 (ix (x2 - 10)), gB) else none) else some (-1, gB)) := by
        unfold X_given
        rw [if_neg (by rw [wX]; (try clear wX); (try clear wM); (try clear w0); (try clear w1); (try clear nx2); (try clear nx1); (try clear n67); (try clear xE); (try clear nb4); (try clear mb); (try clear n12); (try clear m1); (try clear m2); omega), nx1, n67, if_pos a2, eA', sb, eB, sb, nx2]
      have nb4 : nw (gB 9 4) = c := by rw [bB]; exact nwN _ (by (try clear wX); (try clear wM); (try clear w0); (try clear w1); (try clear nx2); (try clear nx1); (try clear n67); (try clear xE); (try clear nb4); (try clear mb); (try clear n12); (try clear m1); (try clear m2); omega)
      -- the reference
      obtain ⟨gC, eC, fC, rC⟩ := M_asks_s hk.2 k 0 gB (by (try clear wX); (try clear wM); (try clear w0); (try clear w1); (try clear nx2); (try clear nx1); (try clear n67); (try clear xE); (try clear nb4); (try clear mb); (try clear n12); (try clear m1); (try clear m2); omega) (fun x hx => by (try clear wX); (try clear wM); (try clear w0); (try clear w1); (try clear nx2); (try clear nx1); (try clear n67); (try clear xE); (try clear nb4); (try clear mb); (try clear n12); (try clear m1); (try clear m2); omega)
      have eC' : M_asks k gB = some (0, gC) := eC
      have KA := JA.1
      obtain ⟨gD, eD, fD, t1, t2, t3⟩ := M_gbest_s (g := gC) KA (JA.2.2.2.2.2.2.1.mono hk.2) JA.2.2.2.2.1 (by rw [fC 117 65 rfl, fB 117 65 rfl]; exact JA.2.2.1) (fun j hj => by
        rw [fC 162 j rfl, fC 163 j rfl, fC 164 j rfl, fC 165 j rfl, fB 162 j rfl, fB 163 j rfl, fB 164 j rfl, fB 165 j rfl]
        exact JA.2.2.2.1 j hj) (fun b hb => by
        rw [(rC b hb).1, (rC b hb).2, (rA b hb).1, (rA b hb).2, fAB 124 b rfl, fAB 126 b rfl]
        have := b2 b (by (try clear wX); (try clear wM); (try clear w0); (try clear w1); (try clear nx2); (try clear nx1); (try clear n67); (try clear xE); (try clear nb4); (try clear mb); (try clear n12); (try clear m1); (try clear m2); omega)
        exact ⟨this.1, this.2.2.1⟩)
      have fE : FR WG g gD := fAB.tr ((FR.mo fC rfl).tr (FR.mo fD rfl))
      have JD : JBook gD := ⟨c, o, (JB'.cg (fC.cg rfl)).cg (fD.cg rfl)⟩
      have mb : M_given_b k x2 gB = ((((if x2 = 0 then some (gD 117 66, gD) else if x2 = 1 then some (gD 117 67, gD) else if 0 ≤ nw (x2 - 10) ∧ nw (x2 - 10) < 8 then some (gD 168 (ix (x2 - 10)), gD) else none)) : Option (Int × AG)) >>= fun r8 => some (r8.1, r8.2)) := by
        unfold M_given_b
        rw [eC', sb, eD, sb, nx2]
      have mtop : ∀ R, M_given_b k x2 gB = R → ((0 ≤ x2 ∧ x2 ≤ 1) ∨ (10 ≤ x2 ∧ x2 ≤ 9 + (c : Int))) → M_given k x2 gB = R := fun R hR ok => by
        unfold M_given
        have n12 : nw (gB 117 12) = g 6 7 := by rw [fAB 117 12 rfl, b1.1]; exact n67
        rw [if_neg (by rw [wM]; (try clear wX); (try clear wM); (try clear w0); (try clear w1); (try clear nx2); (try clear nx1); (try clear n67); (try clear xE); (try clear nb4); (try clear mb); (try clear n12); (try clear m1); (try clear m2); omega), n12, nx1, if_neg (by (try clear wX); (try clear wM); (try clear w0); (try clear w1); (try clear nx2); (try clear nx1); (try clear n67); (try clear xE); (try clear nb4); (try clear mb); (try clear n12); (try clear m1); (try clear m2); omega)]
        by_cases z : 0 ≤ x2 ∧ x2 ≤ 1
        · rw [if_neg (by rw [w0]; (try clear wX); (try clear wM); (try clear w0); (try clear w1); (try clear nx2); (try clear nx1); (try clear n67); (try clear xE); (try clear nb4); (try clear mb); (try clear n12); (try clear m1); (try clear m2); omega)]; exact hR
        · rw [if_pos (by rw [w0]; (try clear wX); (try clear wM); (try clear w0); (try clear w1); (try clear nx2); (try clear nx1); (try clear n67); (try clear xE); (try clear nb4); (try clear mb); (try clear n12); (try clear m1); (try clear m2); omega), if_neg (by rw [w1 gB (by rw [fB 117 65 rfl]; exact JA.2.2.1)]; (try clear wX); (try clear wM); (try clear w0); (try clear w1); (try clear nx2); (try clear nx1); (try clear n67); (try clear xE); (try clear nb4); (try clear mb); (try clear n12); (try clear m1); (try clear m2); omega)]; exact hR
      by_cases z0 : x2 = 0
      · refine ⟨(gB 9 15, gB), (gD 117 66, gD), by rw [xE, if_pos z0], mtop _ ?_ (Or.inl (by rw [z0]; decide)), ?_, JD, fE⟩
        · rw [mb, if_pos z0, sb]
        · dsimp only; rw [s1, t1]
      by_cases z1 : x2 = 1
      · refine ⟨(gB 9 16, gB), (gD 117 67, gD), by rw [xE, if_neg z0, if_pos z1], mtop _ ?_ (Or.inl (by rw [z1]; decide)), ?_, JD, fE⟩
        · rw [mb, if_neg z0, if_pos z1, sb]
        · dsimp only; rw [s2, t2]
      by_cases z2 : 10 ≤ x2 ∧ x2 ≤ 9 + (c : Int)
      · obtain ⟨j, hj⟩ : ∃ j : Nat, x2 - 10 = j := ⟨(x2 - 10).toNat, by (try clear wX); (try clear wM); (try clear w0); (try clear w1); (try clear nx2); (try clear nx1); (try clear n67); (try clear xE); (try clear nb4); (try clear mb); (try clear n12); (try clear m1); (try clear m2); omega⟩
        have m1 : nw (x2 - 10) = j := by rw [hj]; exact nwN _ (by (try clear wX); (try clear wM); (try clear w0); (try clear w1); (try clear nx2); (try clear nx1); (try clear n67); (try clear xE); (try clear nb4); (try clear mb); (try clear n12); (try clear m1); (try clear m2); omega)
        have m2 : ix (x2 - 10) = j := by rw [hj]; exact ixN _ (by (try clear wX); (try clear wM); (try clear w0); (try clear w1); (try clear nx2); (try clear nx1); (try clear n67); (try clear xE); (try clear nb4); (try clear mb); (try clear n12); (try clear m1); (try clear m2); omega)
        refine ⟨(gB 96 j, gB), (gD 168 j, gD), ?_, mtop _ ?_ (Or.inr z2), ?_, JD, fE⟩
        · rw [xE, if_neg z0, if_neg z1, if_neg (by (try clear wX); (try clear wM); (try clear w0); (try clear w1); (try clear nx2); (try clear nx1); (try clear n67); (try clear xE); (try clear nb4); (try clear mb); (try clear n12); (try clear m1); (try clear m2); omega), m1, m2, if_pos (by rw [nb4]; (try clear wX); (try clear wM); (try clear w0); (try clear w1); (try clear nx2); (try clear nx1); (try clear n67); (try clear xE); (try clear nb4); (try clear mb); (try clear n12); (try clear m1); (try clear m2); omega), if_pos (by (try clear wX); (try clear wM); (try clear w0); (try clear w1); (try clear nx2); (try clear nx1); (try clear n67); (try clear xE); (try clear nb4); (try clear mb); (try clear n12); (try clear m1); (try clear m2); omega)]
        · rw [mb, if_neg z0, if_neg z1, m1, m2, if_pos (by (try clear wX); (try clear wM); (try clear w0); (try clear w1); (try clear nx2); (try clear nx1); (try clear n67); (try clear xE); (try clear nb4); (try clear mb); (try clear n12); (try clear m1); (try clear m2); omega), sb]
        · dsimp only; rw [s3 j (by (try clear wX); (try clear wM); (try clear w0); (try clear w1); (try clear nx2); (try clear nx1); (try clear n67); (try clear xE); (try clear nb4); (try clear mb); (try clear n12); (try clear m1); (try clear m2); omega), t3 j (by (try clear wX); (try clear wM); (try clear w0); (try clear w1); (try clear nx2); (try clear nx1); (try clear n67); (try clear xE); (try clear nb4); (try clear mb); (try clear n12); (try clear m1); (try clear m2); omega)]
      · refine ⟨(-1, gB), (-1, gB), ?_, ?_, rfl, ⟨c, o, JB'⟩, fAB⟩
        · rw [xE, if_neg z0, if_neg z1]
          by_cases y : x2 < 10
          · rw [if_pos y]
          · have m1 : nw (x2 - 10) = x2 - 10 := nw_id (by (try clear wX); (try clear wM); (try clear w0); (try clear w1); (try clear nx2); (try clear nx1); (try clear n67); (try clear xE); (try clear nb4); (try clear mb); (try clear n12); (try clear m1); (try clear m2); omega) (by (try clear wX); (try clear wM); (try clear w0); (try clear w1); (try clear nx2); (try clear nx1); (try clear n67); (try clear xE); (try clear nb4); (try clear mb); (try clear n12); (try clear m1); (try clear m2); omega)
            rw [if_neg y, if_neg (by rw [m1, nb4]; (try clear wX); (try clear wM); (try clear w0); (try clear w1); (try clear nx2); (try clear nx1); (try clear n67); (try clear xE); (try clear nb4); (try clear mb); (try clear n12); (try clear m1); (try clear m2); omega)]
        · unfold M_given
          have n12 : nw (gB 117 12) = g 6 7 := by rw [fAB 117 12 rfl, b1.1]; exact n67
          rw [if_neg (by rw [wM]; (try clear wX); (try clear wM); (try clear w0); (try clear w1); (try clear nx2); (try clear nx1); (try clear n67); (try clear xE); (try clear nb4); (try clear mb); (try clear n12); (try clear m1); (try clear m2); omega), n12, nx1, if_neg (by (try clear wX); (try clear wM); (try clear w0); (try clear w1); (try clear nx2); (try clear nx1); (try clear n67); (try clear xE); (try clear nb4); (try clear mb); (try clear n12); (try clear m1); (try clear m2); omega), if_pos (by rw [w0]; (try clear wX); (try clear wM); (try clear w0); (try clear w1); (try clear nx2); (try clear nx1); (try clear n67); (try clear xE); (try clear nb4); (try clear mb); (try clear n12); (try clear m1); (try clear m2); omega), if_pos (by rw [w1 gB (by rw [fB 117 65 rfl]; exact JA.2.2.1)]; (try clear wX); (try clear wM); (try clear w0); (try clear w1); (try clear nx2); (try clear nx1); (try clear n67); (try clear xE); (try clear nb4); (try clear mb); (try clear n12); (try clear m1); (try clear m2); omega)]
    · refine ⟨(-1, g), (-1, g), ?_, ?_, rfl, ⟨c, o, J0⟩, Fr.rf⟩
      · unfold X_given
        rw [if_neg (by rw [wX]; (try clear wX); (try clear wM); (try clear w0); (try clear w1); (try clear nx2); (try clear nx1); (try clear n67); (try clear xE); (try clear nb4); (try clear mb); (try clear n12); (try clear m1); (try clear m2); omega), nx1, n67, if_neg a2]
      · unfold M_given
        rw [if_neg (by rw [wM]; (try clear wX); (try clear wM); (try clear w0); (try clear w1); (try clear nx2); (try clear nx1); (try clear n67); (try clear xE); (try clear nb4); (try clear mb); (try clear n12); (try clear m1); (try clear m2); omega), nx1, if_pos (by dsimp only; rw [b1.1, n67]; (try clear wX); (try clear wM); (try clear w0); (try clear w1); (try clear nx2); (try clear nx1); (try clear n67); (try clear xE); (try clear nb4); (try clear mb); (try clear n12); (try clear m1); (try clear m2); omega)]
  · refine ⟨(-1, g), (-1, g), ?_, ?_, rfl, ⟨c, o, J0⟩, Fr.rf⟩
    · unfold X_given
      rw [if_pos (by rw [wX]; (try clear wX); (try clear wM); (try clear w0); (try clear w1); (try clear nx2); (try clear nx1); (try clear n67); (try clear xE); (try clear nb4); (try clear mb); (try clear n12); (try clear m1); (try clear m2); omega)]
    · unfold M_given
      rw [if_pos (by rw [wM]; (try clear wX); (try clear wM); (try clear w0); (try clear w1); (try clear nx2); (try clear nx1); (try clear n67); (try clear xE); (try clear nb4); (try clear mb); (try clear n12); (try clear m1); (try clear m2); omega)]
theorem sm_more {x1 x2 x3 : Int} {g : AG} (h1 : I32 x1) (h2 : I32 x2) (h3 : I32 x3) (B : JBoat g) (J : JBook g) :
    ∃ r1 r2, X_more x1 x2 x3 g = some r1 ∧ M_more x1 x2 x3 r1.2 = some r2 ∧ nw r1.1 = nw r2.1 ∧ JBook r2.2 ∧ FR WG g r2.2 := by
  unfold I32 at *
  obtain ⟨c, o, J⟩ := J
  have J0 := J
  obtain ⟨K, q1, q2, q3, O, q5, BT, q7, q8⟩ := J
  have hc := K.1
  obtain ⟨b1, b2, b3⟩ := B
  have wX : (nw (X_within x1 1 3) = 0) = (x1 < 1 ∨ 3 < x1) := within0 (by (try clear wX); (try clear wM); (try clear wM2); (try clear nx1); (try clear n67); (try clear nk); (try clear ik); (try clear n12); omega) (by (try clear wX); (try clear wM); (try clear wM2); (try clear nx1); (try clear n67); (try clear nk); (try clear ik); (try clear n12); omega) (by decide) (by decide) (by decide) (by decide)
  have wM : (nw (M_isIn x1 1 3) = 0) = (x1 < 1 ∨ 3 < x1) := isIn0 (by (try clear wX); (try clear wM); (try clear wM2); (try clear nx1); (try clear n67); (try clear nk); (try clear ik); (try clear n12); omega) (by (try clear wX); (try clear wM); (try clear wM2); (try clear nx1); (try clear n67); (try clear nk); (try clear ik); (try clear n12); omega) (by decide) (by decide) (by decide) (by decide)
  have wX2 := isBerths0 (x := x2) (by (try clear wX); (try clear wM); (try clear wM2); (try clear nx1); (try clear n67); (try clear nk); (try clear ik); (try clear n12); omega) (by (try clear wX); (try clear wM); (try clear wM2); (try clear nx1); (try clear n67); (try clear nk); (try clear ik); (try clear n12); omega)
  have wM2 : (nw (M_isIn x2 2 12) = 0) = (x2 < 2 ∨ 12 < x2) := isIn0 (by (try clear wX); (try clear wM); (try clear wM2); (try clear nx1); (try clear n67); (try clear nk); (try clear ik); (try clear n12); omega) (by (try clear wX); (try clear wM); (try clear wM2); (try clear nx1); (try clear n67); (try clear nk); (try clear ik); (try clear n12); omega) (by decide) (by decide) (by decide) (by decide)
  have wX3 := isPointX0 (x := x3) (by (try clear wX); (try clear wM); (try clear wM2); (try clear nx1); (try clear n67); (try clear nk); (try clear ik); (try clear n12); omega) (by (try clear wX); (try clear wM); (try clear wM2); (try clear nx1); (try clear n67); (try clear nk); (try clear ik); (try clear n12); omega)
  have wM3 := isPoint0 (x := x3) (by (try clear wX); (try clear wM); (try clear wM2); (try clear nx1); (try clear n67); (try clear nk); (try clear ik); (try clear n12); omega) (by (try clear wX); (try clear wM); (try clear wM2); (try clear nx1); (try clear n67); (try clear nk); (try clear ik); (try clear n12); omega)
  have nx1 : nw x1 = x1 := nw_id (by (try clear wX); (try clear wM); (try clear wM2); (try clear nx1); (try clear n67); (try clear nk); (try clear ik); (try clear n12); omega) (by (try clear wX); (try clear wM); (try clear wM2); (try clear nx1); (try clear n67); (try clear nk); (try clear ik); (try clear n12); omega)
  have n67 : nw (g 6 7) = g 6 7 := nw_id (by (try clear wX); (try clear wM); (try clear wM2); (try clear nx1); (try clear n67); (try clear nk); (try clear ik); (try clear n12); omega) (by (try clear wX); (try clear wM); (try clear wM2); (try clear nx1); (try clear n67); (try clear nk); (try clear ik); (try clear n12); omega)
  by_cases a : 1 ≤ x1 ∧ x1 ≤ 3
  · by_cases a2 : x1 ≤ g 6 7
    · by_cases a3 : 2 ≤ x2 ∧ x2 ≤ 12
      · by_cases a4 : 0 ≤ x3 ∧ x3 ≤ 15
        · obtain ⟨k, rfl⟩ := natOf (show 0 ≤ x1 by (try clear wX); (try clear wM); (try clear wM2); (try clear nx1); (try clear n67); (try clear nk); (try clear ik); (try clear n12); omega)
          have hk : 1 ≤ k ∧ k ≤ 3 := by (try clear wX); (try clear wM); (try clear wM2); (try clear nx1); (try clear n67); (try clear nk); (try clear ik); (try clear n12); omega
          obtain ⟨gA, eA, fA, JA, rA⟩ := X_hires_s (show k ≤ 4 by (try clear wX); (try clear wM); (try clear wM2); (try clear nx1); (try clear n67); (try clear nk); (try clear ik); (try clear n12); omega) (f48 := g 48) (f50 := g 50) (fun x hx => by have := b3 x (by (try clear wX); (try clear wM); (try clear wM2); (try clear nx1); (try clear n67); (try clear nk); (try clear ik); (try clear n12); omega); omega) k 0 g (by (try clear wX); (try clear wM); (try clear wM2); (try clear nx1); (try clear n67); (try clear nk); (try clear ik); (try clear n12); omega) J0 (fun x _ => ⟨rfl, rfl⟩) (fun x hx => by (try clear wX); (try clear wM); (try clear wM2); (try clear nx1); (try clear n67); (try clear nk); (try clear ik); (try clear n12); omega)
          have eA' : X_hireFirst k g = some (0, gA) := eA
          obtain ⟨gH, eH, fH, JH, rH1, rH2, rH3⟩ := X_hire_s JA (b := k) (x2 := x2) (x3 := x3) (by (try clear wX); (try clear wM); (try clear wM2); (try clear nx1); (try clear n67); (try clear nk); (try clear ik); (try clear n12); omega) (by (try clear wX); (try clear wM); (try clear wM2); (try clear nx1); (try clear n67); (try clear nk); (try clear ik); (try clear n12); omega) a4
          obtain ⟨gB, eB, fB, JB', s1, _, _⟩ := X_kept_s JH (k := k) (by (try clear wX); (try clear wM); (try clear wM2); (try clear nx1); (try clear n67); (try clear nk); (try clear ik); (try clear n12); omega)
          obtain ⟨gC, eC, fC, JC, u1, _, _⟩ := X_kept_s JB' (k := k + 1) (by (try clear wX); (try clear wM); (try clear wM2); (try clear nx1); (try clear n67); (try clear nk); (try clear ik); (try clear n12); omega)
          have eC' : Bookings_giveBest ((k : Int) + 1) gB = some (0, gC) := eC
          have fABC : FR WG g gC := (FR.mo fA rfl).tr ((FR.mo fH rfl).tr ((FR.mo fB rfl).tr (FR.mo fC rfl)))
          have c85 : gB 85 = gH 85 := funext fun i => fB 85 i rfl
          have c86 : gB 86 = gH 86 := funext fun i => fB 86 i rfl
          have c87 : gB 87 = gH 87 := funext fun i => fB 87 i rfl
          have c88 : gB 88 = gH 88 := funext fun i => fB 88 i rfl
          have c90 : gB 90 = gH 90 := funext fun i => fB 90 i rfl
          have c91 : gB 91 = gH 91 := funext fun i => fB 91 i rfl
          rw [c85, c86, c87, c88, c90, c91] at u1
          have fBC : FR WG gH gC := (FR.mo fB rfl).tr (FR.mo fC rfl)
          -- the reference
          obtain ⟨gD, eD, fD, rD⟩ := M_asks_s (show k ≤ 4 by (try clear wX); (try clear wM); (try clear wM2); (try clear nx1); (try clear n67); (try clear nk); (try clear ik); (try clear n12); omega) k 0 gC (by (try clear wX); (try clear wM); (try clear wM2); (try clear nx1); (try clear n67); (try clear nk); (try clear ik); (try clear n12); omega) (fun x hx => by (try clear wX); (try clear wM); (try clear wM2); (try clear nx1); (try clear n67); (try clear nk); (try clear ik); (try clear n12); omega)
          have eD' : M_asks k gC = some (0, gD) := eD
          have rD' : ∀ b, b < k → gD 171 b = gH 90 b ∧ gD 172 b = gH 91 b := fun b hb => by
            have h3' := rH3 b (by (try clear wX); (try clear wM); (try clear wM2); (try clear nx1); (try clear n67); (try clear nk); (try clear ik); (try clear n12); omega)
            rw [(rD b hb).1, (rD b hb).2, h3'.1, h3'.2, (rA b hb).1, (rA b hb).2, fABC 124 b rfl, fABC 126 b rfl]
            have := b2 b (by (try clear wX); (try clear wM); (try clear wM2); (try clear nx1); (try clear n67); (try clear nk); (try clear ik); (try clear n12); omega)
            exact ⟨this.1, this.2.2.1⟩
          have m65 : gD 117 65 = c := by rw [fD 117 65 rfl, fBC 117 65 rfl]; exact JH.2.2.1
          have mbk : ∀ j, j < c → gD 162 j = gH 85 j ∧ gD 163 j = gH 86 j ∧ gD 164 j = gH 87 j ∧ gD 165 j = gH 88 j := fun j hj => by
            rw [fD 162 j rfl, fD 163 j rfl, fD 164 j rfl, fD 165 j rfl, fBC 162 j rfl, fBC 163 j rfl, fBC 164 j rfl, fBC 165 j rfl]
            exact JH.2.2.2.1 j hj
          obtain ⟨gE, eE, fE, t1, _, _⟩ := M_gbest_s (g := gD) (k := k) JH.1 (JH.2.2.2.2.2.2.1.mono (by (try clear wX); (try clear wM); (try clear wM2); (try clear nx1); (try clear n67); (try clear nk); (try clear ik); (try clear n12); omega)) JH.2.2.2.2.1 m65 mbk rD'
          obtain ⟨gF, hgF⟩ : ∃ gF : AG, gF = up (up gE 171 k x2) 172 k x3 := ⟨_, rfl⟩
          have fF : FR [(171, 0), (172, 0)] gE gF := by rw [hgF]; exact Fr.up (Fr.up Fr.rf rfl) rfl
          obtain ⟨gG, eG, fG, v1, _, _⟩ := M_gbest_s (g := gF) (k := k + 1) JH.1 (JH.2.2.2.2.2.2.1.mono (by (try clear wX); (try clear wM); (try clear wM2); (try clear nx1); (try clear n67); (try clear nk); (try clear ik); (try clear n12); omega)) JH.2.2.2.2.1 (by rw [fF 117 65 rfl, fE 117 65 rfl]; exact m65) (fun j hj => by
            rw [fF 162 j rfl, fF 163 j rfl, fF 164 j rfl, fF 165 j rfl, fE 162 j rfl, fE 163 j rfl, fE 164 j rfl, fE 165 j rfl]
            exact mbk j hj) (fun b hb => by
            rw [hgF]
            by_cases z : b = k
            · rw [z, up_at, if_neg (fun q => absurd q.1 (by decide)), up_at, if_pos ⟨rfl, rfl⟩, up_at, if_pos ⟨rfl, rfl⟩]
              exact ⟨rH1.symm, rH2.symm⟩
            · rw [up_at, if_neg (fun q => absurd q.1 (by decide)), up_at, if_neg (fun q => z q.2), up_at, if_neg (fun q => z q.2), up_at, if_neg (fun q => absurd q.1 (by decide)), fE 171 b rfl, fE 172 b rfl]
              exact rD' b (by (try clear wX); (try clear wM); (try clear wM2); (try clear nx1); (try clear n67); (try clear nk); (try clear ik); (try clear n12); omega))
          have eG' : M_givesBest ((k : Int) + 1) gF = some (0, gG) := eG
          have nk : nw (k : Int) = k := nwN _ (by (try clear wX); (try clear wM); (try clear wM2); (try clear nx1); (try clear n67); (try clear nk); (try clear ik); (try clear n12); omega)
          have ik : ix (k : Int) = k := ixN _ (by (try clear wX); (try clear wM); (try clear wM2); (try clear nx1); (try clear n67); (try clear nk); (try clear ik); (try clear n12); omega)
          refine ⟨(gC 9 15 - gB 9 15, gC), (gG 117 66 - gE 117 66, gG), ?_, ?_, ?_, ⟨c, o, ((((JC.cg (fD.cg rfl)).cg (fE.cg rfl)).cg (fF.cg rfl)).cg (fG.cg rfl))⟩, fABC.tr ((FR.mo fD rfl).tr ((FR.mo fE rfl).tr ((FR.mo fF rfl).tr (FR.mo fG rfl))))⟩
          · unfold X_more
            rw [if_neg (by rw [wX]; (try clear wX); (try clear wM); (try clear wM2); (try clear nx1); (try clear n67); (try clear nk); (try clear ik); (try clear n12); omega), nx1, n67, if_pos a2, if_neg (by rw [wX2]; (try clear wX); (try clear wM); (try clear wM2); (try clear nx1); (try clear n67); (try clear nk); (try clear ik); (try clear n12); omega), if_neg (by rw [wX3]; (try clear wX); (try clear wM); (try clear wM2); (try clear nx1); (try clear n67); (try clear nk); (try clear ik); (try clear n12); omega), eA', sb, eH, sb, eB, sb, eC', sb]
          · unfold M_more
            have n12 : nw (gC 117 12) = g 6 7 := by rw [fABC 117 12 rfl, b1.1]; exact n67
            rw [if_neg (by rw [wM]; (try clear wX); (try clear wM); (try clear wM2); (try clear nx1); (try clear n67); (try clear nk); (try clear ik); (try clear n12); omega), n12, nx1, if_neg (by (try clear wX); (try clear wM); (try clear wM2); (try clear nx1); (try clear n67); (try clear nk); (try clear ik); (try clear n12); omega), if_neg (by rw [wM2]; (try clear wX); (try clear wM); (try clear wM2); (try clear nx1); (try clear n67); (try clear nk); (try clear ik); (try clear n12); omega), if_neg (by rw [wM3]; (try clear wX); (try clear wM); (try clear wM2); (try clear nx1); (try clear n67); (try clear nk); (try clear ik); (try clear n12); omega), eD', sb, eE, sb, ik, if_pos (by (try clear wX); (try clear wM); (try clear wM2); (try clear nx1); (try clear n67); (try clear nk); (try clear ik); (try clear n12); omega), sb, sb, ← hgF, eG', sb]
          · dsimp only
            rw [u1, s1, v1, t1]
        · refine ⟨(-1, g), (-1, g), ?_, ?_, rfl, ⟨c, o, J0⟩, Fr.rf⟩
          · unfold X_more
            rw [if_neg (by rw [wX]; (try clear wX); (try clear wM); (try clear wM2); (try clear nx1); (try clear n67); (try clear nk); (try clear ik); (try clear n12); omega), nx1, n67, if_pos a2, if_neg (by rw [wX2]; (try clear wX); (try clear wM); (try clear wM2); (try clear nx1); (try clear n67); (try clear nk); (try clear ik); (try clear n12); omega), if_pos (by rw [wX3]; (try clear wX); (try clear wM); (try clear wM2); (try clear nx1); (try clear n67); (try clear nk); (try clear ik); (try clear n12); omega)]
          · unfold M_more
            rw [if_neg (by rw [wM]; (try clear wX); (try clear wM); (try clear wM2); (try clear nx1); (try clear n67); (try clear nk); (try clear ik); (try clear n12); omega), nx1, if_neg (by dsimp only; rw [b1.1, n67]; (try clear wX); (try clear wM); (try clear wM2); (try clear nx1); (try clear n67); (try clear nk); (try clear ik); (try clear n12); omega), if_neg (by rw [wM2]; (try clear wX); (try clear wM); (try clear wM2); (try clear nx1); (try clear n67); (try clear nk); (try clear ik); (try clear n12); omega), if_pos (by rw [wM3]; (try clear wX); (try clear wM); (try clear wM2); (try clear nx1); (try clear n67); (try clear nk); (try clear ik); (try clear n12); omega)]
      · refine ⟨(-1, g), (-1, g), ?_, ?_, rfl, ⟨c, o, J0⟩, Fr.rf⟩
        · unfold X_more
          rw [if_neg (by rw [wX]; (try clear wX); (try clear wM); (try clear wM2); (try clear nx1); (try clear n67); (try clear nk); (try clear ik); (try clear n12); omega), nx1, n67, if_pos a2, if_pos (by rw [wX2]; (try clear wX); (try clear wM); (try clear wM2); (try clear nx1); (try clear n67); (try clear nk); (try clear ik); (try clear n12); omega)]
        · unfold M_more
          rw [if_neg (by rw [wM]; (try clear wX); (try clear wM); (try clear wM2); (try clear nx1); (try clear n67); (try clear nk); (try clear ik); (try clear n12); omega), nx1, if_neg (by dsimp only; rw [b1.1, n67]; (try clear wX); (try clear wM); (try clear wM2); (try clear nx1); (try clear n67); (try clear nk); (try clear ik); (try clear n12); omega), if_pos (by rw [wM2]; (try clear wX); (try clear wM); (try clear wM2); (try clear nx1); (try clear n67); (try clear nk); (try clear ik); (try clear n12); omega)]
    · refine ⟨(-1, g), (-1, g), ?_, ?_, rfl, ⟨c, o, J0⟩, Fr.rf⟩
      · unfold X_more
        rw [if_neg (by rw [wX]; (try clear wX); (try clear wM); (try clear wM2); (try clear nx1); (try clear n67); (try clear nk); (try clear ik); (try clear n12); omega), nx1, n67, if_neg a2]
      · unfold M_more
        rw [if_neg (by rw [wM]; (try clear wX); (try clear wM); (try clear wM2); (try clear nx1); (try clear n67); (try clear nk); (try clear ik); (try clear n12); omega), nx1, if_pos (by dsimp only; rw [b1.1, n67]; (try clear wX); (try clear wM); (try clear wM2); (try clear nx1); (try clear n67); (try clear nk); (try clear ik); (try clear n12); omega)]
  · refine ⟨(-1, g), (-1, g), ?_, ?_, rfl, ⟨c, o, J0⟩, Fr.rf⟩
    · unfold X_more
      rw [if_pos (by rw [wX]; (try clear wX); (try clear wM); (try clear wM2); (try clear nx1); (try clear n67); (try clear nk); (try clear ik); (try clear n12); omega)]
    · unfold M_more
      rw [if_pos (by rw [wM]; (try clear wX); (try clear wM); (try clear wM2); (try clear nx1); (try clear n67); (try clear nk); (try clear ik); (try clear n12); omega)]
end
section
/-! plain programs: the tape's tokens, once for both sides -/
abbrev tzLtr (c : Int) : Prop := (97 ≤ c ∧ c ≤ 122) ∨ (65 ≤ c ∧ c ≤ 90)
abbrev tzDgt (c : Int) : Prop := 48 ≤ c ∧ c ≤ 57
abbrev tzBlk (c : Int) : Prop := c = 32 ∨ c = 10
theorem M_letter0 {c : Int} (h : -1 ≤ c) (h2 : c ≤ 255) : (nw (M_isLetter c) = 0) = ¬ tzLtr c := by
  have e1 := isIn0 (x := c) (a := 97) (b := 122) (by omega) (by omega) (by decide) (by decide) (by decide) (by decide)
  have e2 := isIn0 (x := c) (a := 65) (b := 90) (by omega) (by omega) (by decide) (by decide) (by decide) (by decide)
  unfold M_isLetter
  by_cases a : nw (M_isIn c 97 122) = 0
  · rw [if_pos a]
    rw [e1] at a
    by_cases b : nw (M_isIn c 65 90) = 0
    · rw [if_pos b]
      rw [e2] at b
      exact propext ⟨fun _ q => by clear e1 e2; omega, fun _ => nw_0⟩
    · rw [if_neg b]
      rw [e2] at b
      refine propext ⟨fun q => ?_, fun q => absurd (Or.inr (by clear e1 e2; omega)) q⟩
      rw [nw_1] at q
      cases q
  · rw [if_neg a]
    rw [e1] at a
    refine propext ⟨fun q => ?_, fun q => absurd (Or.inl (by clear e1 e2; omega)) q⟩
    rw [nw_1] at q
    cases q
theorem X_letter0 {c : Int} (h : -1 ≤ c) (h2 : c ≤ 255) : (nw (Parser_isLetter c) = 0) = ¬ tzLtr c := M_letter0 h h2
theorem M_digit0 {c : Int} (h : -1 ≤ c) (h2 : c ≤ 255) : (nw (M_isDigit c) = 0) = ¬ tzDgt c := by
  unfold M_isDigit
  rw [isIn0 (by omega) (by omega) (by decide) (by decide) (by decide) (by decide)]
  exact propext ⟨fun q => by omega, fun q => by omega⟩
theorem X_digit0 {c : Int} (h : -1 ≤ c) (h2 : c ≤ 255) : (nw (Parser_isDigit c) = 0) = ¬ tzDgt c := M_digit0 h h2
def tzLB (c : Int) : Bool := decide (tzLtr c)
def tzDB (c : Int) : Bool := decide (tzDgt c)
def tzBB (c : Int) : Bool := decide (tzBlk c)
/-- from p on, at most n places, as long as P holds: the first place behind -/
def rnT (P : Int → Bool) (tp : Nat → Int) : Nat → Nat → Nat
  | 0, p => p
  | n + 1, p => if P (tp p) = true then rnT P tp n (p + 1) else p
theorem rnT_le {P : Int → Bool} {tp : Nat → Int} : ∀ n p : Nat, p ≤ rnT P tp n p ∧ rnT P tp n p ≤ p + n
  | 0, p => ⟨Nat.le_refl _, Nat.le_refl _⟩
  | n + 1, p => by
    have h := rnT_le (P := P) (tp := tp) n (p + 1)
    unfold rnT
    by_cases e : P (tp p) = true
    · rw [if_pos e]; omega
    · rw [if_neg e]; omega
theorem rnT_all {P : Int → Bool} {tp : Nat → Int} : ∀ n p i : Nat, p ≤ i → i < rnT P tp n p → P (tp i) = true
  | 0, p, i, h1, h2 => by unfold rnT at h2; omega
  | n + 1, p, i, h1, h2 => by
    unfold rnT at h2
    by_cases e : P (tp p) = true
    · rw [if_pos e] at h2
      by_cases q : i = p
      · rw [q]; exact e
      · exact rnT_all n (p + 1) i (by omega) h2
    · rw [if_neg e] at h2; omega
theorem rnT_end {P : Int → Bool} {tp : Nat → Int} : ∀ n p : Nat, rnT P tp n p < p + n → P (tp (rnT P tp n p)) = false
  | 0, p, h => by unfold rnT at h; omega
  | n + 1, p, h => by
    unfold rnT at h ⊢
    by_cases e : P (tp p) = true
    · rw [if_pos e] at h ⊢
      exact rnT_end n (p + 1) (by omega)
    · rw [if_neg e] at h ⊢
      cases q : P (tp p) with
      | false => rfl
      | true => exact absurd q e
/-! words -/
def tzWl (s : Nat) : Nat := lenJ.getD s 0
def tzSx (w : Nat) : Nat := [2, 3, 4, 5, 6, 8, 9, 10, 11, 12, 13, 14, 15, 16, 17, 18, 19, 20, 21, 7].getD w 0
def tzWb (w : Nat) : Nat := [0, 6, 13, 19, 24, 29, 32, 37, 42, 45, 49, 53, 57, 62, 68, 75, 80, 84, 90, 95, 102].getD w 0
def tzMc (w : Nat) : Int := [20, 21, 22, 23, 24, 7, 8, 3, 4, 5, 6, 41, 42, 43, 44, 45, 46, 47, 48, 49, 1].getD w 0
abbrev tzWm (tp : Nat → Int) (s a n : Nat) : Prop := n = tzWl s ∧ ∀ i, i < n → tp (a + i) = strCh s i
def tzIdx (tp : Nat → Int) (a n : Nat) : Nat → Nat → Nat
  | 0, w => w
  | k + 1, w => if tzWm tp (tzSx w) a n then w else tzIdx tp a n k (w + 1)
theorem tzIdx_rng {tp : Nat → Int} {a n : Nat} : ∀ k w : Nat, w ≤ tzIdx tp a n k w ∧ tzIdx tp a n k w ≤ w + k
  | 0, w => ⟨Nat.le_refl _, Nat.le_refl _⟩
  | k + 1, w => by
    have h := tzIdx_rng (tp := tp) (a := a) (n := n) k (w + 1)
    unfold tzIdx
    by_cases e : tzWm tp (tzSx w) a n
    · rw [if_pos e]; omega
    · rw [if_neg e]; omega
theorem tzIdx_hit {tp : Nat → Int} {a n : Nat} : ∀ k w : Nat, tzIdx tp a n k w < w + k → tzWm tp (tzSx (tzIdx tp a n k w)) a n
  | 0, w, h => by unfold tzIdx at h; omega
  | k + 1, w, h => by
    unfold tzIdx at h ⊢
    by_cases e : tzWm tp (tzSx w) a n
    · rw [if_pos e]; exact e
    · rw [if_neg e] at h ⊢
      exact tzIdx_hit k (w + 1) (by omega)
theorem tzIdx_no {tp : Nat → Int} {a n : Nat} : ∀ k w j : Nat, w ≤ j → j < tzIdx tp a n k w → ¬ tzWm tp (tzSx j) a n
  | 0, w, j, h1, h2 => by unfold tzIdx at h2; omega
  | k + 1, w, j, h1, h2 => by
    unfold tzIdx at h2
    by_cases e : tzWm tp (tzSx w) a n
    · rw [if_pos e] at h2; omega
    · rw [if_neg e] at h2
      by_cases q : j = w
      · rw [q]; exact e
      · exact tzIdx_no k (w + 1) j (by omega) h2
def tzSame (s s' : Nat) : Bool := (List.range (tzWl s)).all fun i => decide (strCh s i = strCh s' i)
theorem tz_uniq0 : ∀ s, s < 22 → ∀ s', s' < 22 → (s < 2 ∨ s' < 2 ∨ s = s' ∨ tzWl s ≠ tzWl s' ∨ tzSame s s' = false) := by decide +kernel
theorem tz_uniq (s : Nat) (h : s < 22) (h2 : 2 ≤ s) (s' : Nat) (h' : s' < 22) (h2' : 2 ≤ s') (e : s ≠ s') (el : tzWl s = tzWl s') (q : ∀ i, i < tzWl s → strCh s i = strCh s' i) : False := by
  rcases tz_uniq0 s h s' h' with a | a | a | a | a
  · omega
  · omega
  · exact e a
  · exact a el
  · have b : tzSame s s' = true := List.all_eq_true.mpr (fun i hi => decide_eq_true (q i (List.mem_range.mp hi)))
    rw [b] at a
    cases a
theorem tz_one {tp : Nat → Int} {a n s s' : Nat} (h : 2 ≤ s ∧ s < 22) (h' : 2 ≤ s' ∧ s' < 22) (q : tzWm tp s a n) (q' : tzWm tp s' a n) : s = s' := by
  by_cases e : s = s'
  · exact e
  · exfalso
    refine tz_uniq s h.2 h.1 s' h'.2 h'.1 e (q.1.symm.trans q'.1) (fun i hi => ?_)
    have hi2 : i < n := by rw [q.1]; exact hi
    exact (q.2 i hi2).symm.trans (q'.2 i hi2)
theorem tz_wl : ∀ s, s < 22 → 2 ≤ s → 2 ≤ tzWl s ∧ tzWl s ≤ 6 := by decide +kernel
theorem tz_sx : ∀ w, w < 20 → 2 ≤ tzSx w ∧ tzSx w < 22 := by decide +kernel
theorem tz_ch : ∀ s, s < 22 → ∀ i, i < 103 → 0 ≤ strCh s i ∧ strCh s i ≤ 127 := by decide +kernel
theorem tz_wb : ∀ w, w < 20 → tzWb (w + 1) = tzWb w + tzWl (tzSx w) + 1 ∧ tzWb (w + 1) ≤ 102 ∧ strCh 0 (tzWb w + tzWl (tzSx w)) = 32 ∧ ∀ i, i < 7 → i < tzWl (tzSx w) → strCh 0 (tzWb w + i) ≠ 32 ∧ strCh 0 (tzWb w + i) = strCh (tzSx w) i := by decide +kernel
theorem tz_len0 : strLen 0 = 102 := rfl
theorem tz_len (s : Nat) : strLen s = (tzWl s : Nat) := rfl
/-! one word, both sides -/
theorem X_same_s {g : AG} {tp : Nat → Int} {L : Nat} (hL : L ≤ 500) (ht : ∀ k, k < L → g 41 k = tp k ∧ 0 ≤ tp k ∧ tp k ≤ 255) {a b n : Nat} (ha : a + n ≤ L) (hb : b + n ≤ 102) : ∀ m i : Nat, i + m = n → Parser_isSame_b a b n g i = some (if ∀ j, j < n → i ≤ j → tp (a + j) = strCh 0 (b + j) then 1 else 0) := by
  intro m
  induction m with
  | zero =>
    intro i h
    rw [Parser_isSame_b, nwN n (by (try clear n1); (try clear n2); omega), nwN i (by (try clear n1); (try clear n2); omega), if_pos (by (try clear n1); (try clear n2); omega), if_pos (fun j h1 h2 => by (try clear n1); (try clear n2); omega)]
  | succ m ih =>
    intro i h
    have t := ht (a + i) (by (try clear n1); (try clear n2); omega)
    have c := tz_ch 0 (by (try clear n1); (try clear n2); omega) (b + i) (by (try clear n1); (try clear n2); omega)
    have e1 : (a : Int) + (i : Int) = ((a + i : Nat) : Int) := rfl
    have e2 : (b : Int) + (i : Int) = ((b + i : Nat) : Int) := rfl
    have n1 : nw (tp (a + i)) = tp (a + i) := nw_id (by (try clear n1); (try clear n2); omega) (by (try clear n1); (try clear n2); omega)
    have n2 : nw (strCh 0 (b + i)) = strCh 0 (b + i) := nw_id (by (try clear n1); (try clear n2); omega) (by (try clear n1); (try clear n2); omega)
    rw [Parser_isSame_b, nwN n (by (try clear n1); (try clear n2); omega), nwN i (by (try clear n1); (try clear n2); omega), if_neg (by (try clear n1); (try clear n2); omega), e1, e2, nwN (a + i) (by (try clear n1); (try clear n2); omega), nwN (b + i) (by (try clear n1); (try clear n2); omega), tz_len0, if_pos (by (try clear n1); (try clear n2); omega), if_pos (by (try clear n1); (try clear n2); omega), ixN (a + i) (by (try clear n1); (try clear n2); omega), ixN (b + i) (by (try clear n1); (try clear n2); omega), t.1, n1, n2]
    by_cases q : tp (a + i) = strCh 0 (b + i)
    · rw [if_pos q]
      have e := ih (i + 1) (by (try clear n1); (try clear n2); omega)
      have e' : Parser_isSame_b a b n g ((i : Int) + 1) = _ := e
      rw [e']
      by_cases z : ∀ j, j < n → i + 1 ≤ j → tp (a + j) = strCh 0 (b + j)
      · rw [if_pos z, if_pos (fun j h1 h2 => by
          by_cases y : j = i
          · rw [y]; exact q
          · exact z j h1 (by (try clear n1); (try clear n2); omega))]
      · rw [if_neg z, if_neg (fun y => z (fun j h1 h2 => y j h1 (by (try clear n1); (try clear n2); omega)))]
    · rw [if_neg q, if_neg (fun z => q (z i (by (try clear n1); (try clear n2); omega) (Nat.le_refl i)))]
theorem X_walk_s {g : AG} {a e : Int} {c : Int} {w : Nat} (hw : w < 20) : ∀ m i : Nat, i + m = tzWl (tzSx w) → Parser_wordOf_b a e g 1 c (tzWb w : Nat) ((tzWb w + i : Nat) : Int) = Parser_wordOf_b a e g 1 c (tzWb w : Nat) ((tzWb w + tzWl (tzSx w) : Nat) : Int) := by
  intro m
  induction m with
  | zero => intro i h; rw [show tzWb w + i = tzWb w + tzWl (tzSx w) by (try clear n2); omega]
  | succ m ih =>
    intro i h
    have t := tz_wb w hw
    have sx := tz_sx w hw
    have wl := tz_wl (tzSx w) sx.2 sx.1
    have ti := t.2.2.2 i (by (try clear n2); omega) (by (try clear n2); omega)
    have c1 := tz_ch 0 (by (try clear n2); omega) (tzWb w + i) (by (try clear n2); omega)
    have n2 : nw (strCh 0 (tzWb w + i)) = strCh 0 (tzWb w + i) := nw_id (by (try clear n2); omega) (by (try clear n2); omega)
    have e1 := ih (i + 1) (by (try clear n2); omega)
    rw [← e1, Parser_wordOf_b, if_pos rfl, tz_len0, nwN (tzWb w + i) (by (try clear n2); omega), nw_id (a := 102) (by decide) (by decide), if_neg (by (try clear n2); omega), if_pos (by (try clear n2); omega), ixN (tzWb w + i) (by (try clear n2); omega), n2, if_neg ti.1, Parser_wordOf_b, if_neg (by decide), if_neg (by decide), if_pos rfl]
    rfl
theorem X_word_t {g : AG} {tp : Nat → Int} {L : Nat} (hL : L ≤ 500) (ht : ∀ k, k < L → g 41 k = tp k ∧ 0 ≤ tp k ∧ tp k ≤ 255) {a n : Nat} (ha : a + n ≤ L) : ∀ k w : Nat, w + k = 20 → Parser_wordOf_b a ((a + n : Nat) : Int) g 1 ((100 + w : Nat) : Int) (tzWb w : Nat) (tzWb w : Nat) = some (if tzIdx tp a n k w = 20 then 1 else ((100 + tzIdx tp a n k w : Nat) : Int)) := by
  intro k
  induction k with
  | zero =>
    intro w h
    have hw : w = 20 := by omega
    subst hw
    rw [Parser_wordOf_b, if_pos rfl, tz_len0, nw_id (a := 102) (by decide) (by decide), show tzWb 20 = 102 from rfl, nwN 102 (by omega), if_pos (by decide), show tzIdx tp a n 0 20 = 20 from rfl, if_pos rfl]
  | succ k ih =>
    intro w h
    have hw : w < 20 := by omega
    have t := tz_wb w hw
    have sx := tz_sx w hw
    have wl := tz_wl (tzSx w) sx.2 sx.1
    have e0 := X_walk_s (g := g) (a := a) (e := ((a + n : Nat) : Int)) (c := ((100 + w : Nat) : Int)) hw (tzWl (tzSx w)) 0 (by omega)
    have e1 := ih (w + 1) (by omega)
    have s1 : ((tzWb w + tzWl (tzSx w) : Nat) : Int) - (tzWb w : Nat) = ((tzWl (tzSx w) : Nat) : Int) := by omega
    have s2 : ((a + n : Nat) : Int) - (a : Int) = (n : Int) := by omega
    have e0' : Parser_wordOf_b a ((a + n : Nat) : Int) g 1 ((100 + w : Nat) : Int) (tzWb w : Nat) (tzWb w : Nat) = Parser_wordOf_b a ((a + n : Nat) : Int) g 1 ((100 + w : Nat) : Int) (tzWb w : Nat) ((tzWb w + tzWl (tzSx w) : Nat) : Int) := e0
    have next : Parser_wordOf_b a ((a + n : Nat) : Int) g 2 ((100 + w : Nat) : Int) (tzWb w : Nat) ((tzWb w + tzWl (tzSx w) : Nat) : Int) = some (if tzIdx tp a n k (w + 1) = 20 then 1 else ((100 + tzIdx tp a n k (w + 1) : Nat) : Int)) := by
      rw [Parser_wordOf_b, if_neg (by decide), if_pos rfl, Parser_wordOf_b, if_neg (by decide), if_neg (by decide), if_pos rfl]
      have e2 : ((tzWb w + tzWl (tzSx w) : Nat) : Int) + 1 = ((tzWb (w + 1) : Nat) : Int) := by omega
      rw [e2]
      exact e1
    rw [e0', Parser_wordOf_b, if_pos rfl, tz_len0, nwN (tzWb w + tzWl (tzSx w)) (by omega), nw_id (a := 102) (by decide) (by decide), if_neg (by omega), if_pos (by omega), ixN (tzWb w + tzWl (tzSx w)) (by omega), t.2.2.1, nw_id (a := 32) (by decide) (by decide), if_pos rfl, s1, s2, nwN n (by omega), nwN (tzWl (tzSx w)) (by omega)]
    unfold tzIdx
    by_cases y : n = tzWl (tzSx w)
    · rw [if_pos (by omega)]
      have sm := X_same_s (g := g) hL ht (a := a) (b := tzWb w) (n := tzWl (tzSx w)) (by omega) (by omega) (tzWl (tzSx w)) 0 (by omega)
      have sm' : Parser_isSame (a : Int) (tzWb w : Nat) ((tzWl (tzSx w) : Nat) : Int) g = _ := sm
      rw [sm', sb]
      by_cases z : ∀ j, j < tzWl (tzSx w) → 0 ≤ j → tp (a + j) = strCh 0 (tzWb w + j)
      · have z2 : tzWm tp (tzSx w) a n := ⟨y, fun i hi => by
          rw [z i (by omega) (Nat.zero_le i)]
          exact (t.2.2.2 i (by omega) (by omega)).2⟩
        rw [if_pos z, if_pos z2, nw_1, if_neg (by decide), if_neg (by omega)]
      · have z2 : ¬ tzWm tp (tzSx w) a n := fun q => z (fun j hj _ => by
          rw [q.2 j (by omega)]
          exact (t.2.2.2 j (by omega) (by omega)).2.symm)
        rw [if_neg z, if_neg z2, nw_0, if_pos rfl]
        exact next
    · have z2 : ¬ tzWm tp (tzSx w) a n := fun q => y q.1
      rw [if_neg (by omega), if_neg z2]
      exact next
theorem X_wordOf_s {g : AG} {tp : Nat → Int} {L : Nat} (hL : L ≤ 500) (ht : ∀ k, k < L → g 41 k = tp k ∧ 0 ≤ tp k ∧ tp k ≤ 255) {a e : Nat} (ha : a ≤ e) (he : e ≤ L) : Parser_wordOf a e g = some (if tzIdx tp a (e - a) 20 0 = 20 then 1 else ((100 + tzIdx tp a (e - a) 20 0 : Nat) : Int)) := by
  have h := X_word_t (g := g) hL ht (a := a) (n := e - a) (by omega) 20 0 (by omega)
  rw [show a + (e - a) = e by omega] at h
  exact h
theorem M_is_0 {g : AG} {s : Nat} {x : Int} : M_is_b s g 0 x = some 0 := by
  rw [M_is_b, nw_0, if_pos (Or.inl rfl), if_pos rfl]
  by_cases e : nw (strLen s) ≤ nw x
  · rw [if_pos e]
  · rw [if_neg e]
theorem M_is_t {g : AG} {tp : Nat → Int} {L : Nat} (hL : L ≤ 500) (ht : ∀ k, k < L → g 146 k = tp k ∧ 0 ≤ tp k ∧ tp k ≤ 255) {a s : Nat} (h40 : g 117 40 = a) (hs : 2 ≤ s ∧ s < 22) (ha : a + tzWl s ≤ L) : ∀ m i : Nat, i + m = tzWl s → M_is_b s g 1 i = some (if ∀ j, j < tzWl s → i ≤ j → tp (a + j) = strCh s j then 1 else 0) := by
  have wl := tz_wl s hs.2 hs.1
  intro m
  induction m with
  | zero =>
    intro i h
    rw [M_is_b, tz_len, nwN (tzWl s) (by (try clear n1); (try clear n2); omega), nwN i (by (try clear n1); (try clear n2); omega), if_pos (by (try clear n1); (try clear n2); omega), if_pos (Or.inr rfl), if_pos (fun j h1 h2 => by (try clear n1); (try clear n2); omega)]
  | succ m ih =>
    intro i h
    have t := ht (a + i) (by (try clear n1); (try clear n2); omega)
    have c := tz_ch s hs.2 i (by (try clear n1); (try clear n2); omega)
    have e1 : (a : Int) + (i : Int) = ((a + i : Nat) : Int) := rfl
    have n1 : nw (tp (a + i)) = tp (a + i) := nw_id (by (try clear n1); (try clear n2); omega) (by (try clear n1); (try clear n2); omega)
    have n2 : nw (strCh s i) = strCh s i := nw_id (by (try clear n1); (try clear n2); omega) (by (try clear n1); (try clear n2); omega)
    rw [M_is_b, tz_len, nwN (tzWl s) (by (try clear n1); (try clear n2); omega), nwN i (by (try clear n1); (try clear n2); omega), if_neg (by (try clear n1); (try clear n2); omega), nw_1, if_neg (by decide), h40, e1, nwN (a + i) (by (try clear n1); (try clear n2); omega), if_pos (by (try clear n1); (try clear n2); omega), if_pos (by (try clear n1); (try clear n2); omega), ixN (a + i) (by (try clear n1); (try clear n2); omega), ixN i (by (try clear n1); (try clear n2); omega), t.1, n1, n2, sb]
    by_cases q : tp (a + i) = strCh s i
    · rw [if_pos q]
      have e := ih (i + 1) (by (try clear n1); (try clear n2); omega)
      have e' : M_is_b s g 1 ((i : Int) + 1) = _ := e
      rw [e']
      by_cases z : ∀ j, j < tzWl s → i + 1 ≤ j → tp (a + j) = strCh s j
      · rw [if_pos z, if_pos (fun j h1 h2 => by
          by_cases y : j = i
          · rw [y]; exact q
          · exact z j h1 (by (try clear n1); (try clear n2); omega))]
      · rw [if_neg z, if_neg (fun y => z (fun j h1 h2 => y j h1 (by (try clear n1); (try clear n2); omega)))]
    · rw [if_neg q, M_is_0, if_neg (fun z => q (z i (by (try clear n1); (try clear n2); omega) (Nat.le_refl i)))]
theorem M_is_s {g : AG} {tp : Nat → Int} {L : Nat} (hL : L ≤ 500) (ht : ∀ k, k < L → g 146 k = tp k ∧ 0 ≤ tp k ∧ tp k ≤ 255) {a e s : Nat} (h40 : g 117 40 = a) (h38 : g 117 38 = e) (hs : 2 ≤ s ∧ s < 22) (ha : a ≤ e) (he : e ≤ L) : M_is s g = some (if tzWm tp s a (e - a) then 1 else 0) := by
  have wl := tz_wl s hs.2 hs.1
  unfold M_is
  rw [h40, h38, tz_len, nwN (tzWl s) (by omega), show (e : Int) - (a : Int) = ((e - a : Nat) : Int) by omega, nwN (e - a) (by omega), sb]
  by_cases y : e - a = tzWl s
  · rw [if_pos (by omega)]
    have h := M_is_t (g := g) hL ht h40 hs (by omega) (tzWl s) 0 (by omega)
    have h' : M_is_b s g 1 0 = _ := h
    rw [h']
    by_cases z : ∀ j, j < tzWl s → 0 ≤ j → tp (a + j) = strCh s j
    · rw [if_pos z, if_pos ⟨y, fun i hi => z i (by omega) (Nat.zero_le i)⟩]
    · rw [if_neg z, if_neg (fun q => z (fun j hj _ => q.2 j (by omega)))]
  · rw [if_neg (by omega), M_is_0, if_neg (fun q => y q.1)]
theorem M_word_s {g : AG} {tp : Nat → Int} {L : Nat} (hL : L ≤ 500) (ht : ∀ k, k < L → g 146 k = tp k ∧ 0 ≤ tp k ∧ tp k ≤ 255) {a e : Nat} (h40 : g 117 40 = a) (h38 : g 117 38 = e) (ha : a ≤ e) (he : e ≤ L) : M_word g = some (tzMc (tzIdx tp a (e - a) 20 0)) := by
  obtain ⟨w, hw⟩ : ∃ w, w = tzIdx tp a (e - a) 20 0 := ⟨_, rfl⟩
  have r := tzIdx_rng (tp := tp) (a := a) (n := e - a) 20 0
  have hit := tzIdx_hit (tp := tp) (a := a) (n := e - a) 20 0
  have no := tzIdx_no (tp := tp) (a := a) (n := e - a) 20 0
  rw [← hw] at r hit no ⊢
  have inv : ∀ s, s < 22 → 2 ≤ s → ∃ v, v < 20 ∧ tzSx v = s := by decide +kernel
  have H : ∀ s, 2 ≤ s ∧ s < 22 → M_is s g = some (if w < 20 ∧ s = tzSx w then 1 else 0) := by
    intro s hs
    rw [M_is_s hL ht h40 h38 hs ha he]
    by_cases y : w < 20 ∧ s = tzSx w
    · rw [if_pos y, if_pos (by rw [y.2]; exact hit (by omega))]
    · rw [if_neg y, if_neg (fun q => ?_)]
      obtain ⟨v, v1, v2⟩ := inv s hs.2 hs.1
      by_cases z : w < 20
      · exact y ⟨z, tz_one hs (tz_sx w z) q (hit (by omega))⟩
      · exact no v (Nat.zero_le v) (by omega) (by rw [v2]; exact q)
  unfold M_word
  rw [H 2 (by omega), H 3 (by omega), H 4 (by omega), H 5 (by omega), H 6 (by omega), H 7 (by omega), H 8 (by omega), H 9 (by omega), H 10 (by omega), H 11 (by omega), H 12 (by omega), H 13 (by omega), H 14 (by omega), H 15 (by omega), H 16 (by omega), H 17 (by omega), H 18 (by omega), H 19 (by omega), H 20 (by omega), H 21 (by omega)]
  clear H hit no hw inv
  have c : w = 0 ∨ w = 1 ∨ w = 2 ∨ w = 3 ∨ w = 4 ∨ w = 5 ∨ w = 6 ∨ w = 7 ∨ w = 8 ∨ w = 9 ∨ w = 10 ∨ w = 11 ∨ w = 12 ∨ w = 13 ∨ w = 14 ∨ w = 15 ∨ w = 16 ∨ w = 17 ∨ w = 18 ∨ w = 19 ∨ w = 20 := by omega
  clear r
  rcases c with rfl | rfl | rfl | rfl | rfl | rfl | rfl | rfl | rfl | rfl | rfl | rfl | rfl | rfl | rfl | rfl | rfl | rfl | rfl | rfl | rfl <;> decide +kernel
end
section
/-! plain programs: the class's scan; the reference's next token -/
def tzW (tp : Nat → Int) (L p : Nat) : Nat := rnT tzLB tp (L - p) p
def tzD (tp : Nat → Int) (L p : Nat) : Nat := rnT tzDB tp (L - p) p
def tzS (tp : Nat → Int) (L p : Nat) : Nat := rnT tzBB tp (L - p) p
def tzE (tp : Nat → Int) (L p : Nat) : Nat := if p < L then (if tzLtr (tp p) then tzW tp L p else if tzDgt (tp p) then tzD tp L p else p + 1) else p
def tzV (tp : Nat → Int) : Nat → Nat → Int → Int
  | 0, _, v => v
  | n + 1, p, v => tzV tp n (p + 1) (v * 10 + tp p - 48)
def tzSg (c : Int) : Bool := [59, 43, 45, 42, 47, 40, 41, 60, 61, 62].contains c
def tzX (tp : Nat → Int) (L p : Nat) : Int := if p < L then (if tzLtr (tp p) then (if tzIdx tp p (tzW tp L p - p) 20 0 = 20 then 1 else ((100 + tzIdx tp p (tzW tp L p - p) 20 0 : Nat) : Int)) else if tzDgt (tp p) then (if tzD tp L p - p ≤ 4 then 1000 + tzV tp (tzD tp L p - p) p 0 else 1) else if tzSg (tp p) = true then tp p else 1) else 0
def tzM (tp : Nat → Int) (L p : Nat) : Int := if p < L then (if tzLtr (tp p) then tzMc (tzIdx tp p (tzW tp L p - p) 20 0) else if tzDgt (tp p) then (if 5 ≤ tzD tp L p - p then 1 else 2) else if tzSg (tp p) = true then 100 + tp p else 1) else 0
def tzVal (tp : Nat → Int) (L p : Nat) : Int := tzV tp (tzD tp L p - p) p 0
def tpl (tp : Nat → Int) (L : Nat) : Nat → Nat
  | 0 => tzS tp L 0
  | k + 1 => tzS tp L (tzE tp L (tpl tp L k))
def TpOk (tp : Nat → Int) (L : Nat) : Prop := L ≤ 500 ∧ ∀ k, k < L → 0 ≤ tp k ∧ tp k ≤ 255
theorem tzBB_t {c : Int} : tzBB c = true ↔ tzBlk c := decide_eq_true_iff
theorem tzLB_t {c : Int} : tzLB c = true ↔ tzLtr c := decide_eq_true_iff
theorem tzDB_t {c : Int} : tzDB c = true ↔ tzDgt c := decide_eq_true_iff
theorem tzS_rng {tp : Nat → Int} {L p : Nat} (h : p ≤ L) : p ≤ tzS tp L p ∧ tzS tp L p ≤ L := by
  have r := rnT_le (P := tzBB) (tp := tp) (L - p) p
  unfold tzS
  omega
theorem tzS_no {tp : Nat → Int} {L p : Nat} (h : p < L) (h2 : ¬ tzBlk (tp p)) : tzS tp L p = p := by
  unfold tzS
  rw [show L - p = (L - (p + 1)) + 1 by omega]
  unfold rnT
  rw [if_neg (fun q => h2 (tzBB_t.mp q))]
theorem tzS_bl {tp : Nat → Int} {L p : Nat} (h : p < L) (h2 : tzBlk (tp p)) : tzS tp L p = tzS tp L (p + 1) := by
  unfold tzS
  rw [show L - p = (L - (p + 1)) + 1 by omega, rnT, if_pos (tzBB_t.mpr h2)]
theorem tzS_end {tp : Nat → Int} {L : Nat} : tzS tp L L = L := by
  unfold tzS
  rw [Nat.sub_self]
  rfl
theorem tzS_out {tp : Nat → Int} {L p : Nat} (hp : p ≤ L) (h : tzS tp L p < L) : ¬ tzBlk (tp (tzS tp L p)) := by
  intro q
  have e := rnT_end (P := tzBB) (tp := tp) (L - p) p (by unfold tzS at h; omega)
  have e2 : tzBB (tp (tzS tp L p)) = false := e
  rw [tzBB_t.mpr q] at e2
  cases e2
theorem tzW_rng {tp : Nat → Int} {L p : Nat} (h : p < L) (h2 : tzLtr (tp p)) : p < tzW tp L p ∧ tzW tp L p ≤ L := by
  unfold tzW
  rw [show L - p = (L - (p + 1)) + 1 by omega, rnT, if_pos (tzLB_t.mpr h2)]
  have r := rnT_le (P := tzLB) (tp := tp) (L - (p + 1)) (p + 1)
  omega
theorem tzD_rng {tp : Nat → Int} {L p : Nat} (h : p < L) (h2 : tzDgt (tp p)) : p < tzD tp L p ∧ tzD tp L p ≤ L := by
  unfold tzD
  rw [show L - p = (L - (p + 1)) + 1 by omega, rnT, if_pos (tzDB_t.mpr h2)]
  have r := rnT_le (P := tzDB) (tp := tp) (L - (p + 1)) (p + 1)
  omega
theorem tzE_rng {tp : Nat → Int} {L p : Nat} (h : p < L) : p < tzE tp L p ∧ tzE tp L p ≤ L := by
  unfold tzE
  rw [if_pos h]
  by_cases a : tzLtr (tp p)
  · rw [if_pos a]; exact tzW_rng h a
  · rw [if_neg a]
    by_cases b : tzDgt (tp p)
    · rw [if_pos b]; exact tzD_rng h b
    · rw [if_neg b]; omega
theorem tpl_rng {tp : Nat → Int} {L : Nat} : ∀ k : Nat, tpl tp L k ≤ L ∧ tzE tp L (tpl tp L k) ≤ L
  | 0 => by
    have h := tzS_rng (tp := tp) (L := L) (p := 0) (by omega)
    show tzS tp L 0 ≤ L ∧ tzE tp L (tzS tp L 0) ≤ L
    refine ⟨h.2, ?_⟩
    by_cases e : tzS tp L 0 < L
    · exact (tzE_rng e).2
    · unfold tzE; rw [if_neg e]; exact h.2
  | k + 1 => by
    have h := tzS_rng (tp := tp) (L := L) (p := tzE tp L (tpl tp L k)) (tpl_rng k).2
    show tzS tp L (tzE tp L (tpl tp L k)) ≤ L ∧ tzE tp L (tzS tp L (tzE tp L (tpl tp L k))) ≤ L
    refine ⟨h.2, ?_⟩
    by_cases e : tzS tp L (tzE tp L (tpl tp L k)) < L
    · exact (tzE_rng e).2
    · unfold tzE at e ⊢; rw [if_neg e]; exact h.2
theorem tzV_rng {tp : Nat → Int} : ∀ (n i : Nat) (v : Int), 0 ≤ v → (∀ j, i ≤ j → j < i + n → tzDgt (tp j)) → 0 ≤ tzV tp n i v ∧ tzV tp n i v + 1 ≤ (v + 1) * 10 ^ n
  | 0, i, v, h, _ => by unfold tzV; simp; omega
  | n + 1, i, v, h, hd => by
    have d := hd i (Nat.le_refl i) (by omega)
    have r := tzV_rng n (i + 1) (v * 10 + tp i - 48) (by omega) (fun j h1 h2 => hd j (by omega) (by omega))
    unfold tzV
    refine ⟨r.1, Int.le_trans r.2 ?_⟩
    have p : (0 : Int) ≤ 10 ^ n := Int.pow_nonneg (by omega)
    have m := Int.mul_le_mul_of_nonneg_right (show v * 10 + tp i - 48 + 1 ≤ (v + 1) * 10 by omega) p
    rw [Int.mul_assoc] at m
    rw [Int.pow_succ, Int.mul_comm (10 ^ n) 10]
    exact m
theorem tzV_le {tp : Nat → Int} {L p : Nat} (h : p < L) (h4 : tzD tp L p - p ≤ 4) : 0 ≤ tzVal tp L p ∧ tzVal tp L p ≤ 9999 := by
  have r := tzV_rng (tp := tp) (tzD tp L p - p) p 0 (by omega) (fun j h1 h2 => tzDB_t.mp (rnT_all (P := tzDB) (tp := tp) (L - p) p j h1 (by
    have : tzD tp L p = rnT tzDB tp (L - p) p := rfl
    omega)))
  unfold tzVal
  have p4 : ∀ m, m ≤ 4 → (10 : Int) ^ m ≤ 10000 := by decide
  have := p4 _ h4
  omega
/-- a token's code in the class, in the reference, its number -/
def tokR (x m v : Int) : Prop := (x = 0 ∧ m = 0) ∨ (x = 1 ∧ m = 1) ∨ (1000 ≤ x ∧ x ≤ 10999 ∧ m = 2 ∧ v = x - 1000) ∨ (100 ≤ x ∧ x ≤ 104 ∧ m = x - 80) ∨ (105 ≤ x ∧ x ≤ 106 ∧ m = x - 98) ∨ (107 ≤ x ∧ x ≤ 110 ∧ m = x - 104) ∨ (111 ≤ x ∧ x ≤ 119 ∧ m = x - 70) ∨ (40 ≤ x ∧ x ≤ 62 ∧ m = x + 100)
theorem tzMc_r : ∀ w, w < 20 → tokR ((100 + w : Nat) : Int) (tzMc w) 0 := by unfold tokR; decide +kernel
theorem tzSg_r : ∀ n : Nat, n < 256 → tzSg (n : Int) = true → (40 : Int) ≤ n ∧ (n : Int) ≤ 62 := by decide +kernel
theorem tz_rel {tp : Nat → Int} {L p : Nat} (O : TpOk tp L) : tokR (tzX tp L p) (tzM tp L p) (tzVal tp L p) := by
  unfold tzX tzM
  by_cases h : p < L
  · rw [if_pos h, if_pos h]
    by_cases a : tzLtr (tp p)
    · rw [if_pos a, if_pos a]
      have r := tzIdx_rng (tp := tp) (a := p) (n := tzW tp L p - p) 20 0
      by_cases e : tzIdx tp p (tzW tp L p - p) 20 0 = 20
      · rw [if_pos e, e]
        exact Or.inr (Or.inl ⟨rfl, rfl⟩)
      · rw [if_neg e]
        have q := tzMc_r _ (show tzIdx tp p (tzW tp L p - p) 20 0 < 20 by omega)
        rcases q with q | q | ⟨q1, q⟩ | q
        · exact Or.inl q
        · exact Or.inr (Or.inl q)
        · exact absurd q1 (by omega)
        · exact Or.inr (Or.inr (Or.inr q))
    · rw [if_neg a, if_neg a]
      by_cases b : tzDgt (tp p)
      · rw [if_pos b, if_pos b]
        by_cases e : tzD tp L p - p ≤ 4
        · have := tzV_le h e
          rw [if_pos e, if_neg (by omega)]
          have e2 : tzVal tp L p = tzV tp (tzD tp L p - p) p 0 := rfl
          refine Or.inr (Or.inr (Or.inl ⟨?_, ?_, ?_, ?_⟩)) <;> omega
        · rw [if_neg e, if_pos (by omega)]
          exact Or.inr (Or.inl ⟨rfl, rfl⟩)
      · rw [if_neg b, if_neg b]
        by_cases e : tzSg (tp p) = true
        · rw [if_pos e, if_pos e]
          have t := O.2 p h
          have q := tzSg_r (tp p).toNat (by omega) (by rw [show (((tp p).toNat : Nat) : Int) = tp p by omega]; exact e)
          refine Or.inr (Or.inr (Or.inr (Or.inr (Or.inr (Or.inr (Or.inr ⟨?_, ?_, ?_⟩)))))) <;> omega
        · rw [if_neg e, if_neg e]
          exact Or.inr (Or.inl ⟨rfl, rfl⟩)
  · rw [if_neg h, if_neg h]
    exact Or.inl ⟨rfl, rfl⟩
/-! the class -/
def TapX (g : AG) (tp : Nat → Int) (L : Nat) : Prop := g 4 2 = L ∧ ∀ k, k < L → g 41 k = tp k
theorem add_s {g : AG} {x y : Int} {t : Nat} (h : g 4 5 = t) (ht : t ≤ 500) : Parser_add x y g = some (0, up (up (up g 42 t x) 43 t y) 4 5 ((t : Int) + 1)) := by
  unfold Parser_add
  have u1 : (up g 42 t x) 4 5 = t := by rw [up_at, if_neg (fun q => absurd q.1 (by decide))]; exact h
  have u2 : (up (up g 42 t x) 43 t y) 4 5 = t := by rw [up_at, if_neg (fun q => absurd q.1 (by decide))]; exact u1
  rw [h, nwN t (by omega), ixN t (by omega), if_neg (by omega), if_pos (by omega), sb, u1, nwN t (by omega), ixN t (by omega), if_pos (by omega), sb, u2, sb, sb]
theorem up3_at {g : AG} {t : Nat} {x y v : Int} (k : Nat) : (up (up (up g 42 t x) 43 t y) 4 5 v) 42 k = (if k = t then x else g 42 k) ∧ (up (up (up g 42 t x) 43 t y) 4 5 v) 43 k = (if k = t then y else g 43 k) := by
  constructor <;> simp only [up_at, Nat.reduceEqDiff, false_and, true_and, if_false]
theorem X_wEnd_s {g : AG} {tp : Nat → Int} {L : Nat} (O : TpOk tp L) (T : TapX g tp L) : ∀ n p : Nat, p + n = L → Parser_endOfWord_b g p p = some ((rnT tzLB tp n p : Nat) : Int) := by
  intro n
  have hL := O.1
  induction n with
  | zero =>
    intro p h
    rw [Parser_endOfWord_b, T.1, nwN L (by omega), nwN p (by omega), if_pos (by omega)]
    rfl
  | succ n ih =>
    intro p h
    have t := O.2 p (by omega)
    rw [Parser_endOfWord_b, T.1, nwN L (by omega), nwN p (by omega), if_neg (by omega), if_pos (by omega), ixN p (by omega), T.2 p (by omega)]
    unfold rnT
    by_cases e : tzLtr (tp p)
    · rw [if_neg (by rw [X_letter0 (by omega) (by omega)]; exact fun q => q e), if_pos (tzLB_t.mpr e)]
      exact ih (p + 1) (by omega)
    · rw [if_pos (by rw [X_letter0 (by omega) (by omega)]; exact e), if_neg (fun q => e (tzLB_t.mp q))]
theorem X_dEnd_s {g : AG} {tp : Nat → Int} {L : Nat} (O : TpOk tp L) (T : TapX g tp L) : ∀ n p : Nat, p + n = L → Parser_endOfDigits_b g p p = some ((rnT tzDB tp n p : Nat) : Int) := by
  intro n
  have hL := O.1
  induction n with
  | zero =>
    intro p h
    rw [Parser_endOfDigits_b, T.1, nwN L (by omega), nwN p (by omega), if_pos (by omega)]
    rfl
  | succ n ih =>
    intro p h
    have t := O.2 p (by omega)
    rw [Parser_endOfDigits_b, T.1, nwN L (by omega), nwN p (by omega), if_neg (by omega), if_pos (by omega), ixN p (by omega), T.2 p (by omega)]
    unfold rnT
    by_cases e : tzDgt (tp p)
    · rw [if_neg (by rw [X_digit0 (by omega) (by omega)]; exact fun q => q e), if_pos (tzDB_t.mpr e)]
      exact ih (p + 1) (by omega)
    · rw [if_pos (by rw [X_digit0 (by omega) (by omega)]; exact e), if_neg (fun q => e (tzDB_t.mp q))]
theorem X_num_s {g : AG} {tp : Nat → Int} {L : Nat} (O : TpOk tp L) (T : TapX g tp L) {e : Nat} (he : e ≤ L) : ∀ (n p : Nat) (v : Int), p + n = e → Parser_numberOf_b e g v p = some (1000 + tzV tp n p v) := by
  intro n
  have hL := O.1
  induction n with
  | zero =>
    intro p v h
    rw [Parser_numberOf_b, nwN e (by omega), nwN p (by omega), if_pos (by omega)]
    rfl
  | succ n ih =>
    intro p v h
    rw [Parser_numberOf_b, nwN e (by omega), nwN p (by omega), if_neg (by omega), if_pos (by omega), ixN p (by omega), T.2 p (by omega)]
    exact ih (p + 1) (v * 10 + tp p - 48) (by omega)
theorem X_sign : ∀ n : Nat, n < 256 → (if nw (strIx 1 (chrI (n : Int))) < 0 then (1 : Int) else (n : Int)) = if tzSg (n : Int) = true then (n : Int) else 1 := by decide +kernel
theorem X_scan_t {tp : Nat → Int} {L : Nat} (O : TpOk tp L) : ∀ (N p t i : Nat) (g : AG), L - p ≤ N → p ≤ L → t ≤ p → i ≤ p → TapX g tp L → g 4 5 = t → (∀ k, k < t → tpl tp L k < L ∧ g 42 k = tzX tp L (tpl tp L k) ∧ g 43 k = (tpl tp L k : Nat)) → tzS tp L p = tpl tp L t → ∃ g' T, Parser_scan_b 1 p i g = some (0, g') ∧ FR [(4, 6), (42, 0), (43, 0)] g g' ∧ T ≤ L ∧ g' 4 5 = T + 1 ∧ tpl tp L T = L ∧ (∀ k, k < T → tpl tp L k < L) ∧ ∀ k, k ≤ T → g' 42 k = tzX tp L (tpl tp L k) ∧ g' 43 k = (tpl tp L k : Nat) := by
  intro N
  have hL := O.1
  induction N with
  | zero =>
    intro p t i g hN hp ht hi T h45 hk hs
    have e : p = L := by (try clear head); (try clear np); omega
    subst e
    rw [tzS_end] at hs
    have last : Parser_scan_b 1 p i g = Parser_scan_b 2 p i g := by
      rw [Parser_scan_b.eq_1 1, if_pos rfl, nwN i (by (try clear head); (try clear np); omega), T.1, nwN p (by (try clear head); (try clear np); omega)]
      by_cases y : (500 : Int) ≤ (i : Int)
      · rw [if_pos y]
      · rw [if_neg y, if_pos (Int.le_refl _)]
    rw [last, Parser_scan_b.eq_1 2, if_neg (by decide), if_pos rfl, T.1, add_s h45 (by (try clear head); (try clear np); omega), sb]
    refine ⟨up (up (up g 42 t 0) 43 t (p : Int)) 4 5 ((t : Int) + 1), t, rfl, Fr.up (Fr.up (Fr.up Fr.rf rfl) rfl) rfl, ht, by rw [up_at, if_pos ⟨rfl, rfl⟩], hs.symm, fun k q => (hk k q).1, fun k q => ?_⟩
    rw [(up3_at k).1, (up3_at k).2]
    by_cases y : k = t
    · rw [if_pos y, if_pos y, y, ← hs]
      refine ⟨?_, rfl⟩
      unfold tzX
      rw [if_neg (by (try clear head); (try clear np); omega)]
    · rw [if_neg y, if_neg y]
      exact (hk k (by (try clear head); (try clear np); omega)).2
  | succ N ih =>
    intro p t i g hN hp ht hi T h45 hk hs
    by_cases z : p = L
    · exact ih p t i g (by (try clear head); (try clear np); omega) hp ht hi T h45 hk hs
    · have hpL : p < L := by (try clear head); (try clear np); omega
      have c := O.2 p hpL
      have head : Parser_scan_b 1 p i g = ((((if nw (Parser_isLetter (tp p)) = 0 then (if nw (Parser_isDigit (tp p)) = 0 then (if nw (tp p) = 32 then some ((p : Int) + 1, g) else (if nw (tp p) = 10 then some ((p : Int) + 1, g) else (some (if nw (strIx 1 (chrI (tp p))) < 0 then 1 else tp p) >>= fun t8 => (Parser_add t8 p g >>= fun r10 => some ((p : Int) + 1, r10.2))))) else (Parser_endOfDigits p g >>= fun r13 => (Parser_numberOf p r13 g >>= fun r15 => (Parser_add r15 p g >>= fun r17 => some (r13, r17.2))))) else (Parser_endOfWord p g >>= fun r19 => (Parser_wordOf p r19 g >>= fun r21 => (Parser_add r21 p g >>= fun r23 => some (r19, r23.2))))) : Option (Int × AG)) >>= fun r25 => Parser_scan_b 1 r25.1 ((i : Int) + 1) r25.2)) := by
        rw [Parser_scan_b.eq_1 1, if_pos rfl, nwN i (by (try clear head); (try clear np); omega), T.1, nwN L (by (try clear head); (try clear np); omega), nwN p (by (try clear head); (try clear np); omega), if_neg (by (try clear head); (try clear np); omega), if_neg (by (try clear head); (try clear np); omega), if_pos (by (try clear head); (try clear np); omega), ixN p (by (try clear head); (try clear np); omega), T.2 p hpL]
      have np : nw (tp p) = tp p := nw_id (by (try clear head); (try clear np); omega) (by (try clear head); (try clear np); omega)
      -- a token at p
      have tok : ¬ tzBlk (tp p) → ∀ x : Int, x = tzX tp L p → ∃ g' T, Parser_scan_b 1 ((tzE tp L p : Nat) : Int) ((i : Int) + 1) (up (up (up g 42 t x) 43 t p) 4 5 ((t : Int) + 1)) = some (0, g') ∧ FR [(4, 6), (42, 0), (43, 0)] g g' ∧ T ≤ L ∧ g' 4 5 = T + 1 ∧ tpl tp L T = L ∧ (∀ k, k < T → tpl tp L k < L) ∧ ∀ k, k ≤ T → g' 42 k = tzX tp L (tpl tp L k) ∧ g' 43 k = (tpl tp L k : Nat) := by
        intro nb x hx
        have er := tzE_rng (tp := tp) hpL
        rw [tzS_no hpL nb] at hs
        obtain ⟨g', T', e, f, r⟩ := ih (tzE tp L p) (t + 1) (i + 1) (up (up (up g 42 t x) 43 t p) 4 5 ((t : Int) + 1)) (by (try clear head); (try clear np); omega) er.2 (by (try clear head); (try clear np); omega) (by (try clear head); (try clear np); omega) ⟨by rw [up_at, if_neg (by (try clear head); (try clear np); omega), up_at, if_neg (fun q => absurd q.1 (by decide)), up_at, if_neg (fun q => absurd q.1 (by decide))]; exact T.1, fun k hk => by rw [up_at, if_neg (fun q => absurd q.1 (by decide)), up_at, if_neg (fun q => absurd q.1 (by decide)), up_at, if_neg (fun q => absurd q.1 (by decide))]; exact T.2 k hk⟩ (by rw [up_at, if_pos ⟨rfl, rfl⟩]; rfl) (fun k q => by
          rw [(up3_at k).1, (up3_at k).2]
          by_cases y : k = t
          · rw [if_pos y, if_pos y, y, ← hs]
            exact ⟨hpL, hx, rfl⟩
          · rw [if_neg y, if_neg y]
            exact hk k (by (try clear head); (try clear np); omega)) (by show _ = tzS tp L (tzE tp L (tpl tp L t)); rw [← hs])
        exact ⟨g', T', e, (Fr.up (Fr.up (Fr.up Fr.rf rfl) rfl) rfl).tr f, r⟩
      rw [head]
      by_cases a : tzLtr (tp p)
      · have nb : ¬ tzBlk (tp p) := by (try clear head); (try clear np); omega
        have wr := tzW_rng hpL a
        have eE : tzE tp L p = tzW tp L p := by unfold tzE; rw [if_pos hpL, if_pos a]
        have e1 : Parser_endOfWord p g = some ((tzW tp L p : Nat) : Int) := X_wEnd_s O T (L - p) p (by (try clear head); (try clear np); omega)
        have e2 := X_wordOf_s (g := g) hL (fun k hk => ⟨T.2 k hk, O.2 k hk⟩) (a := p) (e := tzW tp L p) (by (try clear head); (try clear np); omega) wr.2
        obtain ⟨g', T', e, r⟩ := tok nb _ (by unfold tzX; rw [if_pos hpL, if_pos a])
        refine ⟨g', T', ?_, r⟩
        rw [if_neg (by rw [X_letter0 (by (try clear head); (try clear np); omega) (by (try clear head); (try clear np); omega)]; exact fun q => q a), e1, sb, e2, sb, add_s h45 (by (try clear head); (try clear np); omega), sb, sb, ← e, eE]
      · rw [if_pos (by rw [X_letter0 (by (try clear head); (try clear np); omega) (by (try clear head); (try clear np); omega)]; exact a)]
        by_cases b : tzDgt (tp p)
        · have nb : ¬ tzBlk (tp p) := by (try clear head); (try clear np); omega
          have wr := tzD_rng hpL b
          have eE : tzE tp L p = tzD tp L p := by unfold tzE; rw [if_pos hpL, if_neg a, if_pos b]
          have e1 : Parser_endOfDigits p g = some ((tzD tp L p : Nat) : Int) := X_dEnd_s O T (L - p) p (by (try clear head); (try clear np); omega)
          have e2 : Parser_numberOf p (tzD tp L p : Nat) g = some (if tzD tp L p - p ≤ 4 then 1000 + tzV tp (tzD tp L p - p) p 0 else 1) := by
            unfold Parser_numberOf
            rw [show ((tzD tp L p : Nat) : Int) - (p : Int) = ((tzD tp L p - p : Nat) : Int) by (try clear head); (try clear np); omega, nwN (tzD tp L p - p) (by (try clear head); (try clear np); omega)]
            by_cases y : tzD tp L p - p ≤ 4
            · rw [if_pos (by (try clear head); (try clear np); omega), if_pos y]
              exact X_num_s O T wr.2 (tzD tp L p - p) p 0 (by (try clear head); (try clear np); omega)
            · rw [if_neg (by (try clear head); (try clear np); omega), if_neg y]
          obtain ⟨g', T', e, r⟩ := tok nb _ (by unfold tzX; rw [if_pos hpL, if_neg a, if_pos b])
          refine ⟨g', T', ?_, r⟩
          rw [if_neg (by rw [X_digit0 (by (try clear head); (try clear np); omega) (by (try clear head); (try clear np); omega)]; exact fun q => q b), e1, sb, e2, sb, add_s h45 (by (try clear head); (try clear np); omega), sb, sb, ← e, eE]
        · rw [if_pos (by rw [X_digit0 (by (try clear head); (try clear np); omega) (by (try clear head); (try clear np); omega)]; exact b), np]
          have blank : tzBlk (tp p) → ∃ g' T, Parser_scan_b 1 ((p : Int) + 1) ((i : Int) + 1) g = some (0, g') ∧ FR [(4, 6), (42, 0), (43, 0)] g g' ∧ T ≤ L ∧ g' 4 5 = T + 1 ∧ tpl tp L T = L ∧ (∀ k, k < T → tpl tp L k < L) ∧ ∀ k, k ≤ T → g' 42 k = tzX tp L (tpl tp L k) ∧ g' 43 k = (tpl tp L k : Nat) := fun bl => ih (p + 1) t (i + 1) g (by (try clear head); (try clear np); omega) (by (try clear head); (try clear np); omega) (by (try clear head); (try clear np); omega) (by (try clear head); (try clear np); omega) T h45 hk (by rw [← tzS_bl hpL bl]; exact hs)
          by_cases b1 : tp p = 32
          · obtain ⟨g', T', e, r⟩ := blank (Or.inl b1)
            refine ⟨g', T', ?_, r⟩
            rw [if_pos b1, sb]
            exact e
          · rw [if_neg b1]
            by_cases b2 : tp p = 10
            · obtain ⟨g', T', e, r⟩ := blank (Or.inr b2)
              refine ⟨g', T', ?_, r⟩
              rw [if_pos b2, sb]
              exact e
            · rw [if_neg b2]
              have nb : ¬ tzBlk (tp p) := by (try clear head); (try clear np); omega
              have sg := X_sign (tp p).toNat (by (try clear head); (try clear np); omega)
              rw [show (((tp p).toNat : Nat) : Int) = tp p by (try clear head); (try clear np); omega] at sg
              have eE : tzE tp L p = p + 1 := by unfold tzE; rw [if_pos hpL, if_neg a, if_neg b]
              obtain ⟨g', T', e, r⟩ := tok nb _ (by unfold tzX; rw [if_pos hpL, if_neg a, if_neg b])
              refine ⟨g', T', ?_, r⟩
              rw [sg, sb, add_s h45 (by (try clear head); (try clear np); omega), sb, sb, ← e, eE]
              rfl
theorem X_scan_s {tp : Nat → Int} {L : Nat} (O : TpOk tp L) {g : AG} (T : TapX g tp L) : ∃ g' T, Parser_scan g = some (0, g') ∧ FR [(4, 6), (42, 0), (43, 0)] g g' ∧ T ≤ L ∧ g' 4 5 = T + 1 ∧ tpl tp L T = L ∧ (∀ k, k < T → tpl tp L k < L) ∧ ∀ k, k ≤ T → g' 42 k = tzX tp L (tpl tp L k) ∧ g' 43 k = (tpl tp L k : Nat) := by
  obtain ⟨g', T', e, f, r⟩ := X_scan_t O L 0 0 0 (up g 4 5 0) (by omega) (by omega) (Nat.le_refl _) (Nat.le_refl _) ⟨by rw [up_at, if_neg (by omega)]; exact T.1, fun k hk => by rw [up_at, if_neg (fun q => absurd q.1 (by decide))]; exact T.2 k hk⟩ (by rw [up_at, if_pos ⟨rfl, rfl⟩]; rfl) (fun k q => by omega) rfl
  refine ⟨g', T', ?_, (Fr.up Fr.rf rfl).tr f, r⟩
  unfold Parser_scan
  rw [sb]
  exact e
end
section
/-! plain programs: the reference's next token -/
def TapM (g : AG) (tp : Nat → Int) (L : Nat) : Prop := g 117 37 = L ∧ ∀ k, k < L → g 146 k = tp k
abbrev RNX : Reg := [(117, 39), (117, 40), (117, 41), (117, 42)]
theorem TapM.fr {W : Reg} {g g' : AG} {tp : Nat → Int} {L : Nat} (h : TapM g tp L) (f : FR W g g') (d : djR [(117, 38), (146, 0)] W = true) : TapM g' tp L := ⟨by rw [f.cg d 117 37 rfl]; exact h.1, fun k hk => by rw [f.cg d 146 k rfl]; exact h.2 k hk⟩
/-- the reference stands behind the token at p -/
def MAt (tp : Nat → Int) (L : Nat) (g : AG) (p : Nat) : Prop := g 117 40 = p ∧ g 117 38 = (tzE tp L p : Nat) ∧ g 117 39 = tzM tp L p ∧ (tzM tp L p = 2 → g 117 41 = tzVal tp L p)
def tzSee (tp : Nat → Int) (L p : Nat) : Int := if p < L then tp p else -1
theorem M_see_s {g : AG} {tp : Nat → Int} {L : Nat} (O : TpOk tp L) (T : TapM g tp L) {p : Nat} (hp : p ≤ L) : M_see p g = some (tzSee tp L p) := by
  have hL := O.1
  unfold M_see tzSee
  rw [T.1, nwN L (by omega), nwN p (by omega)]
  by_cases e : p < L
  · rw [if_neg (by omega), if_pos (by omega), if_pos e, ixN p (by omega), T.2 p e, sb]
  · rw [if_pos (by omega), if_neg e, sb]
theorem tzSee_rng {tp : Nat → Int} {L p : Nat} (O : TpOk tp L) : -1 ≤ tzSee tp L p ∧ tzSee tp L p ≤ 255 ∧ nw (tzSee tp L p) = tzSee tp L p := by
  have h : -1 ≤ tzSee tp L p ∧ tzSee tp L p ≤ 255 := by
    unfold tzSee
    by_cases e : p < L
    · rw [if_pos e]
      have := O.2 p e
      omega
    · rw [if_neg e]; decide
  exact ⟨h.1, h.2, nw_id (by omega) (by omega)⟩
theorem M_skip_s {tp : Nat → Int} {L : Nat} (O : TpOk tp L) : ∀ (n p : Nat) (g : AG), p + n = L → TapM g tp L → g 117 38 = p → ∃ g', M_next0_b 1 g = M_next0_b 1 g' ∧ FR [(117, 39)] g g' ∧ g' 117 38 = (tzS tp L p : Nat) := by
  intro n
  have hL := O.1
  induction n with
  | zero =>
    intro p g h T h38
    have e : p = L := by omega
    subst e
    exact ⟨g, rfl, Fr.rf, by rw [tzS_end]; exact h38⟩
  | succ n ih =>
    intro p g h T h38
    have hp : p < L := by omega
    by_cases b : tzBlk (tp p)
    · have T1 : TapM (up g 117 38 ((p : Int) + 1)) tp L := T.fr (W := [(117, 39)]) (Fr.up Fr.rf rfl) rfl
      obtain ⟨g', e, f, r⟩ := ih (p + 1) (up g 117 38 ((p : Int) + 1)) (by omega) T1 (by rw [up_at, if_pos ⟨rfl, rfl⟩]; rfl)
      refine ⟨g', ?_, (Fr.up Fr.rf rfl).tr f, by rw [tzS_bl hp b]; exact r⟩
      have two : M_next0_b 2 g = M_next0_b 1 (up g 117 38 ((p : Int) + 1)) := by
        rw [M_next0_b.eq_1 2, if_neg (by decide), if_pos rfl, h38, sb]
      rw [← e, ← two, M_next0_b.eq_1 1, if_pos rfl, h38, M_see_s O T (by omega), sb, sb, (tzSee_rng O).2.2]
      unfold tzSee
      rw [if_pos hp]
      rcases b with b | b
      · rw [if_pos b]
      · rw [if_neg (by omega), if_pos b]
    · exact ⟨g, rfl, Fr.rf, by rw [tzS_no hp b]; exact h38⟩
theorem M_nword_s {tp : Nat → Int} {L : Nat} (O : TpOk tp L) : ∀ (n p : Nat) (g : AG), p + n = L → TapM g tp L → g 117 38 = p → ∃ g', M_next0_b 3 g = (M_word g' >>= fun r4 => (some (up g' 117 39 r4) >>= fun g6 => some ((0 : Int), g6))) ∧ FR [(117, 39)] g g' ∧ g' 117 38 = (rnT tzLB tp n p : Nat) := by
  intro n
  have hL := O.1
  induction n with
  | zero =>
    intro p g h T h38
    refine ⟨g, ?_, Fr.rf, h38⟩
    have sm1 : tzSee tp L p = -1 := by unfold tzSee; rw [if_neg (by (try clear head); omega)]
    rw [M_next0_b.eq_1 3, if_neg (by decide), if_neg (by decide), if_pos rfl, h38, M_see_s O T (by (try clear head); omega), sb, sm1, if_pos (by rw [M_letter0 (by decide) (by decide)]; decide)]
  | succ n ih =>
    intro p g h T h38
    have hp : p < L := by (try clear head); omega
    have t := O.2 p hp
    have head : M_next0_b 3 g = (if nw (M_isLetter (tp p)) = 0 then (M_word g >>= fun r4 => (some (up g 117 39 r4) >>= fun g6 => some ((0 : Int), g6))) else M_next0_b 3 (up g 117 38 ((p : Int) + 1))) := by
      rw [M_next0_b.eq_1 3, if_neg (by decide), if_neg (by decide), if_pos rfl, h38, M_see_s O T (by (try clear head); omega), sb, sb]
      unfold tzSee
      rw [if_pos hp]
    unfold rnT
    by_cases b : tzLtr (tp p)
    · rw [if_pos (tzLB_t.mpr b)]
      have T1 : TapM (up g 117 38 ((p : Int) + 1)) tp L := T.fr (W := [(117, 39)]) (Fr.up Fr.rf rfl) rfl
      obtain ⟨g', e, f, r⟩ := ih (p + 1) (up g 117 38 ((p : Int) + 1)) (by (try clear head); omega) T1 (by rw [up_at, if_pos ⟨rfl, rfl⟩]; rfl)
      refine ⟨g', ?_, (Fr.up Fr.rf rfl).tr f, r⟩
      rw [head, if_neg (by rw [M_letter0 (by (try clear head); omega) (by (try clear head); omega)]; exact fun q => q b)]
      exact e
    · rw [if_neg (fun q => b (tzLB_t.mp q))]
      refine ⟨g, ?_, Fr.rf, h38⟩
      rw [head, if_pos (by rw [M_letter0 (by (try clear head); omega) (by (try clear head); omega)]; exact b)]
def tzMv (tp : Nat → Int) (a : Nat) : Nat → Nat → Int → Int
  | 0, _, v => v
  | n + 1, p, v => if tzDgt (tp p) then tzMv tp a n (p + 1) (if a + 4 ≤ p then v else 10 * v + tp p - 48) else v
theorem tzMv_eq {tp : Nat → Int} {a : Nat} : ∀ (n p : Nat) (v : Int), a ≤ p → rnT tzDB tp n p ≤ a + 4 → tzMv tp a n p v = tzV tp (rnT tzDB tp n p - p) p v
  | 0, p, v, h, h2 => by unfold tzMv rnT; rw [Nat.sub_self]; rfl
  | n + 1, p, v, h, h2 => by
    unfold rnT at h2 ⊢
    unfold tzMv
    by_cases b : tzDgt (tp p)
    · rw [if_pos (tzDB_t.mpr b)] at h2 ⊢
      have r := rnT_le (P := tzDB) (tp := tp) n (p + 1)
      rw [if_pos b, tzMv_eq n (p + 1) _ (by omega) h2, if_neg (by omega), show rnT tzDB tp n (p + 1) - p = (rnT tzDB tp n (p + 1) - (p + 1)) + 1 by omega]
      show _ = tzV tp (rnT tzDB tp n (p + 1) - (p + 1)) (p + 1) (v * 10 + tp p - 48)
      rw [Int.mul_comm v 10]
    · rw [if_neg b, if_neg (fun q => b (tzDB_t.mp q)), Nat.sub_self]
      rfl
def vOk (a p : Nat) (v : Int) : Prop := 0 ≤ v ∧ v ≤ 9999 ∧ (p < a + 4 → v ≤ 999) ∧ (p < a + 3 → v ≤ 99) ∧ (p < a + 2 → v ≤ 9) ∧ (p < a + 1 → v ≤ 0)
theorem M_ndig_s {tp : Nat → Int} {L : Nat} (O : TpOk tp L) {a : Nat} (haL : a ≤ L) : ∀ (n p : Nat) (v : Int) (g : AG), p + n = L → a ≤ p → TapM g tp L → g 117 38 = p → g 117 40 = a → g 117 41 = v → vOk a p v → ∃ g', M_next0_b 4 g = (some (if 5 ≤ nw (g' 117 38 - g' 117 40) then (1 : Int) else 2) >>= fun t4 => (some (up g' 117 39 t4) >>= fun g6 => some ((0 : Int), g6))) ∧ FR [(117, 39), (117, 42)] g g' ∧ g' 117 38 = (rnT tzDB tp n p : Nat) ∧ g' 117 41 = tzMv tp a n p v ∧ 0 ≤ g' 117 41 ∧ g' 117 41 ≤ 9999 := by
  intro n
  have hL := O.1
  induction n with
  | zero =>
    intro p v g h hap T h38 h40 h41 hv
    refine ⟨g, ?_, Fr.rf, h38, h41, by rw [h41]; exact hv.1, by rw [h41]; exact hv.2.1⟩
    have sm1 : tzSee tp L p = -1 := by unfold tzSee; rw [if_neg (by (try clear head); (try clear mid); omega)]
    rw [M_next0_b.eq_1 4, if_neg (by decide), if_neg (by decide), if_neg (by decide), if_pos rfl, h38, M_see_s O T (by (try clear head); (try clear mid); omega), sb, sm1, if_pos (by rw [M_digit0 (by decide) (by decide)]; decide)]
  | succ n ih =>
    intro p v g h hap T h38 h40 h41 hv
    have hp : p < L := by (try clear head); (try clear mid); omega
    have t := O.2 p hp
    have see : M_see p g = some (tp p) := by
      rw [M_see_s O T (by (try clear head); (try clear mid); omega)]
      unfold tzSee
      rw [if_pos hp]
    have head : M_next0_b 4 g = (if nw (M_isDigit (tp p)) = 0 then (some (if 5 ≤ nw (g 117 38 - g 117 40) then (1 : Int) else 2) >>= fun t4 => (some (up g 117 39 t4) >>= fun g6 => some ((0 : Int), g6))) else ((((if nw ((a : Int) + 4) ≤ nw (p : Int) then some g else (some (tp p) >>= fun r10 => (some (up g 117 41 (10 * v + r10 - 48)) >>= fun g12 => some g12))) : Option AG)) >>= fun r14 => (some (up r14 117 38 (r14 117 38 + 1)) >>= fun g16 => M_next0_b 4 g16))) := by
      rw [M_next0_b.eq_1 4, if_neg (by decide), if_neg (by decide), if_neg (by decide), if_pos rfl, h38, see, sb, h40, h41]
    unfold rnT tzMv
    by_cases b : tzDgt (tp p)
    · rw [if_pos (tzDB_t.mpr b), if_pos b]
      obtain ⟨g1, hg1⟩ : ∃ g1 : AG, g1 = if a + 4 ≤ p then g else up g 117 41 (10 * v + tp p - 48) := ⟨_, rfl⟩
      have f1 : FR [(117, 42)] g g1 := by
        rw [hg1]
        by_cases c : a + 4 ≤ p
        · rw [if_pos c]; exact Fr.rf
        · rw [if_neg c]; exact Fr.up Fr.rf rfl
      have v41 : g1 117 41 = if a + 4 ≤ p then v else 10 * v + tp p - 48 := by
        rw [hg1]
        by_cases c : a + 4 ≤ p
        · rw [if_pos c, if_pos c]; exact h41
        · rw [if_neg c, if_neg c, up_at, if_pos ⟨rfl, rfl⟩]
      have f2 : FR [(117, 39), (117, 42)] g (up g1 117 38 ((p : Int) + 1)) := Fr.up (FR.mo f1 rfl) rfl
      obtain ⟨g', e, f, r⟩ := ih (p + 1) (if a + 4 ≤ p then v else 10 * v + tp p - 48) (up g1 117 38 ((p : Int) + 1)) (by (try clear head); (try clear mid); omega) (by (try clear head); (try clear mid); omega) (T.fr f2 rfl) (by rw [up_at, if_pos ⟨rfl, rfl⟩]; rfl) (by rw [f2 117 40 rfl]; exact h40) (by rw [up_at, if_neg (by (try clear head); (try clear mid); omega)]; exact v41) (by
        unfold vOk at hv ⊢
        by_cases c : a + 4 ≤ p
        · rw [if_pos c]; (try clear head); (try clear mid); omega
        · rw [if_neg c]; (try clear head); (try clear mid); omega)
      refine ⟨g', ?_, f2.tr f, r⟩
      have mid : ((if nw ((a : Int) + 4) ≤ nw (p : Int) then some g else (some (tp p) >>= fun r10 => (some (up g 117 41 (10 * v + r10 - 48)) >>= fun g12 => some g12))) : Option AG) = some g1 := by
        have e4 : (a : Int) + 4 = ((a + 4 : Nat) : Int) := rfl
        rw [hg1, e4, nwN (a + 4) (by (try clear head); (try clear mid); omega), nwN p (by (try clear head); (try clear mid); omega)]
        by_cases c : a + 4 ≤ p
        · rw [if_pos (by (try clear head); (try clear mid); omega), if_pos c]
        · rw [if_neg (by (try clear head); (try clear mid); omega), if_neg c, sb, sb]
      rw [head, if_neg (by rw [M_digit0 (by (try clear head); (try clear mid); omega) (by (try clear head); (try clear mid); omega)]; exact fun q => q b), mid, sb, sb, f1 117 38 rfl, h38]
      exact e
    · rw [if_neg (fun q => b (tzDB_t.mp q)), if_neg b]
      refine ⟨g, ?_, Fr.rf, h38, h41, by rw [h41]; exact hv.1, by rw [h41]; exact hv.2.1⟩
      rw [head, if_pos (by rw [M_digit0 (by (try clear head); (try clear mid); omega) (by (try clear head); (try clear mid); omega)]; exact b)]
theorem M_sign : ∀ n : Nat, n < 256 → (if nw (n : Int) = 59 then (1 : Int) else if nw (n : Int) = 43 then 1 else if nw (n : Int) = 45 then 1 else if nw (n : Int) = 42 then 1 else if nw (n : Int) = 47 then 1 else if nw (n : Int) = 40 then 1 else if nw (n : Int) = 41 then 1 else if nw (n : Int) = 60 then 1 else if nw (n : Int) = 61 then 1 else if nw (n : Int) = 62 then 1 else 0) = if tzSg (n : Int) = true then 1 else 0 := by decide +kernel
theorem M_next0_s {tp : Nat → Int} {L : Nat} (O : TpOk tp L) {p : Nat} {g : AG} (T : TapM g tp L) (hp : p ≤ L) (h38 : g 117 38 = p) (hv : 0 ≤ g 117 41 ∧ g 117 41 ≤ 9999) : ∃ g', M_next0 g = some (0, g') ∧ MAt tp L g' (tzS tp L p) ∧ FR RNX g g' ∧ 0 ≤ g' 117 41 ∧ g' 117 41 ≤ 9999 := by
  have hL := O.1
  obtain ⟨g1, e1, f1, r1⟩ := M_skip_s O (L - p) p g (by (try clear head); (try clear e5); (try clear eS); omega) T h38
  have T1 := T.fr f1 rfl
  have sr := tzS_rng (tp := tp) hp
  have so := tzS_out (tp := tp) hp
  have v1 : g1 117 41 = g 117 41 := f1 117 41 rfl
  obtain ⟨q, hq⟩ : ∃ q, q = tzS tp L p := ⟨_, rfl⟩
  rw [← hq] at r1 sr so ⊢
  have see := M_see_s O T1 sr.2
  have seer := tzSee_rng (tp := tp) (p := q) O
  have nb : ¬ tzSee tp L q = 32 ∧ ¬ tzSee tp L q = 10 := by
    unfold tzSee
    by_cases e : q < L
    · rw [if_pos e]
      have := so e
      (try clear head); (try clear e5); (try clear eS); omega
    · rw [if_neg e]; decide
  obtain ⟨g7, hg7⟩ : ∃ g7 : AG, g7 = up g1 117 40 q := ⟨_, rfl⟩
  have f7 : FR RNX g g7 := by rw [hg7]; exact Fr.up (FR.mo f1 rfl) rfl
  have T7 : TapM g7 tp L := T.fr f7 rfl
  have a38 : g7 117 38 = q := by rw [hg7, up_at, if_neg (by (try clear head); (try clear e5); (try clear eS); omega)]; exact r1
  have a40 : g7 117 40 = q := by rw [hg7, up_at, if_pos ⟨rfl, rfl⟩]
  have a41 : g7 117 41 = g 117 41 := by rw [hg7, up_at, if_neg (by (try clear head); (try clear e5); (try clear eS); omega)]; exact v1
  have see7 := M_see_s O T7 sr.2
  have head : M_next0 g = (if tzSee tp L q = -1 then some (0, up g7 117 39 0) else if nw (M_isLetter (tzSee tp L q)) = 0 then (if nw (M_isDigit (tzSee tp L q)) = 0 then some (0, up (up g7 117 38 ((q : Int) + 1)) 117 39 (if nw (if nw (tzSee tp L q) = 59 then (1 : Int) else if nw (tzSee tp L q) = 43 then 1 else if nw (tzSee tp L q) = 45 then 1 else if nw (tzSee tp L q) = 42 then 1 else if nw (tzSee tp L q) = 47 then 1 else if nw (tzSee tp L q) = 40 then 1 else if nw (tzSee tp L q) = 41 then 1 else if nw (tzSee tp L q) = 60 then 1 else if nw (tzSee tp L q) = 61 then 1 else if nw (tzSee tp L q) = 62 then 1 else 0) = 0 then 1 else 100 + tzSee tp L q)) else M_next0_b 4 (up g7 117 41 0)) else M_next0_b 3 g7) := by
    unfold M_next0
    rw [e1, M_next0_b.eq_1 1, if_pos rfl, r1, see, sb, seer.2.2, if_neg nb.1, sb, seer.2.2, if_neg nb.2, sb, ← hg7, a38, see7, sb, seer.2.2]
    rfl
  by_cases eq : q < L
  · have t := O.2 q eq
    have sq : tzSee tp L q = tp q := by unfold tzSee; rw [if_pos eq]
    rw [sq] at head
    by_cases b : tzLtr (tp q)
    · obtain ⟨g', e, f, r⟩ := M_nword_s O (L - q) q g7 (by (try clear head); (try clear e5); (try clear eS); omega) T7 a38
      have wr := tzW_rng eq b
      have T' := T7.fr f rfl
      have w := M_word_s (g := g') hL (fun k hk => ⟨T'.2 k hk, O.2 k hk⟩) (a := q) (e := tzW tp L q) (by rw [f 117 40 rfl]; exact a40) r (by (try clear head); (try clear e5); (try clear eS); omega) wr.2
      have f2 : FR RNX g (up g' 117 39 (tzMc (tzIdx tp q (tzW tp L q - q) 20 0))) := Fr.up (f7.tr (FR.mo f rfl)) rfl
      have eM : tzM tp L q = tzMc (tzIdx tp q (tzW tp L q - q) 20 0) := by unfold tzM; rw [if_pos eq, if_pos b]
      have n2 : ∀ w, w < 21 → tzMc w ≠ 2 := by decide +kernel
      have ir := tzIdx_rng (tp := tp) (a := q) (n := tzW tp L q - q) 20 0
      refine ⟨_, ?_, ⟨?_, ?_, ?_, fun z => absurd (eM.symm.trans z) (n2 _ (by (try clear head); (try clear e5); (try clear eS); omega))⟩, f2, ?_, ?_⟩
      · rw [head, if_neg (by (try clear head); (try clear e5); (try clear eS); omega), if_neg (by rw [M_letter0 (by (try clear head); (try clear e5); (try clear eS); omega) (by (try clear head); (try clear e5); (try clear eS); omega)]; exact fun q => q b), e, w, sb, sb]
      · rw [up_at, if_neg (by (try clear head); (try clear e5); (try clear eS); omega), f 117 40 rfl]; exact a40
      · rw [up_at, if_neg (by (try clear head); (try clear e5); (try clear eS); omega), r]; unfold tzE; rw [if_pos eq, if_pos b]; rfl
      · rw [up_at, if_pos ⟨rfl, rfl⟩, eM]
      · rw [up_at, if_neg (by (try clear head); (try clear e5); (try clear eS); omega), f 117 41 rfl, a41]; exact hv.1
      · rw [up_at, if_neg (by (try clear head); (try clear e5); (try clear eS); omega), f 117 41 rfl, a41]; exact hv.2
    · by_cases c : tzDgt (tp q)
      · obtain ⟨g', e, f, r, rv, b1, b2⟩ := M_ndig_s O sr.2 (L - q) q 0 (up g7 117 41 0) (by (try clear head); (try clear e5); (try clear eS); omega) (Nat.le_refl q) (T7.fr (W := RNX) (Fr.up Fr.rf rfl) rfl) (by rw [up_at, if_neg (by (try clear head); (try clear e5); (try clear eS); omega)]; exact a38) (by rw [up_at, if_neg (by (try clear head); (try clear e5); (try clear eS); omega)]; exact a40) (by rw [up_at, if_pos ⟨rfl, rfl⟩]) (by unfold vOk; omega)
        have dr := tzD_rng eq c
        have f8 : FR RNX g7 g' := (Fr.up (W := inR RNX) Fr.rf rfl).tr (FR.mo f rfl)
        have h40' : g' 117 40 = q := by rw [f 117 40 rfl, up_at, if_neg (by (try clear head); (try clear e5); (try clear eS); omega)]; exact a40
        have rD : g' 117 38 = (tzD tp L q : Nat) := r
        have eM : tzM tp L q = if 5 ≤ tzD tp L q - q then 1 else 2 := by unfold tzM; rw [if_pos eq, if_neg b, if_pos c]
        have e5 : (if 5 ≤ nw (g' 117 38 - g' 117 40) then (1 : Int) else 2) = if 5 ≤ tzD tp L q - q then 1 else 2 := by
          rw [rD, h40', show ((tzD tp L q : Nat) : Int) - (q : Int) = ((tzD tp L q - q : Nat) : Int) by (try clear head); (try clear e5); (try clear eS); omega, nwN (tzD tp L q - q) (by (try clear head); (try clear e5); (try clear eS); omega)]
          by_cases z : 5 ≤ tzD tp L q - q
          · rw [if_pos (by (try clear head); (try clear e5); (try clear eS); omega), if_pos z]
          · rw [if_neg (by (try clear head); (try clear e5); (try clear eS); omega), if_neg z]
        refine ⟨up g' 117 39 (tzM tp L q), ?_, ⟨?_, ?_, ?_, fun z => ?_⟩, Fr.up (f7.tr f8) rfl, ?_, ?_⟩
        · rw [head, if_neg (by (try clear head); (try clear e5); (try clear eS); omega), if_pos (by rw [M_letter0 (by (try clear head); (try clear e5); (try clear eS); omega) (by (try clear head); (try clear e5); (try clear eS); omega)]; exact b), if_neg (by rw [M_digit0 (by (try clear head); (try clear e5); (try clear eS); omega) (by (try clear head); (try clear e5); (try clear eS); omega)]; exact fun q => q c), e, e5, eM, sb, sb]
        · rw [up_at, if_neg (by (try clear head); (try clear e5); (try clear eS); omega)]; exact h40'
        · rw [up_at, if_neg (by (try clear head); (try clear e5); (try clear eS); omega), rD]; unfold tzE; rw [if_pos eq, if_neg b, if_pos c]
        · rw [up_at, if_pos ⟨rfl, rfl⟩]
        · have z5 : ¬ 5 ≤ tzD tp L q - q := fun y => by rw [eM, if_pos y] at z; omega
          rw [up_at, if_neg (by (try clear head); (try clear e5); (try clear eS); omega), rv]
          have ed : tzD tp L q = rnT tzDB tp (L - q) q := rfl
          exact tzMv_eq (L - q) q 0 (Nat.le_refl q) (by (try clear head); (try clear e5); (try clear eS); omega)
        · rw [up_at, if_neg (by (try clear head); (try clear e5); (try clear eS); omega)]; exact b1
        · rw [up_at, if_neg (by (try clear head); (try clear e5); (try clear eS); omega)]; exact b2
      · have sg := M_sign (tp q).toNat (by (try clear head); (try clear e5); (try clear eS); omega)
        rw [show (((tp q).toNat : Nat) : Int) = tp q by (try clear head); (try clear e5); (try clear eS); omega] at sg
        have eM : tzM tp L q = if tzSg (tp q) = true then 100 + tp q else 1 := by unfold tzM; rw [if_pos eq, if_neg b, if_neg c]
        have eS : (if nw (if tzSg (tp q) = true then (1 : Int) else 0) = 0 then 1 else 100 + tp q) = tzM tp L q := by
          rw [eM]
          by_cases z : tzSg (tp q) = true
          · rw [if_pos z, if_pos z, nw_1, if_neg (by decide)]
          · rw [if_neg z, if_neg z, nw_0, if_pos rfl]
        refine ⟨up (up g7 117 38 ((q : Int) + 1)) 117 39 (tzM tp L q), ?_, ⟨?_, ?_, ?_, fun z => ?_⟩, Fr.up (Fr.up f7 rfl) rfl, ?_, ?_⟩
        · rw [head, if_neg (by (try clear head); (try clear e5); (try clear eS); omega), if_pos (by rw [M_letter0 (by (try clear head); (try clear e5); (try clear eS); omega) (by (try clear head); (try clear e5); (try clear eS); omega)]; exact b), if_pos (by rw [M_digit0 (by (try clear head); (try clear e5); (try clear eS); omega) (by (try clear head); (try clear e5); (try clear eS); omega)]; exact c), sg, eS]
        · rw [up_at, if_neg (by (try clear head); (try clear e5); (try clear eS); omega), up_at, if_neg (by (try clear head); (try clear e5); (try clear eS); omega)]; exact a40
        · rw [up_at, if_neg (by (try clear head); (try clear e5); (try clear eS); omega), up_at, if_pos ⟨rfl, rfl⟩]; unfold tzE; rw [if_pos eq, if_neg b, if_neg c]; rfl
        · rw [up_at, if_pos ⟨rfl, rfl⟩]
        · exfalso
          rw [eM] at z
          by_cases y : tzSg (tp q) = true
          · rw [if_pos y] at z; omega
          · rw [if_neg y] at z; omega
        · rw [up_at, if_neg (by (try clear head); (try clear e5); (try clear eS); omega), up_at, if_neg (by (try clear head); (try clear e5); (try clear eS); omega), a41]; exact hv.1
        · rw [up_at, if_neg (by (try clear head); (try clear e5); (try clear eS); omega), up_at, if_neg (by (try clear head); (try clear e5); (try clear eS); omega), a41]; exact hv.2
  · have sq : tzSee tp L q = -1 := by unfold tzSee; rw [if_neg eq]
    have eM : tzM tp L q = 0 := by unfold tzM; rw [if_neg eq]
    refine ⟨up g7 117 39 0, ?_, ⟨?_, ?_, ?_, fun z => ?_⟩, Fr.up f7 rfl, ?_, ?_⟩
    · rw [head, if_pos sq]
    · rw [up_at, if_neg (by (try clear head); (try clear e5); (try clear eS); omega)]; exact a40
    · rw [up_at, if_neg (by (try clear head); (try clear e5); (try clear eS); omega), a38]; unfold tzE; rw [if_neg eq]
    · rw [up_at, if_pos ⟨rfl, rfl⟩, eM]
    · rw [eM] at z; omega
    · rw [up_at, if_neg (by (try clear head); (try clear e5); (try clear eS); omega), a41]; exact hv.1
    · rw [up_at, if_neg (by (try clear head); (try clear e5); (try clear eS); omega), a41]; exact hv.2
end
section
/-! plain programs: the two parsers beside each other -/
def TkOk (tp : Nat → Int) (L T : Nat) : Prop := TpOk tp L ∧ T ≤ L ∧ tpl tp L T = L ∧ ∀ k, k < T → tpl tp L k < L
def XTok (tp : Nat → Int) (L T : Nat) (g : AG) : Prop := g 4 5 = T + 1 ∧ ∀ k, k ≤ T → g 42 k = tzX tp L (tpl tp L k) ∧ g 43 k = (tpl tp L k : Nat)
abbrev RPX : Reg := [(4, 7), (4, 8), (4, 9), (3, 3), (29, 0), (30, 0)]
abbrev RPM : Reg := [(117, 39), (117, 40), (117, 41), (117, 42), (117, 43), (117, 44), (117, 37), (117, 46), (141, 0)]
theorem XTok.fr {W : Reg} {g g' : AG} {tp : Nat → Int} {L T : Nat} (h : XTok tp L T g) (f : FR W g g') (d : djR [(4, 6), (42, 0), (43, 0)] W = true) : XTok tp L T g' := ⟨by rw [f.cg d 4 5 rfl]; exact h.1, fun k hk => by rw [f.cg d 42 k rfl, f.cg d 43 k rfl]; exact h.2 k hk⟩
/-- both stand at token k, with s steps laid -/
def PRel (tp : Nat → Int) (L T k s : Nat) (gX gM : AG) : Prop :=
  XTok tp L T gX ∧ gX 4 6 = k ∧ gX 4 7 = 0 ∧ gX 3 2 = s ∧ TapM gM tp L ∧ MAt tp L gM (tpl tp L k) ∧ (0 ≤ gM 117 41 ∧ gM 117 41 ≤ 9999) ∧ gM 117 36 = s ∧ k ≤ T ∧ s ≤ 500 ∧ (∀ j, j < s → opR (gM 141 (2 * j)) (gM 141 (2 * j + 1)) (gX 29 j) (gX 30 j)) ∧ (∀ j, j < 2 * s → I32 (gM 141 j)) ∧ gX 4 8 = -1 ∧ gM 117 42 = 0
/-- the class behind a fault -/
def XF (tp : Nat → Int) (L T : Nat) (w p : Int) (g : AG) : Prop := XTok tp L T g ∧ (∃ k : Nat, k ≤ T ∧ g 4 6 = k) ∧ g 4 7 = w ∧ g 4 8 = p ∧ (∃ s : Nat, s ≤ 500 ∧ g 3 2 = s) ∧ 1 ≤ w ∧ w ≤ 3 ∧ T ≤ 500
def PFail (tp : Nat → Int) (L T : Nat) (gX gM : AG) : Prop := ∃ w p, XF tp L T w p gX ∧ gM 117 42 = w ∧ gM 117 43 = p ∧ (0 ≤ gM 117 41 ∧ gM 117 41 ≤ 9999)
def Acc (tp : Nat → Int) (L T : Nat) (E : (Nat → Int) → Nat → Nat → Prop) (k0 s0 : Nat) (X0 M0 : AG) (k s : Nat) (gX gM : AG) : Prop :=
  FR RPX X0 gX ∧ FR RPM M0 gM ∧ gM 117 45 = M0 117 45 ∧ (∀ j, j < 2 * s0 → gM 141 j = M0 141 j) ∧ PRel tp L T k s gX gM ∧ k0 ≤ k ∧ s0 ≤ s ∧ s + k0 ≤ s0 + k ∧ E (gM 141) s0 s
def PR (tp : Nat → Int) (L T : Nat) (E : (Nat → Int) → Nat → Nat → Prop) (k0 s0 : Nat) (X0 M0 : AG) (rX : AG) (rM : Int × AG) : Prop :=
  (rM.1 = 1 ∧ ∃ k s, Acc tp L T E k0 s0 X0 M0 k s rX rM.2) ∨ (rM.1 = 0 ∧ FR RPX X0 rX ∧ FR RPM M0 rM.2 ∧ PFail tp L T rX rM.2)
/-- that code puts one value -/
def EvN (h : Nat) (cd : Nat → Int) (a b : Nat) : Prop := ∀ (fc : Nat → Int) (st : List Int), st.length + h ≤ 32 → ∃ v, evl cd fc (b - a) a st = some (v :: st)
def EvB (h : Nat) (cd : Nat → Int) (a b : Nat) : Prop := ∀ (fc : Nat → Int) (st : List Int), st.length + h ≤ 32 → ∃ v, evl cd fc (b - a) a st = some (v :: st) ∧ (v = 0 ∨ v = 1)
def EvT (_ : Nat → Int) (_ _ : Nat) : Prop := True
theorem EvN.cd {h : Nat} {cd cd' : Nat → Int} {a b : Nat} (q : EvN h cd a b) (hab : a ≤ b) (e : ∀ j, j < 2 * b → cd' j = cd j) : EvN h cd' a b := fun fc st hl => by
  obtain ⟨v, hv⟩ := q fc st hl
  exact ⟨v, by rw [evl_cd (b - a) a st (cd' := cd) (fun j h1 h2 => e j (by omega))]; exact hv⟩
theorem EvB.cd {h : Nat} {cd cd' : Nat → Int} {a b : Nat} (q : EvB h cd a b) (hab : a ≤ b) (e : ∀ j, j < 2 * b → cd' j = cd j) : EvB h cd' a b := fun fc st hl => by
  obtain ⟨v, hv, hv2⟩ := q fc st hl
  exact ⟨v, by rw [evl_cd (b - a) a st (cd' := cd) (fun j h1 h2 => e j (by omega))]; exact hv, hv2⟩
theorem EvN.mono {h h' : Nat} {cd : Nat → Int} {a b : Nat} (q : EvN h cd a b) (hh : h ≤ h') : EvN h' cd a b := fun fc st hl => q fc st (by omega)
theorem EvB.mono {h h' : Nat} {cd : Nat → Int} {a b : Nat} (q : EvB h cd a b) (hh : h ≤ h') : EvB h' cd a b := fun fc st hl => q fc st (by omega)
theorem evl_one {cd fc : Nat → Int} {i : Nat} {st st1 : List Int} (h : stp (cd (2 * i)) (cd (2 * i + 1)) fc st = some st1) (hl : st1.length ≤ 32) : evl cd fc 1 i st = some st1 := by
  show (stp _ _ fc st >>= _) = _
  rw [h, sb, if_pos hl]
  rfl
theorem EvN.put {cd : Nat → Int} {a : Nat} (h : 0 ≤ cd (2 * a) ∧ cd (2 * a) < 10) : EvN 1 cd a (a + 1) := fun fc st hl => by
  refine ⟨if cd (2 * a) = 0 then cd (2 * a + 1) else fc (cd (2 * a)).toNat, ?_⟩
  rw [show a + 1 - a = 1 by omega]
  refine evl_one ?_ (by simp; omega)
  unfold stp
  rw [if_pos h.2]
theorem EvN.part {h : Nat} (hh : 1 ≤ h) {cd : Nat → Int} {a b : Nat} (q : EvN h cd a b) (hab : a ≤ b) (e : cd (2 * b) = 13) : EvN h cd a (b + 1) := fun fc st hl => by
  obtain ⟨v, hv⟩ := q fc st hl
  refine ⟨(nw v).tdiv (nw (cd (2 * b + 1))), ?_⟩
  rw [show b + 1 - a = (b - a) + 1 by omega, evl_app _ 1 a st _ hv, show a + (b - a) = b by omega]
  refine evl_one ?_ (by simp; omega)
  unfold stp
  rw [e, if_neg (by decide), if_pos rfl]
theorem EvN.two {h1 h2 h : Nat} {cd : Nat → Int} {a b c : Nat} (q1 : EvN h1 cd a b) (q2 : EvN h2 cd b c) (hab : a ≤ b) (hbc : b ≤ c) (e : cd (2 * c) = 10 ∨ cd (2 * c) = 11 ∨ cd (2 * c) = 12) (l1 : h1 ≤ h) (l2 : h2 + 1 ≤ h) : EvN h cd a (c + 1) := fun fc st hl => by
  obtain ⟨v1, hv1⟩ := q1 fc st (by omega)
  obtain ⟨v2, hv2⟩ := q2 fc (v1 :: st) (by simp; omega)
  refine ⟨M_both (cd (2 * c)) v1 v2, ?_⟩
  rw [show c + 1 - a = (b - a) + ((c - b) + 1) by omega, evl_app _ _ a st _ hv1, show a + (b - a) = b by omega, evl_app _ 1 b _ _ hv2, show b + (c - b) = c by omega]
  refine evl_one ?_ (by simp; omega)
  unfold stp
  rw [if_neg (by omega), if_neg (by omega), if_neg (by omega)]
theorem both_cmp {s a b : Int} (h : s = 14 ∨ s = 15 ∨ s = 16) : M_both s a b = 0 ∨ M_both s a b = 1 := by
  unfold M_both
  rcases h with rfl | rfl | rfl
  · rw [nw_id (a := 14) (by decide) (by decide), if_neg (by decide), if_neg (by decide), if_neg (by decide), if_neg (by decide), if_pos rfl]
    split
    · exact Or.inl rfl
    · exact Or.inr rfl
  · rw [nw_id (a := 15) (by decide) (by decide), if_neg (by decide), if_neg (by decide), if_neg (by decide), if_neg (by decide), if_neg (by decide), if_pos rfl]
    split
    · exact Or.inr rfl
    · exact Or.inl rfl
  · rw [nw_id (a := 16) (by decide) (by decide), if_neg (by decide), if_neg (by decide), if_neg (by decide), if_neg (by decide), if_neg (by decide), if_neg (by decide), if_pos rfl]
    split
    · exact Or.inl rfl
    · exact Or.inr rfl
theorem EvB.cmp {cd : Nat → Int} {a b c : Nat} (q1 : EvN 3 cd a b) (q2 : EvN 3 cd b c) (hab : a ≤ b) (hbc : b ≤ c) (e : cd (2 * c) = 14 ∨ cd (2 * c) = 15 ∨ cd (2 * c) = 16) : EvB 4 cd a (c + 1) := fun fc st hl => by
  obtain ⟨v1, hv1⟩ := q1 fc st (by omega)
  obtain ⟨v2, hv2⟩ := q2 fc (v1 :: st) (by simp; omega)
  refine ⟨M_both (cd (2 * c)) v1 v2, ?_, both_cmp e⟩
  rw [show c + 1 - a = (b - a) + ((c - b) + 1) by omega, evl_app _ _ a st _ hv1, show a + (b - a) = b by omega, evl_app _ 1 b _ _ hv2, show b + (c - b) = c by omega]
  refine evl_one ?_ (by simp; omega)
  unfold stp
  rw [if_neg (by omega), if_neg (by omega), if_neg (by omega)]
theorem both_bit {s a b : Int} (h : s = 18 ∨ s = 19) (ha : a = 0 ∨ a = 1) (hb : b = 0 ∨ b = 1) : M_both s a b = 0 ∨ M_both s a b = 1 := by
  rcases h with rfl | rfl <;> rcases ha with rfl | rfl <;> rcases hb with rfl | rfl <;> decide +kernel
theorem EvB.two {h1 h2 h : Nat} {cd : Nat → Int} {a b c : Nat} (q1 : EvB h1 cd a b) (q2 : EvB h2 cd b c) (hab : a ≤ b) (hbc : b ≤ c) (e : cd (2 * c) = 18 ∨ cd (2 * c) = 19) (l1 : h1 ≤ h) (l2 : h2 + 1 ≤ h) : EvB h cd a (c + 1) := fun fc st hl => by
  obtain ⟨v1, hv1, w1⟩ := q1 fc st (by omega)
  obtain ⟨v2, hv2, w2⟩ := q2 fc (v1 :: st) (by simp; omega)
  refine ⟨M_both (cd (2 * c)) v1 v2, ?_, both_bit e w1 w2⟩
  rw [show c + 1 - a = (b - a) + ((c - b) + 1) by omega, evl_app _ _ a st _ hv1, show a + (b - a) = b by omega, evl_app _ 1 b _ _ hv2, show b + (c - b) = c by omega]
  refine evl_one ?_ (by simp; omega)
  unfold stp
  rw [if_neg (by omega), if_neg (by omega), if_neg (by omega)]
theorem EvB.no {h : Nat} (hh : 1 ≤ h) {cd : Nat → Int} {a b : Nat} (q : EvB h cd a b) (hab : a ≤ b) (e : cd (2 * b) = 17) : EvB h cd a (b + 1) := fun fc st hl => by
  obtain ⟨v, hv, w⟩ := q fc st hl
  refine ⟨1 - v, ?_, by omega⟩
  rw [show b + 1 - a = (b - a) + 1 by omega, evl_app _ 1 a st _ hv, show a + (b - a) = b by omega]
  refine evl_one ?_ (by simp; omega)
  unfold stp
  rw [e, if_neg (by decide), if_neg (by decide), if_pos rfl]
/-! tokens told apart -/
theorem tk_rng {x m v : Int} (h : tokR x m v) : 0 ≤ x ∧ x ≤ 10999 ∧ 0 ≤ m ∧ m ≤ 162 := by unfold tokR at h; omega
theorem tk_sg {x m v : Int} (h : tokR x m v) {c : Int} (h1 : 40 ≤ c) (h2 : c ≤ 62) : x = c ↔ m = c + 100 := by unfold tokR at h; omega
theorem tk_ud {x m v : Int} (h : tokR x m v) {c : Int} (h1 : 105 ≤ c) (h2 : c ≤ 106) : x = c ↔ m = c - 98 := by unfold tokR at h; omega
theorem tk_wd {x m v : Int} (h : tokR x m v) {c : Int} (h1 : 107 ≤ c) (h2 : c ≤ 110) : x = c ↔ m = c - 104 := by unfold tokR at h; omega
theorem tk_0 {x m v : Int} (h : tokR x m v) : x = 0 ↔ m = 0 := by unfold tokR at h; omega
theorem tk_num {x m v : Int} (h : tokR x m v) : 1000 ≤ x ↔ m = 2 := by unfold tokR at h; omega
theorem tk_val {x m v : Int} (h : tokR x m v) (h2 : m = 2) : v = x - 1000 ∧ 0 ≤ v ∧ v ≤ 9999 := by unfold tokR at h; omega
theorem tk_nam {x m v : Int} (h : tokR x m v) : (111 ≤ x ∧ x ≤ 119) ↔ (41 ≤ m ∧ m ≤ 49) := by unfold tokR at h; omega
theorem tk_nam2 {x m v : Int} (h : tokR x m v) (h2 : 41 ≤ m ∧ m ≤ 49) : m = x - 70 := by unfold tokR at h; omega
theorem tk_lin {x m v : Int} (h : tokR x m v) : (100 ≤ x ∧ x ≤ 104) ↔ (20 ≤ m ∧ m ≤ 24) := by unfold tokR at h; omega
theorem tk_lin2 {x m v : Int} (h : tokR x m v) (h2 : 20 ≤ m ∧ m ≤ 24) : m = x - 80 := by unfold tokR at h; omega
/-- what both see at their token -/
theorem PRel.see {tp : Nat → Int} {L T k s : Nat} {gX gM : AG} (O : TkOk tp L T) (R : PRel tp L T k s gX gM) : ∃ x m v : Int, tokR x m v ∧ gX 42 k = x ∧ gM 117 39 = m ∧ nw x = x ∧ nw m = m ∧ (m = 2 → gM 117 41 = v) ∧ (x = 0 → k = T) ∧ (k = T → x = 0) ∧ gX 43 k = gM 117 40 := by
  obtain ⟨a1, a2, a3, a4, a5, a6, a7, a8, a9, a10, a11, a12⟩ := R
  have t := tz_rel (p := tpl tp L k) O.1
  have r := tk_rng t
  refine ⟨_, _, _, t, (a1.2 k a9).1, a6.2.2.1, nw_id (by omega) (by omega), nw_id (by omega) (by omega), a6.2.2.2, fun z => ?_, fun z => ?_, by rw [(a1.2 k a9).2]; exact a6.1.symm⟩
  · by_cases y : k < T
    · exfalso
      have l := O.2.2.2 k y
      have ok := O.1.2 _ l
      unfold tzX at z
      rw [if_pos l] at z
      by_cases c1 : tzLtr (tp (tpl tp L k))
      · rw [if_pos c1] at z
        by_cases c2 : tzIdx tp (tpl tp L k) (tzW tp L (tpl tp L k) - tpl tp L k) 20 0 = 20
        · rw [if_pos c2] at z; omega
        · rw [if_neg c2] at z; omega
      · rw [if_neg c1] at z
        by_cases c2 : tzDgt (tp (tpl tp L k))
        · rw [if_pos c2] at z
          by_cases c3 : tzD tp L (tpl tp L k) - tpl tp L k ≤ 4
          · rw [if_pos c3] at z
            have := tzV_le l c3
            unfold tzVal at this
            omega
          · rw [if_neg c3] at z; omega
        · rw [if_neg c2] at z
          by_cases c3 : tzSg (tp (tpl tp L k)) = true
          · rw [if_pos c3] at z
            have q := tzSg_r (tp (tpl tp L k)).toNat (by omega) (by rw [show (((tp (tpl tp L k)).toNat : Nat) : Int) = tp (tpl tp L k) by omega]; exact c3)
            omega
          · rw [if_neg c3] at z; omega
    · omega
  · rw [z, O.2.2.1]
    unfold tzX
    rw [if_neg (by omega)]
/-! single steps of the class -/
theorem goOn_s {g : AG} {T k : Nat} (h5 : g 4 5 = T + 1) (h6 : g 4 6 = k) (hk : k < T) (hT : T ≤ 500) : Parser_goOn g = some (0, up g 4 6 ((k : Int) + 1)) := by
  unfold Parser_goOn
  rw [h5, h6, show (T : Int) + 1 - 1 = (T : Int) by omega, nwN T (by omega), nwN k (by omega), if_neg (by omega), sb, sb]
def putX (g : AG) (s : Nat) (w x : Int) : AG := up (up (up g 29 s w) 30 s x) 3 2 ((s : Int) + 1)
theorem put_s {g : AG} {s : Nat} {w x : Int} (h : g 3 2 = s) (hs : s < 500) : Rules_put w x g = some (0, putX g s w x) := by
  unfold Rules_put putX
  have u1 : (up g 29 s w) 3 2 = s := by rw [up_at, if_neg (fun q => absurd q.1 (by decide))]; exact h
  have u2 : (up (up g 29 s w) 30 s x) 3 2 = s := by rw [up_at, if_neg (fun q => absurd q.1 (by decide))]; exact u1
  rw [h, nwN s (by omega), ixN s (by omega), if_neg (by omega), if_pos (by omega), sb, u1, nwN s (by omega), ixN s (by omega), if_pos (by omega), sb, u2, sb, sb]
theorem put_any {g : AG} {s : Nat} {w x : Int} (h : g 3 2 = s) (hs : s ≤ 500) : ∃ g', Rules_put w x g = some (0, g') ∧ FR [(3, 3), (29, 0), (30, 0)] g g' ∧ ∃ s' : Nat, s' ≤ 500 ∧ g' 3 2 = s' := by
  by_cases e : s < 500
  · refine ⟨_, put_s h e, Fr.up (Fr.up (Fr.up Fr.rf rfl) rfl) rfl, s + 1, by omega, ?_⟩
    unfold putX
    rw [up_at, if_pos ⟨rfl, rfl⟩]
    rfl
  · refine ⟨g, ?_, Fr.rf, s, hs, h⟩
    unfold Rules_put
    rw [h, nwN s (by omega), if_pos (by omega), sb]
theorem put_goOn {g : AG} {s k : Nat} {w x : Int} : putX (up g 4 6 ((k : Int) + 1)) s w x = up (putX g s w x) 4 6 ((k : Int) + 1) := by
  funext a b
  unfold putX
  simp only [up_at]
  by_cases c1 : a = 4 ∧ b = 6
  · rw [if_pos c1, if_pos c1, if_neg (by omega), if_neg (by omega), if_neg (by omega)]
  · rw [if_neg c1, if_neg c1]
theorem is_s {g : AG} {k : Nat} {c x : Int} (h6 : g 4 6 = k) (h7 : g 4 7 = 0) (hk : k ≤ 500) (hx : g 42 k = x) (nx : nw x = x) (nc : nw c = c) : Parser_is c g = some (if x = c then 1 else 0) := by
  unfold Parser_is
  rw [h7, nw_0, if_pos rfl, h6, nwN k (by omega), ixN k (by omega), if_pos (by omega), sb, hx, nx, nc]
  by_cases e : x = c
  · rw [if_pos e, sb, if_pos (Or.inr rfl)]
  · rw [if_neg e, sb, if_pos (Or.inl rfl)]
theorem fail_s {g : AG} {k : Nat} {w : Int} (h6 : g 4 6 = k) (h7 : g 4 7 = 0) (hk : k ≤ 500) : Parser_fail w g = some (0, up (up g 4 7 w) 4 8 (g 43 k)) := by
  unfold Parser_fail
  have u1 : (up g 4 7 w) 4 6 = k := by rw [up_at, if_neg (by omega)]; exact h6
  have u2 : (up g 4 7 w) 43 k = g 43 k := by rw [up_at, if_neg (fun q => absurd q.1 (by decide))]
  rw [h7, nw_0, if_pos rfl, sb, u1, nwN k (by omega), ixN k (by omega), if_pos (by omega), u2, sb, sb]
end
section
/-! plain programs: a token on, a step laid, a fault; the class behind a fault -/
theorem TkOk.T500 {tp : Nat → Int} {L T : Nat} (O : TkOk tp L T) : T ≤ 500 := Nat.le_trans O.2.1 O.1.1
theorem PRel.nx {tp : Nat → Int} {L T k s : Nat} {gX gM : AG} (O : TkOk tp L T) (R : PRel tp L T k s gX gM) (hk : k < T) : ∃ gM', Parser_goOn gX = some (0, up gX 4 6 ((k : Int) + 1)) ∧ M_next0 gM = some (0, gM') ∧ PRel tp L T (k + 1) s (up gX 4 6 ((k : Int) + 1)) gM' ∧ FR RNX gM gM' := by
  obtain ⟨a1, a2, a3, a4, a5, a6, a7, a8, a9, a10, a11, a12⟩ := R
  obtain ⟨gM', e, m, f, v⟩ := M_next0_s O.1 a5 (tpl_rng (tp := tp) (L := L) k).2 a6.2.1 a7
  have fx : FR [(4, 7)] gX (up gX 4 6 ((k : Int) + 1)) := Fr.up Fr.rf rfl
  refine ⟨gM', goOn_s a1.1 a2 hk O.T500, e, ⟨a1.fr fx rfl, ?_, ?_, ?_, a5.fr f rfl, m, v, ?_, hk, a10, fun j hj => ?_, fun j hj => ?_, by rw [fx 4 8 rfl]; exact a12.2.1, by rw [f 117 42 rfl]; exact a12.2.2⟩, f⟩
  · rw [up_at, if_pos ⟨rfl, rfl⟩]; rfl
  · rw [fx 4 7 rfl]; exact a3
  · rw [fx 3 2 rfl]; exact a4
  · rw [f 117 36 rfl]; exact a8
  · rw [f 141 _ rfl, f 141 _ rfl, fx 29 _ rfl, fx 30 _ rfl]; exact a11 j hj
  · rw [f 141 _ rfl]; exact a12.1 j hj
def layM (g : AG) (s : Nat) (c v : Int) : AG := up (up (up g 141 (2 * s) c) 141 (2 * s + 1) v) 117 36 ((s : Int) + 1)
theorem lay_s {g : AG} {s : Nat} {c v : Int} (h : g 117 36 = s) (hs : s < 510) : M_lay c v g = some (0, layM g s c v) := by
  unfold M_lay layM
  have u1 : (up g 141 (2 * s) c) 117 36 = s := by rw [up_at, if_neg (fun q => absurd q.1 (by decide))]; exact h
  have u2 : (up (up g 141 (2 * s) c) 141 (2 * s + 1) v) 117 36 = s := by rw [up_at, if_neg (fun q => absurd q.1 (by decide))]; exact u1
  have e1 : 2 * (s : Int) = ((2 * s : Nat) : Int) := by omega
  have e2 : ((2 * s : Nat) : Int) + 1 = ((2 * s + 1 : Nat) : Int) := rfl
  rw [h, e1, nwN (2 * s) (by omega), ixN (2 * s) (by omega), if_pos (by omega), sb, u1, e1, e2, nwN (2 * s + 1) (by omega), ixN (2 * s + 1) (by omega), if_pos (by omega), sb, u2, sb]
abbrev RPP : Reg := [(3, 3), (29, 0), (30, 0)]
abbrev RLM : Reg := [(117, 37), (141, 0)]
theorem putX_fr {g : AG} {s : Nat} {w x : Int} : FR RPP g (putX g s w x) := Fr.up (Fr.up (Fr.up Fr.rf rfl) rfl) rfl
theorem layM_fr {g : AG} {s : Nat} {c v : Int} : FR RLM g (layM g s c v) := Fr.up (Fr.up (Fr.up Fr.rf rfl) rfl) rfl
theorem layM_lo {g : AG} {s : Nat} {c v : Int} {j : Nat} (h : j < 2 * s) : layM g s c v 141 j = g 141 j := by
  unfold layM
  rw [up_at, if_neg (fun q => absurd q.1 (by decide)), up_at, if_neg (fun q => absurd q.2 (by omega)), up_at, if_neg (fun q => absurd q.2 (by omega))]
theorem layM_at {g : AG} {s : Nat} {c v : Int} : layM g s c v 141 (2 * s) = c ∧ layM g s c v 141 (2 * s + 1) = v := by
  unfold layM
  refine ⟨?_, ?_⟩
  · rw [up_at, if_neg (fun q => absurd q.1 (by decide)), up_at, if_neg (fun q => absurd q.2 (by omega)), up_at, if_pos ⟨rfl, rfl⟩]
  · rw [up_at, if_neg (fun q => absurd q.1 (by decide)), up_at, if_pos ⟨rfl, rfl⟩]
theorem putX_lo {g : AG} {s : Nat} {w x : Int} {j : Nat} (h : j < s) : putX g s w x 29 j = g 29 j ∧ putX g s w x 30 j = g 30 j := by
  unfold putX
  refine ⟨?_, ?_⟩
  · rw [up_at, if_neg (fun q => absurd q.1 (by decide)), up_at, if_neg (fun q => absurd q.1 (by decide)), up_at, if_neg (fun q => absurd q.2 (by omega))]
  · rw [up_at, if_neg (fun q => absurd q.1 (by decide)), up_at, if_neg (fun q => absurd q.2 (by omega)), up_at, if_neg (fun q => absurd q.1 (by decide))]
theorem putX_at {g : AG} {s : Nat} {w x : Int} : putX g s w x 29 s = w ∧ putX g s w x 30 s = x := by
  unfold putX
  refine ⟨?_, ?_⟩
  · rw [up_at, if_neg (fun q => absurd q.1 (by decide)), up_at, if_neg (fun q => absurd q.1 (by decide)), up_at, if_pos ⟨rfl, rfl⟩]
  · rw [up_at, if_neg (fun q => absurd q.1 (by decide)), up_at, if_pos ⟨rfl, rfl⟩]
theorem MAt.fr {W : Reg} {g g' : AG} {tp : Nat → Int} {L p : Nat} (h : MAt tp L g p) (f : FR W g g') (d : djR RNX W = true) : MAt tp L g' p := by
  have c := f.cg d
  have c38 : g' 117 38 = g 117 38 := c 117 38 rfl
  have c39 : g' 117 39 = g 117 39 := c 117 39 rfl
  have c40 : g' 117 40 = g 117 40 := c 117 40 rfl
  have c41 : g' 117 41 = g 117 41 := c 117 41 rfl
  unfold MAt
  rw [c38, c39, c40, c41]
  exact h
theorem PRel.lay {tp : Nat → Int} {L T k s : Nat} {gX gM : AG} (R : PRel tp L T k s gX gM) (hs : s < 500) {c v w x : Int} (ho : opR c v w x) (hv : I32 v) : PRel tp L T k (s + 1) (putX gX s w x) (layM gM s c v) := by
  obtain ⟨a1, a2, a3, a4, a5, a6, a7, a8, a9, a10, a11, a12⟩ := R
  have fx : FR RPP gX (putX gX s w x) := putX_fr
  have fm : FR RLM gM (layM gM s c v) := layM_fr
  have hc := opR_s ho
  refine ⟨a1.fr fx rfl, by rw [fx 4 6 rfl]; exact a2, by rw [fx 4 7 rfl]; exact a3, ?_, a5.fr fm rfl, a6.fr fm rfl, by rw [fm 117 41 rfl]; exact a7, ?_, a9, by omega, fun j hj => ?_, fun j hj => ?_, by rw [fx 4 8 rfl]; exact a12.2.1, by rw [fm 117 42 rfl]; exact a12.2.2⟩
  · unfold putX; rw [up_at, if_pos ⟨rfl, rfl⟩]; rfl
  · unfold layM; rw [up_at, if_pos ⟨rfl, rfl⟩]; rfl
  · by_cases e : j = s
    · rw [e, (layM_at).1, (layM_at).2, (putX_at).1, (putX_at).2]; exact ho
    · rw [layM_lo (by omega), layM_lo (by omega), (putX_lo (by omega)).1, (putX_lo (by omega)).2]; exact a11 j (by omega)
  · by_cases e : j < 2 * s
    · rw [layM_lo e]; exact a12.1 j e
    · by_cases e2 : j = 2 * s
      · rw [e2, (layM_at).1]; unfold I32; omega
      · rw [show j = 2 * s + 1 by omega, (layM_at).2]; exact hv
def failX (g : AG) (k : Nat) (w : Int) : AG := up (up g 4 7 w) 4 8 (g 43 k)
def badM (g : AG) (w : Int) : AG := up (up g 117 42 w) 117 43 (g 117 40)
theorem bad_s {g : AG} {w : Int} : M_bad w g = some (0, badM g w) := by
  unfold M_bad badM
  have u : (up g 117 42 w) 117 40 = g 117 40 := by rw [up_at, if_neg (by omega)]
  rw [sb, u, sb]
theorem PRel.bad {tp : Nat → Int} {L T k s : Nat} {gX gM : AG} (O : TkOk tp L T) (R : PRel tp L T k s gX gM) {w : Int} (h1 : 1 ≤ w) (h3 : w ≤ 3) : Parser_fail w gX = some (0, failX gX k w) ∧ M_bad w gM = some (0, badM gM w) ∧ PFail tp L T (failX gX k w) (badM gM w) ∧ FR [(4, 8), (4, 9)] gX (failX gX k w) ∧ FR [(117, 43), (117, 44)] gM (badM gM w) := by
  have sees := R.see O
  obtain ⟨a1, a2, a3, a4, a5, a6, a7, a8, a9, a10, a11, a12⟩ := R
  obtain ⟨x, m, v, _, _, _, _, _, _, _, _, pl⟩ := sees
  have hT := O.T500
  have fx : FR [(4, 8), (4, 9)] gX (failX gX k w) := Fr.up (Fr.up Fr.rf rfl) rfl
  refine ⟨fail_s a2 a3 (by omega), bad_s, ⟨w, gX 43 k, ⟨a1.fr fx rfl, ⟨k, a9, by rw [fx 4 6 rfl]; exact a2⟩, ?_, ?_, ⟨s, a10, by rw [fx 3 2 rfl]; exact a4⟩, h1, h3, hT⟩, ?_, ?_, ?_⟩, fx, Fr.up (Fr.up Fr.rf rfl) rfl⟩
  · unfold failX; rw [up_at, if_neg (by omega), up_at, if_pos ⟨rfl, rfl⟩]
  · unfold failX; rw [up_at, if_pos ⟨rfl, rfl⟩]
  · unfold badM; rw [up_at, if_neg (by omega), up_at, if_pos ⟨rfl, rfl⟩]
  · unfold badM; rw [up_at, if_pos ⟨rfl, rfl⟩, pl]
  · unfold badM; rw [up_at, if_neg (by omega), up_at, if_neg (by omega)]; exact a7
/-! the class behind a fault does nothing more -/
theorem XF.nw7 {tp : Nat → Int} {L T : Nat} {w p : Int} {g : AG} (F : XF tp L T w p g) : nw (g 4 7) ≠ 0 := by
  obtain ⟨a1, a2, a3, a4, a5, a6, a7, a8⟩ := F
  rw [a3, nw_id (by omega) (by omega)]
  omega
theorem XF.tok {tp : Nat → Int} {L T : Nat} {w p : Int} {g : AG} (F : XF tp L T w p g) : 0 ≤ nw (g 4 6) ∧ nw (g 4 6) < 501 := by
  obtain ⟨a1, ⟨k, k1, k2⟩, a3, a4, a5, a6, a7, a8⟩ := F
  rw [k2, nwN k (by omega)]
  omega
theorem XF.fr {W : Reg} {tp : Nat → Int} {L T : Nat} {w p : Int} {g g' : AG} (F : XF tp L T w p g) (f : FR W g g') (d : djR [(4, 6), (42, 0), (43, 0), (4, 7), (4, 8), (4, 9)] W = true) (hs : ∃ s : Nat, s ≤ 500 ∧ g' 3 2 = s) : XF tp L T w p g' := by
  obtain ⟨a1, ⟨k, k1, k2⟩, a3, a4, a5, a6, a7, a8⟩ := F
  have c := f.cg d
  exact ⟨⟨by rw [c 4 5 rfl]; exact a1.1, fun j hj => by rw [c 42 j rfl, c 43 j rfl]; exact a1.2 j hj⟩, ⟨k, k1, by rw [c 4 6 rfl]; exact k2⟩, by rw [c 4 7 rfl]; exact a3, by rw [c 4 8 rfl]; exact a4, hs, a6, a7, a8⟩
theorem xf_is {tp : Nat → Int} {L T : Nat} {w p : Int} {g : AG} (F : XF tp L T w p g) (c : Int) : Parser_is c g = some 0 := by
  unfold Parser_is
  rw [if_neg F.nw7, sb, if_pos (Or.inl rfl)]
theorem xf_fail {tp : Nat → Int} {L T : Nat} {w p : Int} {g : AG} (F : XF tp L T w p g) (c : Int) : Parser_fail c g = some (0, g) := by
  unfold Parser_fail
  rw [if_neg F.nw7, sb]
theorem xf_put {tp : Nat → Int} {L T : Nat} {w p : Int} {g : AG} (F : XF tp L T w p g) (c x : Int) : ∃ g', Rules_put c x g = some (0, g') ∧ XF tp L T w p g' ∧ FR RPP g g' := by
  obtain ⟨s, s1, s2⟩ := F.2.2.2.2.1
  obtain ⟨g', e, f, r⟩ := put_any (w := c) (x := x) s2 s1
  exact ⟨g', e, F.fr f rfl r, f⟩
theorem xf_unit {tp : Nat → Int} {L T : Nat} {w p : Int} {g : AG} (F : XF tp L T w p g) : Parser_readUnit g = some (0, g) := by
  unfold Parser_readUnit
  rw [if_pos F.tok, if_neg F.nw7]
theorem xf_product_b {tp : Nat → Int} {L T : Nat} {w p : Int} {g : AG} (F : XF tp L T w p g) (i : Int) : Parser_readProduct_b 1 i g = some (0, g) := by
  rw [Parser_readProduct_b, if_pos rfl, xf_is F, sb, nw_0, if_pos rfl, xf_is F, sb, nw_0, if_pos rfl]
  by_cases e : 500 ≤ nw i
  · rw [if_pos e]
  · rw [if_neg e]
theorem xf_product {tp : Nat → Int} {L T : Nat} {w p : Int} {g : AG} (F : XF tp L T w p g) : Parser_readProduct g = some (0, g) := by
  unfold Parser_readProduct
  rw [xf_unit F, sb]
  exact xf_product_b F 0
theorem xf_sum_b {tp : Nat → Int} {L T : Nat} {w p : Int} {g : AG} (F : XF tp L T w p g) (i : Int) : Parser_readSum_b 1 i g = some (0, g) := by
  rw [Parser_readSum_b, if_pos rfl, xf_is F, sb, nw_0, if_pos rfl, xf_is F, sb, nw_0, if_pos rfl]
  by_cases e : 500 ≤ nw i
  · rw [if_pos e]
  · rw [if_neg e]
theorem xf_sum {tp : Nat → Int} {L T : Nat} {w p : Int} {g : AG} (F : XF tp L T w p g) : Parser_readSum g = some (0, g) := by
  unfold Parser_readSum
  rw [xf_product F, sb]
  exact xf_sum_b F 0
theorem xf_cmp {tp : Nat → Int} {L T : Nat} {w p : Int} {g : AG} (F : XF tp L T w p g) : Parser_demandComparing g = some (0, g) := by
  unfold Parser_demandComparing
  rw [xf_is F, sb, nw_0, if_pos rfl, xf_is F, sb, nw_0, if_pos rfl, xf_is F, sb, nw_0, if_pos rfl, xf_fail F, sb, sb]
theorem xf_demand {tp : Nat → Int} {L T : Nat} {w p : Int} {g : AG} (F : XF tp L T w p g) (c : Int) : Parser_demand c g = some (0, g) := by
  unfold Parser_demand
  rw [xf_is F, sb, nw_0, if_pos rfl, xf_fail F, sb, sb]
theorem xf_num {tp : Nat → Int} {L T : Nat} {w p : Int} {g : AG} (F : XF tp L T w p g) (c : Int) : Parser_numberUpTo c g = some (0, g) := by
  unfold Parser_numberUpTo
  rw [if_pos F.tok, xf_fail F, xf_fail F, sb]
  dsimp only
  have e : ∀ (P Q : Prop) [Decidable P] [Decidable Q], (if P then (if Q then some g else some g) else some g : Option AG) = some g := by
    intro P Q _ _
    by_cases a : P
    · rw [if_pos a]
      by_cases b : Q
      · rw [if_pos b]
      · rw [if_neg b]
    · rw [if_neg a]
  rw [e, sb, if_neg F.nw7]
theorem xf_nots {tp : Nat → Int} {L T : Nat} {w p : Int} {rec : Int → AG → Option (Int × AG)} {a : Int} : ∀ (n i : Nat) (g : AG), i + n ≤ 100 → XF tp L T w p g → ∃ g', Parser_readOne_b rec a 3 ((i + n : Nat) : Int) i g = some (0, g') ∧ XF tp L T w p g' ∧ FR RPP g g' := by
  intro n
  induction n with
  | zero =>
    intro i g h F
    refine ⟨g, ?_, F, Fr.rf⟩
    rw [Parser_readOne_b, if_neg (by decide), if_neg (by decide), if_pos rfl, Nat.add_zero, if_pos (Int.le_refl _)]
  | succ n ih =>
    intro i g h F
    obtain ⟨g1, e1, F1, f1⟩ := xf_put F 110 0
    obtain ⟨g', e, F', f⟩ := ih (i + 1) g1 (by omega) F1
    refine ⟨g', ?_, F', f1.tr f⟩
    rw [Parser_readOne_b, if_neg (by decide), if_neg (by decide), if_pos rfl, nwN (i + (n + 1)) (by omega), nwN i (by omega), if_neg (by omega), e1, sb, show i + (n + 1) = i + 1 + n by omega]
    exact e
theorem xf_one_b {tp : Nat → Int} {L T : Nat} {w p : Int} {rec : Int → AG → Option (Int × AG)} {g : AG} (F : XF tp L T w p g) (a n : Nat) (h : a + n ≤ 100) (i : Int) : ∃ g', Parser_readOne_b rec a 1 ((a + n : Nat) : Int) i g = some (0, g') ∧ XF tp L T w p g' ∧ FR RPP g g' := by
  obtain ⟨g1, e1, F1, f1⟩ := xf_put F (g 42 (ix (g 4 6))) 0
  obtain ⟨g', e, F', f⟩ := xf_nots (rec := rec) (a := a) n a g1 h F1
  refine ⟨g', ?_, F', f1.tr f⟩
  have two : Parser_readOne_b rec a 2 ((a + n : Nat) : Int) i g = some (0, g') := by
    rw [Parser_readOne_b, if_neg (by decide), if_pos rfl, xf_is F, sb, nw_0, if_pos rfl, xf_sum F, sb, if_pos F.tok, xf_cmp F, sb, xf_sum F, sb, e1, sb, sb]
    exact e
  rw [Parser_readOne_b, if_pos rfl, xf_is F, sb, nw_0, if_pos rfl, two]
  by_cases e : 500 ≤ nw i
  · rw [if_pos e]
  · rw [if_neg e]
theorem xf_one {tp : Nat → Int} {L T : Nat} {w p : Int} {rec : Int → AG → Option (Int × AG)} {g : AG} (F : XF tp L T w p g) (a : Nat) (h : a ≤ 100) : ∃ g', Parser_readOne rec a g = some (0, g') ∧ XF tp L T w p g' ∧ FR RPP g g' := xf_one_b F a 0 h 0
theorem xf_all_b {tp : Nat → Int} {L T : Nat} {w p : Int} {rec : Int → AG → Option (Int × AG)} {g : AG} (F : XF tp L T w p g) (a i : Int) : Parser_readAll_b rec a i g = some (0, g) := by
  rw [Parser_readAll_b, xf_is F, sb, nw_0, if_pos rfl]
  by_cases e : 500 ≤ nw i
  · rw [if_pos e]
  · rw [if_neg e]
theorem xf_all {tp : Nat → Int} {L T : Nat} {w p : Int} {rec : Int → AG → Option (Int × AG)} {g : AG} (F : XF tp L T w p g) (a : Nat) (h : a ≤ 100) : ∃ g', Parser_readAll rec a g = some (0, g') ∧ XF tp L T w p g' ∧ FR RPP g g' := by
  obtain ⟨g', e, F', f⟩ := xf_one (rec := rec) F a h
  refine ⟨g', ?_, F', f⟩
  unfold Parser_readAll
  rw [e, sb]
  exact xf_all_b F' a 0
theorem xf_either_b {tp : Nat → Int} {L T : Nat} {w p : Int} {rec : Int → AG → Option (Int × AG)} {g : AG} (F : XF tp L T w p g) (a i : Int) : Parser_readEither_b rec a i g = some (0, g) := by
  rw [Parser_readEither_b, xf_is F, sb, nw_0, if_pos rfl]
  by_cases e : 500 ≤ nw i
  · rw [if_pos e]
  · rw [if_neg e]
theorem xf_either {tp : Nat → Int} {L T : Nat} {w p : Int} {g : AG} (F : XF tp L T w p g) (a n : Nat) (h : a ≤ 100) : ∃ g', Parser_readEither (n + 1) a g = some (0, g') ∧ XF tp L T w p g' ∧ FR RPP g g' := by
  obtain ⟨g', e, F', f⟩ := xf_all (rec := Parser_readEither n) F a h
  show ∃ g', Parser_readEither_s (Parser_readEither n) a g = some (0, g') ∧ XF tp L T w p g' ∧ FR RPP g g'
  unfold Parser_readEither_s
  by_cases c : (a : Int) ≤ 8
  · refine ⟨g', ?_, F', f⟩
    rw [nwN a (by omega), if_pos c, e, sb]
    exact xf_either_b F' a 0
  · refine ⟨g, ?_, F, Fr.rf⟩
    rw [nwN a (by omega), if_neg c]
end
