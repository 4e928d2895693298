/-! plain programs: the bookings, both sides -/
def gBest (bf bt bw bb hb hh : Nat → Int) (o : Nat → Nat) (k c : Nat) : GS := gS bf bt bw bb hb hh o k c 0 0 hh (fun _ => -1) (fun _ => 0) (-1, -1, fun _ => 0)
theorem GI.start {c : Nat} {bt bw hb hh : Nat → Int} {o : Nat → Nat} {k : Nat} (BT : BtOk k hb hh) (hw : ∀ j, j < c → 0 ≤ bw j ∧ bw j ≤ 9) (O : Ord c bw o) : GI c bt bw hh o k 0 0 hh (fun _ => -1) := by
  refine ⟨by omega, fun b hb' => ⟨(BT.2 b hb').2, by dsimp only; omega⟩, fun b _ p _ hp => ?_, fun b _ => Or.inl rfl⟩
  have := hw (o p) (O.1 p hp)
  dsimp only
  omega
abbrev RXT : Reg := [(9, 11), (9, 12), (9, 16), (9, 17), (92, 0), (93, 0), (94, 0), (95, 0), (96, 0)]
theorem X_best1_s {k : Nat} (hk : k ≤ 4) {c : Nat} {hh : Nat → Int} : ∀ (n b : Nat) (g : AG), b + n = k → g 9 10 = k → (∀ x, x < k → g 91 x = hh x) → (∀ x, x < b → g 92 x = hh x ∧ g 93 x = -1) → ∃ g', Bookings_giveBest_b 1 b g = Bookings_giveBest_b 1 k g' ∧ FR [(92, 0), (93, 0)] g g' ∧ ∀ x, x < k → g' 92 x = hh x ∧ g' 93 x = -1 := by
  intro n
  induction n with
  | zero =>
    intro b g h h1 h2 h3
    have e : b = k := by (try clear n0); (try clear n1); (try clear n2); omega
    subst e
    exact ⟨g, rfl, Fr.rf, h3⟩
  | succ n ih =>
    intro b g h h1 h2 h3
    have n0 : nw (g 9 10) = k := by rw [h1, nwN _ (by (try clear n0); (try clear n1); (try clear n2); omega)]
    have n1 : nw (b : Int) = b := nwN _ (by (try clear n0); (try clear n1); (try clear n2); omega)
    have n2 : ix (b : Int) = b := ixN _ (by (try clear n0); (try clear n1); (try clear n2); omega)
    obtain ⟨g', e, f, r⟩ := ih (b + 1) (up (up g 92 b (hh b)) 93 b (-1)) (by (try clear n0); (try clear n1); (try clear n2); omega) (by rw [up_at, if_neg (fun q => absurd q.1 (by decide)), up_at, if_neg (fun q => absurd q.1 (by decide))]; exact h1) (fun x hx => by rw [up_at, if_neg (fun q => absurd q.1 (by decide)), up_at, if_neg (fun q => absurd q.1 (by decide))]; exact h2 x hx) (fun x hx => by
      rw [up_at, if_neg (fun q => absurd q.1 (by decide)), up_at, up_at]
      by_cases y : x = b
      · rw [if_pos ⟨rfl, y⟩, if_pos ⟨rfl, y⟩, y]; exact ⟨rfl, rfl⟩
      · rw [if_neg (fun q => y q.2), if_neg (fun q => y q.2), up_at, if_neg (fun q => absurd q.1 (by decide))]; exact h3 x (by (try clear n0); (try clear n1); (try clear n2); omega))
    refine ⟨g', ?_, (Fr.up (Fr.up Fr.rf rfl) rfl).tr f, r⟩
    rw [Bookings_giveBest_b.eq_1 1, n0, n1, n2, h2 b (by (try clear n0); (try clear n1); (try clear n2); omega), if_pos rfl, if_neg (by (try clear n0); (try clear n1); (try clear n2); omega), if_pos (by (try clear n0); (try clear n1); (try clear n2); omega), sb, sb]
    exact e
theorem X_best2_s {c : Nat} {bf bt bw bb hb hh : Nat → Int} {o : Nat → Nat} {k : Nat} (K : BkOk c bf bt bw bb) (BT : BtOk k hb hh) (O : Ord c bw o) : ∀ (m : Nat) (g : AG), m ≤ c → XBk g c bf bt bw bb → g 9 10 = k → (∀ b, b < k → g 90 b = hb b ∧ g 91 b = hh b) → (∀ p, p < c → g 89 p = (o p : Nat)) → g 94 c = 0 → (∀ i, m ≤ i → i < c → (g 94 i = g 94 (i + 1) ∨ g 94 i = g 94 (i + 1) + 1) ∧ (cEv c bf bt bw bb hb hh k (o i) → g 94 i = g 94 (i + 1) + 1)) → (∀ i, m ≤ i → i ≤ c → 0 ≤ g 94 i ∧ g 94 i ≤ c - i) → ∃ g', Bookings_giveBest_b 2 ((m : Int) - 1) g = (Bookings_giveNext 10 0 0 g' >>= fun r2 => some (0, r2.2)) ∧ FR [(94, 0)] g g' ∧ Hop c bf bt bw bb hb hh o k (g' 94) ∧ ∀ i, i ≤ c → 0 ≤ g' 94 i ∧ g' 94 i ≤ 8 := by
  intro m
  induction m with
  | zero =>
    intro g hm D h1 h2 h3 h4 h5 h6
    have hc := K.1
    refine ⟨g, ?_, Fr.rf, ⟨h4, fun i hi => h5 i (by (try clear n0); (try clear n1); (try clear n2); (try clear n3); omega) hi⟩, fun i hi => by have := h6 i (by (try clear n0); (try clear n1); (try clear n2); (try clear n3); omega) hi; omega⟩
    rw [Bookings_giveBest_b.eq_1 2, show ((0 : Nat) : Int) - 1 = -1 from rfl, nw_m1, if_neg (by decide), if_pos rfl, if_pos (by decide)]
  | succ m ih =>
    intro g hm D h1 h2 h3 h4 h5 h6
    have hc := K.1
    have hk := BT.1
    have om := O.1 m (by (try clear n0); (try clear n1); (try clear n2); (try clear n3); omega)
    obtain ⟨v, ev, r1, r2⟩ := X_ever_s K BT D h1 h2 om k 0 (by (try clear n0); (try clear n1); (try clear n2); (try clear n3); omega)
    have ev' : Bookings_canEverBeGiven (o m : Nat) g = some v := ev
    have b6 := h6 (m + 1) (Nat.le_refl _) (by (try clear n0); (try clear n1); (try clear n2); (try clear n3); omega)
    obtain ⟨t, ht⟩ : ∃ t : Int, t = (if nw v = 0 then 0 else 1) := ⟨_, rfl⟩
    have tv : t = v := by
      rw [ht]
      rcases r1 with a | a <;> rw [a]
      · rw [nw_0]; rfl
      · rw [nw_1]; rfl
    obtain ⟨g1, hg1⟩ : ∃ g1 : AG, g1 = up g 94 m (g 94 (m + 1) + t) := ⟨_, rfl⟩
    have f1 : FR [(94, 0)] g g1 := by rw [hg1]; exact Fr.up Fr.rf rfl
    have v1 : ∀ x, x ≠ m → g1 94 x = g 94 x := fun x hx => by rw [hg1, up_at, if_neg (fun q => hx q.2)]
    have v2 : g1 94 m = g 94 (m + 1) + t := by rw [hg1, up_at, if_pos ⟨rfl, rfl⟩]
    obtain ⟨g', e', f', H', R'⟩ := ih g1 (by (try clear n0); (try clear n1); (try clear n2); (try clear n3); omega) ⟨by rw [f1 9 4 rfl]; exact D.1, fun j hj => by rw [f1 85 j rfl, f1 86 j rfl, f1 87 j rfl, f1 88 j rfl]; exact D.2 j hj⟩ (by rw [f1 9 10 rfl]; exact h1) (fun b hb' => by rw [f1 90 b rfl, f1 91 b rfl]; exact h2 b hb') (fun p hp => by rw [f1 89 p rfl]; exact h3 p hp) (by rw [v1 c (by (try clear n0); (try clear n1); (try clear n2); (try clear n3); omega)]; exact h4) (fun i q1 q2 => by
      by_cases y : i = m
      · rw [y, v2, v1 (m + 1) (by (try clear n0); (try clear n1); (try clear n2); (try clear n3); omega), tv]
        refine ⟨by (try clear n0); (try clear n1); (try clear n2); (try clear n3); omega, fun ce => ?_⟩
        have : v = 1 := r2 (by
          obtain ⟨b, c1, c2, c3⟩ := ce
          exact ⟨b, by (try clear n0); (try clear n1); (try clear n2); (try clear n3); omega, c1, c2, c3⟩)
        (try clear n0); (try clear n1); (try clear n2); (try clear n3); omega
      · rw [v1 i y, v1 (i + 1) (by (try clear n0); (try clear n1); (try clear n2); (try clear n3); omega)]
        exact h5 i (by (try clear n0); (try clear n1); (try clear n2); (try clear n3); omega) q2) (fun i q1 q2 => by
      by_cases y : i = m
      · rw [y, v2, tv]; (try clear n0); (try clear n1); (try clear n2); (try clear n3); omega
      · rw [v1 i y]; exact h6 i (by (try clear n0); (try clear n1); (try clear n2); (try clear n3); omega) q2)
    refine ⟨g', ?_, f1.tr f', H', R'⟩
    have n0 : nw (((m + 1 : Nat) : Int) - 1) = m := by rw [show ((m + 1 : Nat) : Int) - 1 = (m : Nat) by (try clear n0); (try clear n1); (try clear n2); (try clear n3); omega]; exact nwN _ (by (try clear n0); (try clear n1); (try clear n2); (try clear n3); omega)
    have n1 : ix (((m + 1 : Nat) : Int) - 1) = m := by rw [show ((m + 1 : Nat) : Int) - 1 = (m : Nat) by (try clear n0); (try clear n1); (try clear n2); (try clear n3); omega]; exact ixN _ (by (try clear n0); (try clear n1); (try clear n2); (try clear n3); omega)
    have n2 : nw (((m + 1 : Nat) : Int) - 1 + 1) = (m + 1 : Nat) := by rw [show ((m + 1 : Nat) : Int) - 1 + 1 = (m + 1 : Nat) by (try clear n0); (try clear n1); (try clear n2); (try clear n3); omega]; exact nwN _ (by (try clear n0); (try clear n1); (try clear n2); (try clear n3); omega)
    have n3 : ix (((m + 1 : Nat) : Int) - 1 + 1) = m + 1 := by rw [show ((m + 1 : Nat) : Int) - 1 + 1 = (m + 1 : Nat) by (try clear n0); (try clear n1); (try clear n2); (try clear n3); omega]; exact ixN _ (by (try clear n0); (try clear n1); (try clear n2); (try clear n3); omega)
    rw [Bookings_giveBest_b.eq_1 2, n0, n1, n2, n3, h3 m (by (try clear n0); (try clear n1); (try clear n2); (try clear n3); omega), ev', if_neg (by decide), if_pos rfl, if_neg (by (try clear n0); (try clear n1); (try clear n2); (try clear n3); omega), if_pos (by (try clear n0); (try clear n1); (try clear n2); (try clear n3); omega), if_pos (by (try clear n0); (try clear n1); (try clear n2); (try clear n3); omega), sb, ← ht, sb, if_pos (by (try clear n0); (try clear n1); (try clear n2); (try clear n3); omega), sb, ← hg1]
    rw [show ((m + 1 : Nat) : Int) - 1 + -1 = (m : Int) - 1 by (try clear n0); (try clear n1); (try clear n2); (try clear n3); omega]
    exact e'
theorem X_gbest_s {c : Nat} {bf bt bw bb hb hh : Nat → Int} {o : Nat → Nat} {k : Nat} (K : BkOk c bf bt bw bb) (BT : BtOk k hb hh) (O : Ord c bw o) (hk1 : 1 ≤ k) {g : AG} (D : XBk g c bf bt bw bb) (h2 : ∀ b, b < k → g 90 b = hb b ∧ g 91 b = hh b) (h3 : ∀ p, p < c → g 89 p = (o p : Nat)) (hs : nw (k : Int) ≠ nw (g 9 11)) : ∃ g', Bookings_giveBest k g = some (0, g') ∧ FR RXT g g' ∧ g' 9 11 = k ∧ g' 9 15 = (gBest bf bt bw bb hb hh o k c).1 ∧ g' 9 16 = (gBest bf bt bw bb hb hh o k c).2.1 ∧ ∀ j, j < c → g' 96 j = (gBest bf bt bw bb hb hh o k c).2.2 j := by
  have hc := K.1
  have hk := BT.1
  have hw : ∀ j, j < c → 0 ≤ bw j ∧ bw j ≤ 9 := fun j hj => (K.2 j hj).2.2.1
  have n0 : nw (k : Int) = k := nwN _ (by (try clear n0); (try clear n4); (try clear m0); (try clear m1); (try clear m2); omega)
  have n4 : nw (4 : Int) = 4 := nwN 4 (by (try clear n0); (try clear n4); (try clear m0); (try clear m1); (try clear m2); omega)
  have mn : mnI (k : Int) 4 = k := by
    unfold mnI
    rw [n0, n4, if_neg (by (try clear n0); (try clear n4); (try clear m0); (try clear m1); (try clear m2); omega)]
  obtain ⟨g8, hg8⟩ : ∃ g8 : AG, g8 = up (up (up (up g 9 10 k) 9 11 k) 9 15 (-1)) 9 16 (-1) := ⟨_, rfl⟩
  have f8 : FR RXT g g8 := by rw [hg8]; exact Fr.up (Fr.up (Fr.up (Fr.up Fr.rf rfl) rfl) rfl) rfl
  have v10 : g8 9 10 = k := by rw [hg8, up_at, if_neg (by (try clear n0); (try clear n4); (try clear m0); (try clear m1); (try clear m2); omega), up_at, if_neg (by (try clear n0); (try clear n4); (try clear m0); (try clear m1); (try clear m2); omega), up_at, if_neg (by (try clear n0); (try clear n4); (try clear m0); (try clear m1); (try clear m2); omega), up_at, if_pos ⟨rfl, rfl⟩]
  have v11 : g8 9 11 = k := by rw [hg8, up_at, if_neg (by (try clear n0); (try clear n4); (try clear m0); (try clear m1); (try clear m2); omega), up_at, if_neg (by (try clear n0); (try clear n4); (try clear m0); (try clear m1); (try clear m2); omega), up_at, if_pos ⟨rfl, rfl⟩]
  have v15 : g8 9 15 = -1 := by rw [hg8, up_at, if_neg (by (try clear n0); (try clear n4); (try clear m0); (try clear m1); (try clear m2); omega), up_at, if_pos ⟨rfl, rfl⟩]
  have v16 : g8 9 16 = -1 := by rw [hg8, up_at, if_pos ⟨rfl, rfl⟩]
  obtain ⟨g9, e9, f9, r9⟩ := X_best1_s hk (c := c) (hh := hh) k 0 g8 (by (try clear n0); (try clear n4); (try clear m0); (try clear m1); (try clear m2); omega) v10 (fun x hx => by rw [f8 91 x rfl]; exact (h2 x hx).2) (fun x hx => by (try clear n0); (try clear n4); (try clear m0); (try clear m1); (try clear m2); omega)
  obtain ⟨ga, hga⟩ : ∃ ga : AG, ga = up g9 94 c 0 := ⟨_, rfl⟩
  have fa : FR [(92, 0), (93, 0), (94, 0)] g8 ga := by rw [hga]; exact Fr.up (FR.mo f9 rfl) rfl
  have va : ga 94 c = 0 := by rw [hga, up_at, if_pos ⟨rfl, rfl⟩]
  have fga : FR RXT g ga := f8.tr (FR.mo fa rfl)
  obtain ⟨gb, eb, fb, H, R⟩ := X_best2_s (hb := hb) (hh := hh) (k := k) K BT O c ga (Nat.le_refl c) ⟨by rw [fga 9 4 rfl]; exact D.1, fun j hj => by rw [fga 85 j rfl, fga 86 j rfl, fga 87 j rfl, fga 88 j rfl]; exact D.2 j hj⟩ (by rw [fa 9 10 rfl]; exact v10) (fun b hb' => by rw [fga 90 b rfl, fga 91 b rfl]; exact h2 b hb') (fun p hp => by rw [fga 89 p rfl]; exact h3 p hp) va (fun i q1 q2 => by (try clear n0); (try clear n4); (try clear m0); (try clear m1); (try clear m2); omega) (fun i q1 q2 => by
    have : i = c := by (try clear n0); (try clear n4); (try clear m0); (try clear m1); (try clear m2); omega
    rw [this, va]
    omega)
  have fgb : FR RXT g gb := fga.tr (FR.mo fb rfl)
  have XKb : XK gb c bf bt bw bb hb hh o k (gb 94) := ⟨by rw [fgb 9 4 rfl]; exact D.1, by rw [fb 9 10 rfl, fa 9 10 rfl]; exact v10, fun j hj => by
    rw [fgb 85 j rfl, fgb 86 j rfl, fgb 87 j rfl, fgb 88 j rfl, fgb 89 j rfl]
    have := D.2 j hj
    exact ⟨this.1, this.2.1, this.2.2.1, this.2.2.2, h3 j hj⟩, fun b hb' => by rw [fgb 90 b rfl, fgb 91 b rfl]; exact h2 b hb', fun i hi => ⟨rfl, R i hi⟩⟩
  obtain ⟨g', e', f', _, _, B'⟩ := X_gives_t K BT O H c 10 0 0 hh (fun _ => -1) (fun _ => 0) (-1, -1, fun _ => 0) gb (by (try clear n0); (try clear n4); (try clear m0); (try clear m1); (try clear m2); omega) (by (try clear n0); (try clear n4); (try clear m0); (try clear m1); (try clear m2); omega) XKb (GI.start BT hw O) (fun b hb' => by
    rw [fb 92 b rfl, fb 93 b rfl, hga, up_at, if_neg (fun q => absurd q.1 (by decide)), up_at, if_neg (fun q => absurd q.1 (by decide))]
    exact r9 b hb') (fun p hp => by (try clear n0); (try clear n4); (try clear m0); (try clear m1); (try clear m2); omega) ⟨by rw [fb 9 15 rfl, fa 9 15 rfl]; exact v15, by rw [fb 9 16 rfl, fa 9 16 rfl]; exact v16, by dsimp only; (try clear n0); (try clear n4); (try clear m0); (try clear m1); (try clear m2); omega, by dsimp only; (try clear n0); (try clear n4); (try clear m0); (try clear m1); (try clear m2); omega, fun q => by dsimp only at q; omega⟩
  refine ⟨g', ?_, fgb.tr (FR.mo f' rfl), by rw [f' 9 11 rfl, fb 9 11 rfl, fa 9 11 rfl]; exact v11, B'.1, B'.2.1, fun j hj => B'.2.2.2.2 (gS_some c 0 0 _ _ _ _ (Int.le_refl 0)) j hj⟩
  have e9' : Bookings_giveBest_b 1 0 g8 = Bookings_giveBest_b 1 k g9 := e9
  have e'' : Bookings_giveNext 10 0 0 gb = some (0, g') := e'
  have m0 : nw (g9 9 10) = k := by rw [f9 9 10 rfl, v10]; exact n0
  have c0 : g9 9 4 = c := by rw [f9 9 4 rfl, f8 9 4 rfl]; exact D.1
  have m1 : nw (c : Int) = c := nwN _ (by (try clear n0); (try clear n4); (try clear m0); (try clear m1); (try clear m2); omega)
  have m2 : ix (c : Int) = c := ixN _ (by (try clear n0); (try clear n4); (try clear m0); (try clear m1); (try clear m2); omega)
  have ca : ga 9 4 = c := by rw [fga 9 4 rfl]; exact D.1
  unfold Bookings_giveBest
  rw [if_neg hs, mn, sb, sb, sb, sb, ← hg8, e9', Bookings_giveBest_b.eq_1 1, if_pos rfl, m0, n0, if_pos (Int.le_refl _), c0, m1, m2, if_pos (by (try clear n0); (try clear n4); (try clear m0); (try clear m1); (try clear m2); omega), sb, ← hga, ca, eb, e'', sb]
theorem M_best1_s {k : Nat} (hk : k ≤ 4) {hh : Nat → Int} : ∀ (n b : Nat) (g : AG), b + n = k → (∀ x, x < k → g 172 x = hh x) → (∀ x, x < b → g 169 x = hh x ∧ g 170 x = -1) → ∃ g', M_givesBest_b k b g = M_givesBest_b k k g' ∧ FR [(169, 0), (170, 0)] g g' ∧ ∀ x, x < k → g' 169 x = hh x ∧ g' 170 x = -1 := by
  intro n
  induction n with
  | zero =>
    intro b g h h2 h3
    have e : b = k := by (try clear n0); (try clear n1); (try clear n2); omega
    subst e
    exact ⟨g, rfl, Fr.rf, h3⟩
  | succ n ih =>
    intro b g h h2 h3
    have n0 : nw (k : Int) = k := nwN _ (by (try clear n0); (try clear n1); (try clear n2); omega)
    have n1 : nw (b : Int) = b := nwN _ (by (try clear n0); (try clear n1); (try clear n2); omega)
    have n2 : ix (b : Int) = b := ixN _ (by (try clear n0); (try clear n1); (try clear n2); omega)
    obtain ⟨g', e, f, r⟩ := ih (b + 1) (up (up g 169 b (hh b)) 170 b (-1)) (by (try clear n0); (try clear n1); (try clear n2); omega) (fun x hx => by rw [up_at, if_neg (fun q => absurd q.1 (by decide)), up_at, if_neg (fun q => absurd q.1 (by decide))]; exact h2 x hx) (fun x hx => by
      rw [up_at, if_neg (fun q => absurd q.1 (by decide)), up_at, up_at]
      by_cases y : x = b
      · rw [if_pos ⟨rfl, y⟩, if_pos ⟨rfl, y⟩, y]; exact ⟨rfl, rfl⟩
      · rw [if_neg (fun q => y q.2), if_neg (fun q => y q.2), up_at, if_neg (fun q => absurd q.1 (by decide))]; exact h3 x (by (try clear n0); (try clear n1); (try clear n2); omega))
    refine ⟨g', ?_, (Fr.up (Fr.up Fr.rf rfl) rfl).tr f, r⟩
    rw [M_givesBest_b, n0, n1, n2, h2 b (by (try clear n0); (try clear n1); (try clear n2); omega), if_neg (by (try clear n0); (try clear n1); (try clear n2); omega), if_pos (by (try clear n0); (try clear n1); (try clear n2); omega), sb, sb]
    exact e
abbrev RMT : Reg := [(117, 67), (117, 68), (166, 0), (167, 0), (168, 0), (169, 0), (170, 0)]
theorem M_gbest_s {c : Nat} {bf bt bw bb hb hh : Nat → Int} {o : Nat → Nat} {k : Nat} (K : BkOk c bf bt bw bb) (BT : BtOk k hb hh) (O : Ord c bw o) {g : AG} (h1 : g 117 65 = c) (h2 : ∀ j, j < c → g 162 j = bf j ∧ g 163 j = bt j ∧ g 164 j = bw j ∧ g 165 j = bb j) (h3 : ∀ b, b < k → g 171 b = hb b ∧ g 172 b = hh b) : ∃ g', M_givesBest k g = some (0, g') ∧ FR RMT g g' ∧ g' 117 66 = (gBest bf bt bw bb hb hh o k c).1 ∧ g' 117 67 = (gBest bf bt bw bb hb hh o k c).2.1 ∧ ∀ j, j < c → g' 168 j = (gBest bf bt bw bb hb hh o k c).2.2 j := by
  have hc := K.1
  have hk := BT.1
  have hw : ∀ j, j < c → 0 ≤ bw j ∧ bw j ≤ 9 := fun j hj => (K.2 j hj).2.2.1
  obtain ⟨g1, o', e1, f1, O', r1⟩ := M_sorts_t hc hw c 0 0 (fun _ => 0) g (by omega) h1 (fun j hj => (h2 j hj).2.2.1) (Ord.zero bw _) (fun p hp => by omega)
  have eo := O'.one O
  obtain ⟨g2, e2, f2, r2⟩ := M_best1_s hk (hh := hh) k 0 g1 (by omega) (fun x hx => by rw [f1 172 x rfl]; exact (h3 x hx).2) (fun x hx => by omega)
  obtain ⟨g4, hg4⟩ : ∃ g4 : AG, g4 = up (up g2 117 66 (-1)) 117 67 (-1) := ⟨_, rfl⟩
  have f4 : FR RMT g g4 := by rw [hg4]; exact Fr.up (Fr.up ((FR.mo f1 rfl).tr (FR.mo f2 rfl)) rfl) rfl
  have MK4 : MK g4 c bf bt bw bb hb hh o k := by
    refine ⟨by rw [f4 117 65 rfl]; exact h1, fun j hj => ?_, fun b hb' => by rw [f4 171 b rfl, f4 172 b rfl]; exact h3 b hb'⟩
    have := h2 j hj
    rw [f4 162 j rfl, f4 163 j rfl, f4 164 j rfl, f4 165 j rfl]
    refine ⟨this.1, this.2.1, this.2.2.1, this.2.2.2, ?_⟩
    rw [hg4, up_at, if_neg (fun q => absurd q.1 (by decide)), up_at, if_neg (fun q => absurd q.1 (by decide)), f2 166 j rfl, r1 j hj, eo j hj]
  obtain ⟨g', e', f', _, _, B'⟩ := M_gives_t K BT O c 10 0 0 hh (fun _ => -1) (fun _ => 0) (-1, -1, fun _ => 0) g4 (by omega) (by omega) MK4 (GI.start BT hw O) (fun b hb' => by
    rw [hg4, up_at, if_neg (fun q => absurd q.1 (by decide)), up_at, if_neg (fun q => absurd q.1 (by decide)), up_at, if_neg (fun q => absurd q.1 (by decide)), up_at, if_neg (fun q => absurd q.1 (by decide))]
    exact r2 b hb') (fun p hp => by omega) ⟨by rw [hg4, up_at, if_neg (by omega), up_at, if_pos ⟨rfl, rfl⟩], by rw [hg4, up_at, if_pos ⟨rfl, rfl⟩], by dsimp only; omega, by dsimp only; omega, fun q => by dsimp only at q; omega⟩
  refine ⟨g', ?_, f4.tr (FR.mo f' rfl), B'.1, B'.2.1, fun j hj => B'.2.2.2.2 (gS_some c 0 0 _ _ _ _ (Int.le_refl 0)) j hj⟩
  have e1' : M_sorts g = some (0, g1) := e1
  have e2' : M_givesBest_b k 0 g1 = M_givesBest_b k k g2 := e2
  have e'' : M_gives 10 0 k 0 g4 = some (0, g') := e'
  unfold M_givesBest
  rw [e1', sb, e2', M_givesBest_b, if_pos (Int.le_refl _), sb, sb, ← hg4, e'', sb]
/-- what both hold of the bookings -/
def JB (c : Nat) (o : Nat → Nat) (g : AG) : Prop := BkOk c (g 85) (g 86) (g 87) (g 88) ∧ g 9 4 = c ∧ g 117 65 = c ∧ (∀ j, j < c → g 162 j = g 85 j ∧ g 163 j = g 86 j ∧ g 164 j = g 87 j ∧ g 165 j = g 88 j) ∧ Ord c (g 87) o ∧ (∀ p, p < c → g 89 p = (o p : Nat)) ∧ BtOk 4 (g 90) (g 91) ∧ (0 ≤ g 9 11 ∧ g 9 11 ≤ 4) ∧ (g 9 11 ≠ 0 → g 9 15 = (gBest (g 85) (g 86) (g 87) (g 88) (g 90) (g 91) o (g 9 11).toNat c).1 ∧ g 9 16 = (gBest (g 85) (g 86) (g 87) (g 88) (g 90) (g 91) o (g 9 11).toNat c).2.1 ∧ ∀ j, j < c → g 96 j = (gBest (g 85) (g 86) (g 87) (g 88) (g 90) (g 91) o (g 9 11).toNat c).2.2 j)
def RBook : Reg := [(9, 5), (9, 12), (9, 16), (9, 17), (85, 0), (86, 0), (87, 0), (88, 0), (89, 0), (90, 0), (91, 0), (96, 0), (117, 66), (162, 0), (163, 0), (164, 0), (165, 0)]
theorem JB.cg {c : Nat} {o : Nat → Nat} {g g' : AG} (h : ∀ k i, inR RBook k i = true → g' k i = g k i) (q : JB c o g) : JB c o g' := by
  have q1 : JB c o (rs (inR RBook) g) := q
  rw [← rs_eq h] at q1
  exact q1
def JBook (g : AG) : Prop := ∃ c o, JB c o g
theorem JBook.cg {g g' : AG} (h : ∀ k i, inR RBook k i = true → g' k i = g k i) (q : JBook g) : JBook g' := by
  obtain ⟨c, o, q⟩ := q
  exact ⟨c, o, q.cg h⟩
theorem BtOk.mono {k : Nat} {hb hh : Nat → Int} (h : BtOk 4 hb hh) (hk : k ≤ 4) : BtOk k hb hh := ⟨hk, fun b hb' => h.2 b (by omega)⟩
/-- the class's best way, kept or looked for -/
theorem X_kept_s {c : Nat} {o : Nat → Nat} {g : AG} (J : JB c o g) {k : Nat} (hk : 1 ≤ k ∧ k ≤ 4) : ∃ g', Bookings_giveBest k g = some (0, g') ∧ FR RXT g g' ∧ JB c o g' ∧ g' 9 15 = (gBest (g 85) (g 86) (g 87) (g 88) (g 90) (g 91) o k c).1 ∧ g' 9 16 = (gBest (g 85) (g 86) (g 87) (g 88) (g 90) (g 91) o k c).2.1 ∧ ∀ j, j < c → g' 96 j = (gBest (g 85) (g 86) (g 87) (g 88) (g 90) (g 91) o k c).2.2 j := by
  have J0 := J
  obtain ⟨K, q1, q2, q3, O, q5, BT, q7, q8⟩ := J
  have n0 : nw (k : Int) = k := nwN _ (by (try clear n0); (try clear n1); omega)
  have n1 : nw (g 9 11) = g 9 11 := nw_id (by (try clear n0); (try clear n1); omega) (by (try clear n0); (try clear n1); omega)
  by_cases z : (k : Int) = g 9 11
  · have e : (g 9 11).toNat = k := by (try clear n0); (try clear n1); omega
    have r := q8 (by (try clear n0); (try clear n1); omega)
    rw [e] at r
    refine ⟨g, ?_, Fr.rf, J0, r⟩
    unfold Bookings_giveBest
    rw [n0, n1, if_pos z]
  · obtain ⟨g', e, f, r1, r2, r3, r4⟩ := X_gbest_s K (BT.mono hk.2) O hk.1 ⟨q1, fun j _ => ⟨rfl, rfl, rfl, rfl⟩⟩ (fun b _ => ⟨rfl, rfl⟩) q5 (by rw [n0, n1]; exact z)
    refine ⟨g', e, f, ?_, r2, r3, r4⟩
    have c85 : g' 85 = g 85 := funext fun i => f 85 i rfl
    have c86 : g' 86 = g 86 := funext fun i => f 86 i rfl
    have c87 : g' 87 = g 87 := funext fun i => f 87 i rfl
    have c88 : g' 88 = g 88 := funext fun i => f 88 i rfl
    have c90 : g' 90 = g 90 := funext fun i => f 90 i rfl
    have c91 : g' 91 = g 91 := funext fun i => f 91 i rfl
    unfold JB
    rw [c85, c86, c87, c88, c90, c91, r1, Int.toNat_natCast]
    refine ⟨K, by rw [f 9 4 rfl]; exact q1, by rw [f 117 65 rfl]; exact q2, fun j hj => ?_, O, fun p hp => by rw [f 89 p rfl]; exact q5 p hp, BT, by (try clear n0); (try clear n1); omega, fun _ => ⟨r2, r3, r4⟩⟩
    rw [f 162 j rfl, f 163 j rfl, f 164 j rfl, f 165 j rfl]
    exact q3 j hj
theorem X_hire_s {c : Nat} {o : Nat → Nat} {g : AG} (J : JB c o g) {b : Nat} {x2 x3 : Int} (hb : b < 4) (h2 : 0 ≤ x2 ∧ x2 ≤ 15) (h3 : 0 ≤ x3 ∧ x3 ≤ 15) : ∃ g', Bookings_hire b x2 x3 g = some (0, g') ∧ FR [(9, 12), (90, 0), (91, 0)] g g' ∧ JB c o g' ∧ g' 90 b = x2 ∧ g' 91 b = x3 ∧ ∀ x, x ≠ b → g' 90 x = g 90 x ∧ g' 91 x = g 91 x := by
  obtain ⟨K, q1, q2, q3, O, q5, BT, q7, q8⟩ := J
  have r := BT.2 b hb
  have n0 : nw (b : Int) = b := nwN _ (by (try clear n0); (try clear n1); (try clear n2); (try clear n3); (try clear n4); (try clear n5); omega)
  have n1 : ix (b : Int) = b := ixN _ (by (try clear n0); (try clear n1); (try clear n2); (try clear n3); (try clear n4); (try clear n5); omega)
  have n2 : nw (g 90 b) = g 90 b := nw_id (by (try clear n0); (try clear n1); (try clear n2); (try clear n3); (try clear n4); (try clear n5); omega) (by (try clear n0); (try clear n1); (try clear n2); (try clear n3); (try clear n4); (try clear n5); omega)
  have n3 : nw (g 91 b) = g 91 b := nw_id (by (try clear n0); (try clear n1); (try clear n2); (try clear n3); (try clear n4); (try clear n5); omega) (by (try clear n0); (try clear n1); (try clear n2); (try clear n3); (try clear n4); (try clear n5); omega)
  have n4 : nw x2 = x2 := nw_id (by (try clear n0); (try clear n1); (try clear n2); (try clear n3); (try clear n4); (try clear n5); omega) (by (try clear n0); (try clear n1); (try clear n2); (try clear n3); (try clear n4); (try clear n5); omega)
  have n5 : nw x3 = x3 := nw_id (by (try clear n0); (try clear n1); (try clear n2); (try clear n3); (try clear n4); (try clear n5); omega) (by (try clear n0); (try clear n1); (try clear n2); (try clear n3); (try clear n4); (try clear n5); omega)
  -- either nothing is new, or nothing is settled
  have lem : ∀ r8 : AG, (r8 = g ∧ g 90 b = x2 ∧ g 91 b = x3) ∨ r8 = up g 9 11 0 → FR [(9, 12), (90, 0), (91, 0)] g (up (up r8 90 b x2) 91 b x3) ∧ JB c o (up (up r8 90 b x2) 91 b x3) ∧ (up (up r8 90 b x2) 91 b x3) 90 b = x2 ∧ (up (up r8 90 b x2) 91 b x3) 91 b = x3 ∧ ∀ x, x ≠ b → (up (up r8 90 b x2) 91 b x3) 90 x = g 90 x ∧ (up (up r8 90 b x2) 91 b x3) 91 x = g 91 x := by
    intro r8 h8
    have f8 : FR [(9, 12), (90, 0), (91, 0)] g r8 := by
      rcases h8 with h | h
      · rw [h.1]; exact Fr.rf
      · rw [h]; exact Fr.up Fr.rf rfl
    obtain ⟨g', hg'⟩ : ∃ g' : AG, g' = up (up r8 90 b x2) 91 b x3 := ⟨_, rfl⟩
    have f : FR [(9, 12), (90, 0), (91, 0)] g g' := by rw [hg']; exact Fr.up (Fr.up f8 rfl) rfl
    rw [← hg']
    have a90 : g' 90 b = x2 := by rw [hg', up_at, if_neg (fun q => absurd q.1 (by decide)), up_at, if_pos ⟨rfl, rfl⟩]
    have a91 : g' 91 b = x3 := by rw [hg', up_at, if_pos ⟨rfl, rfl⟩]
    have b90 : ∀ x, x ≠ b → g' 90 x = g 90 x := fun x hx => by
      rw [hg', up_at, if_neg (fun q => absurd q.1 (by decide)), up_at, if_neg (fun q => hx q.2)]
      rcases h8 with h | h
      · rw [h.1]
      · rw [h, up_at, if_neg (fun q => absurd q.1 (by decide))]
    have b91 : ∀ x, x ≠ b → g' 91 x = g 91 x := fun x hx => by
      rw [hg', up_at, if_neg (fun q => hx q.2), up_at, if_neg (fun q => absurd q.1 (by decide))]
      rcases h8 with h | h
      · rw [h.1]
      · rw [h, up_at, if_neg (fun q => absurd q.1 (by decide))]
    refine ⟨f, ?_, a90, a91, fun x hx => ⟨b90 x hx, b91 x hx⟩⟩
    have c85 : g' 85 = g 85 := funext fun i => f 85 i rfl
    have c86 : g' 86 = g 86 := funext fun i => f 86 i rfl
    have c87 : g' 87 = g 87 := funext fun i => f 87 i rfl
    have c88 : g' 88 = g 88 := funext fun i => f 88 i rfl
    have BT' : BtOk 4 (g' 90) (g' 91) := ⟨by (try clear n0); (try clear n1); (try clear n2); (try clear n3); (try clear n4); (try clear n5); omega, fun x hx => by
      by_cases y : x = b
      · rw [y, a90, a91]; exact ⟨h2, h3⟩
      · rw [b90 x y, b91 x y]; exact BT.2 x hx⟩
    unfold JB
    rw [c85, c86, c87, c88]
    refine ⟨K, by rw [f 9 4 rfl]; exact q1, by rw [f 117 65 rfl]; exact q2, fun j hj => by rw [f 162 j rfl, f 163 j rfl, f 164 j rfl, f 165 j rfl]; exact q3 j hj, O, fun p hp => by rw [f 89 p rfl]; exact q5 p hp, BT', ?_, ?_⟩
    · rcases h8 with h | h
      · rw [hg', up_at, if_neg (fun q => absurd q.1 (by decide)), up_at, if_neg (fun q => absurd q.1 (by decide)), h.1]; exact q7
      · rw [hg', up_at, if_neg (fun q => absurd q.1 (by decide)), up_at, if_neg (fun q => absurd q.1 (by decide)), h, up_at, if_pos ⟨rfl, rfl⟩]; (try clear n0); (try clear n1); (try clear n2); (try clear n3); (try clear n4); (try clear n5); omega
    · rcases h8 with h | h
      · have e90 : g' 90 = g 90 := funext fun x => by
          by_cases y : x = b
          · rw [y, a90]; exact h.2.1.symm
          · exact b90 x y
        have e91 : g' 91 = g 91 := funext fun x => by
          by_cases y : x = b
          · rw [y, a91]; exact h.2.2.symm
          · exact b91 x y
        have e11 : g' 9 11 = g 9 11 := by rw [hg', up_at, if_neg (fun q => absurd q.1 (by decide)), up_at, if_neg (fun q => absurd q.1 (by decide)), h.1]
        rw [e90, e91, e11, f 9 15 rfl, f 9 16 rfl]
        intro z
        have := q8 z
        exact ⟨this.1, this.2.1, fun j hj => by rw [f 96 j rfl]; exact this.2.2 j hj⟩
      · intro z
        exfalso
        apply z
        rw [hg', up_at, if_neg (fun q => absurd q.1 (by decide)), up_at, if_neg (fun q => absurd q.1 (by decide)), h, up_at, if_pos ⟨rfl, rfl⟩]
  have top : ∀ R : Option (Int × AG), (∀ r8 : AG, (r8 = g ∧ g 90 b = x2 ∧ g 91 b = x3) ∨ r8 = up g 9 11 0 → R = some ((0 : Int), up (up r8 90 b x2) 91 b x3) → ∃ g', R = some (0, g') ∧ FR [(9, 12), (90, 0), (91, 0)] g g' ∧ JB c o g' ∧ g' 90 b = x2 ∧ g' 91 b = x3 ∧ ∀ x, x ≠ b → g' 90 x = g 90 x ∧ g' 91 x = g 91 x) := fun R r8 h8 e => ⟨_, e, lem r8 h8⟩
  unfold Bookings_hire
  rw [n0, n1, n2, n3, n4, n5, if_pos (by (try clear n0); (try clear n1); (try clear n2); (try clear n3); (try clear n4); (try clear n5); omega)]
  by_cases z1 : g 90 b = x2
  · rw [if_pos z1]
    by_cases z2 : g 91 b = x3
    · rw [if_pos z2, sb, sb, sb]
      exact top _ g (Or.inl ⟨rfl, z1, z2⟩) rfl
    · rw [if_neg z2, sb, sb, sb, sb]
      exact top _ _ (Or.inr rfl) rfl
  · rw [if_neg z1, sb, sb, sb, sb]
    exact top _ _ (Or.inr rfl) rfl
