/-! plain programs: turning round, the reference, both sides -/
theorem pow_le {H k J : Nat} (hH : 1 ≤ H ∧ H ≤ 3) (hk : k ≤ J) (hJ : J ≤ 8) : 1 ≤ H ^ k ∧ H ^ k ≤ H ^ J ∧ H ^ J ≤ 6561 := by
  refine ⟨Nat.one_le_pow _ _ (by omega), Nat.pow_le_pow_right (by omega) hk, ?_⟩
  exact Nat.le_trans (Nat.pow_le_pow_left hH.2 J) (Nat.pow_le_pow_right (n := 3) (by omega) hJ)
theorem M_hand_s {H i : Nat} (hH : 1 ≤ H ∧ H ≤ 3) {g : AG} : ∀ (j n : Nat), i < j → j ≤ 8 → n ≤ 10000 → M_handOf_b i H g n ((j : Int) - 1) = some ((dg H j n i : Nat) : Int)
  | 0, n, h, _, _ => by (try clear n0); (try clear n1); (try clear n2); (try clear n3); omega
  | j + 1, n, h, hj, hn => by
    have n0 : nw (((j + 1 : Nat) : Int) - 1) = j := by rw [show ((j + 1 : Nat) : Int) - 1 = (j : Int) by (try clear n0); (try clear n1); (try clear n2); (try clear n3); omega]; exact nwN _ (by (try clear n0); (try clear n1); (try clear n2); (try clear n3); omega)
    have n1 : nw (i : Int) = i := nwN _ (by (try clear n0); (try clear n1); (try clear n2); (try clear n3); omega)
    have n2 : nw (H : Int) = H := nwN _ (by (try clear n0); (try clear n1); (try clear n2); (try clear n3); omega)
    have n3 : nw (n : Int) = n := nwN _ (by (try clear n0); (try clear n1); (try clear n2); (try clear n3); omega)
    rw [M_handOf_b, n0, n1, n2, n3]
    clear n0 n1 n2 n3
    unfold dg
    by_cases z : i = j
    · rw [if_pos (by (try clear n0); (try clear n1); (try clear n2); (try clear n3); omega), if_pos (by (try clear n0); (try clear n1); (try clear n2); (try clear n3); omega), if_pos z, tmE (by (try clear n0); (try clear n1); (try clear n2); (try clear n3); omega)]
      rfl
    · have hd : n / H ≤ n := Nat.div_le_self n H
      have e := M_hand_s (H := H) (i := i) hH (g := g) j (n / H) (by (try clear n0); (try clear n1); (try clear n2); (try clear n3); omega) (by (try clear n0); (try clear n1); (try clear n2); (try clear n3); omega) (by (try clear n0); (try clear n1); (try clear n2); (try clear n3); omega)
      rw [if_neg (by (try clear n0); (try clear n1); (try clear n2); (try clear n3); omega), if_pos (by (try clear n0); (try clear n1); (try clear n2); (try clear n3); omega), if_neg z, tdE (by (try clear n0); (try clear n1); (try clear n2); (try clear n3); omega), show ((j + 1 : Nat) : Int) - 1 + -1 = (j : Int) - 1 by (try clear n0); (try clear n1); (try clear n2); (try clear n3); omega]
      exact e
theorem M_handOf_s {H J i n : Nat} (hH : 1 ≤ H ∧ H ≤ 3) {g : AG} (hJ : g 117 87 = J) (hJ8 : J ≤ 8) (hi : i < J) (hn : n ≤ 10000) : M_handOf n i H g = some ((dg H J n i : Nat) : Int) := by
  unfold M_handOf
  rw [hJ]
  exact M_hand_s hH J n hi hJ8 hn
theorem dg_lt {H : Nat} (hH : 1 ≤ H) : ∀ (j n i : Nat), dg H j n i < H
  | 0, _, _ => hH
  | j + 1, n, i => by
    unfold dg
    split
    · exact Nat.mod_lt _ (by omega)
    · exact dg_lt hH j _ i
def MTB (H J : Nat) (s : TB) (l f : Int) : Prop := (s = none ∧ l = -1 ∧ f = 0) ∨ ∃ p, s = some p ∧ l = p.1 ∧ f = (p.2 : Nat) ∧ (600 ≤ p.1 ∧ p.1 ≤ 10000) ∧ p.2 < H ^ J
theorem M_ways5_s {H : Nat} (hH : 1 ≤ H ∧ H ≤ 3) {x2 a b c d e : Int} : ∀ (n k : Nat) (g : AG), k + n = H → (∀ h, h < k → g 179 h = 600) → ∃ g', M_turned_b H x2 5 (a, b, c, d, e, k) g = M_turned_b H x2 6 (a, b, c, d, e, 0) g' ∧ FR [(179, 0)] g g' ∧ ∀ h, h < H → g' 179 h = 600 := by
  intro n
  induction n with
  | zero =>
    intro k g h q
    refine ⟨g, ?_, Fr.rf, fun h hh => q h (by (try clear n0); (try clear n1); (try clear n2); omega)⟩
    rw [M_turned_b.eq_1 _ _ 5]
    dsimp only
    rw [if_neg (by decide), if_neg (by decide), if_neg (by decide), if_neg (by decide), if_pos rfl, if_pos (by rw [nwN _ (by (try clear n0); (try clear n1); (try clear n2); omega), nwN _ (by (try clear n0); (try clear n1); (try clear n2); omega)]; omega)]
  | succ n ih =>
    intro k g h q
    obtain ⟨g', e', f, r⟩ := ih (k + 1) (up g 179 k 600) (by (try clear n0); (try clear n1); (try clear n2); omega) (fun h hh => by
      rw [up_at]
      by_cases z : h = k
      · rw [if_pos ⟨rfl, z⟩]
      · rw [if_neg (by (try clear n0); (try clear n1); (try clear n2); omega)]; exact q h (by (try clear n0); (try clear n1); (try clear n2); omega))
    refine ⟨g', ?_, (Fr.up Fr.rf rfl).tr f, r⟩
    have n0 : nw (H : Int) = H := nwN _ (by (try clear n0); (try clear n1); (try clear n2); omega)
    have n1 : nw (k : Int) = k := nwN _ (by (try clear n0); (try clear n1); (try clear n2); omega)
    have n2 : ix (k : Int) = k := ixN _ (by (try clear n0); (try clear n1); (try clear n2); omega)
    rw [M_turned_b.eq_1 _ _ 5]
    dsimp only
    rw [n0, n1, n2]
    clear n0 n1 n2
    rw [if_neg (by decide), if_neg (by decide), if_neg (by decide), if_neg (by decide), if_pos rfl, if_neg (by (try clear n0); (try clear n1); (try clear n2); omega), if_pos (by (try clear n0); (try clear n1); (try clear n2); omega), sb]
    exact e'
theorem M_ways6_s {H J : Nat} {mi : Nat → Int} (K : JbOk mi J) (hH : 1 ≤ H ∧ H ≤ 3) {x2 a b c d : Int} {w : Nat} (hw : w ≤ 10000) : ∀ (n j : Nat) (g : AG), j + n = J → MJ g mi J → (∀ h, h < H → g 179 h = qe mi (dg H J w) j h) → ∃ g', M_turned_b H x2 6 (a, b, c, d, w, j) g = M_turned_b H x2 6 (a, b, c, d, w, J) g' ∧ FR [(179, 0)] g g' ∧ ∀ h, h < H → g' 179 h = qe mi (dg H J w) J h := by
  intro n
  induction n with
  | zero =>
    intro j g h X q
    refine ⟨g, by rw [show j = J by (try clear n0); (try clear n1); (try clear n2); (try clear n3); (try clear n4); omega], Fr.rf, fun h hh => by rw [← show j = J by (try clear n0); (try clear n1); (try clear n2); (try clear n3); (try clear n4); omega]; exact (show j = J by (try clear n0); (try clear n1); (try clear n2); (try clear n3); (try clear n4); omega) ▸ q h hh⟩
  | succ n ih =>
    intro j g h X q
    have hJ := K.1
    have hd := dg_lt (H := H) (by (try clear n0); (try clear n1); (try clear n2); (try clear n3); (try clear n4); omega) J w j
    have ho := M_handOf_s (i := j) (n := w) hH X.1 hJ (by (try clear n0); (try clear n1); (try clear n2); (try clear n3); (try clear n4); omega) hw
    obtain ⟨D, hD⟩ : ∃ D, D = dg H J w j := ⟨_, rfl⟩
    rw [← hD] at ho hd
    obtain ⟨g', e', f, r⟩ := ih (j + 1) (up g 179 D (qe mi (dg H J w) j D + mi j)) (by (try clear n0); (try clear n1); (try clear n2); (try clear n3); (try clear n4); omega) ⟨by rw [up_at, if_neg (by (try clear n0); (try clear n1); (try clear n2); (try clear n3); (try clear n4); omega)]; exact X.1, fun i hi => by rw [up_at, if_neg (by (try clear n0); (try clear n1); (try clear n2); (try clear n3); (try clear n4); omega)]; exact X.2 i hi⟩ (fun h hh => by
      rw [up_at]
      conv => rhs; unfold qe
      rw [← hD]
      by_cases z : h = D
      · rw [if_pos ⟨rfl, z⟩, if_pos z, z]
      · rw [if_neg (fun q => z q.2), if_neg z]; exact q h hh)
    refine ⟨g', ?_, (Fr.up Fr.rf rfl).tr f, r⟩
    have n0 : nw (g 117 87) = J := by rw [X.1, nwN _ (by (try clear n0); (try clear n1); (try clear n2); (try clear n3); (try clear n4); omega)]
    have n1 : nw (j : Int) = j := nwN _ (by (try clear n0); (try clear n1); (try clear n2); (try clear n3); (try clear n4); omega)
    have n2 : ix (j : Int) = j := ixN _ (by (try clear n0); (try clear n1); (try clear n2); (try clear n3); (try clear n4); omega)
    have n3 : nw (D : Int) = D := nwN _ (by (try clear n0); (try clear n1); (try clear n2); (try clear n3); (try clear n4); omega)
    have n4 : ix (D : Int) = D := ixN _ (by (try clear n0); (try clear n1); (try clear n2); (try clear n3); (try clear n4); omega)
    rw [M_turned_b.eq_1 _ _ 6]
    dsimp only
    rw [n0, n1, n2]
    rw [if_neg (by decide), if_neg (by decide), if_neg (by decide), if_neg (by decide), if_neg (by decide), if_pos rfl, if_neg (by (try clear n0); (try clear n1); (try clear n2); (try clear n3); (try clear n4); omega), ho, sb, n3, n4, if_pos (by (try clear n0); (try clear n1); (try clear n2); (try clear n3); (try clear n4); omega), if_pos (by (try clear n0); (try clear n1); (try clear n2); (try clear n3); (try clear n4); omega), q D hd, X.2 j (by (try clear n0); (try clear n1); (try clear n2); (try clear n3); (try clear n4); omega), sb]
    exact e'
theorem M_ways_s {H J : Nat} {mi : Nat → Int} (K : JbOk mi J) (hH : 1 ≤ H ∧ H ≤ 3) {x2 a : Int} : ∀ (n w : Nat) (l f x : Int) (s : TB) (g : AG), w + n = H ^ J → MJ g mi J → MTB H J s l f → ∃ l' f' x' g', M_turned_b H x2 4 (a, (H ^ J : Nat), l, f, w, x) g = M_turned_b H x2 4 (a, (H ^ J : Nat), l', f', (H ^ J : Nat), x') g' ∧ FR [(179, 0)] g g' ∧ MTB H J (tF (tV mi H J) n w s) l' f' := by
  intro n
  induction n with
  | zero =>
    intro w l f x s g h X B
    exact ⟨l, f, x, g, by rw [show w = H ^ J by (try clear m1); (try clear m2); (try clear n0); (try clear n1); (try clear n2); (try clear n3); omega], Fr.rf, B⟩
  | succ n ih =>
    intro w l f x s g h X B
    have hJ := K.1
    have pw := pow_le (k := J) hH (Nat.le_refl J) hJ
    obtain ⟨P, hP⟩ : ∃ P, P = H ^ J := ⟨_, rfl⟩
    obtain ⟨g5, e5, f5, r5⟩ := M_ways5_s hH (x2 := x2) (a := a) (b := (P : Nat)) (c := l) (d := f) (e := w) H 0 g (by (try clear m1); (try clear m2); (try clear n0); (try clear n1); (try clear n2); (try clear n3); omega) (fun h hh => by (try clear m1); (try clear m2); (try clear n0); (try clear n1); (try clear n2); (try clear n3); omega)
    have X5 : MJ g5 mi J := ⟨by rw [f5 117 87 rfl]; exact X.1, fun i hi => by rw [f5 178 i rfl]; exact X.2 i hi⟩
    obtain ⟨g6, e6, f6, r6⟩ := M_ways6_s K hH (x2 := x2) (a := a) (b := (P : Nat)) (c := l) (d := f) (w := w) (by (try clear m1); (try clear m2); (try clear n0); (try clear n1); (try clear n2); (try clear n3); omega) J 0 g5 (by (try clear m1); (try clear m2); (try clear n0); (try clear n1); (try clear n2); (try clear n3); omega) X5 (fun h hh => by rw [r5 h hh]; rfl)
    have X6 : MJ g6 mi J := ⟨by rw [f6 117 87 rfl]; exact X5.1, fun i hi => by rw [f6 178 i rfl]; exact X5.2 i hi⟩
    have r := qe_rng K (D := dg H J w) J (by (try clear m1); (try clear m2); (try clear n0); (try clear n1); (try clear n2); (try clear n3); omega)
    have lr := leF_rng (e := qe mi (dg H J w) J) (B := 600 + 300 * J) (by (try clear m1); (try clear m2); (try clear n0); (try clear n1); (try clear n2); (try clear n3); omega) H (fun x _ => (r x).2)
    have ll : M_lastEnd H g6 = some (tV mi H J w) := M_last_s (e := qe mi (dg H J w) J) hH (fun h hh => ⟨r6 h hh, by have := r h; omega, by have := r h; omega⟩) H 0 (by (try clear m1); (try clear m2); (try clear n0); (try clear n1); (try clear n2); (try clear n3); omega)
    have lv : leF (qe mi (dg H J w) J) H = tV mi H J w := rfl
    rw [lv] at lr
    obtain ⟨l2, f2, hu, B2⟩ : ∃ l2 f2, (if nw l = -1 then some (tV mi H J w, (w : Int), g6) else if nw (tV mi H J w) < nw l then some (tV mi H J w, (w : Int), g6) else some (l, f, g6)) = some (l2, f2, g6) ∧ MTB H J (tU (tV mi H J) w s) l2 f2 := by
      unfold tU
      rcases B with ⟨b1, b2, b3⟩ | ⟨p, b1, b2, b3, b4, b5⟩
      · subst b1
        rw [b2, nw_m1, if_pos rfl]
        exact ⟨_, _, rfl, Or.inr ⟨_, rfl, rfl, rfl, by dsimp only; (try clear m1); (try clear m2); (try clear n0); (try clear n1); (try clear n2); (try clear n3); omega, by dsimp only; (try clear m1); (try clear m2); (try clear n0); (try clear n1); (try clear n2); (try clear n3); omega⟩⟩
      · subst b1
        have m1 : nw l = p.1 := by rw [b2]; exact nw_id (by (try clear m1); (try clear m2); (try clear n0); (try clear n1); (try clear n2); (try clear n3); omega) (by (try clear m1); (try clear m2); (try clear n0); (try clear n1); (try clear n2); (try clear n3); omega)
        have m2 : nw (tV mi H J w) = tV mi H J w := by clear m1; exact nw_id (by (try clear m1); (try clear m2); (try clear n0); (try clear n1); (try clear n2); (try clear n3); omega) (by (try clear m1); (try clear m2); (try clear n0); (try clear n1); (try clear n2); (try clear n3); omega)
        rw [m1, m2, if_neg (by (try clear m1); (try clear m2); (try clear n0); (try clear n1); (try clear n2); (try clear n3); omega)]
        clear m1 m2
        dsimp only
        by_cases z : tV mi H J w < p.1
        · rw [if_pos z, if_pos z]
          exact ⟨_, _, rfl, Or.inr ⟨_, rfl, rfl, rfl, by dsimp only; (try clear m1); (try clear m2); (try clear n0); (try clear n1); (try clear n2); (try clear n3); omega, by dsimp only; (try clear m1); (try clear m2); (try clear n0); (try clear n1); (try clear n2); (try clear n3); omega⟩⟩
        · rw [if_neg z, if_neg z]
          exact ⟨_, _, rfl, Or.inr ⟨p, rfl, b2, b3, b4, b5⟩⟩
    obtain ⟨l', f', x', g', e', ff, B'⟩ := ih (w + 1) l2 f2 J (tU (tV mi H J) w s) g6 (by (try clear m1); (try clear m2); (try clear n0); (try clear n1); (try clear n2); (try clear n3); omega) X6 B2
    refine ⟨l', f', x', g', ?_, f5.tr (f6.tr ff), B'⟩
    have n0 : nw (w : Int) = w := nwN _ (by (try clear m1); (try clear m2); (try clear n0); (try clear n1); (try clear n2); (try clear n3); omega)
    have n1 : nw (P : Int) = P := nwN _ (by (try clear m1); (try clear m2); (try clear n0); (try clear n1); (try clear n2); (try clear n3); omega)
    have n2 : nw (J : Int) = J := nwN _ (by (try clear m1); (try clear m2); (try clear n0); (try clear n1); (try clear n2); (try clear n3); omega)
    have n3 : nw (g6 117 87) = J := by rw [X6.1, n2]
    have e5' : M_turned_b H x2 5 (a, (P : Nat), l, f, w, 0) g = M_turned_b H x2 6 (a, (P : Nat), l, f, w, 0) g5 := e5
    have e6' : M_turned_b H x2 6 (a, (P : Nat), l, f, w, 0) g5 = M_turned_b H x2 6 (a, (P : Nat), l, f, w, J) g6 := e6
    rw [← hP] at e' ⊢
    rw [M_turned_b.eq_1 _ _ 4]
    dsimp only
    rw [n0, n1, if_neg (by decide), if_neg (by decide), if_neg (by decide), if_pos rfl, if_neg (by (try clear m1); (try clear m2); (try clear n0); (try clear n1); (try clear n2); (try clear n3); omega), e5', e6', M_turned_b.eq_1 _ _ 6]
    dsimp only
    rw [n2, n3, if_neg (by decide), if_neg (by decide), if_neg (by decide), if_neg (by decide), if_neg (by decide), if_pos rfl, if_pos (Int.le_refl _), ll, sb, hu, sb]
    exact e'
theorem M_ways3_s {H J : Nat} (hH : 1 ≤ H ∧ H ≤ 3) (hJ8 : J ≤ 8) {x2 a d e x : Int} {g : AG} (hJ : g 117 87 = J) : ∀ (n k : Nat), k + n = J → M_turned_b H x2 3 (a, (H ^ k : Nat), k, d, e, x) g = M_turned_b H x2 4 (a, (H ^ J : Nat), -1, 0, 0, x) g := by
  intro n
  induction n with
  | zero =>
    intro k h
    rw [M_turned_b.eq_1 _ _ 3]
    dsimp only
    rw [if_neg (by decide), if_neg (by decide), if_pos rfl, if_pos (by rw [hJ, nwN _ (by omega), nwN _ (by omega)]; omega), show k = J by omega]
  | succ n ih =>
    intro k h
    have e2 := ih (k + 1) (by omega)
    rw [M_turned_b.eq_1 _ _ 3]
    dsimp only
    rw [if_neg (by decide), if_neg (by decide), if_pos rfl, if_neg (by rw [hJ, nwN _ (by omega), nwN _ (by omega)]; omega)]
    rw [← e2, Nat.pow_succ, Int.natCast_mul]
    rfl
theorem tF_rel {mi : Nat → Int} {H J : Nat} : tF (tV mi H J) (H ^ J) 0 none = tT H (tV mi H J) J 0 none := by
  have := tF_tT (H := H) (v := tV mi H J) J 0 none
  rw [Nat.zero_mul] at this
  exact this
theorem sm_turned {x1 x2 : Int} {g : AG} (h1 : I32 x1) (h2 : I32 x2) (q : JJob g) :
    ∃ r1 r2, X_turned x1 x2 g = some r1 ∧ M_turned x1 x2 r1.2 = some r2 ∧ nw r1.1 = nw r2.1 ∧ FR [(10, 13), (10, 14), (10, 15), (104, 0), (105, 0), (106, 0), (117, 91), (179, 0)] g r2.2 := by
  unfold I32 at *
  obtain ⟨⟨q1, q2, q3⟩, q4⟩ := q
  obtain ⟨J, hJ⟩ := natOf q2
  have K : JbOk (g 103) J := ⟨by (try clear wX); (try clear wM); (try clear w0); (try clear w1); (try clear n2); (try clear m1); (try clear m2); omega, fun j hj => (q4 j (by (try clear wX); (try clear wM); (try clear w0); (try clear w1); (try clear n2); (try clear m1); (try clear m2); omega)).2⟩
  have wX : (nw (X_within x1 1 3) = 0) = (x1 < 1 ∨ 3 < x1) := within0 (by (try clear wX); (try clear wM); (try clear w0); (try clear w1); (try clear n2); (try clear m1); (try clear m2); omega) (by (try clear wX); (try clear wM); (try clear w0); (try clear w1); (try clear n2); (try clear m1); (try clear m2); omega) (by decide) (by decide) (by decide) (by decide)
  have wM : (nw (M_isIn x1 1 3) = 0) = (x1 < 1 ∨ 3 < x1) := isIn0 (by (try clear wX); (try clear wM); (try clear w0); (try clear w1); (try clear n2); (try clear m1); (try clear m2); omega) (by (try clear wX); (try clear wM); (try clear w0); (try clear w1); (try clear n2); (try clear m1); (try clear m2); omega) (by decide) (by decide) (by decide) (by decide)
  have w0 : (nw (M_isIn x2 0 2) = 0) = (x2 < 0 ∨ 2 < x2) := isIn0 (by (try clear wX); (try clear wM); (try clear w0); (try clear w1); (try clear n2); (try clear m1); (try clear m2); omega) (by (try clear wX); (try clear wM); (try clear w0); (try clear w1); (try clear n2); (try clear m1); (try clear m2); omega) (by decide) (by decide) (by decide) (by decide)
  have w1 : ∀ g' : AG, g' 117 87 = J → (nw (M_isIn x2 10 (9 + g' 117 87)) = 0) = (x2 < 10 ∨ 9 + (J : Int) < x2) := fun g' e => by
    rw [e]
    exact isIn0 (by (try clear wX); (try clear wM); (try clear w0); (try clear w1); (try clear n2); (try clear m1); (try clear m2); omega) (by (try clear wX); (try clear wM); (try clear w0); (try clear w1); (try clear n2); (try clear m1); (try clear m2); omega) (by decide) (by decide) (by (try clear wX); (try clear wM); (try clear w0); (try clear w1); (try clear n2); (try clear m1); (try clear m2); omega) (by (try clear wX); (try clear wM); (try clear w0); (try clear w1); (try clear n2); (try clear m1); (try clear m2); omega)
  have n2 : nw x2 = x2 := nw_id (by (try clear wX); (try clear wM); (try clear w0); (try clear w1); (try clear n2); (try clear m1); (try clear m2); omega) (by (try clear wX); (try clear wM); (try clear w0); (try clear w1); (try clear n2); (try clear m1); (try clear m2); omega)
  by_cases a : 1 ≤ x1 ∧ x1 ≤ 3
  · obtain ⟨H, rfl⟩ := natOf (show 0 ≤ x1 by (try clear wX); (try clear wM); (try clear w0); (try clear w1); (try clear n2); (try clear m1); (try clear m2); omega)
    have hH : 1 ≤ H ∧ H ≤ 3 := by (try clear wX); (try clear wM); (try clear w0); (try clear w1); (try clear n2); (try clear m1); (try clear m2); omega
    have XJ0 : XJ g (g 103) J := ⟨hJ, fun j _ => rfl⟩
    by_cases ok : (0 ≤ x2 ∧ x2 ≤ 2) ∨ (10 ≤ x2 ∧ x2 ≤ 9 + (J : Int))
    · -- the class first
      by_cases z : x2 = 0 ∨ x2 = 2
      · obtain ⟨gx, ex, fx, x13, x14⟩ := X_worked_s K hH XJ0
        obtain ⟨gm, em, fm, m90⟩ := M_worked_s (g := gx) K hH ⟨by rw [fx 117 87 rfl]; omega, fun j hj => by rw [fx 178 j rfl]; exact (q4 j (by (try clear wX); (try clear wM); (try clear w0); (try clear w1); (try clear n2); (try clear m1); (try clear m2); omega)).1⟩
        refine ⟨(if x2 = 0 then gx 10 13 else gx 10 14, gx), (if x2 = 0 then leF (wS H (g 103) J).1 H else gm 117 90, gm), ?_, ?_, ?_, ?_⟩
        · unfold X_turned
          rw [if_neg (by rw [wX]; clear wX wM w0 n2; omega), n2]
          have t : X_turned_b 1 H x2 g = some (if x2 = 0 then gx 10 13 else gx 10 14, gx) := by
            rw [X_turned_b.eq_1 1, if_pos rfl, ex, sb, n2, sb]
          rcases z with z | z
          · rw [if_pos z]; exact t
          · rw [if_neg (by (try clear wX); (try clear wM); (try clear w0); (try clear w1); (try clear n2); (try clear m1); (try clear m2); omega), if_pos z]; exact t
        · unfold M_turned
          dsimp only
          rw [if_neg (by rw [wM]; clear wX wM w0 n2; omega), if_neg (by rw [w0]; clear wX wM w0 n2; omega), M_turned_b.eq_1 _ _ 1, if_pos rfl, em, sb, n2]
          have t : ∀ b c d e f : Int, M_turned_b H x2 2 (leF (wS H (g 103) J).1 H, b, c, d, e, f) gm = some (if x2 = 0 then leF (wS H (g 103) J).1 H else gm 117 90, gm) := fun b c d e f => by
            rw [M_turned_b.eq_1 _ _ 2, if_neg (by decide), if_pos rfl, n2, sb]
          rcases z with z | z
          · rw [if_pos z]; exact t _ _ _ _ _
          · rw [if_neg (by (try clear wX); (try clear wM); (try clear w0); (try clear w1); (try clear n2); (try clear m1); (try clear m2); omega), if_pos z]; exact t _ _ _ _ _
        · dsimp only
          rw [x13, x14, m90]
        · exact (FR.mo fx rfl).tr (FR.mo fm rfl)
      · obtain ⟨g3, hg3⟩ : ∃ g3 : AG, g3 = up (fillG g 104 3 600) 10 12 3001 := ⟨_, rfl⟩
        have f3 : FR RXS g g3 := by rw [hg3]; exact Fr.up (Fr.fill Fr.rf (fun _ => rfl)) rfl
        have pw := pow_le (k := J) hH (Nat.le_refl J) K.1
        have l0 : leF (qe (g 103) (dg H 0 0) 0) H = 600 := by
          have := leF_rng (e := qe (g 103) (dg H 0 0) 0) (B := 600) (by (try clear wX); (try clear wM); (try clear w0); (try clear w1); (try clear n2); (try clear m1); (try clear m2); omega) H (fun x _ => Int.le_refl _)
          clear wX wM w0 n2
          omega
        obtain ⟨gx, ex, fx, _, _, Bx⟩ := X_share_t K hH J 10 0 0 none g3 (by (try clear wX); (try clear wM); (try clear w0); (try clear w1); (try clear n2); (try clear m1); (try clear m2); omega) (by have := K.1; clear wX wM w0 n2; omega) (XJ0.fr f3) (fun i hi => by (try clear wX); (try clear wM); (try clear w0); (try clear w1); (try clear n2); (try clear m1); (try clear m2); omega) (fun h hh => by
          rw [hg3, up_at, if_neg (by (try clear wX); (try clear wM); (try clear w0); (try clear w1); (try clear n2); (try clear m1); (try clear m2); omega), fill_at, if_pos ⟨rfl, by (try clear wX); (try clear wM); (try clear w0); (try clear w1); (try clear n2); (try clear m1); (try clear m2); omega⟩]; rfl) (Or.inl ⟨rfl, by rw [hg3, up_at, if_pos ⟨rfl, rfl⟩]⟩)
        rw [l0] at ex
        have ex' : Yard_shareNext 10 0 H 600 g3 = some (0, gx) := ex
        have f3x := f3.tr fx
        have MJx : MJ gx (g 103) J := ⟨by rw [f3x 117 87 rfl]; clear wX wM w0 n2; omega, fun j hj => by rw [f3x 178 j rfl]; exact (q4 j (by (try clear wX); (try clear wM); (try clear w0); (try clear w1); (try clear n2); (try clear m1); (try clear m2); omega)).1⟩
        obtain ⟨gm, em, fm, m90⟩ := M_worked_s (g := gx) K hH MJx
        have MJm : MJ gm (g 103) J := ⟨by rw [fm 117 87 rfl]; exact MJx.1, fun j hj => by rw [fm 178 j rfl]; exact MJx.2 j hj⟩
        obtain ⟨l', f', x', gw, ew, fw, Bw⟩ := M_ways_s K hH (x2 := x2) (a := 0) (H ^ J) 0 (-1) 0 0 none gm (by (try clear wX); (try clear wM); (try clear w0); (try clear w1); (try clear n2); (try clear m1); (try clear m2); omega) MJm (Or.inl ⟨rfl, rfl, rfl⟩)
        rw [tF_rel] at Bw
        have e3 := M_ways3_s hH K.1 (x2 := x2) (a := 0) (d := 0) (e := 0) (x := 0) MJm.1 J 0 (by (try clear wX); (try clear wM); (try clear w0); (try clear w1); (try clear n2); (try clear m1); (try clear m2); omega)
        rw [Nat.pow_zero] at e3
        -- one way was found
        have ⟨p, sp, bp⟩ : ∃ p, tT H (tV (g 103) H J) J 0 none = some p ∧ ((gx 10 12 = p.1 ∧ ∀ i, i < J → gx 106 i = (dg H J p.2 i : Nat)) ∧ l' = p.1 ∧ f' = (p.2 : Nat) ∧ p.2 < H ^ J) := by
          rcases Bw with ⟨b1, _⟩ | ⟨p, b1, b2, b3, b4, b5⟩
          · exfalso
            have : ∀ (d n : Nat) (s : TB), tT H (tV (g 103) H J) d n s ≠ none := by
              intro d
              induction d with
              | zero =>
                intro n s e
                unfold tT tU at e
                cases s with
                | none => cases e
                | some p => dsimp only at e; split at e <;> cases e
              | succ d ih =>
                intro n s e
                unfold tT at e
                obtain ⟨H', hH'⟩ : ∃ H', H = H' + 1 := ⟨H - 1, by (try clear wX); (try clear wM); (try clear w0); (try clear w1); (try clear n2); (try clear m1); (try clear m2); omega⟩
                have go : ∀ (k h : Nat) (s : TB), tR (fun h s => tT H (tV (g 103) H J) d (n * H + h) s) (k + 1) h s ≠ none := by
                  intro k
                  induction k with
                  | zero => intro h s; exact ih _ _
                  | succ k ihk => intro h s; exact ihk (h + 1) _
                have g2 := go H' 0 s
                rw [← hH'] at g2
                exact g2 e
            exact this J 0 none b1
          · refine ⟨p, b1, ?_, b2, b3, b5⟩
            rcases Bx with ⟨c1, _⟩ | ⟨p2, c1, c2, c3, c4⟩
            · rw [c1] at b1; cases b1
            · rw [c1] at b1
              have := Option.some.inj b1
              subst this
              exact ⟨c2, c4⟩
        obtain ⟨⟨b1, b2⟩, b3, b4, b5⟩ := bp
        obtain ⟨P, hP⟩ : ∃ P, P = H ^ J := ⟨_, rfl⟩
        have X2 : X_turned H x2 g = X_turned_b 2 H x2 g := by
          unfold X_turned
          rw [if_neg (by rw [wX]; clear wX wM w0 n2; omega), n2, if_neg (fun y => z (Or.inl y)), if_neg (fun y => z (Or.inr y))]
          by_cases y : x2 = 1
          · rw [if_pos y]
          · have m1 : nw (x2 - 10) = x2 - 10 := by clear wX wM w0 n2; exact nw_id (by (try clear wX); (try clear wM); (try clear w0); (try clear w1); (try clear n2); (try clear m1); (try clear m2); omega) (by (try clear wX); (try clear wM); (try clear w0); (try clear w1); (try clear n2); (try clear m1); (try clear m2); omega)
            have m2 : nw (g 10 7) = J := by rw [hJ, nwN _ (by (try clear wX); (try clear wM); (try clear w0); (try clear w1); (try clear n2); (try clear m1); (try clear m2); omega)]
            rw [if_neg y, if_neg (by (try clear wX); (try clear wM); (try clear w0); (try clear w1); (try clear n2); (try clear m1); (try clear m2); omega), m1, m2, if_pos (by (try clear wX); (try clear wM); (try clear w0); (try clear w1); (try clear n2); (try clear m1); (try clear m2); omega)]
        have S2 : Yard_shareBest H g = some (0, gx) := by
          unfold Yard_shareBest
          rw [sb, sb, ← hg3, ex', sb]
        have M2 : M_turned H x2 gx = M_turned_b H x2 4 (0, (P : Nat), l', f', (P : Nat), x') gw := by
          unfold M_turned
          have t : M_turned_b H x2 1 (0, 0, 0, 0, 0, 0) gx = M_turned_b H x2 4 (0, (P : Nat), l', f', (P : Nat), x') gw := by
            rw [M_turned_b.eq_1 _ _ 1, if_pos rfl, em, sb, n2, if_neg (fun y => z (Or.inl y)), if_neg (fun y => z (Or.inr y))]
            have e3' : M_turned_b H x2 3 (0, 1, 0, 0, 0, 0) gm = M_turned_b H x2 4 (0, ((H ^ J : Nat) : Int), -1, 0, 0, 0) gm := e3
            have ew' : M_turned_b H x2 4 (0, ((H ^ J : Nat) : Int), -1, 0, 0, 0) gm = M_turned_b H x2 4 (0, ((H ^ J : Nat) : Int), l', f', ((H ^ J : Nat) : Int), x') gw := ew
            dsimp only
            rw [hP, ← ew']
            exact e3'
          by_cases y : x2 = 1
          · rw [if_neg (by rw [wM]; clear wX wM w0 n2; omega), if_neg (by rw [w0]; clear wX wM w0 n2; omega)]
            exact t
          · rw [if_neg (by rw [wM]; clear wX wM w0 n2; omega), if_pos (by rw [w0]; clear wX wM w0 n2; omega), if_neg (by rw [w1 gx MJx.1]; clear wX wM w0 n2; omega)]
            exact t
        have fE : FR [(10, 13), (10, 14), (10, 15), (104, 0), (105, 0), (106, 0), (117, 91), (179, 0)] g gw := (FR.mo f3x rfl).tr ((FR.mo fm rfl).tr (FR.mo fw rfl))
        have gw87 : gw 117 87 = J := by rw [fw 117 87 rfl]; exact MJm.1
        by_cases y : x2 = 1
        · refine ⟨(p.1, gx), (p.1, gw), ?_, ?_, rfl, fE⟩
          · rw [X2, X_turned_b.eq_1 2, if_neg (by decide), if_pos rfl, S2, sb, n2, if_pos y, sb]
            dsimp only
            rw [b1]
          · rw [M2, M_turned_b.eq_1 _ _ 4]
            dsimp only
            rw [if_neg (by decide), if_neg (by decide), if_neg (by decide), if_pos rfl, if_pos (Int.le_refl _), n2, if_pos y, sb, b3]
        · obtain ⟨i, hi⟩ : ∃ i : Nat, x2 = 10 + i := ⟨(x2 - 10).toNat, by (try clear wX); (try clear wM); (try clear w0); (try clear w1); (try clear n2); (try clear m1); (try clear m2); omega⟩
          have iJ : i < J := by (try clear wX); (try clear wM); (try clear w0); (try clear w1); (try clear n2); (try clear m1); (try clear m2); omega
          have ei : x2 - 10 = (i : Int) := by (try clear wX); (try clear wM); (try clear w0); (try clear w1); (try clear n2); (try clear m1); (try clear m2); omega
          have ho := M_handOf_s (i := i) (n := p.2) hH gw87 K.1 iJ (by (try clear wX); (try clear wM); (try clear w0); (try clear w1); (try clear n2); (try clear m1); (try clear m2); omega)
          refine ⟨(((dg H J p.2 i : Nat) : Int), gx), (((dg H J p.2 i : Nat) : Int), gw), ?_, ?_, rfl, fE⟩
          · have m1 : nw (i : Int) = i := nwN _ (by have := K.1; clear wX wM w0 n2; omega)
            have m2 : ix (i : Int) = i := ixN _ (by have := K.1; clear wX wM w0 n2 m1; omega)
            rw [X2, X_turned_b.eq_1 2, if_neg (by decide), if_pos rfl, S2, sb, n2, if_neg y, ei, m1, m2, if_pos (by have := K.1; clear wX wM w0 n2 m1 m2; omega), sb]
            dsimp only
            rw [b2 i iJ]
          · rw [M2, M_turned_b.eq_1 _ _ 4]
            dsimp only
            rw [if_neg (by decide), if_neg (by decide), if_neg (by decide), if_pos rfl, if_pos (Int.le_refl _), n2, if_neg y, b4, ei, ho, sb, sb]
    · refine ⟨(-1, g), (-1, g), ?_, ?_, rfl, Fr.rf⟩
      · unfold X_turned
        rw [if_neg (by rw [wX]; clear wX wM w0 n2; omega), n2, if_neg (by (try clear wX); (try clear wM); (try clear w0); (try clear w1); (try clear n2); (try clear m1); (try clear m2); omega), if_neg (by (try clear wX); (try clear wM); (try clear w0); (try clear w1); (try clear n2); (try clear m1); (try clear m2); omega), if_neg (by (try clear wX); (try clear wM); (try clear w0); (try clear w1); (try clear n2); (try clear m1); (try clear m2); omega)]
        by_cases y : x2 < 10
        · rw [if_pos y]
        · have m1 : nw (x2 - 10) = x2 - 10 := by clear wX wM w0 n2; exact nw_id (by (try clear wX); (try clear wM); (try clear w0); (try clear w1); (try clear n2); (try clear m1); (try clear m2); omega) (by (try clear wX); (try clear wM); (try clear w0); (try clear w1); (try clear n2); (try clear m1); (try clear m2); omega)
          have m2 : nw (g 10 7) = J := by rw [hJ, nwN _ (by have := K.1; clear wX wM w0 n2 m1; omega)]
          rw [if_neg y, m1, m2, if_neg (by (try clear wX); (try clear wM); (try clear w0); (try clear w1); (try clear n2); (try clear m1); (try clear m2); omega)]
      · unfold M_turned
        dsimp only
        rw [if_neg (by rw [wM]; clear wX wM w0 n2; omega), if_pos (by rw [w0]; clear wX wM w0 n2; omega), if_pos (by rw [w1 g (by (try clear wX); (try clear wM); (try clear w0); (try clear w1); (try clear n2); (try clear m1); (try clear m2); omega)]; clear wX wM w0 n2; omega)]
  · refine ⟨(-1, g), (-1, g), ?_, ?_, rfl, Fr.rf⟩
    · unfold X_turned
      rw [if_pos (by rw [wX]; clear wX wM w0 n2; omega)]
    · unfold M_turned
      dsimp only
      rw [if_pos (by rw [wM]; clear wX wM w0 n2; omega)]
