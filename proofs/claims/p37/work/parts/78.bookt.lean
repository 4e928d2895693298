/-! plain programs: the bookings, their order, what can be hoped for, the best way on both sides -/
def ins (o : Nat → Nat) (k i : Nat) : Nat → Nat := fun p => if p < k then o p else if p = k then i else o (p - 1)
theorem ins_ord {bw : Nat → Int} {o : Nat → Nat} {k i : Nat} (O : Ord i bw o) (hk : k ≤ i) (lo : ∀ p, p < k → bw (o p) ≤ bw i) (hi : ∀ p, k ≤ p → p < i → bw i < bw (o p)) : Ord (i + 1) bw (ins o k i) := by
  have at0 : ∀ p, p < k → ins o k i p = o p := fun p h => by unfold ins; rw [if_pos h]
  have at1 : ins o k i k = i := by unfold ins; rw [if_neg (by omega), if_pos rfl]
  have at2 : ∀ p, k < p → ins o k i p = o (p - 1) := fun p h => by unfold ins; rw [if_neg (by omega), if_neg (by omega)]
  refine ⟨fun p hp => ?_, fun p q hpq hq => ?_, fun j hj => ?_⟩
  · rcases Nat.lt_trichotomy p k with z | z | z
    · rw [at0 p z]; have := O.1 p (by omega); omega
    · rw [z, at1]; omega
    · rw [at2 p z]; have := O.1 (p - 1) (by omega); omega
  · rcases Nat.lt_trichotomy p k with z | z | z
    · rw [at0 p z]
      rcases Nat.lt_trichotomy q k with y | y | y
      · rw [at0 q y]; exact O.2.1 p q hpq (by omega)
      · rw [y, at1]
        have := lo p z
        have := O.1 p (by omega)
        omega
      · rw [at2 q y]; exact O.2.1 p (q - 1) (by omega) (by omega)
    · rw [z, at1, at2 q (by omega)]
      exact Or.inl (hi (q - 1) (by omega) (by omega))
    · rw [at2 p z, at2 q (by omega)]
      exact O.2.1 (p - 1) (q - 1) (by omega) (by omega)
  · by_cases e : j = i
    · exact ⟨k, by omega, by rw [at1, e]⟩
    · obtain ⟨p, hp, e2⟩ := O.2.2 j (by omega)
      by_cases z : p < k
      · exact ⟨p, by omega, by rw [at0 p z, e2]⟩
      · exact ⟨p + 1, by omega, by rw [at2 (p + 1) (by omega), Nat.add_sub_cancel, e2]⟩
theorem Ord.zero (bw : Nat → Int) (o : Nat → Nat) : Ord 0 bw o := ⟨fun p h => absurd h (by omega), fun p q _ h => absurd h (by omega), fun j h => absurd h (by omega)⟩
theorem M_sort2_s {c i : Nat} {bw : Nat → Int} (hc : c ≤ 8) (hi : i < c) (hw : ∀ j, j < c → 0 ≤ bw j ∧ bw j ≤ 9) {o : Nat → Nat} (O : Ord i bw o) : ∀ (k : Nat) (g : AG), k ≤ i → (∀ j, j < c → g 164 j = bw j) → (∀ p, p < k → g 166 p = (o p : Nat)) → (∀ p, k ≤ p → p < i → g 166 (p + 1) = (o p : Nat) ∧ bw i < bw (o p)) → ∃ k' g', k' ≤ i ∧ M_sorts_b 2 i k g = M_sorts_b 3 i k' g' ∧ FR [(166, 0)] g g' ∧ (∀ p, p < k' → g' 166 p = (o p : Nat)) ∧ (∀ p, k' ≤ p → p < i → g' 166 (p + 1) = (o p : Nat) ∧ bw i < bw (o p)) ∧ ∀ p, p < k' → bw (o p) ≤ bw i := by
  intro k
  induction k with
  | zero =>
    intro g hk h1 h2 h3
    refine ⟨0, g, by (try clear n0); (try clear n1); (try clear n2); (try clear n3); (try clear n4); (try clear n5); (try clear n6); (try clear n7); (try clear n8); (try clear n9); omega, ?_, Fr.rf, h2, h3, fun p hp => by (try clear n0); (try clear n1); (try clear n2); (try clear n3); (try clear n4); (try clear n5); (try clear n6); (try clear n7); (try clear n8); (try clear n9); omega⟩
    have n0 : nw ((0 : Nat) : Int) = 0 := nw_0
    rw [M_sorts_b.eq_1 2, n0, if_neg (by decide), if_pos rfl, if_pos (Int.le_refl _)]
  | succ k ih =>
    intro g hk h1 h2 h3
    have ok := O.1 k (by (try clear n0); (try clear n1); (try clear n2); (try clear n3); (try clear n4); (try clear n5); (try clear n6); (try clear n7); (try clear n8); (try clear n9); omega)
    have w1 := hw (o k) (by (try clear n0); (try clear n1); (try clear n2); (try clear n3); (try clear n4); (try clear n5); (try clear n6); (try clear n7); (try clear n8); (try clear n9); omega)
    have w2 := hw i hi
    have n0 : nw ((k + 1 : Nat) : Int) = (k + 1 : Nat) := nwN _ (by (try clear n0); (try clear n1); (try clear n2); (try clear n3); (try clear n4); (try clear n5); (try clear n6); (try clear n7); (try clear n8); (try clear n9); omega)
    have n1 : ix ((k + 1 : Nat) : Int) = k + 1 := ixN _ (by (try clear n0); (try clear n1); (try clear n2); (try clear n3); (try clear n4); (try clear n5); (try clear n6); (try clear n7); (try clear n8); (try clear n9); omega)
    have n2 : nw (((k + 1 : Nat) : Int) - 1) = k := by rw [show ((k + 1 : Nat) : Int) - 1 = (k : Nat) by (try clear n0); (try clear n1); (try clear n2); (try clear n3); (try clear n4); (try clear n5); (try clear n6); (try clear n7); (try clear n8); (try clear n9); omega]; exact nwN _ (by (try clear n0); (try clear n1); (try clear n2); (try clear n3); (try clear n4); (try clear n5); (try clear n6); (try clear n7); (try clear n8); (try clear n9); omega)
    have n3 : ix (((k + 1 : Nat) : Int) - 1) = k := by rw [show ((k + 1 : Nat) : Int) - 1 = (k : Nat) by (try clear n0); (try clear n1); (try clear n2); (try clear n3); (try clear n4); (try clear n5); (try clear n6); (try clear n7); (try clear n8); (try clear n9); omega]; exact ixN _ (by (try clear n0); (try clear n1); (try clear n2); (try clear n3); (try clear n4); (try clear n5); (try clear n6); (try clear n7); (try clear n8); (try clear n9); omega)
    have n4 : nw ((o k : Nat) : Int) = (o k : Nat) := nwN _ (by (try clear n0); (try clear n1); (try clear n2); (try clear n3); (try clear n4); (try clear n5); (try clear n6); (try clear n7); (try clear n8); (try clear n9); omega)
    have n5 : ix ((o k : Nat) : Int) = o k := ixN _ (by (try clear n0); (try clear n1); (try clear n2); (try clear n3); (try clear n4); (try clear n5); (try clear n6); (try clear n7); (try clear n8); (try clear n9); omega)
    have n6 : nw (i : Int) = i := nwN _ (by (try clear n0); (try clear n1); (try clear n2); (try clear n3); (try clear n4); (try clear n5); (try clear n6); (try clear n7); (try clear n8); (try clear n9); omega)
    have n7 : ix (i : Int) = i := ixN _ (by (try clear n0); (try clear n1); (try clear n2); (try clear n3); (try clear n4); (try clear n5); (try clear n6); (try clear n7); (try clear n8); (try clear n9); omega)
    have n8 : nw (bw (o k)) = bw (o k) := nw_id (by (try clear n0); (try clear n1); (try clear n2); (try clear n3); (try clear n4); (try clear n5); (try clear n6); (try clear n7); (try clear n8); (try clear n9); omega) (by (try clear n0); (try clear n1); (try clear n2); (try clear n3); (try clear n4); (try clear n5); (try clear n6); (try clear n7); (try clear n8); (try clear n9); omega)
    have n9 : nw (bw i) = bw i := nw_id (by (try clear n0); (try clear n1); (try clear n2); (try clear n3); (try clear n4); (try clear n5); (try clear n6); (try clear n7); (try clear n8); (try clear n9); omega) (by (try clear n0); (try clear n1); (try clear n2); (try clear n3); (try clear n4); (try clear n5); (try clear n6); (try clear n7); (try clear n8); (try clear n9); omega)
    have top : M_sorts_b 2 i (k + 1 : Nat) g = (if bw (o k) ≤ bw i then M_sorts_b 3 i (k + 1 : Nat) g else M_sorts_b 2 i (k : Nat) (up g 166 (k + 1) (o k : Nat))) := by
      rw [M_sorts_b.eq_1 2, n0, n1, n2, n3, h2 k (by (try clear n0); (try clear n1); (try clear n2); (try clear n3); (try clear n4); (try clear n5); (try clear n6); (try clear n7); (try clear n8); (try clear n9); omega), n4, n5, n6, n7, h1 (o k) (by (try clear n0); (try clear n1); (try clear n2); (try clear n3); (try clear n4); (try clear n5); (try clear n6); (try clear n7); (try clear n8); (try clear n9); omega), h1 i hi, n8, n9, if_neg (by decide), if_pos rfl, if_neg (by (try clear n0); (try clear n1); (try clear n2); (try clear n3); (try clear n4); (try clear n5); (try clear n6); (try clear n7); (try clear n8); (try clear n9); omega), if_pos (by (try clear n0); (try clear n1); (try clear n2); (try clear n3); (try clear n4); (try clear n5); (try clear n6); (try clear n7); (try clear n8); (try clear n9); omega), if_pos (by (try clear n0); (try clear n1); (try clear n2); (try clear n3); (try clear n4); (try clear n5); (try clear n6); (try clear n7); (try clear n8); (try clear n9); omega), if_pos (by (try clear n0); (try clear n1); (try clear n2); (try clear n3); (try clear n4); (try clear n5); (try clear n6); (try clear n7); (try clear n8); (try clear n9); omega)]
      by_cases z : bw (o k) ≤ bw i
      · rw [if_pos z, if_pos z]
      · rw [if_neg z, if_neg z, if_pos (by (try clear n0); (try clear n1); (try clear n2); (try clear n3); (try clear n4); (try clear n5); (try clear n6); (try clear n7); (try clear n8); (try clear n9); omega), sb, show ((k + 1 : Nat) : Int) + -1 = (k : Nat) by (try clear n0); (try clear n1); (try clear n2); (try clear n3); (try clear n4); (try clear n5); (try clear n6); (try clear n7); (try clear n8); (try clear n9); omega]
    rw [top]
    by_cases z : bw (o k) ≤ bw i
    · rw [if_pos z]
      refine ⟨k + 1, g, hk, rfl, Fr.rf, h2, h3, fun p hp => ?_⟩
      have := O.le (show p ≤ k by (try clear n0); (try clear n1); (try clear n2); (try clear n3); (try clear n4); (try clear n5); (try clear n6); (try clear n7); (try clear n8); (try clear n9); omega) (show k < i by (try clear n0); (try clear n1); (try clear n2); (try clear n3); (try clear n4); (try clear n5); (try clear n6); (try clear n7); (try clear n8); (try clear n9); omega)
      (try clear n0); (try clear n1); (try clear n2); (try clear n3); (try clear n4); (try clear n5); (try clear n6); (try clear n7); (try clear n8); (try clear n9); omega
    · rw [if_neg z]
      obtain ⟨k', g', a1, a2, a3, a4, a5, a6⟩ := ih (up g 166 (k + 1) (o k : Nat)) (by (try clear n0); (try clear n1); (try clear n2); (try clear n3); (try clear n4); (try clear n5); (try clear n6); (try clear n7); (try clear n8); (try clear n9); omega) (fun j hj => by rw [up_at, if_neg (fun q => absurd q.1 (by decide))]; exact h1 j hj) (fun p hp => by rw [up_at, if_neg (fun q => absurd q.2 (by (try clear n0); (try clear n1); (try clear n2); (try clear n3); (try clear n4); (try clear n5); (try clear n6); (try clear n7); (try clear n8); (try clear n9); omega))]; exact h2 p (by (try clear n0); (try clear n1); (try clear n2); (try clear n3); (try clear n4); (try clear n5); (try clear n6); (try clear n7); (try clear n8); (try clear n9); omega)) (fun p q1 q2 => by
        rw [up_at]
        by_cases y : p = k
        · rw [if_pos ⟨rfl, by (try clear n0); (try clear n1); (try clear n2); (try clear n3); (try clear n4); (try clear n5); (try clear n6); (try clear n7); (try clear n8); (try clear n9); omega⟩, y]; exact ⟨rfl, by (try clear n0); (try clear n1); (try clear n2); (try clear n3); (try clear n4); (try clear n5); (try clear n6); (try clear n7); (try clear n8); (try clear n9); omega⟩
        · rw [if_neg (fun q => absurd q.2 (by (try clear n0); (try clear n1); (try clear n2); (try clear n3); (try clear n4); (try clear n5); (try clear n6); (try clear n7); (try clear n8); (try clear n9); omega))]; exact h3 p (by (try clear n0); (try clear n1); (try clear n2); (try clear n3); (try clear n4); (try clear n5); (try clear n6); (try clear n7); (try clear n8); (try clear n9); omega) q2)
      exact ⟨k', g', a1, a2, (Fr.up Fr.rf rfl).tr a3, a4, a5, a6⟩
theorem M_sorts_t {c : Nat} {bw : Nat → Int} (hc : c ≤ 8) (hw : ∀ j, j < c → 0 ≤ bw j ∧ bw j ≤ 9) : ∀ (n i : Nat) (x : Int) (o : Nat → Nat) (g : AG), i + n = c → g 117 65 = c → (∀ j, j < c → g 164 j = bw j) → Ord i bw o → (∀ p, p < i → g 166 p = (o p : Nat)) → ∃ g' o', M_sorts_b 1 i x g = some (0, g') ∧ FR [(166, 0)] g g' ∧ Ord c bw o' ∧ ∀ p, p < c → g' 166 p = (o' p : Nat) := by
  intro n
  induction n with
  | zero =>
    intro i x o g h h1 h2 O h3
    have ei : i = c := by (try clear n0); (try clear n1); (try clear n2); (try clear n3); omega
    subst ei
    refine ⟨g, o, ?_, Fr.rf, O, h3⟩
    rw [M_sorts_b.eq_1 1, if_pos rfl, if_pos (by rw [h1]; exact Int.le_refl _)]
  | succ n ih =>
    intro i x o g h h1 h2 O h3
    obtain ⟨k, g1, a1, a2, a3, a4, a5, a6⟩ := M_sort2_s hc (show i < c by (try clear n0); (try clear n1); (try clear n2); (try clear n3); omega) hw O i g (Nat.le_refl i) h2 h3 (fun p q1 q2 => by (try clear n0); (try clear n1); (try clear n2); (try clear n3); omega)
    obtain ⟨g2, hg2⟩ : ∃ g2 : AG, g2 = up g1 166 k i := ⟨_, rfl⟩
    have f2 : FR [(166, 0)] g g2 := by rw [hg2]; exact Fr.up a3 rfl
    obtain ⟨g', o', e', f', O', r'⟩ := ih (i + 1) k (ins o k i) g2 (by (try clear n0); (try clear n1); (try clear n2); (try clear n3); omega) (by rw [f2 117 65 rfl]; exact h1) (fun j hj => by rw [f2 164 j rfl]; exact h2 j hj) (ins_ord O a1 a6 (fun p q1 q2 => (a5 p q1 q2).2)) (fun p hp => by
      rw [hg2, up_at]
      unfold ins
      rcases Nat.lt_trichotomy p k with z | z | z
      · rw [if_neg (fun q => absurd q.2 (by (try clear n0); (try clear n1); (try clear n2); (try clear n3); omega)), if_pos z]; exact a4 p z
      · rw [if_pos ⟨rfl, z⟩, if_neg (by (try clear n0); (try clear n1); (try clear n2); (try clear n3); omega), if_pos z]
      · rw [if_neg (fun q => absurd q.2 (by (try clear n0); (try clear n1); (try clear n2); (try clear n3); omega)), if_neg (by (try clear n0); (try clear n1); (try clear n2); (try clear n3); omega), if_neg (by (try clear n0); (try clear n1); (try clear n2); (try clear n3); omega)]
        have := (a5 (p - 1) (by (try clear n0); (try clear n1); (try clear n2); (try clear n3); omega) (by (try clear n0); (try clear n1); (try clear n2); (try clear n3); omega)).1
        rw [show p - 1 + 1 = p by (try clear n0); (try clear n1); (try clear n2); (try clear n3); omega] at this
        exact this)
    refine ⟨g', o', ?_, f2.tr f', O', r'⟩
    have n0 : nw (g 117 65) = c := by rw [h1, nwN _ (by (try clear n0); (try clear n1); (try clear n2); (try clear n3); omega)]
    have n1 : nw (i : Int) = i := nwN _ (by (try clear n0); (try clear n1); (try clear n2); (try clear n3); omega)
    have n2 : nw (k : Int) = k := nwN _ (by (try clear n0); (try clear n1); (try clear n2); (try clear n3); omega)
    have n3 : ix (k : Int) = k := ixN _ (by (try clear n0); (try clear n1); (try clear n2); (try clear n3); omega)
    rw [M_sorts_b.eq_1 1, n0, n1, if_pos rfl, if_neg (by (try clear n0); (try clear n1); (try clear n2); (try clear n3); omega), a2, M_sorts_b.eq_1 3, n2, n3, if_neg (by decide), if_neg (by decide), if_pos rfl, if_pos (by (try clear n0); (try clear n1); (try clear n2); (try clear n3); omega), sb, ← hg2]
    exact e'
/-- the class's order -/
def PO (c : Nat) (bw : Nat → Int) (n : Nat) (w : Int) (i : Nat) (o : Nat → Nat) : Prop := (∀ p, p < n → o p < c ∧ (bw (o p) < w ∨ (bw (o p) = w ∧ o p < i))) ∧ (∀ p q, p < q → q < n → bw (o p) < bw (o q) ∨ (bw (o p) = bw (o q) ∧ o p < o q)) ∧ (∀ j, j < c → (bw j < w ∨ (bw j = w ∧ j < i)) → ∃ p, p < n ∧ o p = j) ∧ (n : Int) = sm (fun j => if bw j < w then 1 else 0) c + sm (fun j => if bw j = w then 1 else 0) i
theorem X_ord2_s {c : Nat} {bw : Nat → Int} (hc : c ≤ 8) (hw : ∀ j, j < c → 0 ≤ bw j ∧ bw j ≤ 9) {w : Int} (hw0 : 0 ≤ w ∧ w ≤ 9) : ∀ (r i n : Nat) (o : Nat → Nat) (g : AG), i + r = c → g 9 4 = c → (∀ j, j < c → g 87 j = bw j) → PO c bw n w i o → (∀ p, p < n → g 89 p = (o p : Nat)) → ∃ (g' : AG) (o' : Nat → Nat) (n' : Nat), Bookings_putInOrder_b 2 n w i g = Bookings_putInOrder_b 2 n' w c g' ∧ FR [(89, 0)] g g' ∧ PO c bw n' w c o' ∧ ∀ p, p < n' → g' 89 p = (o' p : Nat) := by
  intro r
  induction r with
  | zero =>
    intro i n o g h h1 h2 P h3
    have ei : i = c := by (try clear n0); (try clear n1); (try clear n2); (try clear n3); (try clear n4); (try clear n5); (try clear n6); omega
    subst ei
    exact ⟨g, o, n, rfl, Fr.rf, P, h3⟩
  | succ r ih =>
    intro i n o g h h1 h2 P h3
    obtain ⟨P1, P2, P3, P4⟩ := P
    have hi : i < c := by (try clear n0); (try clear n1); (try clear n2); (try clear n3); (try clear n4); (try clear n5); (try clear n6); omega
    have wi := hw i hi
    have n0 : nw (g 9 4) = c := by rw [h1, nwN _ (by (try clear n0); (try clear n1); (try clear n2); (try clear n3); (try clear n4); (try clear n5); (try clear n6); omega)]
    have n1 : nw (i : Int) = i := nwN _ (by (try clear n0); (try clear n1); (try clear n2); (try clear n3); (try clear n4); (try clear n5); (try clear n6); omega)
    have n2 : ix (i : Int) = i := ixN _ (by (try clear n0); (try clear n1); (try clear n2); (try clear n3); (try clear n4); (try clear n5); (try clear n6); omega)
    have n3 : nw (bw i) = bw i := nw_id (by (try clear n0); (try clear n1); (try clear n2); (try clear n3); (try clear n4); (try clear n5); (try clear n6); omega) (by (try clear n0); (try clear n1); (try clear n2); (try clear n3); (try clear n4); (try clear n5); (try clear n6); omega)
    have n4 : nw w = w := nw_id (by (try clear n0); (try clear n1); (try clear n2); (try clear n3); (try clear n4); (try clear n5); (try clear n6); omega) (by (try clear n0); (try clear n1); (try clear n2); (try clear n3); (try clear n4); (try clear n5); (try clear n6); omega)
    by_cases z : bw i = w
    · have c1 : sm (fun j => if bw j = w then (1 : Int) else 0) (i + 1) ≤ sm (fun j => if bw j = w then (1 : Int) else 0) c := sm_pre c (by (try clear n0); (try clear n1); (try clear n2); (try clear n3); (try clear n4); (try clear n5); (try clear n6); omega) (fun j _ => by split <;> omega)
      have c2 : sm (fun j => if bw j = w then (1 : Int) else 0) (i + 1) = sm (fun j => if bw j = w then (1 : Int) else 0) i + 1 := by
        show sm _ i + (if bw i = w then (1 : Int) else 0) = _
        rw [if_pos z]
      have c3 : sm (fun j => (if bw j < w then (1 : Int) else 0) + (if bw j = w then (1 : Int) else 0)) c ≤ (c : Int) * 1 := sm_ub c (fun j _ => by split <;> split <;> omega)
      rw [sm_add2] at c3
      have hn : n < 8 := by (try clear n0); (try clear n1); (try clear n2); (try clear n3); (try clear n4); (try clear n5); (try clear n6); omega
      have n5 : nw (n : Int) = n := nwN _ (by (try clear n0); (try clear n1); (try clear n2); (try clear n3); (try clear n4); (try clear n5); (try clear n6); omega)
      have n6 : ix (n : Int) = n := ixN _ (by (try clear n0); (try clear n1); (try clear n2); (try clear n3); (try clear n4); (try clear n5); (try clear n6); omega)
      obtain ⟨g', o', n', e', f', r'⟩ := ih (i + 1) (n + 1) (ud o n i) (up g 89 n i) (by (try clear n0); (try clear n1); (try clear n2); (try clear n3); (try clear n4); (try clear n5); (try clear n6); omega) (by rw [up_at, if_neg (fun q => absurd q.1 (by decide))]; exact h1) (fun j hj => by rw [up_at, if_neg (fun q => absurd q.1 (by decide))]; exact h2 j hj) (by
        refine ⟨fun p hp => ?_, fun p q hpq hq => ?_, fun j hj hh => ?_, ?_⟩
        · by_cases y : p = n
          · rw [y, ud_at]; exact ⟨hi, Or.inr ⟨z, by (try clear n0); (try clear n1); (try clear n2); (try clear n3); (try clear n4); (try clear n5); (try clear n6); omega⟩⟩
          · rw [ud_lt (by (try clear n0); (try clear n1); (try clear n2); (try clear n3); (try clear n4); (try clear n5); (try clear n6); omega)]
            have := P1 p (by (try clear n0); (try clear n1); (try clear n2); (try clear n3); (try clear n4); (try clear n5); (try clear n6); omega)
            exact ⟨this.1, by (try clear n0); (try clear n1); (try clear n2); (try clear n3); (try clear n4); (try clear n5); (try clear n6); omega⟩
        · by_cases y : q = n
          · rw [y, ud_at, ud_lt (by (try clear n0); (try clear n1); (try clear n2); (try clear n3); (try clear n4); (try clear n5); (try clear n6); omega)]
            have := P1 p (by (try clear n0); (try clear n1); (try clear n2); (try clear n3); (try clear n4); (try clear n5); (try clear n6); omega)
            (try clear n0); (try clear n1); (try clear n2); (try clear n3); (try clear n4); (try clear n5); (try clear n6); omega
          · rw [ud_lt (show q < n by (try clear n0); (try clear n1); (try clear n2); (try clear n3); (try clear n4); (try clear n5); (try clear n6); omega), ud_lt (by (try clear n0); (try clear n1); (try clear n2); (try clear n3); (try clear n4); (try clear n5); (try clear n6); omega)]
            exact P2 p q hpq (by (try clear n0); (try clear n1); (try clear n2); (try clear n3); (try clear n4); (try clear n5); (try clear n6); omega)
        · by_cases y : j = i
          · exact ⟨n, by (try clear n0); (try clear n1); (try clear n2); (try clear n3); (try clear n4); (try clear n5); (try clear n6); omega, by rw [ud_at, y]⟩
          · obtain ⟨p, hp, e⟩ := P3 j hj (by (try clear n0); (try clear n1); (try clear n2); (try clear n3); (try clear n4); (try clear n5); (try clear n6); omega)
            exact ⟨p, by (try clear n0); (try clear n1); (try clear n2); (try clear n3); (try clear n4); (try clear n5); (try clear n6); omega, by rw [ud_lt hp]; exact e⟩
        · rw [c2]; (try clear n0); (try clear n1); (try clear n2); (try clear n3); (try clear n4); (try clear n5); (try clear n6); omega) (fun p hp => by
        rw [up_at]
        by_cases y : p = n
        · rw [if_pos ⟨rfl, y⟩, y, ud_at]
        · rw [if_neg (fun q => y q.2), ud_lt (by (try clear n0); (try clear n1); (try clear n2); (try clear n3); (try clear n4); (try clear n5); (try clear n6); omega)]; exact h3 p (by (try clear n0); (try clear n1); (try clear n2); (try clear n3); (try clear n4); (try clear n5); (try clear n6); omega))
      refine ⟨g', o', n', ?_, (Fr.up Fr.rf rfl).tr f', r'⟩
      rw [Bookings_putInOrder_b.eq_1 2, n0, n1, n2, h2 i hi, n3, n4, n5, n6, if_neg (by decide), if_pos rfl, if_neg (by (try clear n0); (try clear n1); (try clear n2); (try clear n3); (try clear n4); (try clear n5); (try clear n6); omega), if_pos (by (try clear n0); (try clear n1); (try clear n2); (try clear n3); (try clear n4); (try clear n5); (try clear n6); omega), if_pos z, if_pos (by (try clear n0); (try clear n1); (try clear n2); (try clear n3); (try clear n4); (try clear n5); (try clear n6); omega), sb, sb]
      exact e'
    · have c2 : sm (fun j => if bw j = w then (1 : Int) else 0) (i + 1) = sm (fun j => if bw j = w then (1 : Int) else 0) i := by
        show sm _ i + (if bw i = w then (1 : Int) else 0) = _
        rw [if_neg z]; (try clear n0); (try clear n1); (try clear n2); (try clear n3); (try clear n4); (try clear n5); (try clear n6); omega
      obtain ⟨g', o', n', e', f', r'⟩ := ih (i + 1) n o g (by (try clear n0); (try clear n1); (try clear n2); (try clear n3); (try clear n4); (try clear n5); (try clear n6); omega) h1 h2 (by
        refine ⟨fun p hp => ?_, P2, fun j hj hh => ?_, ?_⟩
        · have := P1 p hp
          exact ⟨this.1, by (try clear n0); (try clear n1); (try clear n2); (try clear n3); (try clear n4); (try clear n5); (try clear n6); omega⟩
        · refine P3 j hj ?_
          by_cases y : j = i
          · rw [y] at hh ⊢; omega
          · (try clear n0); (try clear n1); (try clear n2); (try clear n3); (try clear n4); (try clear n5); (try clear n6); omega
        · rw [c2]; exact P4) h3
      refine ⟨g', o', n', ?_, f', r'⟩
      rw [Bookings_putInOrder_b.eq_1 2, n0, n1, n2, h2 i hi, n3, n4, if_neg (by decide), if_pos rfl, if_neg (by (try clear n0); (try clear n1); (try clear n2); (try clear n3); (try clear n4); (try clear n5); (try clear n6); omega), if_pos (by (try clear n0); (try clear n1); (try clear n2); (try clear n3); (try clear n4); (try clear n5); (try clear n6); omega), if_neg z, sb]
      exact e'
theorem X_ord1_s {c : Nat} {bw : Nat → Int} (hc : c ≤ 8) (hw : ∀ j, j < c → 0 ≤ bw j ∧ bw j ≤ 9) : ∀ (r w n : Nat) (x : Int) (o : Nat → Nat) (g : AG), w + r = 10 → g 9 4 = c → (∀ j, j < c → g 87 j = bw j) → PO c bw n w 0 o → (∀ p, p < n → g 89 p = (o p : Nat)) → ∃ g' o', Bookings_putInOrder_b 1 n w x g = some (0, g') ∧ FR [(89, 0)] g g' ∧ Ord c bw o' ∧ ∀ p, p < c → g' 89 p = (o' p : Nat) := by
  intro r
  induction r with
  | zero =>
    intro w n x o g h h1 h2 P h3
    obtain ⟨P1, P2, P3, P4⟩ := P
    have ew : w = 10 := by (try clear n0); (try clear n2); (try clear n3); (try clear n4); omega
    subst ew
    have en : n = c := by
      have a : sm (fun j => if bw j < ((10 : Nat) : Int) then (1 : Int) else 0) c = sm (fun _ => 1) c := sm_cg c (fun j hj => by have := hw j hj; rw [if_pos (by (try clear n0); (try clear n2); (try clear n3); (try clear n4); omega)])
      have b : ∀ m : Nat, sm (fun _ => (1 : Int)) m = m := by
        intro m
        induction m with
        | zero => rfl
        | succ m ih => show sm _ m + 1 = _; rw [ih]; rfl
      have d : sm (fun j => if bw j = ((10 : Nat) : Int) then (1 : Int) else 0) 0 = 0 := rfl
      rw [a, b, d] at P4
      (try clear n0); (try clear n2); (try clear n3); (try clear n4); omega
    subst en
    have n0 : nw ((10 : Nat) : Int) = 10 := nwN 10 (by (try clear n0); (try clear n2); (try clear n3); (try clear n4); omega)
    refine ⟨g, o, ?_, Fr.rf, ⟨fun p hp => (P1 p hp).1, P2, fun j hj => P3 j hj (by have := hw j hj; omega)⟩, h3⟩
    rw [Bookings_putInOrder_b.eq_1 1, n0, if_pos rfl, if_pos (Int.le_refl _)]
  | succ r ih =>
    intro w n x o g h h1 h2 P h3
    obtain ⟨g1, o1, n1, e1, f1, Q, r1⟩ := X_ord2_s hc hw (w := w) (by (try clear n0); (try clear n2); (try clear n3); (try clear n4); omega) c 0 n o g (by (try clear n0); (try clear n2); (try clear n3); (try clear n4); omega) h1 h2 P h3
    obtain ⟨Q1, Q2, Q3, Q4⟩ := Q
    obtain ⟨g', o', e', f', r'⟩ := ih (w + 1) n1 c o1 g1 (by (try clear n0); (try clear n2); (try clear n3); (try clear n4); omega) (by rw [f1 9 4 rfl]; exact h1) (fun j hj => by rw [f1 87 j rfl]; exact h2 j hj) (by
      refine ⟨fun p hp => ?_, Q2, fun j hj hh => Q3 j hj (by (try clear n0); (try clear n2); (try clear n3); (try clear n4); omega), ?_⟩
      · have := Q1 p hp
        exact ⟨this.1, by (try clear n0); (try clear n2); (try clear n3); (try clear n4); omega⟩
      · rw [Q4, ← sm_add2]
        show _ = _ + (0 : Int)
        rw [Int.add_zero]
        refine sm_cg c (fun j hj => ?_)
        by_cases a : bw j < (w : Int)
        · rw [if_pos a, if_neg (by (try clear n0); (try clear n2); (try clear n3); (try clear n4); omega), if_pos (by (try clear n0); (try clear n2); (try clear n3); (try clear n4); omega)]; rfl
        · by_cases b : bw j = (w : Int)
          · rw [if_neg a, if_pos b, if_pos (by (try clear n0); (try clear n2); (try clear n3); (try clear n4); omega)]; rfl
          · rw [if_neg a, if_neg b, if_neg (by (try clear n0); (try clear n2); (try clear n3); (try clear n4); omega)]; rfl) r1
    refine ⟨g', o', ?_, f1.tr f', r'⟩
    have n2 : nw (w : Int) = w := nwN _ (by (try clear n0); (try clear n2); (try clear n3); (try clear n4); omega)
    have n3 : nw (g1 9 4) = c := by rw [f1 9 4 rfl, h1, nwN _ (by (try clear n0); (try clear n2); (try clear n3); (try clear n4); omega)]
    have n4 : nw (c : Int) = c := nwN _ (by (try clear n0); (try clear n2); (try clear n3); (try clear n4); omega)
    have e1' : Bookings_putInOrder_b 2 n w 0 g = Bookings_putInOrder_b 2 n1 w c g1 := e1
    rw [Bookings_putInOrder_b.eq_1 1, n2, if_pos rfl, if_neg (by (try clear n0); (try clear n2); (try clear n3); (try clear n4); omega), e1', Bookings_putInOrder_b.eq_1 2, n3, n4, if_neg (by decide), if_pos rfl, if_pos (Int.le_refl _)]
    exact e'
theorem orI01 : orI 0 0 = 0 ∧ orI 0 1 = 1 ∧ orI 1 0 = 1 ∧ orI 1 1 = 1 := by decide +kernel
def XBk (g : AG) (c : Nat) (bf bt bw bb : Nat → Int) : Prop := g 9 4 = c ∧ ∀ j, j < c → g 85 j = bf j ∧ g 86 j = bt j ∧ g 87 j = bw j ∧ g 88 j = bb j
theorem X_bcan_s {c : Nat} {bf bt bw bb : Nat → Int} (K : BkOk c bf bt bw bb) {g : AG} (D : XBk g c bf bt bw bb) {j : Nat} (hj : j < c) : ∀ (n i : Nat), i + n = c → ∃ v', Bookings_canCome_b j g 1 i = some v' ∧ (v' = 0 ∨ v' = 1) ∧ ((∃ x, i ≤ x ∧ x < c ∧ bw x < bw j ∧ bt x = bf j) → v' = 1) := by
  intro n
  induction n with
  | zero =>
    intro i h
    have hc := K.1
    have ei : i = c := by (try clear n0); (try clear n1); (try clear n2); (try clear n3); (try clear n4); (try clear n5); (try clear n6); (try clear n7); (try clear n8); omega
    subst ei
    refine ⟨0, ?_, Or.inl rfl, fun ⟨x, x1, x2, _⟩ => by (try clear n0); (try clear n1); (try clear n2); (try clear n3); (try clear n4); (try clear n5); (try clear n6); (try clear n7); (try clear n8); omega⟩
    have n0 : nw (g 9 4) = i := by rw [D.1, nwN _ (by (try clear n0); (try clear n1); (try clear n2); (try clear n3); (try clear n4); (try clear n5); (try clear n6); (try clear n7); (try clear n8); omega)]
    have n1 : nw (i : Int) = i := nwN _ (by (try clear n0); (try clear n1); (try clear n2); (try clear n3); (try clear n4); (try clear n5); (try clear n6); (try clear n7); (try clear n8); omega)
    rw [Bookings_canCome_b.eq_1 _ _ 1, n0, n1, if_pos rfl, if_pos (Int.le_refl _)]
  | succ n ih =>
    intro i h
    have hc := K.1
    have hi : i < c := by (try clear n0); (try clear n1); (try clear n2); (try clear n3); (try clear n4); (try clear n5); (try clear n6); (try clear n7); (try clear n8); omega
    have ri := K.2 i hi
    have rj := K.2 j hj
    have di := D.2 i hi
    have dj := D.2 j hj
    have n0 : nw (g 9 4) = c := by rw [D.1, nwN _ (by (try clear n0); (try clear n1); (try clear n2); (try clear n3); (try clear n4); (try clear n5); (try clear n6); (try clear n7); (try clear n8); omega)]
    have n1 : nw (i : Int) = i := nwN _ (by (try clear n0); (try clear n1); (try clear n2); (try clear n3); (try clear n4); (try clear n5); (try clear n6); (try clear n7); (try clear n8); omega)
    have n2 : ix (i : Int) = i := ixN _ (by (try clear n0); (try clear n1); (try clear n2); (try clear n3); (try clear n4); (try clear n5); (try clear n6); (try clear n7); (try clear n8); omega)
    have n3 : nw (j : Int) = j := nwN _ (by (try clear n0); (try clear n1); (try clear n2); (try clear n3); (try clear n4); (try clear n5); (try clear n6); (try clear n7); (try clear n8); omega)
    have n4 : ix (j : Int) = j := ixN _ (by (try clear n0); (try clear n1); (try clear n2); (try clear n3); (try clear n4); (try clear n5); (try clear n6); (try clear n7); (try clear n8); omega)
    have n5 : nw (bw i) = bw i := nw_id (by (try clear n0); (try clear n1); (try clear n2); (try clear n3); (try clear n4); (try clear n5); (try clear n6); (try clear n7); (try clear n8); omega) (by (try clear n0); (try clear n1); (try clear n2); (try clear n3); (try clear n4); (try clear n5); (try clear n6); (try clear n7); (try clear n8); omega)
    have n6 : nw (bw j) = bw j := nw_id (by (try clear n0); (try clear n1); (try clear n2); (try clear n3); (try clear n4); (try clear n5); (try clear n6); (try clear n7); (try clear n8); omega) (by (try clear n0); (try clear n1); (try clear n2); (try clear n3); (try clear n4); (try clear n5); (try clear n6); (try clear n7); (try clear n8); omega)
    have n7 : nw (bt i) = bt i := nw_id (by (try clear n0); (try clear n1); (try clear n2); (try clear n3); (try clear n4); (try clear n5); (try clear n6); (try clear n7); (try clear n8); omega) (by (try clear n0); (try clear n1); (try clear n2); (try clear n3); (try clear n4); (try clear n5); (try clear n6); (try clear n7); (try clear n8); omega)
    have n8 : nw (bf j) = bf j := nw_id (by (try clear n0); (try clear n1); (try clear n2); (try clear n3); (try clear n4); (try clear n5); (try clear n6); (try clear n7); (try clear n8); omega) (by (try clear n0); (try clear n1); (try clear n2); (try clear n3); (try clear n4); (try clear n5); (try clear n6); (try clear n7); (try clear n8); omega)
    obtain ⟨v', e', r1, r2⟩ := ih (i + 1) (by (try clear n0); (try clear n1); (try clear n2); (try clear n3); (try clear n4); (try clear n5); (try clear n6); (try clear n7); (try clear n8); omega)
    have nx : Bookings_canCome_b j g 2 i = some v' := by
      rw [Bookings_canCome_b.eq_1 _ _ 2, if_neg (by decide), if_pos rfl]
      exact e'
    have top : Bookings_canCome_b j g 1 i = (if bw j ≤ bw i then some v' else (if bt i = bf j then some 1 else some v')) := by
      rw [Bookings_canCome_b.eq_1 _ _ 1, n0, n1, n2, n3, n4, di.2.2.1, dj.2.2.1, di.2.1, dj.1, n5, n6, n7, n8, nx, if_pos rfl, if_neg (by (try clear n0); (try clear n1); (try clear n2); (try clear n3); (try clear n4); (try clear n5); (try clear n6); (try clear n7); (try clear n8); omega), if_pos (by (try clear n0); (try clear n1); (try clear n2); (try clear n3); (try clear n4); (try clear n5); (try clear n6); (try clear n7); (try clear n8); omega), if_pos (by (try clear n0); (try clear n1); (try clear n2); (try clear n3); (try clear n4); (try clear n5); (try clear n6); (try clear n7); (try clear n8); omega)]
    rw [top]
    by_cases a : bw j ≤ bw i
    · rw [if_pos a]
      refine ⟨v', rfl, r1, fun ⟨x, x1, x2, x3, x4⟩ => r2 ⟨x, ?_, x2, x3, x4⟩⟩
      by_cases y : x = i
      · rw [y] at x3; omega
      · (try clear n0); (try clear n1); (try clear n2); (try clear n3); (try clear n4); (try clear n5); (try clear n6); (try clear n7); (try clear n8); omega
    · rw [if_neg a]
      by_cases b : bt i = bf j
      · rw [if_pos b]
        exact ⟨1, rfl, Or.inr rfl, fun _ => rfl⟩
      · rw [if_neg b]
        refine ⟨v', rfl, r1, fun ⟨x, x1, x2, x3, x4⟩ => r2 ⟨x, ?_, x2, x3, x4⟩⟩
        by_cases y : x = i
        · rw [y] at x4; exact absurd x4 b
        · (try clear n0); (try clear n1); (try clear n2); (try clear n3); (try clear n4); (try clear n5); (try clear n6); (try clear n7); (try clear n8); omega
theorem X_ever_s {c : Nat} {bf bt bw bb hb hh : Nat → Int} {k : Nat} (K : BkOk c bf bt bw bb) (BT : BtOk k hb hh) {g : AG} (D : XBk g c bf bt bw bb) (ha : g 9 10 = k) (hT : ∀ b, b < k → g 90 b = hb b ∧ g 91 b = hh b) {j : Nat} (hj : j < c) : ∀ (n b : Nat), b + n = k → ∃ v, Bookings_canEverBeGiven_b j g 1 b = some v ∧ (v = 0 ∨ v = 1) ∧ ((∃ x, b ≤ x ∧ x < k ∧ bb j ≤ hb x ∧ (hh x = bf j ∨ ∃ y, y < c ∧ bw y < bw j ∧ bt y = bf j)) → v = 1) := by
  intro n
  induction n with
  | zero =>
    intro b h
    have hk := BT.1
    refine ⟨0, ?_, Or.inl rfl, fun ⟨x, x1, x2, _⟩ => by (try clear n0); (try clear n1); (try clear n2); (try clear n3); (try clear n4); (try clear n5); (try clear n6); (try clear n7); (try clear n8); (try clear top); omega⟩
    have n0 : nw (g 9 10) = k := by rw [ha, nwN _ (by (try clear n0); (try clear n1); (try clear n2); (try clear n3); (try clear n4); (try clear n5); (try clear n6); (try clear n7); (try clear n8); (try clear top); omega)]
    have n1 : nw (b : Int) = b := nwN _ (by (try clear n0); (try clear n1); (try clear n2); (try clear n3); (try clear n4); (try clear n5); (try clear n6); (try clear n7); (try clear n8); (try clear top); omega)
    rw [Bookings_canEverBeGiven_b.eq_1 _ _ 1, n0, n1, if_pos rfl, if_pos (by (try clear n0); (try clear n1); (try clear n2); (try clear n3); (try clear n4); (try clear n5); (try clear n6); (try clear n7); (try clear n8); (try clear top); omega)]
  | succ n ih =>
    intro b h
    have hk := BT.1
    have hc := K.1
    have hbk : b < k := by (try clear n0); (try clear n1); (try clear n2); (try clear n3); (try clear n4); (try clear n5); (try clear n6); (try clear n7); (try clear n8); (try clear top); omega
    have rb := BT.2 b hbk
    have tb' := hT b hbk
    have rj := K.2 j hj
    have dj := D.2 j hj
    obtain ⟨v2, e2, r1, r2⟩ := ih (b + 1) (by (try clear n0); (try clear n1); (try clear n2); (try clear n3); (try clear n4); (try clear n5); (try clear n6); (try clear n7); (try clear n8); (try clear top); omega)
    have n0 : nw (g 9 10) = k := by rw [ha, nwN _ (by (try clear n0); (try clear n1); (try clear n2); (try clear n3); (try clear n4); (try clear n5); (try clear n6); (try clear n7); (try clear n8); (try clear top); omega)]
    have n1 : nw (b : Int) = b := nwN _ (by (try clear n0); (try clear n1); (try clear n2); (try clear n3); (try clear n4); (try clear n5); (try clear n6); (try clear n7); (try clear n8); (try clear top); omega)
    have n2 : ix (b : Int) = b := ixN _ (by (try clear n0); (try clear n1); (try clear n2); (try clear n3); (try clear n4); (try clear n5); (try clear n6); (try clear n7); (try clear n8); (try clear top); omega)
    have n3 : nw (j : Int) = j := nwN _ (by (try clear n0); (try clear n1); (try clear n2); (try clear n3); (try clear n4); (try clear n5); (try clear n6); (try clear n7); (try clear n8); (try clear top); omega)
    have n4 : ix (j : Int) = j := ixN _ (by (try clear n0); (try clear n1); (try clear n2); (try clear n3); (try clear n4); (try clear n5); (try clear n6); (try clear n7); (try clear n8); (try clear top); omega)
    have n5 : nw (hb b) = hb b := nw_id (by (try clear n0); (try clear n1); (try clear n2); (try clear n3); (try clear n4); (try clear n5); (try clear n6); (try clear n7); (try clear n8); (try clear top); omega) (by (try clear n0); (try clear n1); (try clear n2); (try clear n3); (try clear n4); (try clear n5); (try clear n6); (try clear n7); (try clear n8); (try clear top); omega)
    have n6 : nw (bb j) = bb j := nw_id (by (try clear n0); (try clear n1); (try clear n2); (try clear n3); (try clear n4); (try clear n5); (try clear n6); (try clear n7); (try clear n8); (try clear top); omega) (by (try clear n0); (try clear n1); (try clear n2); (try clear n3); (try clear n4); (try clear n5); (try clear n6); (try clear n7); (try clear n8); (try clear top); omega)
    have n7 : nw (hh b) = hh b := nw_id (by (try clear n0); (try clear n1); (try clear n2); (try clear n3); (try clear n4); (try clear n5); (try clear n6); (try clear n7); (try clear n8); (try clear top); omega) (by (try clear n0); (try clear n1); (try clear n2); (try clear n3); (try clear n4); (try clear n5); (try clear n6); (try clear n7); (try clear n8); (try clear top); omega)
    have n8 : nw (bf j) = bf j := nw_id (by (try clear n0); (try clear n1); (try clear n2); (try clear n3); (try clear n4); (try clear n5); (try clear n6); (try clear n7); (try clear n8); (try clear top); omega) (by (try clear n0); (try clear n1); (try clear n2); (try clear n3); (try clear n4); (try clear n5); (try clear n6); (try clear n7); (try clear n8); (try clear top); omega)
    obtain ⟨v0, e0, p1, p2⟩ := X_bcan_s K D hj c 0 (by (try clear n0); (try clear n1); (try clear n2); (try clear n3); (try clear n4); (try clear n5); (try clear n6); (try clear n7); (try clear n8); (try clear top); omega)
    obtain ⟨v1, hv1⟩ : ∃ v1 : Int, v1 = (if hh b = bf j then 1 else v0) := ⟨_, rfl⟩
    have q1 : v1 = 0 ∨ v1 = 1 := by
      rw [hv1]
      by_cases y : hh b = bf j
      · rw [if_pos y]; exact Or.inr rfl
      · rw [if_neg y]; exact p1
    have q2 : (hh b = bf j ∨ ∃ x, 0 ≤ x ∧ x < c ∧ bw x < bw j ∧ bt x = bf j) → v1 = 1 := by
      intro q
      rw [hv1]
      by_cases y : hh b = bf j
      · rw [if_pos y]
      · rw [if_neg y]
        rcases q with q | q
        · exact absurd q y
        · exact p2 q
    have cc : Bookings_canCome b j g = some v1 := by
      unfold Bookings_canCome
      rw [n1, n2, n3, n4, tb'.2, dj.1, n7, n8, if_pos (by (try clear n0); (try clear n1); (try clear n2); (try clear n3); (try clear n4); (try clear n5); (try clear n6); (try clear n7); (try clear n8); (try clear top); omega), if_pos (by (try clear n0); (try clear n1); (try clear n2); (try clear n3); (try clear n4); (try clear n5); (try clear n6); (try clear n7); (try clear n8); (try clear top); omega), hv1]
      by_cases y : hh b = bf j
      · rw [if_pos y, if_pos y]
      · rw [if_neg y, if_neg y]; exact e0
    have nx : Bookings_canEverBeGiven_b j g 2 b = some v2 := by
      rw [Bookings_canEverBeGiven_b.eq_1 _ _ 2, if_neg (by decide), if_pos rfl]
      exact e2
    have top : Bookings_canEverBeGiven_b j g 1 b = (if hb b < bb j then some v2 else if nw v1 = 0 then some v2 else some 1) := by
      rw [Bookings_canEverBeGiven_b.eq_1 _ _ 1, n0, n1, n2, n3, n4, tb'.1, dj.2.2.2, n5, n6, cc, nx, if_pos rfl, if_neg (by (try clear n0); (try clear n1); (try clear n2); (try clear n3); (try clear n4); (try clear n5); (try clear n6); (try clear n7); (try clear n8); (try clear top); omega), if_pos (by (try clear n0); (try clear n1); (try clear n2); (try clear n3); (try clear n4); (try clear n5); (try clear n6); (try clear n7); (try clear n8); (try clear top); omega), if_pos (by (try clear n0); (try clear n1); (try clear n2); (try clear n3); (try clear n4); (try clear n5); (try clear n6); (try clear n7); (try clear n8); (try clear top); omega), sb]
    rw [top]
    by_cases z : hb b < bb j
    · rw [if_pos z]
      refine ⟨v2, rfl, r1, fun ⟨x, x1, x2, x3, x4⟩ => r2 ⟨x, ?_, x2, x3, x4⟩⟩
      by_cases y : x = b
      · rw [y] at x3; omega
      · (try clear n0); (try clear n1); (try clear n2); (try clear n3); (try clear n4); (try clear n5); (try clear n6); (try clear n7); (try clear n8); (try clear top); omega
    · rw [if_neg z]
      rcases q1 with q | q
      · rw [q, nw_0, if_pos rfl]
        refine ⟨v2, rfl, r1, fun ⟨x, x1, x2, x3, x4⟩ => r2 ⟨x, ?_, x2, x3, x4⟩⟩
        by_cases y : x = b
        · exfalso
          rw [y] at x4
          have : v1 = 1 := q2 (by
            rcases x4 with a | ⟨u, u1, u2, u3⟩
            · exact Or.inl a
            · exact Or.inr ⟨u, by (try clear n0); (try clear n1); (try clear n2); (try clear n3); (try clear n4); (try clear n5); (try clear n6); (try clear n7); (try clear n8); (try clear top); omega, u1, u2, u3⟩)
          (try clear n0); (try clear n1); (try clear n2); (try clear n3); (try clear n4); (try clear n5); (try clear n6); (try clear n7); (try clear n8); (try clear top); omega
        · (try clear n0); (try clear n1); (try clear n2); (try clear n3); (try clear n4); (try clear n5); (try clear n6); (try clear n7); (try clear n8); (try clear top); omega
      · rw [q, nw_1, if_neg (by decide)]
        exact ⟨1, rfl, Or.inr rfl, fun _ => rfl⟩
