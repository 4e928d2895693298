/-! plain programs: the queue at a lock, the reference -/
def MQu (g : AG) (cm wy : Nat → Int) (c : Nat) : Prop := g 117 59 = c ∧ ∀ j, j < c → g 158 j = cm j ∧ g 159 j = wy j ∧ 0 ≤ wy j ∧ wy j ≤ 1
def MB (g : AG) (c : Nat) (s : QS) : Prop := (s = none ∧ g 117 64 = -1) ∨ ∃ p, s = some p ∧ g 117 64 = p.1 ∧ (0 ≤ p.1 ∧ p.1 ≤ 100000) ∧ ∀ j, j < c → g 161 j = p.2 j
abbrev RMO : Reg := [(117, 65), (160, 0), (161, 0)]
theorem MQu.fr {g g' : AG} {cm wy : Nat → Int} {c : Nat} (h : MQu g cm wy c) (f : FR RMO g g') : MQu g' cm wy c := by
  refine ⟨by rw [f 117 59 rfl]; exact h.1, fun j hj => ?_⟩
  rw [f 158 j rfl, f 159 j rfl]
  exact h.2 j hj
theorem M_waits_b_s {g : AG} {cm wy : Nat → Int} {c : Nat} (C : QOk cm c) (Q : MQu g cm wy c) {o : Nat → Nat} (ho : ∀ j, j < c → o j < c) (h160 : ∀ j, j < c → g 160 j = o j) : ∀ (n k : Nat), k + n = c → M_waits_b g (qTW cm wy o k).1 (qTW cm wy o k).2 k = some (qTW cm wy o c).2 := by
  intro n
  induction n with
  | zero =>
    intro k h
    have hc := C.1
    rw [M_waits_b, if_pos (by rw [Q.1, nwN _ (by (try clear n0); (try clear n1); (try clear n2); (try clear n3); (try clear n4); (try clear n5); (try clear n6); (try clear m2); omega), nwN _ (by (try clear n0); (try clear n1); (try clear n2); (try clear n3); (try clear n4); (try clear n5); (try clear n6); (try clear m2); omega)]; omega), show k = c by (try clear n0); (try clear n1); (try clear n2); (try clear n3); (try clear n4); (try clear n5); (try clear n6); (try clear m2); omega]
  | succ n ih =>
    intro k h
    have hc := C.1
    have hok := ho k (by (try clear n0); (try clear n1); (try clear n2); (try clear n3); (try clear n4); (try clear n5); (try clear n6); (try clear m2); omega)
    have r := qTW_rng (wy := wy) C k (by (try clear n0); (try clear n1); (try clear n2); (try clear n3); (try clear n4); (try clear n5); (try clear n6); (try clear m2); omega) (fun j hj => ho j (by (try clear n0); (try clear n1); (try clear n2); (try clear n3); (try clear n4); (try clear n5); (try clear n6); (try clear m2); omega))
    have q := Q.2 (o k) hok
    have cb := C.2 (o k) hok
    have e2 := ih (k + 1) (by (try clear n0); (try clear n1); (try clear n2); (try clear n3); (try clear n4); (try clear n5); (try clear n6); (try clear m2); omega)
    have n0 : nw (g 117 59) = c := by rw [Q.1, nwN _ (by (try clear n0); (try clear n1); (try clear n2); (try clear n3); (try clear n4); (try clear n5); (try clear n6); (try clear m2); omega)]
    have n1 : nw (k : Int) = k := nwN _ (by (try clear n0); (try clear n1); (try clear n2); (try clear n3); (try clear n4); (try clear n5); (try clear n6); (try clear m2); omega)
    have n2 : ix (k : Int) = k := ixN _ (by (try clear n0); (try clear n1); (try clear n2); (try clear n3); (try clear n4); (try clear n5); (try clear n6); (try clear m2); omega)
    have n3 : nw ((o k : Nat) : Int) = (o k : Nat) := nwN _ (by (try clear n0); (try clear n1); (try clear n2); (try clear n3); (try clear n4); (try clear n5); (try clear n6); (try clear m2); omega)
    have n4 : ix ((o k : Nat) : Int) = o k := ixN _ (by (try clear n0); (try clear n1); (try clear n2); (try clear n3); (try clear n4); (try clear n5); (try clear n6); (try clear m2); omega)
    have n5 : nw (cm (o k)) = cm (o k) := by clear n0 n1 n2 n3 n4; exact nw_id (by (try clear n0); (try clear n1); (try clear n2); (try clear n3); (try clear n4); (try clear n5); (try clear n6); (try clear m2); omega) (by (try clear n0); (try clear n1); (try clear n2); (try clear n3); (try clear n4); (try clear n5); (try clear n6); (try clear m2); omega)
    have n6 : nw (qTW cm wy o k).1 = (qTW cm wy o k).1 := by clear n0 n1 n2 n3 n4 n5; exact nw_id (by (try clear n0); (try clear n1); (try clear n2); (try clear n3); (try clear n4); (try clear n5); (try clear n6); (try clear m2); omega) (by (try clear n0); (try clear n1); (try clear n2); (try clear n3); (try clear n4); (try clear n5); (try clear n6); (try clear m2); omega)
    rw [M_waits_b, n0, n1, n2, h160 k (by (try clear n0); (try clear n1); (try clear n2); (try clear n3); (try clear n4); (try clear n5); (try clear n6); (try clear m2); omega), n3, n4, q.1, q.2.1, n5, n6]
    clear n0 n1 n2 n3 n4 n5 n6
    rw [if_neg (by (try clear n0); (try clear n1); (try clear n2); (try clear n3); (try clear n4); (try clear n5); (try clear n6); (try clear m2); omega), if_pos (by (try clear n0); (try clear n1); (try clear n2); (try clear n3); (try clear n4); (try clear n5); (try clear n6); (try clear m2); omega), if_pos (by (try clear n0); (try clear n1); (try clear n2); (try clear n3); (try clear n4); (try clear n5); (try clear n6); (try clear m2); omega)]
    have m1 : (if cm (o k) ≤ (qTW cm wy o k).1 then some (qTW cm wy o k).1 else some (cm (o k))) = some (max (cm (o k)) (qTW cm wy o k).1) := by
      split
      · rw [show max (cm (o k)) (qTW cm wy o k).1 = (qTW cm wy o k).1 by (try clear n0); (try clear n1); (try clear n2); (try clear n3); (try clear n4); (try clear n5); (try clear n6); (try clear m2); omega]
      · rw [show max (cm (o k)) (qTW cm wy o k).1 = cm (o k) by (try clear n0); (try clear n1); (try clear n2); (try clear n3); (try clear n4); (try clear n5); (try clear n6); (try clear m2); omega]
    rw [m1, sb]
    have m2 : ∀ f : Int → Option Int, f (if 0 < k ∧ wy (o k) = wy (o (k - 1)) then 5 else 0) = some (qTW cm wy o c).2 → ((if (k : Int) ≤ 0 then some 0 else if 0 ≤ nw ((k : Int) - 1) ∧ nw ((k : Int) - 1) < 7 then if 0 ≤ nw (g 160 (ix ((k : Int) - 1))) ∧ nw (g 160 (ix ((k : Int) - 1))) < 7 then (some (if nw (g 159 (ix (g 160 (ix ((k : Int) - 1))))) = nw (wy (o k)) then (5 : Int) else 0) >>= fun t10 => some t10) else none else none) >>= f) = some (qTW cm wy o c).2 := by
      intro f hf
      by_cases z : k = 0
      · rw [if_pos (by (try clear n0); (try clear n1); (try clear n2); (try clear n3); (try clear n4); (try clear n5); (try clear n6); (try clear m2); omega), sb]
        rw [if_neg (by (try clear n0); (try clear n1); (try clear n2); (try clear n3); (try clear n4); (try clear n5); (try clear n6); (try clear m2); omega)] at hf
        exact hf
      · have hp := ho (k - 1) (by (try clear n0); (try clear n1); (try clear n2); (try clear n3); (try clear n4); (try clear n5); (try clear n6); (try clear m2); omega)
        have n1 : nw ((k : Int) - 1) = (k - 1 : Nat) := by rw [show (k : Int) - 1 = ((k - 1 : Nat) : Int) by (try clear n0); (try clear n1); (try clear n2); (try clear n3); (try clear n4); (try clear n5); (try clear n6); (try clear m2); omega]; exact nwN _ (by (try clear n0); (try clear n1); (try clear n2); (try clear n3); (try clear n4); (try clear n5); (try clear n6); (try clear m2); omega)
        have n2 : ix ((k : Int) - 1) = k - 1 := by rw [show (k : Int) - 1 = ((k - 1 : Nat) : Int) by (try clear n0); (try clear n1); (try clear n2); (try clear n3); (try clear n4); (try clear n5); (try clear n6); (try clear m2); omega]; exact ixN _ (by (try clear n0); (try clear n1); (try clear n2); (try clear n3); (try clear n4); (try clear n5); (try clear n6); (try clear m2); omega)
        have n3 : nw ((o (k - 1) : Nat) : Int) = (o (k - 1) : Nat) := nwN _ (by (try clear n0); (try clear n1); (try clear n2); (try clear n3); (try clear n4); (try clear n5); (try clear n6); (try clear m2); omega)
        have n4 : ix ((o (k - 1) : Nat) : Int) = o (k - 1) := ixN _ (by (try clear n0); (try clear n1); (try clear n2); (try clear n3); (try clear n4); (try clear n5); (try clear n6); (try clear m2); omega)
        have w1 := Q.2 (o (k - 1)) hp
        rw [n1, n2, h160 (k - 1) (by (try clear n0); (try clear n1); (try clear n2); (try clear n3); (try clear n4); (try clear n5); (try clear n6); (try clear m2); omega), n3, n4, w1.2.1]
        clear n1 n2 n3 n4
        have n5 : nw (wy (o (k - 1))) = wy (o (k - 1)) := nw_id (by (try clear n0); (try clear n1); (try clear n2); (try clear n3); (try clear n4); (try clear n5); (try clear n6); (try clear m2); omega) (by (try clear n0); (try clear n1); (try clear n2); (try clear n3); (try clear n4); (try clear n5); (try clear n6); (try clear m2); omega)
        have n6 : nw (wy (o k)) = wy (o k) := by clear n5; exact nw_id (by (try clear n0); (try clear n1); (try clear n2); (try clear n3); (try clear n4); (try clear n5); (try clear n6); (try clear m2); omega) (by (try clear n0); (try clear n1); (try clear n2); (try clear n3); (try clear n4); (try clear n5); (try clear n6); (try clear m2); omega)
        rw [n5, n6]
        clear n5 n6
        rw [if_neg (by (try clear n0); (try clear n1); (try clear n2); (try clear n3); (try clear n4); (try clear n5); (try clear n6); (try clear m2); omega), if_pos (by (try clear n0); (try clear n1); (try clear n2); (try clear n3); (try clear n4); (try clear n5); (try clear n6); (try clear m2); omega), if_pos (by (try clear n0); (try clear n1); (try clear n2); (try clear n3); (try clear n4); (try clear n5); (try clear n6); (try clear m2); omega), sb, sb]
        have e : (if wy (o (k - 1)) = wy (o k) then (5 : Int) else 0) = (if 0 < k ∧ wy (o k) = wy (o (k - 1)) then 5 else 0) := by
          split <;> split <;> first | rfl | omega
        rw [e]
        exact hf
    refine m2 _ ?_
    rw [show ((k + 1 : Nat) : Int) = (k : Int) + 1 from rfl] at e2
    rw [← e2]
    rw [qTW_succ]
    dsimp only
    congr 1
    split <;> omega
theorem M_waits_s {g : AG} {cm wy : Nat → Int} {c : Nat} (C : QOk cm c) (Q : MQu g cm wy c) {o : Nat → Nat} (ho : ∀ j, j < c → o j < c) (h160 : ∀ j, j < c → g 160 j = o j) : M_waits g = some (qTW cm wy o c).2 := M_waits_b_s C Q ho h160 c 0 (by omega)
theorem M_copy_s {c : Nat} (hc : c ≤ 7) {rec : Int → Int → AG → Option (Int × AG)} {a b v : Int} : ∀ (n k : Nat) (g : AG), k + n = c → g 117 59 = c → ∃ g', M_orders_b rec a b 2 v k g = some (0, g') ∧ FR [(161, 0)] g g' ∧ (∀ j, k ≤ j → j < c → g' 161 j = g 160 j) ∧ ∀ j, j < k → g' 161 j = g 161 j := by
  intro n
  induction n with
  | zero =>
    intro k g h hg
    refine ⟨g, ?_, Fr.rf, fun j h1 h2 => by (try clear n0); (try clear n1); (try clear n2); omega, fun j _ => rfl⟩
    rw [M_orders_b.eq_1 _ _ _ 2, if_neg (by decide), if_pos rfl, if_pos (by rw [hg, nwN _ (by (try clear n0); (try clear n1); (try clear n2); omega), nwN _ (by (try clear n0); (try clear n1); (try clear n2); omega)]; omega)]
  | succ n ih =>
    intro k g h hg
    obtain ⟨g', e, f, p1, p2⟩ := ih (k + 1) (up g 161 k (g 160 k)) (by (try clear n0); (try clear n1); (try clear n2); omega) (by simp [up_at]; exact hg)
    refine ⟨g', ?_, (Fr.up Fr.rf rfl).tr f, ?_, ?_⟩
    · have n0 : nw (g 117 59) = c := by rw [hg, nwN _ (by (try clear n0); (try clear n1); (try clear n2); omega)]
      have n1 : nw (k : Int) = k := nwN _ (by (try clear n0); (try clear n1); (try clear n2); omega)
      have n2 : ix (k : Int) = k := ixN _ (by (try clear n0); (try clear n1); (try clear n2); omega)
      rw [M_orders_b.eq_1 _ _ _ 2, n0, n1, n2]
      clear n0 n1 n2
      rw [if_neg (by decide), if_pos rfl, if_neg (by (try clear n0); (try clear n1); (try clear n2); omega), if_pos (by (try clear n0); (try clear n1); (try clear n2); omega), sb]
      exact e
    · intro j h1 h2
      by_cases z : j = k
      · subst z; rw [p2 j (by (try clear n0); (try clear n1); (try clear n2); omega), up_at, if_pos ⟨rfl, rfl⟩]
      · rw [p1 j (by (try clear n0); (try clear n1); (try clear n2); omega) h2, up_at, if_neg (by (try clear n0); (try clear n1); (try clear n2); omega)]
    · intro j hj
      rw [p2 j (by (try clear n0); (try clear n1); (try clear n2); omega), up_at, if_neg (by (try clear n0); (try clear n1); (try clear n2); omega)]
theorem M_orders_t {cm wy : Nat → Int} {c : Nat} (C : QOk cm c) : ∀ (n f i : Nat) (m : Int) (o : Nat → Nat) (s : QS) (g : AG), i + n = c → n + 1 ≤ f → MQu g cm wy c → (∀ j, j < i → o j < c) → (∀ j, j < i → g 160 j = o j) → MB g c s → ∃ g', M_orders f i m g = some (0, g') ∧ FR RMO g g' ∧ (∀ j, j < i → g' 160 j = g 160 j) ∧ MB g' c (qS cm wy c n i m o s) := by
  intro n
  induction n with
  | zero =>
    intro f i m o s g h hf Q ho h160 B
    obtain ⟨f, rfl⟩ : ∃ f', f = f' + 1 := ⟨f - 1, by (try clear n0); (try clear n1); (try clear n2); (try clear top); (try clear n3); (try clear n4); (try clear hbit); omega⟩
    have hc := C.1
    have ei : i = c := by (try clear n0); (try clear n1); (try clear n2); (try clear top); (try clear n3); (try clear n4); (try clear hbit); omega
    subst ei
    have w := M_waits_s C Q ho h160
    have r := qTW_rng (wy := wy) C i (by (try clear n0); (try clear n1); (try clear n2); (try clear top); (try clear n3); (try clear n4); (try clear hbit); omega) ho
    have n0 : nw (g 117 59) = i := by rw [Q.1, nwN _ (by (try clear n0); (try clear n1); (try clear n2); (try clear top); (try clear n3); (try clear n4); (try clear hbit); omega)]
    have n1 : nw (i : Int) = i := nwN _ (by (try clear n0); (try clear n1); (try clear n2); (try clear top); (try clear n3); (try clear n4); (try clear hbit); omega)
    have n2 : nw (qTW cm wy o i).2 = (qTW cm wy o i).2 := by clear n0 n1; exact nw_id (by (try clear n0); (try clear n1); (try clear n2); (try clear top); (try clear n3); (try clear n4); (try clear hbit); omega) (by (try clear n0); (try clear n1); (try clear n2); (try clear top); (try clear n3); (try clear n4); (try clear hbit); omega)
    have top : M_orders (f + 1) i m g = (if nw (g 117 64) = -1 then M_orders_b (M_orders f) 0 0 1 (qTW cm wy o i).2 0 g else if (qTW cm wy o i).2 < nw (g 117 64) then M_orders_b (M_orders f) 0 0 1 (qTW cm wy o i).2 0 g else some (0, g)) := by
      show M_orders_s (M_orders f) i m g = _
      unfold M_orders_s
      rw [n0, n1, if_pos rfl, w, sb, n2]
    clear n0 n1 n2
    have take : ∃ g', M_orders_b (M_orders f) 0 0 1 (qTW cm wy o i).2 0 g = some (0, g') ∧ FR RMO g g' ∧ (∀ j, j < i → g' 160 j = g 160 j) ∧ MB g' i (some ((qTW cm wy o i).2, o)) := by
      obtain ⟨g', e, ff, p1, p2⟩ := M_copy_s (c := i) hc (rec := M_orders f) (a := 0) (b := 0) (v := (qTW cm wy o i).2) i 0 (up g 117 64 (qTW cm wy o i).2) (by (try clear n0); (try clear n1); (try clear n2); (try clear top); (try clear n3); (try clear n4); (try clear hbit); omega) (by rw [up_at, if_neg (by (try clear n0); (try clear n1); (try clear n2); (try clear top); (try clear n3); (try clear n4); (try clear hbit); omega)]; exact Q.1)
      refine ⟨g', ?_, FR.mo (W := RMO) ((Fr.up (W := inR RMO) Fr.rf rfl).tr (FR.mo ff rfl)) rfl, fun j hj => ?_, ?_⟩
      · rw [M_orders_b.eq_1 _ _ _ 1, if_pos rfl, sb]
        exact e
      · rw [ff 160 j rfl, up_at, if_neg (by (try clear n0); (try clear n1); (try clear n2); (try clear top); (try clear n3); (try clear n4); (try clear hbit); omega)]
      · refine Or.inr ⟨_, rfl, ?_, ?_, ?_⟩
        · rw [ff 117 64 rfl, up_at, if_pos ⟨rfl, rfl⟩]
        · dsimp only; (try clear n0); (try clear n1); (try clear n2); (try clear top); (try clear n3); (try clear n4); (try clear hbit); omega
        · intro j hj
          rw [p1 j (by (try clear n0); (try clear n1); (try clear n2); (try clear top); (try clear n3); (try clear n4); (try clear hbit); omega) hj, up_at, if_neg (by (try clear n0); (try clear n1); (try clear n2); (try clear top); (try clear n3); (try clear n4); (try clear hbit); omega)]
          exact h160 j hj
    rw [top]
    unfold qS qLeaf
    rcases B with ⟨e1, e2⟩ | ⟨p, e1, e2, e3, e4⟩
    · subst e1
      rw [e2, nw_m1, if_pos rfl]
      exact take
    · subst e1
      have n3 : nw p.1 = p.1 := nw_id (by (try clear n0); (try clear n1); (try clear n2); (try clear top); (try clear n3); (try clear n4); (try clear hbit); omega) (by (try clear n0); (try clear n1); (try clear n2); (try clear top); (try clear n3); (try clear n4); (try clear hbit); omega)
      rw [e2, n3]
      clear n3
      dsimp only
      rw [if_neg (by (try clear n0); (try clear n1); (try clear n2); (try clear top); (try clear n3); (try clear n4); (try clear hbit); omega)]
      by_cases z : (qTW cm wy o i).2 < p.1
      · rw [if_pos z, if_pos z]
        exact take
      · rw [if_neg z, if_neg z]
        exact ⟨g, rfl, Fr.rf, fun j _ => rfl, Or.inr ⟨p, rfl, e2, e3, e4⟩⟩
  | succ n ih =>
    intro f i m o s g h hf Q ho h160 B
    obtain ⟨f, rfl⟩ : ∃ f', f = f' + 1 := ⟨f - 1, by (try clear n0); (try clear n1); (try clear n2); (try clear top); (try clear n3); (try clear n4); (try clear hbit); omega⟩
    have hc := C.1
    have n0 : nw (g 117 59) = c := by rw [Q.1, nwN _ (by (try clear n0); (try clear n1); (try clear n2); (try clear top); (try clear n3); (try clear n4); (try clear hbit); omega)]
    have n1 : nw (i : Int) = i := nwN _ (by (try clear n0); (try clear n1); (try clear n2); (try clear top); (try clear n3); (try clear n4); (try clear hbit); omega)
    have n2 : ix (i : Int) = i := ixN _ (by (try clear n0); (try clear n1); (try clear n2); (try clear top); (try clear n3); (try clear n4); (try clear hbit); omega)
    have top : M_orders (f + 1) i m g = M_orders_b (M_orders f) i m 3 0 0 g := by
      show M_orders_s (M_orders f) i m g = _
      unfold M_orders_s
      rw [n0, n1, if_neg (by (try clear n0); (try clear n1); (try clear n2); (try clear top); (try clear n3); (try clear n4); (try clear hbit); omega)]
    rw [top]
    clear top n0
    unfold qS
    have loop : ∀ (k b : Nat) (s : QS) (g1 : AG), b + k = c → MQu g1 cm wy c → (∀ j, j < i → g1 160 j = o j) → MB g1 c s → ∃ g', M_orders_b (M_orders f) i m 3 b 0 g1 = some (0, g') ∧ FR RMO g1 g' ∧ (∀ j, j < i → g' 160 j = g1 160 j) ∧ MB g' c (qLoop (fun b s => qS cm wy c n (i + 1) (orI m (shlI 1 (b : Int))) (ud o i b) s) m k b s) := by
      intro k
      induction k with
      | zero =>
        intro b s g1 hb Q1 h1 B1
        refine ⟨g1, ?_, Fr.rf, fun j _ => rfl, B1⟩
        have n3 : nw (g1 117 59) = c := by rw [Q1.1, nwN _ (by (try clear n0); (try clear n1); (try clear n2); (try clear top); (try clear n3); (try clear n4); (try clear hbit); omega)]
        have n4 : nw (b : Int) = b := nwN _ (by (try clear n0); (try clear n1); (try clear n2); (try clear top); (try clear n3); (try clear n4); (try clear hbit); omega)
        rw [M_orders_b.eq_1 _ _ _ 3, n3, n4, if_neg (by decide), if_neg (by decide), if_pos rfl, if_pos (by (try clear n0); (try clear n1); (try clear n2); (try clear top); (try clear n3); (try clear n4); (try clear hbit); omega)]
      | succ k ihk =>
        intro b s g1 hb Q1 h1 B1
        have n3 : nw (g1 117 59) = c := by rw [Q1.1, nwN _ (by (try clear n0); (try clear n1); (try clear n2); (try clear top); (try clear n3); (try clear n4); (try clear hbit); omega)]
        have n4 : nw (b : Int) = b := nwN _ (by (try clear n0); (try clear n1); (try clear n2); (try clear top); (try clear n3); (try clear n4); (try clear hbit); omega)
        have hbit := bit_q m b (by (try clear n0); (try clear n1); (try clear n2); (try clear top); (try clear n3); (try clear n4); (try clear hbit); omega)
        unfold qLoop
        rw [M_orders_b.eq_1 _ _ _ 3, n3, n4, hbit, n1, n2]
        rw [if_neg (by decide), if_neg (by decide), if_pos rfl, if_neg (by (try clear n0); (try clear n1); (try clear n2); (try clear top); (try clear n3); (try clear n4); (try clear hbit); omega)]
        clear n3 n4 hbit
        by_cases t : tb m b = true
        · rw [if_pos t, if_pos rfl, if_pos t, sb]
          obtain ⟨g', e, ff, p, q⟩ := ihk (b + 1) s g1 (by (try clear n0); (try clear n1); (try clear n2); (try clear top); (try clear n3); (try clear n4); (try clear hbit); omega) Q1 h1 B1
          exact ⟨g', e, ff, p, q⟩
        · rw [if_neg t, if_neg (by decide), if_neg t]
          have f1 : FR RMO g1 (up g1 160 i b) := Fr.up Fr.rf rfl
          obtain ⟨g2, e2, f2, p2, q2⟩ := ih f (i + 1) (orI m (shlI 1 (b : Int))) (ud o i b) s (up g1 160 i b) (by (try clear n0); (try clear n1); (try clear n2); (try clear top); (try clear n3); (try clear n4); (try clear hbit); omega) (by (try clear n0); (try clear n1); (try clear n2); (try clear top); (try clear n3); (try clear n4); (try clear hbit); omega) (Q1.fr f1) (ud_all ho (by (try clear n0); (try clear n1); (try clear n2); (try clear top); (try clear n3); (try clear n4); (try clear hbit); omega)) (fun j hj => by
            rw [up_at]
            by_cases z : j = i
            · subst z; rw [if_pos ⟨rfl, rfl⟩, ud_at]
            · rw [if_neg (by (try clear n0); (try clear n1); (try clear n2); (try clear top); (try clear n3); (try clear n4); (try clear hbit); omega), ud_lt (by (try clear n0); (try clear n1); (try clear n2); (try clear top); (try clear n3); (try clear n4); (try clear hbit); omega)]; exact h1 j (by (try clear n0); (try clear n1); (try clear n2); (try clear top); (try clear n3); (try clear n4); (try clear hbit); omega)) (by
            rcases B1 with ⟨b1, b2⟩ | ⟨p, b1, b2, b3, b4⟩
            · exact Or.inl ⟨b1, by rw [up_at, if_neg (by (try clear n0); (try clear n1); (try clear n2); (try clear top); (try clear n3); (try clear n4); (try clear hbit); omega)]; exact b2⟩
            · exact Or.inr ⟨p, b1, by rw [up_at, if_neg (by (try clear n0); (try clear n1); (try clear n2); (try clear top); (try clear n3); (try clear n4); (try clear hbit); omega)]; exact b2, b3, fun j hj => by rw [up_at, if_neg (by (try clear n0); (try clear n1); (try clear n2); (try clear top); (try clear n3); (try clear n4); (try clear hbit); omega)]; exact b4 j hj⟩)
          have f12 := f1.tr f2
          have k12 : ∀ j, j < i → g2 160 j = g1 160 j := fun j hj => by
            rw [p2 j (by (try clear n0); (try clear n1); (try clear n2); (try clear top); (try clear n3); (try clear n4); (try clear hbit); omega), up_at, if_neg (by (try clear n0); (try clear n1); (try clear n2); (try clear top); (try clear n3); (try clear n4); (try clear hbit); omega)]
          obtain ⟨g3, e3, f3, p3, q3⟩ := ihk (b + 1) _ g2 (by (try clear n0); (try clear n1); (try clear n2); (try clear top); (try clear n3); (try clear n4); (try clear hbit); omega) (Q1.fr f12) (fun j hj => by rw [k12 j hj]; exact h1 j hj) q2
          refine ⟨g3, ?_, f12.tr f3, fun j hj => by rw [p3 j hj, k12 j hj], q3⟩
          rw [if_pos (by (try clear n0); (try clear n1); (try clear n2); (try clear top); (try clear n3); (try clear n4); (try clear hbit); omega), sb]
          rw [show ((i + 1 : Nat) : Int) = (i : Int) + 1 from rfl] at e2
          rw [e2, sb, sb]
          exact e3
    exact loop c 0 s g (by (try clear n0); (try clear n1); (try clear n2); (try clear top); (try clear n3); (try clear n4); (try clear hbit); omega) Q h160 B
