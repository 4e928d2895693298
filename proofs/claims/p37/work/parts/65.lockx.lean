/-! plain programs: the queue at a lock, the class -/
def XQu (g : AG) (cm wy : Nat → Int) (c : Nat) : Prop := g 8 2 = c ∧ ∀ j, j < c → g 81 j = cm j ∧ g 82 j = wy j ∧ 0 ≤ wy j ∧ wy j ≤ 1
def XB (g : AG) (c : Nat) (p : Int × (Nat → Nat)) : Prop := g 8 4 = p.1 ∧ (0 ≤ p.1 ∧ p.1 ≤ 100000) ∧ ∀ j, j < c → g 84 j = p.2 j
abbrev RXO : Reg := [(8, 5), (83, 0), (84, 0)]
theorem XQu.fr {g g' : AG} {cm wy : Nat → Int} {c : Nat} (h : XQu g cm wy c) (f : FR RXO g g') : XQu g' cm wy c := by
  refine ⟨by rw [f 8 2 rfl]; exact h.1, fun j hj => ?_⟩
  rw [f 81 j rfl, f 82 j rfl]
  exact h.2 j hj
theorem qTW_ud {cm wy : Nat → Int} {o : Nat → Nat} {i b : Nat} : qTW cm wy (ud o i b) (i + 1) = (max (cm b) (qTW cm wy o i).1 + (if 0 < i ∧ wy b = wy (o (i - 1)) then 20 else 15), (qTW cm wy o i).2 + (max (cm b) (qTW cm wy o i).1 - cm b)) := by
  have e := qTW_cg (cm := cm) (wy := wy) (o := ud o i b) (o' := o) i (fun j hj => ud_lt hj)
  rw [qTW_succ, e, ud_at]
  by_cases z : 0 < i
  · rw [ud_lt (show i - 1 < i by omega)]
  · simp only [z, false_and]
theorem minutes83_s {g : AG} {wy : Nat → Int} {c : Nat} (hc : c ≤ 7) (Q : ∀ j, j < c → g 82 j = wy j ∧ 0 ≤ wy j ∧ wy j ≤ 1) {o : Nat → Nat} {i : Nat} (hi : i < c) (ho : ∀ j, j < i + 1 → o j < c) (h83 : ∀ j, j < i + 1 → g 83 j = o j) : LockQueue_minutesOf_8_83 i g = some (if 0 < i ∧ wy (o i) = wy (o (i - 1)) then 20 else 15) := by
  unfold LockQueue_minutesOf_8_83
  have n1 : nw (i : Int) = i := nwN _ (by (try clear n1); (try clear n2); (try clear n3); (try clear n4); (try clear n5); (try clear n6); (try clear n7); (try clear n8); omega)
  have n2 : ix (i : Int) = i := ixN _ (by (try clear n1); (try clear n2); (try clear n3); (try clear n4); (try clear n5); (try clear n6); (try clear n7); (try clear n8); omega)
  rw [n1, n2]
  clear n1 n2
  by_cases z : i = 0
  · rw [if_pos (by (try clear n1); (try clear n2); (try clear n3); (try clear n4); (try clear n5); (try clear n6); (try clear n7); (try clear n8); omega), sb, if_neg (by (try clear n1); (try clear n2); (try clear n3); (try clear n4); (try clear n5); (try clear n6); (try clear n7); (try clear n8); omega)]
  · have h1 := ho i (by (try clear n1); (try clear n2); (try clear n3); (try clear n4); (try clear n5); (try clear n6); (try clear n7); (try clear n8); omega)
    have h2 := ho (i - 1) (by (try clear n1); (try clear n2); (try clear n3); (try clear n4); (try clear n5); (try clear n6); (try clear n7); (try clear n8); omega)
    have w1 := Q _ h1
    have w2 := Q _ h2
    have n1 : nw ((i : Int) - 1) = (i - 1 : Nat) := by rw [show (i : Int) - 1 = ((i - 1 : Nat) : Int) by (try clear n1); (try clear n2); (try clear n3); (try clear n4); (try clear n5); (try clear n6); (try clear n7); (try clear n8); omega]; exact nwN _ (by (try clear n1); (try clear n2); (try clear n3); (try clear n4); (try clear n5); (try clear n6); (try clear n7); (try clear n8); omega)
    have n2 : ix ((i : Int) - 1) = i - 1 := by rw [show (i : Int) - 1 = ((i - 1 : Nat) : Int) by (try clear n1); (try clear n2); (try clear n3); (try clear n4); (try clear n5); (try clear n6); (try clear n7); (try clear n8); omega]; exact ixN _ (by (try clear n1); (try clear n2); (try clear n3); (try clear n4); (try clear n5); (try clear n6); (try clear n7); (try clear n8); omega)
    have n3 : nw ((o i : Nat) : Int) = (o i : Nat) := nwN _ (by (try clear n1); (try clear n2); (try clear n3); (try clear n4); (try clear n5); (try clear n6); (try clear n7); (try clear n8); omega)
    have n4 : ix ((o i : Nat) : Int) = o i := ixN _ (by (try clear n1); (try clear n2); (try clear n3); (try clear n4); (try clear n5); (try clear n6); (try clear n7); (try clear n8); omega)
    have n5 : nw ((o (i - 1) : Nat) : Int) = (o (i - 1) : Nat) := nwN _ (by (try clear n1); (try clear n2); (try clear n3); (try clear n4); (try clear n5); (try clear n6); (try clear n7); (try clear n8); omega)
    have n6 : ix ((o (i - 1) : Nat) : Int) = o (i - 1) := ixN _ (by (try clear n1); (try clear n2); (try clear n3); (try clear n4); (try clear n5); (try clear n6); (try clear n7); (try clear n8); omega)
    rw [n1, n2, h83 i (by (try clear n1); (try clear n2); (try clear n3); (try clear n4); (try clear n5); (try clear n6); (try clear n7); (try clear n8); omega), h83 (i - 1) (by (try clear n1); (try clear n2); (try clear n3); (try clear n4); (try clear n5); (try clear n6); (try clear n7); (try clear n8); omega), n3, n4, n5, n6, w1.1, w2.1]
    clear n1 n2 n3 n4 n5 n6
    have n7 : nw (wy (o i)) = wy (o i) := nw_id (by (try clear n1); (try clear n2); (try clear n3); (try clear n4); (try clear n5); (try clear n6); (try clear n7); (try clear n8); omega) (by (try clear n1); (try clear n2); (try clear n3); (try clear n4); (try clear n5); (try clear n6); (try clear n7); (try clear n8); omega)
    have n8 : nw (wy (o (i - 1))) = wy (o (i - 1)) := by clear n7; exact nw_id (by (try clear n1); (try clear n2); (try clear n3); (try clear n4); (try clear n5); (try clear n6); (try clear n7); (try clear n8); omega) (by (try clear n1); (try clear n2); (try clear n3); (try clear n4); (try clear n5); (try clear n6); (try clear n7); (try clear n8); omega)
    rw [n7, n8]
    clear n7 n8
    rw [if_neg (by (try clear n1); (try clear n2); (try clear n3); (try clear n4); (try clear n5); (try clear n6); (try clear n7); (try clear n8); omega), if_pos (by (try clear n1); (try clear n2); (try clear n3); (try clear n4); (try clear n5); (try clear n6); (try clear n7); (try clear n8); omega), if_pos (by (try clear n1); (try clear n2); (try clear n3); (try clear n4); (try clear n5); (try clear n6); (try clear n7); (try clear n8); omega), if_pos (by (try clear n1); (try clear n2); (try clear n3); (try clear n4); (try clear n5); (try clear n6); (try clear n7); (try clear n8); omega), if_pos (by (try clear n1); (try clear n2); (try clear n3); (try clear n4); (try clear n5); (try clear n6); (try clear n7); (try clear n8); omega), sb, sb]
    congr 1
    split <;> split <;> first | rfl | omega
theorem minutes84_s {g : AG} {wy : Nat → Int} {c : Nat} (hc : c ≤ 7) (Q : ∀ j, j < c → g 82 j = wy j ∧ 0 ≤ wy j ∧ wy j ≤ 1) {o : Nat → Nat} {i : Nat} (hi : i < c) (ho : ∀ j, j < i + 1 → o j < c) (h83 : ∀ j, j < i + 1 → g 84 j = o j) : LockQueue_minutesOf_8_84 i g = some (if 0 < i ∧ wy (o i) = wy (o (i - 1)) then 20 else 15) := by
  unfold LockQueue_minutesOf_8_84
  have n1 : nw (i : Int) = i := nwN _ (by (try clear n1); (try clear n2); (try clear n3); (try clear n4); (try clear n5); (try clear n6); (try clear n7); (try clear n8); omega)
  have n2 : ix (i : Int) = i := ixN _ (by (try clear n1); (try clear n2); (try clear n3); (try clear n4); (try clear n5); (try clear n6); (try clear n7); (try clear n8); omega)
  rw [n1, n2]
  clear n1 n2
  by_cases z : i = 0
  · rw [if_pos (by (try clear n1); (try clear n2); (try clear n3); (try clear n4); (try clear n5); (try clear n6); (try clear n7); (try clear n8); omega), sb, if_neg (by (try clear n1); (try clear n2); (try clear n3); (try clear n4); (try clear n5); (try clear n6); (try clear n7); (try clear n8); omega)]
  · have h1 := ho i (by (try clear n1); (try clear n2); (try clear n3); (try clear n4); (try clear n5); (try clear n6); (try clear n7); (try clear n8); omega)
    have h2 := ho (i - 1) (by (try clear n1); (try clear n2); (try clear n3); (try clear n4); (try clear n5); (try clear n6); (try clear n7); (try clear n8); omega)
    have w1 := Q _ h1
    have w2 := Q _ h2
    have n1 : nw ((i : Int) - 1) = (i - 1 : Nat) := by rw [show (i : Int) - 1 = ((i - 1 : Nat) : Int) by (try clear n1); (try clear n2); (try clear n3); (try clear n4); (try clear n5); (try clear n6); (try clear n7); (try clear n8); omega]; exact nwN _ (by (try clear n1); (try clear n2); (try clear n3); (try clear n4); (try clear n5); (try clear n6); (try clear n7); (try clear n8); omega)
    have n2 : ix ((i : Int) - 1) = i - 1 := by rw [show (i : Int) - 1 = ((i - 1 : Nat) : Int) by (try clear n1); (try clear n2); (try clear n3); (try clear n4); (try clear n5); (try clear n6); (try clear n7); (try clear n8); omega]; exact ixN _ (by (try clear n1); (try clear n2); (try clear n3); (try clear n4); (try clear n5); (try clear n6); (try clear n7); (try clear n8); omega)
    have n3 : nw ((o i : Nat) : Int) = (o i : Nat) := nwN _ (by (try clear n1); (try clear n2); (try clear n3); (try clear n4); (try clear n5); (try clear n6); (try clear n7); (try clear n8); omega)
    have n4 : ix ((o i : Nat) : Int) = o i := ixN _ (by (try clear n1); (try clear n2); (try clear n3); (try clear n4); (try clear n5); (try clear n6); (try clear n7); (try clear n8); omega)
    have n5 : nw ((o (i - 1) : Nat) : Int) = (o (i - 1) : Nat) := nwN _ (by (try clear n1); (try clear n2); (try clear n3); (try clear n4); (try clear n5); (try clear n6); (try clear n7); (try clear n8); omega)
    have n6 : ix ((o (i - 1) : Nat) : Int) = o (i - 1) := ixN _ (by (try clear n1); (try clear n2); (try clear n3); (try clear n4); (try clear n5); (try clear n6); (try clear n7); (try clear n8); omega)
    rw [n1, n2, h83 i (by (try clear n1); (try clear n2); (try clear n3); (try clear n4); (try clear n5); (try clear n6); (try clear n7); (try clear n8); omega), h83 (i - 1) (by (try clear n1); (try clear n2); (try clear n3); (try clear n4); (try clear n5); (try clear n6); (try clear n7); (try clear n8); omega), n3, n4, n5, n6, w1.1, w2.1]
    clear n1 n2 n3 n4 n5 n6
    have n7 : nw (wy (o i)) = wy (o i) := nw_id (by (try clear n1); (try clear n2); (try clear n3); (try clear n4); (try clear n5); (try clear n6); (try clear n7); (try clear n8); omega) (by (try clear n1); (try clear n2); (try clear n3); (try clear n4); (try clear n5); (try clear n6); (try clear n7); (try clear n8); omega)
    have n8 : nw (wy (o (i - 1))) = wy (o (i - 1)) := by clear n7; exact nw_id (by (try clear n1); (try clear n2); (try clear n3); (try clear n4); (try clear n5); (try clear n6); (try clear n7); (try clear n8); omega) (by (try clear n1); (try clear n2); (try clear n3); (try clear n4); (try clear n5); (try clear n6); (try clear n7); (try clear n8); omega)
    rw [n7, n8]
    clear n7 n8
    rw [if_neg (by (try clear n1); (try clear n2); (try clear n3); (try clear n4); (try clear n5); (try clear n6); (try clear n7); (try clear n8); omega), if_pos (by (try clear n1); (try clear n2); (try clear n3); (try clear n4); (try clear n5); (try clear n6); (try clear n7); (try clear n8); omega), if_pos (by (try clear n1); (try clear n2); (try clear n3); (try clear n4); (try clear n5); (try clear n6); (try clear n7); (try clear n8); omega), if_pos (by (try clear n1); (try clear n2); (try clear n3); (try clear n4); (try clear n5); (try clear n6); (try clear n7); (try clear n8); omega), if_pos (by (try clear n1); (try clear n2); (try clear n3); (try clear n4); (try clear n5); (try clear n6); (try clear n7); (try clear n8); omega), sb, sb]
    congr 1
    split <;> split <;> first | rfl | omega
theorem X_waitOf_s {g : AG} {cm wy : Nat → Int} {c : Nat} (C : QOk cm c) (Q : XQu g cm wy c) {o : Nat → Nat} (ho : ∀ j, j < c → o j < c) (h84 : ∀ j, j < c → g 84 j = o j) : ∀ (n k : Nat), k + n = c → LockQueue_waitOf_b g (qTW cm wy o k).2 (qTW cm wy o k).1 k = some (qTW cm wy o c).2 := by
  intro n
  induction n with
  | zero =>
    intro k h
    have hc := C.1
    rw [LockQueue_waitOf_b, if_pos (by rw [Q.1, nwN _ (by (try clear n0); (try clear n1); (try clear n2); (try clear n3); (try clear n4); omega), nwN _ (by (try clear n0); (try clear n1); (try clear n2); (try clear n3); (try clear n4); omega)]; omega), show k = c by (try clear n0); (try clear n1); (try clear n2); (try clear n3); (try clear n4); omega]
  | succ n ih =>
    intro k h
    have hc := C.1
    have hok := ho k (by (try clear n0); (try clear n1); (try clear n2); (try clear n3); (try clear n4); omega)
    have r := qTW_rng (wy := wy) C k (by (try clear n0); (try clear n1); (try clear n2); (try clear n3); (try clear n4); omega) (fun j hj => ho j (by (try clear n0); (try clear n1); (try clear n2); (try clear n3); (try clear n4); omega))
    have q := Q.2 (o k) hok
    have cb := C.2 (o k) hok
    have e2 := ih (k + 1) (by (try clear n0); (try clear n1); (try clear n2); (try clear n3); (try clear n4); omega)
    have mm := minutes84_s (g := g) hc (fun j hj => (Q.2 j hj).2) (o := o) (i := k) (by (try clear n0); (try clear n1); (try clear n2); (try clear n3); (try clear n4); omega) (fun j hj => ho j (by (try clear n0); (try clear n1); (try clear n2); (try clear n3); (try clear n4); omega)) (fun j hj => h84 j (by (try clear n0); (try clear n1); (try clear n2); (try clear n3); (try clear n4); omega))
    have mx : mxI (cm (o k)) (qTW cm wy o k).1 = max (cm (o k)) (qTW cm wy o k).1 := mxI_s (by (try clear n0); (try clear n1); (try clear n2); (try clear n3); (try clear n4); omega) (by (try clear n0); (try clear n1); (try clear n2); (try clear n3); (try clear n4); omega) (by (try clear n0); (try clear n1); (try clear n2); (try clear n3); (try clear n4); omega) (by (try clear n0); (try clear n1); (try clear n2); (try clear n3); (try clear n4); omega)
    have n0 : nw (g 8 2) = c := by rw [Q.1, nwN _ (by (try clear n0); (try clear n1); (try clear n2); (try clear n3); (try clear n4); omega)]
    have n1 : nw (k : Int) = k := nwN _ (by (try clear n0); (try clear n1); (try clear n2); (try clear n3); (try clear n4); omega)
    have n2 : ix (k : Int) = k := ixN _ (by (try clear n0); (try clear n1); (try clear n2); (try clear n3); (try clear n4); omega)
    have n3 : nw ((o k : Nat) : Int) = (o k : Nat) := nwN _ (by (try clear n0); (try clear n1); (try clear n2); (try clear n3); (try clear n4); omega)
    have n4 : ix ((o k : Nat) : Int) = o k := ixN _ (by (try clear n0); (try clear n1); (try clear n2); (try clear n3); (try clear n4); omega)
    rw [LockQueue_waitOf_b, n0, n1, n2, h84 k (by (try clear n0); (try clear n1); (try clear n2); (try clear n3); (try clear n4); omega), n3, n4, q.1, mx]
    clear n0 n1 n2 n3 n4
    rw [if_neg (by (try clear n0); (try clear n1); (try clear n2); (try clear n3); (try clear n4); omega), if_pos (by (try clear n0); (try clear n1); (try clear n2); (try clear n3); (try clear n4); omega), if_pos (by (try clear n0); (try clear n1); (try clear n2); (try clear n3); (try clear n4); omega), sb, mm, sb]
    rw [show ((k + 1 : Nat) : Int) = (k : Int) + 1 from rfl] at e2
    exact e2
theorem X_put_t {cm wy : Nat → Int} {c : Nat} (C : QOk cm c) : ∀ (n f i : Nat) (m : Int) (o : Nat → Nat) (p : Int × (Nat → Nat)) (g : AG), i + n = c → n + 1 ≤ f → XQu g cm wy c → (∀ j, j < i → o j < c) → (∀ j, j < i → g 83 j = o j) → XB g c p → (0 < n ∨ (qTW cm wy o i).2 < p.1) → ∃ g', LockQueue_putNext f i m (qTW cm wy o i).1 (qTW cm wy o i).2 g = some (0, g') ∧ FR RXO g g' ∧ (∀ j, j < i → g' 83 j = g 83 j) ∧ ∃ p', qS cm wy c n i m o (some p) = some p' ∧ XB g' c p' := by
  intro n
  induction n with
  | zero =>
    intro f i m o p g h hf Q ho h83 B hw
    obtain ⟨f, rfl⟩ : ∃ f', f = f' + 1 := ⟨f - 1, by (try clear n0); (try clear n1); (try clear n2); (try clear n3); (try clear n4); (try clear n5); (try clear n6); (try clear n7); (try clear hbit); omega⟩
    have hc := C.1
    have ei : i = c := by (try clear n0); (try clear n1); (try clear n2); (try clear n3); (try clear n4); (try clear n5); (try clear n6); (try clear n7); (try clear hbit); omega
    subst ei
    have r := qTW_rng (wy := wy) C i (by (try clear n0); (try clear n1); (try clear n2); (try clear n3); (try clear n4); (try clear n5); (try clear n6); (try clear n7); (try clear hbit); omega) ho
    have n0 : nw (g 8 2) = i := by rw [Q.1, nwN _ (by (try clear n0); (try clear n1); (try clear n2); (try clear n3); (try clear n4); (try clear n5); (try clear n6); (try clear n7); (try clear hbit); omega)]
    have n1 : nw (i : Int) = i := nwN _ (by (try clear n0); (try clear n1); (try clear n2); (try clear n3); (try clear n4); (try clear n5); (try clear n6); (try clear n7); (try clear hbit); omega)
    have n2 : ix (g 8 2) = i := by rw [Q.1, ixN _ (by (try clear n0); (try clear n1); (try clear n2); (try clear n3); (try clear n4); (try clear n5); (try clear n6); (try clear n7); (try clear hbit); omega)]
    have n3 : ix 0 = 0 := ixN 0 (by (try clear n0); (try clear n1); (try clear n2); (try clear n3); (try clear n4); (try clear n5); (try clear n6); (try clear n7); (try clear hbit); omega)
    obtain ⟨g', hg'⟩ : ∃ g' : AG, g' = copyG (up g 8 4 (qTW cm wy o i).2) 83 0 84 0 i := ⟨_, rfl⟩
    have top : LockQueue_putNext (f + 1) i m (qTW cm wy o i).1 (qTW cm wy o i).2 g = some (0, g') := by
      show LockQueue_putNext_s (LockQueue_putNext f) i m _ _ g = _
      unfold LockQueue_putNext_s
      have u : (up g 8 4 (qTW cm wy o i).2) 8 2 = g 8 2 := by rw [up_at, if_neg (by (try clear n0); (try clear n1); (try clear n2); (try clear n3); (try clear n4); (try clear n5); (try clear n6); (try clear n7); (try clear hbit); omega)]
      rw [n0, n1, if_neg (by (try clear n0); (try clear n1); (try clear n2); (try clear n3); (try clear n4); (try clear n5); (try clear n6); (try clear n7); (try clear hbit); omega), sb, u, n0, n2, n3]
      clear n0 n1 n2 n3
      rw [if_pos (by (try clear n0); (try clear n1); (try clear n2); (try clear n3); (try clear n4); (try clear n5); (try clear n6); (try clear n7); (try clear hbit); omega), sb, hg']
    clear n0 n1 n2 n3
    have fr : FR RXO g g' := by
      rw [hg']
      intro a b hab
      have z : ¬ (a = 84 ∧ 0 ≤ b ∧ b < 0 + i) := fun q => by rw [q.1] at hab; cases hab
      show (if a = 84 ∧ 0 ≤ b ∧ b < 0 + i then _ else _) = _
      rw [if_neg z, up_at, if_neg (fun q => by rw [q.1, q.2] at hab; cases hab)]
    refine ⟨g', top, fr, fun j hj => ?_, ((qTW cm wy o i).2, o), ?_, ?_, ?_, ?_⟩
    · rw [hg']
      show (if 83 = 84 ∧ 0 ≤ j ∧ j < 0 + i then _ else _) = _
      rw [if_neg (by (try clear n0); (try clear n1); (try clear n2); (try clear n3); (try clear n4); (try clear n5); (try clear n6); (try clear n7); (try clear hbit); omega), up_at, if_neg (by (try clear n0); (try clear n1); (try clear n2); (try clear n3); (try clear n4); (try clear n5); (try clear n6); (try clear n7); (try clear hbit); omega)]
    · unfold qS qLeaf
      dsimp only
      rw [if_pos (by (try clear n0); (try clear n1); (try clear n2); (try clear n3); (try clear n4); (try clear n5); (try clear n6); (try clear n7); (try clear hbit); omega)]
    · rw [hg']
      show (if 8 = 84 ∧ 0 ≤ 4 ∧ 4 < 0 + i then _ else _) = _
      rw [if_neg (by (try clear n0); (try clear n1); (try clear n2); (try clear n3); (try clear n4); (try clear n5); (try clear n6); (try clear n7); (try clear hbit); omega), up_at, if_pos ⟨rfl, rfl⟩]
    · dsimp only; (try clear n0); (try clear n1); (try clear n2); (try clear n3); (try clear n4); (try clear n5); (try clear n6); (try clear n7); (try clear hbit); omega
    · intro j hj
      rw [hg']
      show (if 84 = 84 ∧ 0 ≤ j ∧ j < 0 + i then _ else _) = _
      rw [if_pos (by (try clear n0); (try clear n1); (try clear n2); (try clear n3); (try clear n4); (try clear n5); (try clear n6); (try clear n7); (try clear hbit); omega), up_at, if_neg (by (try clear n0); (try clear n1); (try clear n2); (try clear n3); (try clear n4); (try clear n5); (try clear n6); (try clear n7); (try clear hbit); omega), show 0 + (j - 0) = j by (try clear n0); (try clear n1); (try clear n2); (try clear n3); (try clear n4); (try clear n5); (try clear n6); (try clear n7); (try clear hbit); omega]
      exact h83 j hj
  | succ n ih =>
    intro f i m o p g h hf Q ho h83 B hw
    obtain ⟨f, rfl⟩ : ∃ f', f = f' + 1 := ⟨f - 1, by (try clear n0); (try clear n1); (try clear n2); (try clear n3); (try clear n4); (try clear n5); (try clear n6); (try clear n7); (try clear hbit); omega⟩
    have hc := C.1
    have r := qTW_rng (wy := wy) C i (by (try clear n0); (try clear n1); (try clear n2); (try clear n3); (try clear n4); (try clear n5); (try clear n6); (try clear n7); (try clear hbit); omega) ho
    have n0 : nw (g 8 2) = c := by rw [Q.1, nwN _ (by (try clear n0); (try clear n1); (try clear n2); (try clear n3); (try clear n4); (try clear n5); (try clear n6); (try clear n7); (try clear hbit); omega)]
    have n1 : nw (i : Int) = i := nwN _ (by (try clear n0); (try clear n1); (try clear n2); (try clear n3); (try clear n4); (try clear n5); (try clear n6); (try clear n7); (try clear hbit); omega)
    have n2 : ix (i : Int) = i := ixN _ (by (try clear n0); (try clear n1); (try clear n2); (try clear n3); (try clear n4); (try clear n5); (try clear n6); (try clear n7); (try clear hbit); omega)
    have top : LockQueue_putNext (f + 1) i m (qTW cm wy o i).1 (qTW cm wy o i).2 g = LockQueue_putNext_b (LockQueue_putNext f) i m (qTW cm wy o i).1 (qTW cm wy o i).2 0 g := by
      show LockQueue_putNext_s (LockQueue_putNext f) i m _ _ g = _
      unfold LockQueue_putNext_s
      rw [n0, n1, if_pos (by (try clear n0); (try clear n1); (try clear n2); (try clear n3); (try clear n4); (try clear n5); (try clear n6); (try clear n7); (try clear hbit); omega)]
    rw [top]
    clear top n0
    unfold qS
    have loop : ∀ (k b : Nat) (p : Int × (Nat → Nat)) (g1 : AG), b + k = c → XQu g1 cm wy c → (∀ j, j < i → g1 83 j = o j) → XB g1 c p → ∃ g', LockQueue_putNext_b (LockQueue_putNext f) i m (qTW cm wy o i).1 (qTW cm wy o i).2 b g1 = some (0, g') ∧ FR RXO g1 g' ∧ (∀ j, j < i → g' 83 j = g1 83 j) ∧ ∃ p', qLoop (fun b s => qS cm wy c n (i + 1) (orI m (shlI 1 (b : Int))) (ud o i b) s) m k b (some p) = some p' ∧ XB g' c p' := by
      intro k
      induction k with
      | zero =>
        intro b p g1 hb Q1 h1 B1
        refine ⟨g1, ?_, Fr.rf, fun j _ => rfl, p, rfl, B1⟩
        have n3 : nw (g1 8 2) = c := by rw [Q1.1, nwN _ (by (try clear n0); (try clear n1); (try clear n2); (try clear n3); (try clear n4); (try clear n5); (try clear n6); (try clear n7); (try clear hbit); omega)]
        have n4 : nw (b : Int) = b := nwN _ (by (try clear n0); (try clear n1); (try clear n2); (try clear n3); (try clear n4); (try clear n5); (try clear n6); (try clear n7); (try clear hbit); omega)
        rw [LockQueue_putNext_b, n3, n4, if_pos (by (try clear n0); (try clear n1); (try clear n2); (try clear n3); (try clear n4); (try clear n5); (try clear n6); (try clear n7); (try clear hbit); omega)]
      | succ k ihk =>
        intro b p g1 hb Q1 h1 B1
        have hbc : b < c := by (try clear n0); (try clear n1); (try clear n2); (try clear n3); (try clear n4); (try clear n5); (try clear n6); (try clear n7); (try clear hbit); omega
        have cb := C.2 b hbc
        have qb := Q1.2 b hbc
        have uT := qTW_ud (cm := cm) (wy := wy) (o := o) (i := i) (b := b)
        have ru := qTW_rng (wy := wy) C (o := ud o i b) (i + 1) (by (try clear n0); (try clear n1); (try clear n2); (try clear n3); (try clear n4); (try clear n5); (try clear n6); (try clear n7); (try clear hbit); omega) (ud_all ho hbc)
        have n3 : nw (g1 8 2) = c := by rw [Q1.1, nwN _ (by (try clear n0); (try clear n1); (try clear n2); (try clear n3); (try clear n4); (try clear n5); (try clear n6); (try clear n7); (try clear hbit); omega)]
        have n4 : nw (b : Int) = b := nwN _ (by (try clear n0); (try clear n1); (try clear n2); (try clear n3); (try clear n4); (try clear n5); (try clear n6); (try clear n7); (try clear hbit); omega)
        have n5 : ix (b : Int) = b := ixN _ (by (try clear n0); (try clear n1); (try clear n2); (try clear n3); (try clear n4); (try clear n5); (try clear n6); (try clear n7); (try clear hbit); omega)
        have hbit := bit_q m b (by (try clear n0); (try clear n1); (try clear n2); (try clear n3); (try clear n4); (try clear n5); (try clear n6); (try clear n7); (try clear hbit); omega)
        have mx : mxI (cm b) (qTW cm wy o i).1 = max (cm b) (qTW cm wy o i).1 := by
          clear n1 n2 n3 n4 n5 hbit
          exact mxI_s (by (try clear n0); (try clear n1); (try clear n2); (try clear n3); (try clear n4); (try clear n5); (try clear n6); (try clear n7); (try clear hbit); omega) (by (try clear n0); (try clear n1); (try clear n2); (try clear n3); (try clear n4); (try clear n5); (try clear n6); (try clear n7); (try clear hbit); omega) (by (try clear n0); (try clear n1); (try clear n2); (try clear n3); (try clear n4); (try clear n5); (try clear n6); (try clear n7); (try clear hbit); omega) (by (try clear n0); (try clear n1); (try clear n2); (try clear n3); (try clear n4); (try clear n5); (try clear n6); (try clear n7); (try clear hbit); omega)
        have wE : (qTW cm wy o i).2 + max (cm b) (qTW cm wy o i).1 - cm b = (qTW cm wy (ud o i b) (i + 1)).2 := by
          clear n1 n2 n3 n4 n5 hbit mx
          rw [uT]
          dsimp only
          omega
        have n6 : nw (qTW cm wy (ud o i b) (i + 1)).2 = (qTW cm wy (ud o i b) (i + 1)).2 := by
          clear n1 n2 n3 n4 n5 hbit mx wE
          exact nw_id (by (try clear n0); (try clear n1); (try clear n2); (try clear n3); (try clear n4); (try clear n5); (try clear n6); (try clear n7); (try clear hbit); omega) (by (try clear n0); (try clear n1); (try clear n2); (try clear n3); (try clear n4); (try clear n5); (try clear n6); (try clear n7); (try clear hbit); omega)
        have n7 : nw (g1 8 4) = p.1 := by
          clear n1 n2 n3 n4 n5 n6 hbit mx wE
          rw [B1.1]
          have := B1.2.1
          exact nw_id (by (try clear n0); (try clear n1); (try clear n2); (try clear n3); (try clear n4); (try clear n5); (try clear n6); (try clear n7); (try clear hbit); omega) (by (try clear n0); (try clear n1); (try clear n2); (try clear n3); (try clear n4); (try clear n5); (try clear n6); (try clear n7); (try clear hbit); omega)
        unfold qLoop
        rw [LockQueue_putNext_b, n3, n4, hbit, n1, n2, n5, qb.1, mx, wE, n6, n7]
        clear n3 n4 n5 hbit n6 n7 mx
        rw [if_neg (by (try clear n0); (try clear n1); (try clear n2); (try clear n3); (try clear n4); (try clear n5); (try clear n6); (try clear n7); (try clear hbit); omega), if_pos (by (try clear n0); (try clear n1); (try clear n2); (try clear n3); (try clear n4); (try clear n5); (try clear n6); (try clear n7); (try clear hbit); omega)]
        by_cases t : tb m b = true
        · rw [if_pos t, if_neg (by decide), if_pos t, sb]
          exact ihk (b + 1) p g1 (by (try clear n0); (try clear n1); (try clear n2); (try clear n3); (try clear n4); (try clear n5); (try clear n6); (try clear n7); (try clear hbit); omega) Q1 h1 B1
        · rw [if_neg t, if_pos rfl, if_neg t]
          by_cases z : p.1 ≤ (qTW cm wy (ud o i b) (i + 1)).2
          · rw [if_pos z, sb]
            rw [qS_prune n (i + 1) _ _ p (by (try clear n0); (try clear n1); (try clear n2); (try clear n3); (try clear n4); (try clear n5); (try clear n6); (try clear n7); (try clear hbit); omega) z]
            exact ihk (b + 1) p g1 (by (try clear n0); (try clear n1); (try clear n2); (try clear n3); (try clear n4); (try clear n5); (try clear n6); (try clear n7); (try clear hbit); omega) Q1 h1 B1
          · rw [if_neg z]
            have f1 : FR RXO g1 (up g1 83 i b) := Fr.up Fr.rf rfl
            have h83' : ∀ j, j < i + 1 → (up g1 83 i b) 83 j = ((ud o i b j : Nat) : Int) := fun j hj => by
              rw [up_at]
              by_cases y : j = i
              · subst y; rw [if_pos ⟨rfl, rfl⟩, ud_at]
              · rw [if_neg (by (try clear n0); (try clear n1); (try clear n2); (try clear n3); (try clear n4); (try clear n5); (try clear n6); (try clear n7); (try clear hbit); omega), ud_lt (by (try clear n0); (try clear n1); (try clear n2); (try clear n3); (try clear n4); (try clear n5); (try clear n6); (try clear n7); (try clear hbit); omega)]; exact h1 j (by (try clear n0); (try clear n1); (try clear n2); (try clear n3); (try clear n4); (try clear n5); (try clear n6); (try clear n7); (try clear hbit); omega)
            have Q1' := Q1.fr f1
            have mm := minutes83_s (g := up g1 83 i b) hc (fun j hj => (Q1'.2 j hj).2) (o := ud o i b) (i := i) (by (try clear n0); (try clear n1); (try clear n2); (try clear n3); (try clear n4); (try clear n5); (try clear n6); (try clear n7); (try clear hbit); omega) (ud_all ho hbc) h83'
            have tE : max (cm b) (qTW cm wy o i).1 + (if 0 < i ∧ wy (ud o i b i) = wy (ud o i b (i - 1)) then 20 else 15) = (qTW cm wy (ud o i b) (i + 1)).1 := by
              rw [uT, ud_at]
              dsimp only
              by_cases y : 0 < i
              · rw [ud_lt (show i - 1 < i by (try clear n0); (try clear n1); (try clear n2); (try clear n3); (try clear n4); (try clear n5); (try clear n6); (try clear n7); (try clear hbit); omega)]
              · simp only [y, false_and]
            obtain ⟨g2, e2, f2, p2, p', e', q2⟩ := ih f (i + 1) (orI m (shlI 1 (b : Int))) (ud o i b) p (up g1 83 i b) (by (try clear n0); (try clear n1); (try clear n2); (try clear n3); (try clear n4); (try clear n5); (try clear n6); (try clear n7); (try clear hbit); omega) (by (try clear n0); (try clear n1); (try clear n2); (try clear n3); (try clear n4); (try clear n5); (try clear n6); (try clear n7); (try clear hbit); omega) Q1' (ud_all ho hbc) h83' ⟨by rw [up_at, if_neg (by (try clear n0); (try clear n1); (try clear n2); (try clear n3); (try clear n4); (try clear n5); (try clear n6); (try clear n7); (try clear hbit); omega)]; exact B1.1, B1.2.1, fun j hj => by rw [up_at, if_neg (by (try clear n0); (try clear n1); (try clear n2); (try clear n3); (try clear n4); (try clear n5); (try clear n6); (try clear n7); (try clear hbit); omega)]; exact B1.2.2 j hj⟩ (Or.inr (by (try clear n0); (try clear n1); (try clear n2); (try clear n3); (try clear n4); (try clear n5); (try clear n6); (try clear n7); (try clear hbit); omega))
            have f12 := f1.tr f2
            have k12 : ∀ j, j < i → g2 83 j = g1 83 j := fun j hj => by
              rw [p2 j (by (try clear n0); (try clear n1); (try clear n2); (try clear n3); (try clear n4); (try clear n5); (try clear n6); (try clear n7); (try clear hbit); omega), up_at, if_neg (by (try clear n0); (try clear n1); (try clear n2); (try clear n3); (try clear n4); (try clear n5); (try clear n6); (try clear n7); (try clear hbit); omega)]
            obtain ⟨g3, e3, f3, p3, q3⟩ := ihk (b + 1) p' g2 (by (try clear n0); (try clear n1); (try clear n2); (try clear n3); (try clear n4); (try clear n5); (try clear n6); (try clear n7); (try clear hbit); omega) (Q1.fr f12) (fun j hj => by rw [k12 j hj]; exact h1 j hj) q2
            refine ⟨g3, ?_, f12.tr f3, fun j hj => by rw [p3 j hj, k12 j hj], ?_⟩
            · rw [if_pos (by (try clear n0); (try clear n1); (try clear n2); (try clear n3); (try clear n4); (try clear n5); (try clear n6); (try clear n7); (try clear hbit); omega), sb, mm, sb, tE]
              rw [show ((i + 1 : Nat) : Int) = (i : Int) + 1 from rfl] at e2
              rw [e2, sb, sb]
              exact e3
            · rw [e']
              exact q3
    exact loop c 0 p g (by (try clear n0); (try clear n1); (try clear n2); (try clear n3); (try clear n4); (try clear n5); (try clear n6); (try clear n7); (try clear hbit); omega) Q h83 B
