/-! plain programs: what the queue at a lock answers -/
def qLs (wy : Nat → Int) (o : Nat → Nat) : Nat → Int
  | 0 => 0
  | i + 1 => qLs wy o i + (if 0 < i ∧ ¬ wy (o i) = wy (o (i - 1)) then 1 else 0)
theorem qLs_rng {wy : Nat → Int} {o : Nat → Nat} : ∀ i : Nat, 0 ≤ qLs wy o i ∧ qLs wy o i ≤ i
  | 0 => by unfold qLs; omega
  | i + 1 => by
    have := qLs_rng (wy := wy) (o := o) i
    unfold qLs
    split <;> omega
theorem qLs_cg {wy : Nat → Int} {o o' : Nat → Nat} : ∀ i : Nat, (∀ j, j < i → o j = o' j) → qLs wy o i = qLs wy o' i
  | 0, _ => rfl
  | i + 1, h => by
    have e := qLs_cg (wy := wy) i (fun j hj => h j (by omega))
    unfold qLs
    rw [e, h i (by omega)]
    by_cases z : 0 < i
    · rw [h (i - 1) (by omega)]
    · simp only [z, false_and]
theorem XL_asCome {g : AG} {c : Nat} (hc : c ≤ 7) (hg : g 8 2 = c) (Q : ∀ j, j < c → 0 ≤ g 82 j ∧ g 82 j ≤ 1) : ∀ (n k : Nat), k + n = c → 1 ≤ k → LockQueue_lockfulsAsCome_b g ((c : Int) - qLs (g 82) (qId c) k) k = some ((c : Int) - qLs (g 82) (qId c) c) := by
  intro n
  induction n with
  | zero =>
    intro k h hk
    rw [LockQueue_lockfulsAsCome_b, if_pos (by rw [hg, nwN _ (by (try clear n0); (try clear n1); (try clear n2); (try clear n3); (try clear n4); (try clear n5); (try clear n6); omega), nwN _ (by (try clear n0); (try clear n1); (try clear n2); (try clear n3); (try clear n4); (try clear n5); (try clear n6); omega)]; omega), show k = c by (try clear n0); (try clear n1); (try clear n2); (try clear n3); (try clear n4); (try clear n5); (try clear n6); omega]
  | succ n ih =>
    intro k h hk
    have e2 := ih (k + 1) (by (try clear n0); (try clear n1); (try clear n2); (try clear n3); (try clear n4); (try clear n5); (try clear n6); omega) (by (try clear n0); (try clear n1); (try clear n2); (try clear n3); (try clear n4); (try clear n5); (try clear n6); omega)
    have w1 := Q k (by (try clear n0); (try clear n1); (try clear n2); (try clear n3); (try clear n4); (try clear n5); (try clear n6); omega)
    have w2 := Q (k - 1) (by (try clear n0); (try clear n1); (try clear n2); (try clear n3); (try clear n4); (try clear n5); (try clear n6); omega)
    have n0 : nw (g 8 2) = c := by rw [hg, nwN _ (by (try clear n0); (try clear n1); (try clear n2); (try clear n3); (try clear n4); (try clear n5); (try clear n6); omega)]
    have n1 : nw (k : Int) = k := nwN _ (by (try clear n0); (try clear n1); (try clear n2); (try clear n3); (try clear n4); (try clear n5); (try clear n6); omega)
    have n2 : ix (k : Int) = k := ixN _ (by (try clear n0); (try clear n1); (try clear n2); (try clear n3); (try clear n4); (try clear n5); (try clear n6); omega)
    have n3 : nw ((k : Int) - 1) = (k - 1 : Nat) := by rw [show (k : Int) - 1 = ((k - 1 : Nat) : Int) by (try clear n0); (try clear n1); (try clear n2); (try clear n3); (try clear n4); (try clear n5); (try clear n6); omega]; exact nwN _ (by (try clear n0); (try clear n1); (try clear n2); (try clear n3); (try clear n4); (try clear n5); (try clear n6); omega)
    have n4 : ix ((k : Int) - 1) = k - 1 := by rw [show (k : Int) - 1 = ((k - 1 : Nat) : Int) by (try clear n0); (try clear n1); (try clear n2); (try clear n3); (try clear n4); (try clear n5); (try clear n6); omega]; exact ixN _ (by (try clear n0); (try clear n1); (try clear n2); (try clear n3); (try clear n4); (try clear n5); (try clear n6); omega)
    have n5 : nw (g 82 k) = g 82 k := by clear n0 n1 n2 n3 n4; exact nw_id (by (try clear n0); (try clear n1); (try clear n2); (try clear n3); (try clear n4); (try clear n5); (try clear n6); omega) (by (try clear n0); (try clear n1); (try clear n2); (try clear n3); (try clear n4); (try clear n5); (try clear n6); omega)
    have n6 : nw (g 82 (k - 1)) = g 82 (k - 1) := by clear n0 n1 n2 n3 n4 n5; exact nw_id (by (try clear n0); (try clear n1); (try clear n2); (try clear n3); (try clear n4); (try clear n5); (try clear n6); omega) (by (try clear n0); (try clear n1); (try clear n2); (try clear n3); (try clear n4); (try clear n5); (try clear n6); omega)
    rw [LockQueue_lockfulsAsCome_b, n0, n1, n2, n3, n4, n5, n6]
    clear n0 n1 n2 n3 n4 n5 n6
    rw [if_neg (by (try clear n0); (try clear n1); (try clear n2); (try clear n3); (try clear n4); (try clear n5); (try clear n6); omega), if_pos (by (try clear n0); (try clear n1); (try clear n2); (try clear n3); (try clear n4); (try clear n5); (try clear n6); omega), if_pos (by (try clear n0); (try clear n1); (try clear n2); (try clear n3); (try clear n4); (try clear n5); (try clear n6); omega), sb]
    rw [show ((k + 1 : Nat) : Int) = (k : Int) + 1 from rfl] at e2
    rw [← e2]
    congr 1
    conv => rhs; unfold qLs
    rw [qId_at (show k < c by (try clear n0); (try clear n1); (try clear n2); (try clear n3); (try clear n4); (try clear n5); (try clear n6); omega), qId_at (show k - 1 < c by (try clear n0); (try clear n1); (try clear n2); (try clear n3); (try clear n4); (try clear n5); (try clear n6); omega)]
    by_cases z : g 82 k = g 82 (k - 1)
    · rw [if_pos z, if_neg (by (try clear n0); (try clear n1); (try clear n2); (try clear n3); (try clear n4); (try clear n5); (try clear n6); omega)]; omega
    · rw [if_neg z, if_pos ⟨by (try clear n0); (try clear n1); (try clear n2); (try clear n3); (try clear n4); (try clear n5); (try clear n6); omega, z⟩]; omega
theorem XL_atBest {g : AG} {wy : Nat → Int} {c : Nat} (hc : c ≤ 7) (hg : g 8 2 = c) (Q : ∀ j, j < c → g 82 j = wy j ∧ 0 ≤ wy j ∧ wy j ≤ 1) {o : Nat → Nat} (ho : ∀ j, j < c → o j < c) (hK : ∀ j, j < c → g 84 j = o j) : ∀ (n k : Nat), k + n = c → 1 ≤ k → LockQueue_lockfulsAtBest_b g ((c : Int) - qLs wy o k) k = some ((c : Int) - qLs wy o c) := by
  intro n
  induction n with
  | zero =>
    intro k h hk
    rw [LockQueue_lockfulsAtBest_b, if_pos (by rw [hg, nwN _ (by (try clear n0); (try clear n1); (try clear n2); (try clear n3); (try clear n4); (try clear n5); (try clear n6); (try clear n7); (try clear n8); (try clear n9); (try clear n10); omega), nwN _ (by (try clear n0); (try clear n1); (try clear n2); (try clear n3); (try clear n4); (try clear n5); (try clear n6); (try clear n7); (try clear n8); (try clear n9); (try clear n10); omega)]; omega), show k = c by (try clear n0); (try clear n1); (try clear n2); (try clear n3); (try clear n4); (try clear n5); (try clear n6); (try clear n7); (try clear n8); (try clear n9); (try clear n10); omega]
  | succ n ih =>
    intro k h hk
    have e2 := ih (k + 1) (by (try clear n0); (try clear n1); (try clear n2); (try clear n3); (try clear n4); (try clear n5); (try clear n6); (try clear n7); (try clear n8); (try clear n9); (try clear n10); omega) (by (try clear n0); (try clear n1); (try clear n2); (try clear n3); (try clear n4); (try clear n5); (try clear n6); (try clear n7); (try clear n8); (try clear n9); (try clear n10); omega)
    have h1 := ho k (by (try clear n0); (try clear n1); (try clear n2); (try clear n3); (try clear n4); (try clear n5); (try clear n6); (try clear n7); (try clear n8); (try clear n9); (try clear n10); omega)
    have h2 := ho (k - 1) (by (try clear n0); (try clear n1); (try clear n2); (try clear n3); (try clear n4); (try clear n5); (try clear n6); (try clear n7); (try clear n8); (try clear n9); (try clear n10); omega)
    have w1 := Q _ h1
    have w2 := Q _ h2
    have n0 : nw (g 8 2) = c := by rw [hg, nwN _ (by (try clear n0); (try clear n1); (try clear n2); (try clear n3); (try clear n4); (try clear n5); (try clear n6); (try clear n7); (try clear n8); (try clear n9); (try clear n10); omega)]
    have n1 : nw (k : Int) = k := nwN _ (by (try clear n0); (try clear n1); (try clear n2); (try clear n3); (try clear n4); (try clear n5); (try clear n6); (try clear n7); (try clear n8); (try clear n9); (try clear n10); omega)
    have n2 : ix (k : Int) = k := ixN _ (by (try clear n0); (try clear n1); (try clear n2); (try clear n3); (try clear n4); (try clear n5); (try clear n6); (try clear n7); (try clear n8); (try clear n9); (try clear n10); omega)
    have n3 : nw ((k : Int) - 1) = (k - 1 : Nat) := by rw [show (k : Int) - 1 = ((k - 1 : Nat) : Int) by (try clear n0); (try clear n1); (try clear n2); (try clear n3); (try clear n4); (try clear n5); (try clear n6); (try clear n7); (try clear n8); (try clear n9); (try clear n10); omega]; exact nwN _ (by (try clear n0); (try clear n1); (try clear n2); (try clear n3); (try clear n4); (try clear n5); (try clear n6); (try clear n7); (try clear n8); (try clear n9); (try clear n10); omega)
    have n4 : ix ((k : Int) - 1) = k - 1 := by rw [show (k : Int) - 1 = ((k - 1 : Nat) : Int) by (try clear n0); (try clear n1); (try clear n2); (try clear n3); (try clear n4); (try clear n5); (try clear n6); (try clear n7); (try clear n8); (try clear n9); (try clear n10); omega]; exact ixN _ (by (try clear n0); (try clear n1); (try clear n2); (try clear n3); (try clear n4); (try clear n5); (try clear n6); (try clear n7); (try clear n8); (try clear n9); (try clear n10); omega)
    have n5 : nw (wy (o k)) = wy (o k) := by clear n0 n1 n2 n3 n4; exact nw_id (by (try clear n0); (try clear n1); (try clear n2); (try clear n3); (try clear n4); (try clear n5); (try clear n6); (try clear n7); (try clear n8); (try clear n9); (try clear n10); omega) (by (try clear n0); (try clear n1); (try clear n2); (try clear n3); (try clear n4); (try clear n5); (try clear n6); (try clear n7); (try clear n8); (try clear n9); (try clear n10); omega)
    have n6 : nw (wy (o (k - 1))) = wy (o (k - 1)) := by clear n0 n1 n2 n3 n4 n5; exact nw_id (by (try clear n0); (try clear n1); (try clear n2); (try clear n3); (try clear n4); (try clear n5); (try clear n6); (try clear n7); (try clear n8); (try clear n9); (try clear n10); omega) (by (try clear n0); (try clear n1); (try clear n2); (try clear n3); (try clear n4); (try clear n5); (try clear n6); (try clear n7); (try clear n8); (try clear n9); (try clear n10); omega)
    have n7 : nw ((o k : Nat) : Int) = (o k : Nat) := nwN _ (by (try clear n0); (try clear n1); (try clear n2); (try clear n3); (try clear n4); (try clear n5); (try clear n6); (try clear n7); (try clear n8); (try clear n9); (try clear n10); omega)
    have n8 : ix ((o k : Nat) : Int) = o k := ixN _ (by (try clear n0); (try clear n1); (try clear n2); (try clear n3); (try clear n4); (try clear n5); (try clear n6); (try clear n7); (try clear n8); (try clear n9); (try clear n10); omega)
    have n9 : nw ((o (k - 1) : Nat) : Int) = (o (k - 1) : Nat) := nwN _ (by (try clear n0); (try clear n1); (try clear n2); (try clear n3); (try clear n4); (try clear n5); (try clear n6); (try clear n7); (try clear n8); (try clear n9); (try clear n10); omega)
    have n10 : ix ((o (k - 1) : Nat) : Int) = o (k - 1) := ixN _ (by (try clear n0); (try clear n1); (try clear n2); (try clear n3); (try clear n4); (try clear n5); (try clear n6); (try clear n7); (try clear n8); (try clear n9); (try clear n10); omega)
    rw [LockQueue_lockfulsAtBest_b, n0, n1, n2, n3, n4, hK k (by (try clear n0); (try clear n1); (try clear n2); (try clear n3); (try clear n4); (try clear n5); (try clear n6); (try clear n7); (try clear n8); (try clear n9); (try clear n10); omega), hK (k - 1) (by (try clear n0); (try clear n1); (try clear n2); (try clear n3); (try clear n4); (try clear n5); (try clear n6); (try clear n7); (try clear n8); (try clear n9); (try clear n10); omega), n7, n8, n9, n10, w1.1, w2.1, n5, n6]
    clear n0 n1 n2 n3 n4 n5 n6 n7 n8 n9 n10
    rw [if_neg (by (try clear n0); (try clear n1); (try clear n2); (try clear n3); (try clear n4); (try clear n5); (try clear n6); (try clear n7); (try clear n8); (try clear n9); (try clear n10); omega), if_pos (by (try clear n0); (try clear n1); (try clear n2); (try clear n3); (try clear n4); (try clear n5); (try clear n6); (try clear n7); (try clear n8); (try clear n9); (try clear n10); omega), if_pos (by (try clear n0); (try clear n1); (try clear n2); (try clear n3); (try clear n4); (try clear n5); (try clear n6); (try clear n7); (try clear n8); (try clear n9); (try clear n10); omega), if_pos (by (try clear n0); (try clear n1); (try clear n2); (try clear n3); (try clear n4); (try clear n5); (try clear n6); (try clear n7); (try clear n8); (try clear n9); (try clear n10); omega), if_pos (by (try clear n0); (try clear n1); (try clear n2); (try clear n3); (try clear n4); (try clear n5); (try clear n6); (try clear n7); (try clear n8); (try clear n9); (try clear n10); omega), sb]
    rw [show ((k + 1 : Nat) : Int) = (k : Int) + 1 from rfl] at e2
    rw [← e2]
    congr 1
    conv => rhs; unfold qLs
    by_cases z : wy (o k) = wy (o (k - 1))
    · rw [if_pos z, if_neg (fun q => q.2 z)]; omega
    · rw [if_neg z, if_pos ⟨by (try clear n0); (try clear n1); (try clear n2); (try clear n3); (try clear n4); (try clear n5); (try clear n6); (try clear n7); (try clear n8); (try clear n9); (try clear n10); omega, z⟩]; omega
theorem ML_lockfuls {g : AG} {wy : Nat → Int} {c : Nat} (hc : c ≤ 7) (hg : g 117 59 = c) (Q : ∀ j, j < c → g 159 j = wy j ∧ 0 ≤ wy j ∧ wy j ≤ 1) {o : Nat → Nat} (ho : ∀ j, j < c → o j < c) (hK : ∀ j, j < c → g 160 j = o j) : ∀ (n k : Nat), k + n = c → 1 ≤ k → M_lockfuls_b g ((c : Int) - qLs wy o k) k = some ((c : Int) - qLs wy o c) := by
  intro n
  induction n with
  | zero =>
    intro k h hk
    rw [M_lockfuls_b, if_pos (by rw [hg, nwN _ (by (try clear n0); (try clear n1); (try clear n2); (try clear n3); (try clear n4); (try clear n5); (try clear n6); (try clear n7); (try clear n8); (try clear n9); (try clear n10); omega), nwN _ (by (try clear n0); (try clear n1); (try clear n2); (try clear n3); (try clear n4); (try clear n5); (try clear n6); (try clear n7); (try clear n8); (try clear n9); (try clear n10); omega)]; omega), show k = c by (try clear n0); (try clear n1); (try clear n2); (try clear n3); (try clear n4); (try clear n5); (try clear n6); (try clear n7); (try clear n8); (try clear n9); (try clear n10); omega]
  | succ n ih =>
    intro k h hk
    have e2 := ih (k + 1) (by (try clear n0); (try clear n1); (try clear n2); (try clear n3); (try clear n4); (try clear n5); (try clear n6); (try clear n7); (try clear n8); (try clear n9); (try clear n10); omega) (by (try clear n0); (try clear n1); (try clear n2); (try clear n3); (try clear n4); (try clear n5); (try clear n6); (try clear n7); (try clear n8); (try clear n9); (try clear n10); omega)
    have h1 := ho k (by (try clear n0); (try clear n1); (try clear n2); (try clear n3); (try clear n4); (try clear n5); (try clear n6); (try clear n7); (try clear n8); (try clear n9); (try clear n10); omega)
    have h2 := ho (k - 1) (by (try clear n0); (try clear n1); (try clear n2); (try clear n3); (try clear n4); (try clear n5); (try clear n6); (try clear n7); (try clear n8); (try clear n9); (try clear n10); omega)
    have w1 := Q _ h1
    have w2 := Q _ h2
    have n0 : nw (g 117 59) = c := by rw [hg, nwN _ (by (try clear n0); (try clear n1); (try clear n2); (try clear n3); (try clear n4); (try clear n5); (try clear n6); (try clear n7); (try clear n8); (try clear n9); (try clear n10); omega)]
    have n1 : nw (k : Int) = k := nwN _ (by (try clear n0); (try clear n1); (try clear n2); (try clear n3); (try clear n4); (try clear n5); (try clear n6); (try clear n7); (try clear n8); (try clear n9); (try clear n10); omega)
    have n2 : ix (k : Int) = k := ixN _ (by (try clear n0); (try clear n1); (try clear n2); (try clear n3); (try clear n4); (try clear n5); (try clear n6); (try clear n7); (try clear n8); (try clear n9); (try clear n10); omega)
    have n3 : nw ((k : Int) - 1) = (k - 1 : Nat) := by rw [show (k : Int) - 1 = ((k - 1 : Nat) : Int) by (try clear n0); (try clear n1); (try clear n2); (try clear n3); (try clear n4); (try clear n5); (try clear n6); (try clear n7); (try clear n8); (try clear n9); (try clear n10); omega]; exact nwN _ (by (try clear n0); (try clear n1); (try clear n2); (try clear n3); (try clear n4); (try clear n5); (try clear n6); (try clear n7); (try clear n8); (try clear n9); (try clear n10); omega)
    have n4 : ix ((k : Int) - 1) = k - 1 := by rw [show (k : Int) - 1 = ((k - 1 : Nat) : Int) by (try clear n0); (try clear n1); (try clear n2); (try clear n3); (try clear n4); (try clear n5); (try clear n6); (try clear n7); (try clear n8); (try clear n9); (try clear n10); omega]; exact ixN _ (by (try clear n0); (try clear n1); (try clear n2); (try clear n3); (try clear n4); (try clear n5); (try clear n6); (try clear n7); (try clear n8); (try clear n9); (try clear n10); omega)
    have n5 : nw (wy (o k)) = wy (o k) := by clear n0 n1 n2 n3 n4; exact nw_id (by (try clear n0); (try clear n1); (try clear n2); (try clear n3); (try clear n4); (try clear n5); (try clear n6); (try clear n7); (try clear n8); (try clear n9); (try clear n10); omega) (by (try clear n0); (try clear n1); (try clear n2); (try clear n3); (try clear n4); (try clear n5); (try clear n6); (try clear n7); (try clear n8); (try clear n9); (try clear n10); omega)
    have n6 : nw (wy (o (k - 1))) = wy (o (k - 1)) := by clear n0 n1 n2 n3 n4 n5; exact nw_id (by (try clear n0); (try clear n1); (try clear n2); (try clear n3); (try clear n4); (try clear n5); (try clear n6); (try clear n7); (try clear n8); (try clear n9); (try clear n10); omega) (by (try clear n0); (try clear n1); (try clear n2); (try clear n3); (try clear n4); (try clear n5); (try clear n6); (try clear n7); (try clear n8); (try clear n9); (try clear n10); omega)
    have n7 : nw ((o k : Nat) : Int) = (o k : Nat) := nwN _ (by (try clear n0); (try clear n1); (try clear n2); (try clear n3); (try clear n4); (try clear n5); (try clear n6); (try clear n7); (try clear n8); (try clear n9); (try clear n10); omega)
    have n8 : ix ((o k : Nat) : Int) = o k := ixN _ (by (try clear n0); (try clear n1); (try clear n2); (try clear n3); (try clear n4); (try clear n5); (try clear n6); (try clear n7); (try clear n8); (try clear n9); (try clear n10); omega)
    have n9 : nw ((o (k - 1) : Nat) : Int) = (o (k - 1) : Nat) := nwN _ (by (try clear n0); (try clear n1); (try clear n2); (try clear n3); (try clear n4); (try clear n5); (try clear n6); (try clear n7); (try clear n8); (try clear n9); (try clear n10); omega)
    have n10 : ix ((o (k - 1) : Nat) : Int) = o (k - 1) := ixN _ (by (try clear n0); (try clear n1); (try clear n2); (try clear n3); (try clear n4); (try clear n5); (try clear n6); (try clear n7); (try clear n8); (try clear n9); (try clear n10); omega)
    rw [M_lockfuls_b, n0, n1, n2, n3, n4, hK k (by (try clear n0); (try clear n1); (try clear n2); (try clear n3); (try clear n4); (try clear n5); (try clear n6); (try clear n7); (try clear n8); (try clear n9); (try clear n10); omega), hK (k - 1) (by (try clear n0); (try clear n1); (try clear n2); (try clear n3); (try clear n4); (try clear n5); (try clear n6); (try clear n7); (try clear n8); (try clear n9); (try clear n10); omega), n7, n8, n9, n10, w1.1, w2.1, n5, n6]
    clear n0 n1 n2 n3 n4 n5 n6 n7 n8 n9 n10
    rw [if_neg (by (try clear n0); (try clear n1); (try clear n2); (try clear n3); (try clear n4); (try clear n5); (try clear n6); (try clear n7); (try clear n8); (try clear n9); (try clear n10); omega), if_pos (by (try clear n0); (try clear n1); (try clear n2); (try clear n3); (try clear n4); (try clear n5); (try clear n6); (try clear n7); (try clear n8); (try clear n9); (try clear n10); omega), if_pos (by (try clear n0); (try clear n1); (try clear n2); (try clear n3); (try clear n4); (try clear n5); (try clear n6); (try clear n7); (try clear n8); (try clear n9); (try clear n10); omega), if_pos (by (try clear n0); (try clear n1); (try clear n2); (try clear n3); (try clear n4); (try clear n5); (try clear n6); (try clear n7); (try clear n8); (try clear n9); (try clear n10); omega), if_pos (by (try clear n0); (try clear n1); (try clear n2); (try clear n3); (try clear n4); (try clear n5); (try clear n6); (try clear n7); (try clear n8); (try clear n9); (try clear n10); omega), sb]
    rw [show ((k + 1 : Nat) : Int) = (k : Int) + 1 from rfl] at e2
    rw [← e2]
    congr 1
    conv => rhs; unfold qLs
    by_cases z : wy (o k) = wy (o (k - 1))
    · rw [if_pos z, if_neg (fun q => q.2 z)]; omega
    · rw [if_neg z, if_pos ⟨by (try clear n0); (try clear n1); (try clear n2); (try clear n3); (try clear n4); (try clear n5); (try clear n6); (try clear n7); (try clear n8); (try clear n9); (try clear n10); omega, z⟩]; omega
theorem M_asC_s {c : Nat} (hc : c ≤ 7) : ∀ (n k : Nat) (g : AG), k + n = c → g 117 59 = c → (∀ j, j < k → g 160 j = (j : Int)) → ∃ g', M_asTheyCome_b k g = some (0, g') ∧ FR [(160, 0)] g g' ∧ ∀ j, j < c → g' 160 j = ((qId c j : Nat) : Int) := by
  intro n
  induction n with
  | zero =>
    intro k g h hg hh
    refine ⟨g, ?_, Fr.rf, fun j hj => by rw [qId_at hj]; exact hh j (by (try clear n0); (try clear n1); (try clear n2); omega)⟩
    rw [M_asTheyCome_b, if_pos (by rw [hg, nwN _ (by (try clear n0); (try clear n1); (try clear n2); omega), nwN _ (by (try clear n0); (try clear n1); (try clear n2); omega)]; omega)]
  | succ n ih =>
    intro k g h hg hh
    obtain ⟨g', e, f, r⟩ := ih (k + 1) (up g 160 k k) (by (try clear n0); (try clear n1); (try clear n2); omega) (by rw [up_at, if_neg (by (try clear n0); (try clear n1); (try clear n2); omega)]; exact hg) (fun j hj => by
      rw [up_at]
      by_cases z : j = k
      · subst z; rw [if_pos ⟨rfl, rfl⟩]
      · rw [if_neg (by (try clear n0); (try clear n1); (try clear n2); omega)]; exact hh j (by (try clear n0); (try clear n1); (try clear n2); omega))
    refine ⟨g', ?_, (Fr.up Fr.rf rfl).tr f, r⟩
    have n0 : nw (g 117 59) = c := by rw [hg, nwN _ (by (try clear n0); (try clear n1); (try clear n2); omega)]
    have n1 : nw (k : Int) = k := nwN _ (by (try clear n0); (try clear n1); (try clear n2); omega)
    have n2 : ix (k : Int) = k := ixN _ (by (try clear n0); (try clear n1); (try clear n2); omega)
    rw [M_asTheyCome_b, n0, n1, n2]
    clear n0 n1 n2
    rw [if_neg (by (try clear n0); (try clear n1); (try clear n2); omega), if_pos (by (try clear n0); (try clear n1); (try clear n2); omega), sb]
    exact e
theorem M_lk3_s {c : Nat} (hc : c ≤ 7) {x1 : Int} : ∀ (n k : Nat) (g : AG), k + n = c → g 117 59 = c → (∀ j, j < k → g 160 j = g 161 j) → ∃ g', M_lock_b x1 3 k g = M_lock_b x1 4 c g' ∧ FR [(160, 0)] g g' ∧ ∀ j, j < c → g' 160 j = g 161 j := by
  intro n
  induction n with
  | zero =>
    intro k g h hg hh
    refine ⟨g, ?_, Fr.rf, fun j hj => hh j (by (try clear n0); (try clear n1); (try clear n2); omega)⟩
    rw [M_lock_b.eq_1 _ 3, if_neg (by decide), if_neg (by decide), if_pos rfl, if_pos (by rw [hg, nwN _ (by (try clear n0); (try clear n1); (try clear n2); omega), nwN _ (by (try clear n0); (try clear n1); (try clear n2); omega)]; omega), show k = c by (try clear n0); (try clear n1); (try clear n2); omega]
  | succ n ih =>
    intro k g h hg hh
    obtain ⟨g', e, f, r⟩ := ih (k + 1) (up g 160 k (g 161 k)) (by (try clear n0); (try clear n1); (try clear n2); omega) (by rw [up_at, if_neg (by (try clear n0); (try clear n1); (try clear n2); omega)]; exact hg) (fun j hj => by
      rw [up_at, up_at, if_neg (show ¬ (161 = 160 ∧ j = k) by (try clear n0); (try clear n1); (try clear n2); omega)]
      by_cases z : j = k
      · subst z; rw [if_pos ⟨rfl, rfl⟩]
      · rw [if_neg (by (try clear n0); (try clear n1); (try clear n2); omega)]; exact hh j (by (try clear n0); (try clear n1); (try clear n2); omega))
    refine ⟨g', ?_, (Fr.up Fr.rf rfl).tr f, fun j hj => by rw [r j hj, up_at, if_neg (by (try clear n0); (try clear n1); (try clear n2); omega)]⟩
    have n0 : nw (g 117 59) = c := by rw [hg, nwN _ (by (try clear n0); (try clear n1); (try clear n2); omega)]
    have n1 : nw (k : Int) = k := nwN _ (by (try clear n0); (try clear n1); (try clear n2); omega)
    have n2 : ix (k : Int) = k := ixN _ (by (try clear n0); (try clear n1); (try clear n2); omega)
    rw [M_lock_b.eq_1 _ 3, n0, n1, n2]
    clear n0 n1 n2
    rw [if_neg (by decide), if_neg (by decide), if_pos rfl, if_neg (by (try clear n0); (try clear n1); (try clear n2); omega), if_pos (by (try clear n0); (try clear n1); (try clear n2); omega), sb]
    exact e
theorem M_lk4_s {cm wy : Nat → Int} {c : Nat} (C : QOk cm c) {g : AG} (Q : MQu g cm wy c) {o : Nat → Nat} (ho : ∀ j, j < c → o j < c) (h160 : ∀ j, j < c → g 160 j = o j) {x1 x2 : Int} (hx : 0 ≤ x1 ∧ x1 ≤ 3) : M_lock_b x1 4 x2 g = some (if 2 ≤ x1 then (c : Int) - qLs wy o c else (qTW cm wy o c).2, g) := by
  have hc := C.1
  have n1 : nw x1 = x1 := nw_id (by (try clear n1); omega) (by (try clear n1); omega)
  rw [M_lock_b.eq_1 _ 4, if_neg (by decide), if_neg (by decide), if_neg (by decide), if_pos rfl, n1]
  clear n1
  by_cases z : 2 ≤ x1
  · rw [if_pos z, if_pos z]
    unfold M_lockfuls
    by_cases y : c = 0
    · subst y
      rw [M_lockfuls_b, if_pos (by rw [Q.1, nw_1, nwN _ (by (try clear n1); omega)]; decide), sb, sb, Q.1]
      rfl
    · have e := ML_lockfuls hc Q.1 (fun j hj => (Q.2 j hj).2) ho h160 (c - 1) 1 (by (try clear n1); omega) (by (try clear n1); omega)
      have q1 : qLs wy o 1 = 0 := by unfold qLs qLs; rw [if_neg (by (try clear n1); omega)]; rfl
      rw [q1, Int.sub_zero] at e
      have e' : M_lockfuls_b g (g 117 59) 1 = some ((c : Int) - qLs wy o c) := by rw [Q.1]; exact e
      rw [e', sb, sb]
  · rw [if_neg z, if_neg z, M_waits_s C Q ho h160, sb, sb]
theorem sm_lock {x1 : Int} {g : AG} (h1 : I32 x1) (q : JQueue g) :
    ∃ v1 r2, X_lock x1 g = some v1 ∧ M_lock x1 g = some r2 ∧ nw v1 = nw r2.1 ∧ FR RMO g r2.2 := by
  unfold I32 at *
  obtain ⟨c, q1, q2, q3, q4, q5, p, q6, q7, q8⟩ := q
  have C : QOk (g 81) c := ⟨q1, fun j hj => (q4 j hj).1⟩
  have MQ0 : MQu g (g 81) (g 82) c := ⟨q3, fun j hj => ⟨(q4 j hj).2.2.1, (q4 j hj).2.2.2, (q4 j hj).2.1⟩⟩
  have good : QGood (g 81) (g 82) c (qBest (g 81) (g 82) c) := qS_good c 0 0 (qId 0) _ (by (try clear n1); (try clear w2); (try clear eT); (try clear wr); (try clear d0); (try clear d1); omega) (fun j hj => by (try clear n1); (try clear w2); (try clear eT); (try clear wr); (try clear d0); (try clear d1); omega) (fun p hp => by
    have := Option.some.inj hp
    subst this
    exact ⟨rfl, qId_all⟩)
  have gd := good p q6
  have n1 : nw x1 = x1 := nw_id (by (try clear n1); (try clear w2); (try clear eT); (try clear wr); (try clear d0); (try clear d1); omega) (by (try clear n1); (try clear w2); (try clear eT); (try clear wr); (try clear d0); (try clear d1); omega)
  have w1 := isIn0 (x := x1) (a := 0) (b := 3) (by (try clear n1); (try clear w2); (try clear eT); (try clear wr); (try clear d0); (try clear d1); omega) (by (try clear n1); (try clear w2); (try clear eT); (try clear wr); (try clear d0); (try clear d1); omega) (by decide) (by decide) (by decide) (by decide)
  have w2 : (nw (M_isIn x1 10 (9 + g 117 59)) = 0) = (x1 < 10 ∨ 9 + (c : Int) < x1) := by
    rw [q3]
    exact isIn0 (by (try clear n1); (try clear w2); (try clear eT); (try clear wr); (try clear d0); (try clear d1); omega) (by (try clear n1); (try clear w2); (try clear eT); (try clear wr); (try clear d0); (try clear d1); omega) (by decide) (by decide) (by (try clear n1); (try clear w2); (try clear eT); (try clear wr); (try clear d0); (try clear d1); omega) (by (try clear n1); (try clear w2); (try clear eT); (try clear wr); (try clear d0); (try clear d1); omega)
  -- the class's answer
  have xE : X_lock x1 g = some (if x1 = 0 then (qTW (g 81) (g 82) (qId c) c).2 else if x1 = 1 then p.1 else if x1 = 2 then (c : Int) - qLs (g 82) (qId c) c else if x1 = 3 then (c : Int) - qLs (g 82) p.2 c else if 10 ≤ x1 ∧ x1 ≤ 9 + (c : Int) then ((p.2 (x1 - 10).toNat : Nat) : Int) else -1) := by
    unfold X_lock
    rw [n1]
    clear w1 w2 n1
    by_cases z0 : x1 = 0
    · rw [if_pos z0, if_pos z0, q5]
    rw [if_neg z0, if_neg z0]
    by_cases z1 : x1 = 1
    · rw [if_pos z1, if_pos z1, q7]
    rw [if_neg z1, if_neg z1]
    by_cases z2 : x1 = 2
    · rw [if_pos z2, if_pos z2]
      unfold LockQueue_lockfulsAsCome
      by_cases y : c = 0
      · subst y
        rw [LockQueue_lockfulsAsCome_b, if_pos (by rw [q2, nw_1, nwN _ (by (try clear n1); (try clear w2); (try clear eT); (try clear wr); (try clear d0); (try clear d1); omega)]; decide), sb, q2]
        rfl
      · have e := XL_asCome q1 q2 (fun j hj => (q4 j hj).2.1) (c - 1) 1 (by (try clear n1); (try clear w2); (try clear eT); (try clear wr); (try clear d0); (try clear d1); omega) (by (try clear n1); (try clear w2); (try clear eT); (try clear wr); (try clear d0); (try clear d1); omega)
        have k1 : qLs (g 82) (qId c) 1 = 0 := by unfold qLs qLs; rw [if_neg (by (try clear n1); (try clear w2); (try clear eT); (try clear wr); (try clear d0); (try clear d1); omega)]; rfl
        rw [k1, Int.sub_zero] at e
        have e' : LockQueue_lockfulsAsCome_b g (g 8 2) 1 = some ((c : Int) - qLs (g 82) (qId c) c) := by rw [q2]; exact e
        rw [e', sb]
    rw [if_neg z2, if_neg z2]
    by_cases z3 : x1 = 3
    · rw [if_pos z3, if_pos z3]
      unfold LockQueue_lockfulsAtBest
      by_cases y : c = 0
      · subst y
        rw [LockQueue_lockfulsAtBest_b, if_pos (by rw [q2, nw_1, nwN _ (by (try clear n1); (try clear w2); (try clear eT); (try clear wr); (try clear d0); (try clear d1); omega)]; decide), sb, q2]
        rfl
      · have e := XL_atBest (wy := g 82) q1 q2 (fun j hj => ⟨rfl, (q4 j hj).2.1⟩) gd.2 q8 (c - 1) 1 (by (try clear n1); (try clear w2); (try clear eT); (try clear wr); (try clear d0); (try clear d1); omega) (by (try clear n1); (try clear w2); (try clear eT); (try clear wr); (try clear d0); (try clear d1); omega)
        have k1 : qLs (g 82) p.2 1 = 0 := by unfold qLs qLs; rw [if_neg (by (try clear n1); (try clear w2); (try clear eT); (try clear wr); (try clear d0); (try clear d1); omega)]; rfl
        rw [k1, Int.sub_zero] at e
        have e' : LockQueue_lockfulsAtBest_b g (g 8 2) 1 = some ((c : Int) - qLs (g 82) p.2 c) := by rw [q2]; exact e
        rw [e', sb]
    rw [if_neg z3, if_neg z3]
    unfold LockQueue_atBest
    have eT : (nw (X_within (x1 - 10) 0 (g 8 2 - 1)) = 0) = (x1 < 10 ∨ 9 + (c : Int) < x1) := by
      rw [q2]
      unfold X_within
      rw [nw_0, nw_id (a := (c : Int) - 1) (by (try clear n1); (try clear w2); (try clear eT); (try clear wr); (try clear d0); (try clear d1); omega) (by (try clear n1); (try clear w2); (try clear eT); (try clear wr); (try clear d0); (try clear d1); omega)]
      have wr : nw (x1 - 10) = if x1 < -2147483638 then x1 - 10 + 4294967296 else x1 - 10 := by
        by_cases z : x1 < -2147483638
        · rw [if_pos z, nw_iff.2 (show (x1 - 10 - (x1 - 10 + 4294967296)) % 4294967296 = 0 by (try clear n1); (try clear w2); (try clear eT); (try clear wr); (try clear d0); (try clear d1); omega), nw_id (by (try clear n1); (try clear w2); (try clear eT); (try clear wr); (try clear d0); (try clear d1); omega) (by (try clear n1); (try clear w2); (try clear eT); (try clear wr); (try clear d0); (try clear d1); omega)]
        · rw [if_neg z, nw_id (by (try clear n1); (try clear w2); (try clear eT); (try clear wr); (try clear d0); (try clear d1); omega) (by (try clear n1); (try clear w2); (try clear eT); (try clear wr); (try clear d0); (try clear d1); omega)]
      rw [wr]
      clear wr
      by_cases z : x1 < -2147483638
      · rw [if_pos z, if_neg (by (try clear n1); (try clear w2); (try clear eT); (try clear wr); (try clear d0); (try clear d1); omega), if_pos (by (try clear n1); (try clear w2); (try clear eT); (try clear wr); (try clear d0); (try clear d1); omega), nw_0]; simp; omega
      · rw [if_neg z]
        by_cases z1 : x1 - 10 < 0
        · rw [if_pos z1, nw_0]; simp; omega
        · rw [if_neg z1]
          by_cases z2 : (c : Int) - 1 < x1 - 10
          · rw [if_pos z2, nw_0]; simp; omega
          · rw [if_neg z2, nw_1]; simp; omega
    by_cases z : 10 ≤ x1 ∧ x1 ≤ 9 + (c : Int)
    · obtain ⟨j, hj⟩ : ∃ j : Nat, x1 = 10 + j := ⟨(x1 - 10).toNat, by (try clear n1); (try clear w2); (try clear eT); (try clear wr); (try clear d0); (try clear d1); omega⟩
      have jc : j < c := by (try clear n1); (try clear w2); (try clear eT); (try clear wr); (try clear d0); (try clear d1); omega
      rw [if_neg (by rw [eT]; clear eT; omega), if_pos z, hj, show (10 + (j : Int) - 10) = j by (try clear n1); (try clear w2); (try clear eT); (try clear wr); (try clear d0); (try clear d1); omega, Int.toNat_natCast]
      clear eT
      have d0 : nw (j : Int) = j := nwN _ (by (try clear n1); (try clear w2); (try clear eT); (try clear wr); (try clear d0); (try clear d1); omega)
      have d1 : ix (j : Int) = j := ixN _ (by (try clear n1); (try clear w2); (try clear eT); (try clear wr); (try clear d0); (try clear d1); omega)
      rw [d0, d1, q8 j jc]
      clear d0 d1
      rw [if_pos (by (try clear n1); (try clear w2); (try clear eT); (try clear wr); (try clear d0); (try clear d1); omega), sb, sb]
    · rw [if_pos (by rw [eT]; clear eT; omega), if_neg z, sb, sb]
  by_cases ok : (0 ≤ x1 ∧ x1 ≤ 3) ∨ (10 ≤ x1 ∧ x1 ≤ 9 + (c : Int))
  · obtain ⟨g1, hg1⟩ : ∃ g1 : AG, g1 = up g 117 64 (-1) := ⟨_, rfl⟩
    have f1 : FR RMO g g1 := by rw [hg1]; exact Fr.up Fr.rf rfl
    obtain ⟨g2, e2, f2, _, B2⟩ := M_orders_t C c 9 0 0 (qId 0) none g1 (by (try clear n1); (try clear w2); (try clear eT); (try clear wr); (try clear d0); (try clear d1); omega) (by (try clear n1); (try clear w2); (try clear eT); (try clear wr); (try clear d0); (try clear d1); omega) (MQ0.fr f1) (fun j hj => by (try clear n1); (try clear w2); (try clear eT); (try clear wr); (try clear d0); (try clear d1); omega) (fun j hj => by (try clear n1); (try clear w2); (try clear eT); (try clear wr); (try clear d0); (try clear d1); omega) (Or.inl ⟨rfl, by rw [hg1, up_at, if_pos ⟨rfl, rfl⟩]⟩)
    rw [qS_left q1 c 0 0 (by (try clear n1); (try clear w2); (try clear eT); (try clear wr); (try clear d0); (try clear d1); omega) (fun j hj => by rw [tb_0]; simp)] at B2
    have q6' : qS (g 81) (g 82) c c 0 0 (qId 0) (some ((qTW (g 81) (g 82) (qId c) c).2, qId c)) = some p := q6
    rw [q6'] at B2
    obtain ⟨b1, b2⟩ : g2 117 64 = p.1 ∧ ∀ j, j < c → g2 161 j = p.2 j := by
      rcases B2 with ⟨a, _⟩ | ⟨p', a, b, _, d⟩
      · cases a
      · have := Option.some.inj a
        subst this
        exact ⟨b, d⟩
    have e2' : M_orders 9 0 0 g1 = some (0, g2) := e2
    have f12 := f1.tr f2
    have MQ2 := MQ0.fr f12
    have top : ∀ r, (M_lock_b x1 1 0 g = r) → M_lock x1 g = r := by
      intro r hr
      unfold M_lock
      by_cases z : 0 ≤ x1 ∧ x1 ≤ 3
      · rw [if_neg (by rw [w1]; clear n1 w1 w2; omega)]; exact hr
      · rw [if_pos (by rw [w1]; clear n1 w1 w2; omega), if_neg (by rw [w2]; clear n1 w1 w2; omega)]; exact hr
    by_cases z : 10 ≤ x1
    · have zc : x1 ≤ 9 + (c : Int) := by (try clear n1); (try clear w2); (try clear eT); (try clear wr); (try clear d0); (try clear d1); omega
      refine ⟨_, (((p.2 (x1 - 10).toNat : Nat) : Int), g2), xE, top _ ?_, ?_, f12⟩
      · rw [M_lock_b.eq_1 _ 1, if_pos rfl, sb, ← hg1, e2', sb, n1, if_neg (by (try clear n1); (try clear w2); (try clear eT); (try clear wr); (try clear d0); (try clear d1); omega)]
        obtain ⟨j, hj⟩ : ∃ j : Nat, x1 = 10 + j := ⟨(x1 - 10).toNat, by (try clear n1); (try clear w2); (try clear eT); (try clear wr); (try clear d0); (try clear d1); omega⟩
        have jc : j < c := by (try clear n1); (try clear w2); (try clear eT); (try clear wr); (try clear d0); (try clear d1); omega
        rw [hj, show (10 + (j : Int) - 10) = j by (try clear n1); (try clear w2); (try clear eT); (try clear wr); (try clear d0); (try clear d1); omega, Int.toNat_natCast]
        clear n1 w1 w2
        have d0 : nw (j : Int) = j := nwN _ (by (try clear n1); (try clear w2); (try clear eT); (try clear wr); (try clear d0); (try clear d1); omega)
        have d1 : ix (j : Int) = j := ixN _ (by (try clear n1); (try clear w2); (try clear eT); (try clear wr); (try clear d0); (try clear d1); omega)
        rw [d0, d1]
        dsimp only
        rw [b2 j jc]
        clear d0 d1
        rw [if_pos (by (try clear n1); (try clear w2); (try clear eT); (try clear wr); (try clear d0); (try clear d1); omega)]
      · clear n1 w1 w2
        rw [if_neg (by (try clear n1); (try clear w2); (try clear eT); (try clear wr); (try clear d0); (try clear d1); omega), if_neg (by (try clear n1); (try clear w2); (try clear eT); (try clear wr); (try clear d0); (try clear d1); omega), if_neg (by (try clear n1); (try clear w2); (try clear eT); (try clear wr); (try clear d0); (try clear d1); omega), if_neg (by (try clear n1); (try clear w2); (try clear eT); (try clear wr); (try clear d0); (try clear d1); omega), if_pos ⟨z, zc⟩]
    · have zx : 0 ≤ x1 ∧ x1 ≤ 3 := by (try clear n1); (try clear w2); (try clear eT); (try clear wr); (try clear d0); (try clear d1); omega
      obtain ⟨g3, e3, f3, p3⟩ := M_asC_s q1 c 0 g2 (by (try clear n1); (try clear w2); (try clear eT); (try clear wr); (try clear d0); (try clear d1); omega) MQ2.1 (fun j hj => by (try clear n1); (try clear w2); (try clear eT); (try clear wr); (try clear d0); (try clear d1); omega)
      have e3' : M_asTheyCome g2 = some (0, g3) := e3
      have f3' : FR RMO g2 g3 := FR.mo f3 rfl
      have MQ3 := MQ2.fr f3'
      have t1 : M_lock_b x1 1 0 g = (if x1 = 1 then M_lock_b x1 2 0 g3 else if x1 = 3 then M_lock_b x1 2 0 g3 else M_lock_b x1 4 0 g3) := by
        rw [M_lock_b.eq_1 _ 1, if_pos rfl, sb, ← hg1, e2', sb, n1, if_pos (by (try clear n1); (try clear w2); (try clear eT); (try clear wr); (try clear d0); (try clear d1); omega)]
        dsimp only
        rw [e3', sb]
      by_cases y : x1 = 1 ∨ x1 = 3
      · obtain ⟨g4, e4, f4, p4⟩ := M_lk3_s (x1 := x1) q1 c 0 g3 (by (try clear n1); (try clear w2); (try clear eT); (try clear wr); (try clear d0); (try clear d1); omega) MQ3.1 (fun j hj => by (try clear n1); (try clear w2); (try clear eT); (try clear wr); (try clear d0); (try clear d1); omega)
        have f4' : FR RMO g3 g4 := FR.mo f4 rfl
        have MQ4 := MQ3.fr f4'
        have l4 := M_lk4_s C MQ4 (o := p.2) gd.2 (fun j hj => by rw [p4 j hj, f3 161 j rfl]; exact b2 j hj) (x1 := x1) (x2 := c) zx
        refine ⟨_, (if 2 ≤ x1 then (c : Int) - qLs (g 82) p.2 c else (qTW (g 81) (g 82) p.2 c).2, g4), xE, top _ ?_, ?_, f12.tr (f3'.tr f4')⟩
        · have t2 : M_lock_b x1 2 0 g3 = M_lock_b x1 3 0 g3 := by
            conv => lhs; rw [M_lock_b.eq_1 _ 2, if_neg (by decide), if_pos rfl]
          have e4' : M_lock_b x1 3 0 g3 = M_lock_b x1 4 c g4 := e4
          rw [t1]
          rcases y with y | y
          · rw [if_pos y, t2, e4', l4]
          · rw [if_neg (by (try clear n1); (try clear w2); (try clear eT); (try clear wr); (try clear d0); (try clear d1); omega), if_pos y, t2, e4', l4]
        · clear n1 w1 w2
          rcases y with y | y
          · rw [if_neg (by (try clear n1); (try clear w2); (try clear eT); (try clear wr); (try clear d0); (try clear d1); omega), if_pos y, gd.1]
            dsimp only
            rw [if_neg (by (try clear n1); (try clear w2); (try clear eT); (try clear wr); (try clear d0); (try clear d1); omega)]
          · rw [if_neg (by (try clear n1); (try clear w2); (try clear eT); (try clear wr); (try clear d0); (try clear d1); omega), if_neg (by (try clear n1); (try clear w2); (try clear eT); (try clear wr); (try clear d0); (try clear d1); omega), if_neg (by (try clear n1); (try clear w2); (try clear eT); (try clear wr); (try clear d0); (try clear d1); omega), if_pos y]
            dsimp only
            rw [if_pos (by (try clear n1); (try clear w2); (try clear eT); (try clear wr); (try clear d0); (try clear d1); omega)]
      · have l4 := M_lk4_s C MQ3 (o := qId c) qId_all p3 (x1 := x1) (x2 := 0) zx
        refine ⟨_, (if 2 ≤ x1 then (c : Int) - qLs (g 82) (qId c) c else (qTW (g 81) (g 82) (qId c) c).2, g3), xE, top _ ?_, ?_, f12.tr f3'⟩
        · rw [t1, if_neg (fun a => y (Or.inl a)), if_neg (fun a => y (Or.inr a)), l4]
        · clear n1 w1 w2
          have y2 : x1 = 0 ∨ x1 = 2 := by (try clear n1); (try clear w2); (try clear eT); (try clear wr); (try clear d0); (try clear d1); omega
          rcases y2 with y2 | y2
          · rw [if_pos y2]
            dsimp only
            rw [if_neg (by (try clear n1); (try clear w2); (try clear eT); (try clear wr); (try clear d0); (try clear d1); omega)]
          · rw [if_neg (by (try clear n1); (try clear w2); (try clear eT); (try clear wr); (try clear d0); (try clear d1); omega), if_neg (by (try clear n1); (try clear w2); (try clear eT); (try clear wr); (try clear d0); (try clear d1); omega), if_pos y2]
            dsimp only
            rw [if_pos (by (try clear n1); (try clear w2); (try clear eT); (try clear wr); (try clear d0); (try clear d1); omega)]
  · refine ⟨_, (-1, g), xE, ?_, ?_, Fr.rf⟩
    · unfold M_lock
      rw [if_pos (by rw [w1]; clear n1 w1 w2; omega), if_pos (by rw [w2]; clear n1 w1 w2; omega)]
    · clear n1 w1 w2
      rw [if_neg (by (try clear n1); (try clear w2); (try clear eT); (try clear wr); (try clear d0); (try clear d1); omega), if_neg (by (try clear n1); (try clear w2); (try clear eT); (try clear wr); (try clear d0); (try clear d1); omega), if_neg (by (try clear n1); (try clear w2); (try clear eT); (try clear wr); (try clear d0); (try clear d1); omega), if_neg (by (try clear n1); (try clear w2); (try clear eT); (try clear wr); (try clear d0); (try clear d1); omega), if_neg (by (try clear n1); (try clear w2); (try clear eT); (try clear wr); (try clear d0); (try clear d1); omega)]
