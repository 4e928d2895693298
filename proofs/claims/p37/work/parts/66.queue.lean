/-! plain programs: the queue at a lock, both sides -/
def qBest (cm wy : Nat → Int) (c : Nat) : QS := qS cm wy c c 0 0 (qId 0) (some ((qTW cm wy (qId c) c).2, qId c))
theorem qId_all {c : Nat} : ∀ j, j < c → qId c j < c := fun j hj => by unfold qId; rw [if_pos hj]; exact hj
theorem qId_at {c j : Nat} (hj : j < c) : qId c j = j := by unfold qId; rw [if_pos hj]
def RQueue : Reg := [(8, 3), (8, 4), (8, 5), (81, 0), (82, 0), (84, 0), (117, 60), (158, 0), (159, 0)]
def JQueue (g : AG) : Prop := ∃ c : Nat, c ≤ 7 ∧ g 8 2 = c ∧ g 117 59 = c ∧ (∀ j, j < c → (0 ≤ g 81 j ∧ g 81 j ≤ 9999) ∧ (0 ≤ g 82 j ∧ g 82 j ≤ 1) ∧ g 158 j = g 81 j ∧ g 159 j = g 82 j) ∧ g 8 3 = (qTW (g 81) (g 82) (qId c) c).2 ∧ ∃ p, qBest (g 81) (g 82) c = some p ∧ g 8 4 = p.1 ∧ ∀ j, j < c → g 84 j = p.2 j
theorem JQueue.cg {g g' : AG} (h : ∀ k i, inR RQueue k i = true → g' k i = g k i) (q : JQueue g) : JQueue g' := by
  obtain ⟨c, q1, q2, q3, q4, q5, p, q6, q7, q8⟩ := q
  have e1 : g' 81 = g 81 := funext fun i => h 81 i rfl
  have e2 : g' 82 = g 82 := funext fun i => h 82 i rfl
  refine ⟨c, q1, by rw [h 8 2 rfl]; exact q2, by rw [h 117 59 rfl]; exact q3, fun j hj => ?_, ?_, p, ?_, ?_, fun j hj => ?_⟩
  · rw [e1, e2, h 158 j rfl, h 159 j rfl]; exact q4 j hj
  · rw [h 8 3 rfl, e1, e2]; exact q5
  · rw [e1, e2]; exact q6
  · rw [h 8 4 rfl]; exact q7
  · rw [h 84 j rfl]; exact q8 j hj
theorem X_find_s {cm wy : Nat → Int} {c : Nat} (C : QOk cm c) (hc0 : 0 < c) : ∀ (n k : Nat) (g : AG), k + n = c → XQu g cm wy c → (∀ j, j < k → g 84 j = (j : Int)) → ∃ g', LockQueue_findBest_b k g = some (0, g') ∧ FR [(8, 4), (8, 5), (83, 0), (84, 0)] g g' ∧ g' 8 3 = (qTW cm wy (qId c) c).2 ∧ ∃ p, qBest cm wy c = some p ∧ XB g' c p := by
  intro n
  induction n with
  | zero =>
    intro k g h Q h84
    have hc := C.1
    have hk : k = c := by (try clear n0); (try clear n1); (try clear n2); omega
    subst hk
    have h84' : ∀ j, j < k → g 84 j = ((qId k j : Nat) : Int) := fun j hj => by rw [qId_at hj]; exact h84 j hj
    have w : LockQueue_waitOf g = some (qTW cm wy (qId k) k).2 := X_waitOf_s C Q (qId_all (c := k)) h84' k 0 (by (try clear n0); (try clear n1); (try clear n2); omega)
    have r := qTW_rng (wy := wy) C (o := qId k) k (by (try clear n0); (try clear n1); (try clear n2); omega) qId_all
    have f6 : FR [(8, 4), (8, 5), (83, 0), (84, 0)] g (up (up g 8 3 (qTW cm wy (qId k) k).2) 8 4 (qTW cm wy (qId k) k).2) := Fr.up (Fr.up Fr.rf rfl) rfl
    obtain ⟨g', e, f, p0, p, ep, B⟩ := X_put_t C k 9 0 0 (qId 0) ((qTW cm wy (qId k) k).2, qId k) (up (up g 8 3 (qTW cm wy (qId k) k).2) 8 4 (qTW cm wy (qId k) k).2) (by (try clear n0); (try clear n1); (try clear n2); omega) (by (try clear n0); (try clear n1); (try clear n2); omega) ⟨by rw [up_at, if_neg (by (try clear n0); (try clear n1); (try clear n2); omega), up_at, if_neg (by (try clear n0); (try clear n1); (try clear n2); omega)]; exact Q.1, fun j hj => by rw [f6 81 j rfl, f6 82 j rfl]; exact Q.2 j hj⟩ (fun j hj => by (try clear n0); (try clear n1); (try clear n2); omega) (fun j hj => by (try clear n0); (try clear n1); (try clear n2); omega) ⟨by rw [up_at, if_pos ⟨rfl, rfl⟩], by dsimp only; (try clear n0); (try clear n1); (try clear n2); omega, fun j hj => by rw [up_at, if_neg (by (try clear n0); (try clear n1); (try clear n2); omega), up_at, if_neg (by (try clear n0); (try clear n1); (try clear n2); omega)]; exact h84' j hj⟩ (Or.inl hc0)
    refine ⟨g', ?_, f6.tr (FR.mo f rfl), ?_, p, ep, B⟩
    · rw [LockQueue_findBest_b, if_pos (by rw [Q.1, nwN _ (by (try clear n0); (try clear n1); (try clear n2); omega)]; omega), w, sb, sb, sb]
      have u : (up g 8 3 (qTW cm wy (qId k) k).2) 8 3 = (qTW cm wy (qId k) k).2 := by rw [up_at, if_pos ⟨rfl, rfl⟩]
      rw [u]
      have e' : LockQueue_putNext 9 0 0 0 0 (up (up g 8 3 (qTW cm wy (qId k) k).2) 8 4 (qTW cm wy (qId k) k).2) = some (0, g') := e
      rw [e', sb]
    · rw [f 8 3 rfl, up_at, if_neg (by (try clear n0); (try clear n1); (try clear n2); omega), up_at, if_pos ⟨rfl, rfl⟩]
  | succ n ih =>
    intro k g h Q h84
    have hc := C.1
    obtain ⟨g', e, f, r⟩ := ih (k + 1) (up g 84 k k) (by (try clear n0); (try clear n1); (try clear n2); omega) ⟨by rw [up_at, if_neg (by (try clear n0); (try clear n1); (try clear n2); omega)]; exact Q.1, fun j hj => by rw [up_at, if_neg (by (try clear n0); (try clear n1); (try clear n2); omega), up_at, if_neg (by (try clear n0); (try clear n1); (try clear n2); omega)]; exact Q.2 j hj⟩ (fun j hj => by
      rw [up_at]
      by_cases z : j = k
      · subst z; rw [if_pos ⟨rfl, rfl⟩]
      · rw [if_neg (by (try clear n0); (try clear n1); (try clear n2); omega)]; exact h84 j (by (try clear n0); (try clear n1); (try clear n2); omega))
    refine ⟨g', ?_, (Fr.up Fr.rf rfl).tr f, r⟩
    have n0 : nw (g 8 2) = c := by rw [Q.1, nwN _ (by (try clear n0); (try clear n1); (try clear n2); omega)]
    have n1 : nw (k : Int) = k := nwN _ (by (try clear n0); (try clear n1); (try clear n2); omega)
    have n2 : ix (k : Int) = k := ixN _ (by (try clear n0); (try clear n1); (try clear n2); omega)
    rw [LockQueue_findBest_b, n0, n1, n2]
    clear n0 n1 n2
    rw [if_neg (by (try clear n0); (try clear n1); (try clear n2); omega), if_pos (by (try clear n0); (try clear n1); (try clear n2); omega), sb]
    exact e
def qOk (x1 x2 : Int) (c : Nat) (f : Nat → Int) : Prop := (0 ≤ x2 ∧ x2 ≤ 1) ∧ (0 ≤ x1 ∧ x1 ≤ 9999) ∧ c < 7 ∧ (0 < c → f (c - 1) ≤ x1)
theorem X_queue_s {x1 x2 : Int} {g : AG} {c : Nat} (h1 : I32 x1) (h2 : I32 x2) (hc : c ≤ 7) (hg : g 8 2 = c) (hr : ∀ j, j < c → 0 ≤ g 81 j ∧ g 81 j ≤ 9999) (hx : x2 ≠ -1) : (qOk x1 x2 c (g 81) → X_queue x1 x2 g = (LockQueue_findBest (up (up (up g 81 c x1) 82 c x2) 8 2 (c + 1)) >>= fun r => some (r.2 8 2, r.2))) ∧ (¬ qOk x1 x2 c (g 81) → X_queue x1 x2 g = some (-1, g)) := by
  unfold I32 at *
  have w1 := within0 (x := x2) (a := 0) (b := 1) (by (try clear n2); (try clear n1); (try clear n0); (try clear i0); (try clear lst); omega) (by (try clear n2); (try clear n1); (try clear n0); (try clear i0); (try clear lst); omega) (by decide) (by decide) (by decide) (by decide)
  have w2 := within0 (x := x1) (a := 0) (b := 9999) (by (try clear n2); (try clear n1); (try clear n0); (try clear i0); (try clear lst); omega) (by (try clear n2); (try clear n1); (try clear n0); (try clear i0); (try clear lst); omega) (by decide) (by decide) (by decide) (by decide)
  have n2 : nw x2 = x2 := nw_id (by (try clear n2); (try clear n1); (try clear n0); (try clear i0); (try clear lst); omega) (by (try clear n2); (try clear n1); (try clear n0); (try clear i0); (try clear lst); omega)
  have n1 : nw x1 = x1 := nw_id (by (try clear n2); (try clear n1); (try clear n0); (try clear i0); (try clear lst); omega) (by (try clear n2); (try clear n1); (try clear n0); (try clear i0); (try clear lst); omega)
  have n0 : nw (g 8 2) = c := by rw [hg, nwN _ (by (try clear n2); (try clear n1); (try clear n0); (try clear i0); (try clear lst); omega)]
  have i0 : ix (g 8 2) = c := by rw [hg, ixN _ (by (try clear n2); (try clear n1); (try clear n0); (try clear i0); (try clear lst); omega)]
  have lst : 0 < c → nw (g 8 2 - 1) = (c - 1 : Nat) ∧ ix (g 8 2 - 1) = c - 1 ∧ nw (g 81 (c - 1)) = g 81 (c - 1) := by
    intro z
    clear n0 n1 n2 i0 w1 w2
    have := hr (c - 1) (by (try clear n2); (try clear n1); (try clear n0); (try clear i0); (try clear lst); omega)
    rw [hg, show (c : Int) - 1 = ((c - 1 : Nat) : Int) by (try clear n2); (try clear n1); (try clear n0); (try clear i0); (try clear lst); omega, nwN _ (by (try clear n2); (try clear n1); (try clear n0); (try clear i0); (try clear lst); omega), ixN _ (by (try clear n2); (try clear n1); (try clear n0); (try clear i0); (try clear lst); omega)]
    exact ⟨rfl, rfl, nw_id (by (try clear n2); (try clear n1); (try clear n0); (try clear i0); (try clear lst); omega) (by (try clear n2); (try clear n1); (try clear n0); (try clear i0); (try clear lst); omega)⟩
  have addE : (c < 7 ∧ (0 < c → g 81 (c - 1) ≤ x1)) → LockQueue_add x1 x2 g = LockQueue_add_b x1 x2 g := by
    intro z
    unfold LockQueue_add
    rw [n0, if_neg (by (try clear n2); (try clear n1); (try clear n0); (try clear i0); (try clear lst); omega)]
    by_cases y : 0 < c
    · obtain ⟨l1, l2, l3⟩ := lst y
      rw [if_neg (by (try clear n2); (try clear n1); (try clear n0); (try clear i0); (try clear lst); omega), l1, l2, l3, n1]
      clear n0 n1 n2 i0 w1 w2 l1 l2 l3 lst
      rw [if_pos (by (try clear n2); (try clear n1); (try clear n0); (try clear i0); (try clear lst); omega), if_pos (z.2 y)]
    · rw [if_pos (by (try clear n2); (try clear n1); (try clear n0); (try clear i0); (try clear lst); omega)]
  have addN : ¬ (c < 7 ∧ (0 < c → g 81 (c - 1) ≤ x1)) → LockQueue_add x1 x2 g = some (-1, g) := by
    intro z
    unfold LockQueue_add
    rw [n0]
    by_cases y7 : c < 7
    · have y : 0 < c := by
        rcases Nat.eq_zero_or_pos c with e | e
        · exact absurd ⟨y7, fun a => by (try clear n2); (try clear n1); (try clear n0); (try clear i0); (try clear lst); omega⟩ z
        · exact e
      have y2 : ¬ g 81 (c - 1) ≤ x1 := fun a => z ⟨y7, fun _ => a⟩
      obtain ⟨l1, l2, l3⟩ := lst y
      rw [if_neg (by (try clear n2); (try clear n1); (try clear n0); (try clear i0); (try clear lst); omega), if_neg (by (try clear n2); (try clear n1); (try clear n0); (try clear i0); (try clear lst); omega), l1, l2, l3, n1]
      clear n0 n1 n2 i0 w1 w2 l1 l2 l3 lst
      rw [if_pos (by (try clear n2); (try clear n1); (try clear n0); (try clear i0); (try clear lst); omega), if_neg y2]
    · rw [if_pos (by (try clear n2); (try clear n1); (try clear n0); (try clear i0); (try clear lst); omega)]
  constructor
  · intro ⟨o1, o2, o3⟩
    unfold X_queue
    rw [n2, if_neg hx, if_neg (by rw [w1]; clear n0 n1 n2 i0 w1 w2 lst; omega), if_neg (by rw [w2]; clear n0 n1 n2 i0 w1 w2 lst; omega), addE o3]
    unfold LockQueue_add_b
    have u1 : (up g 81 c x1) 8 2 = g 8 2 := by rw [up_at, if_neg (by (try clear n2); (try clear n1); (try clear n0); (try clear i0); (try clear lst); omega)]
    have u2 : (up (up g 81 c x1) 82 c x2) 8 2 = g 8 2 := by rw [up_at, if_neg (by (try clear n2); (try clear n1); (try clear n0); (try clear i0); (try clear lst); omega), u1]
    rw [n0, i0, if_pos (by (try clear n2); (try clear n1); (try clear n0); (try clear i0); (try clear lst); omega), sb, u1, n0, i0, if_pos (by (try clear n2); (try clear n1); (try clear n0); (try clear i0); (try clear lst); omega), sb, u2, hg, sb]
    cases LockQueue_findBest (up (up (up g 81 c x1) 82 c x2) 8 2 (c + 1)) with
    | none => rfl
    | some r => rfl
  · intro z
    unfold X_queue
    rw [n2, if_neg hx]
    by_cases a : 0 ≤ x2 ∧ x2 ≤ 1
    · rw [if_neg (by rw [w1]; clear n0 n1 n2 i0 w1 w2 lst; omega)]
      by_cases b : 0 ≤ x1 ∧ x1 ≤ 9999
      · rw [if_neg (by rw [w2]; clear n0 n1 n2 i0 w1 w2 lst; omega), addN (fun q => z ⟨a, b, q.1, q.2⟩), sb]
      · rw [if_pos (by rw [w2]; clear n0 n1 n2 i0 w1 w2 lst; omega)]
    · rw [if_pos (by rw [w1]; clear n0 n1 n2 i0 w1 w2 lst; omega)]
theorem M_queue_s {x1 x2 : Int} {g : AG} {c : Nat} (h1 : I32 x1) (h2 : I32 x2) (hc : c ≤ 7) (hg : g 117 59 = c) (hr : ∀ j, j < c → 0 ≤ g 158 j ∧ g 158 j ≤ 9999) (hx : x2 ≠ -1) : (qOk x1 x2 c (g 158) → M_queue x1 x2 g = some ((c : Int) + 1, up (up (up g 158 c x1) 159 c x2) 117 59 ((c : Int) + 1))) ∧ (¬ qOk x1 x2 c (g 158) → M_queue x1 x2 g = some (-1, g)) := by
  unfold I32 at *
  have w1 := isIn0 (x := x2) (a := 0) (b := 1) (by (try clear n2); (try clear n1); (try clear n0); (try clear i0); (try clear lst); omega) (by (try clear n2); (try clear n1); (try clear n0); (try clear i0); (try clear lst); omega) (by decide) (by decide) (by decide) (by decide)
  have w2 := isIn0 (x := x1) (a := 0) (b := 9999) (by (try clear n2); (try clear n1); (try clear n0); (try clear i0); (try clear lst); omega) (by (try clear n2); (try clear n1); (try clear n0); (try clear i0); (try clear lst); omega) (by decide) (by decide) (by decide) (by decide)
  have n2 : nw x2 = x2 := nw_id (by (try clear n2); (try clear n1); (try clear n0); (try clear i0); (try clear lst); omega) (by (try clear n2); (try clear n1); (try clear n0); (try clear i0); (try clear lst); omega)
  have n1 : nw x1 = x1 := nw_id (by (try clear n2); (try clear n1); (try clear n0); (try clear i0); (try clear lst); omega) (by (try clear n2); (try clear n1); (try clear n0); (try clear i0); (try clear lst); omega)
  have n0 : nw (g 117 59) = c := by rw [hg, nwN _ (by (try clear n2); (try clear n1); (try clear n0); (try clear i0); (try clear lst); omega)]
  have i0 : ix (g 117 59) = c := by rw [hg, ixN _ (by (try clear n2); (try clear n1); (try clear n0); (try clear i0); (try clear lst); omega)]
  have lst : 0 < c → nw (g 117 59 - 1) = (c - 1 : Nat) ∧ ix (g 117 59 - 1) = c - 1 ∧ nw (g 158 (c - 1)) = g 158 (c - 1) := by
    intro z
    clear n0 n1 n2 i0 w1 w2
    have := hr (c - 1) (by (try clear n2); (try clear n1); (try clear n0); (try clear i0); (try clear lst); omega)
    rw [hg, show (c : Int) - 1 = ((c - 1 : Nat) : Int) by (try clear n2); (try clear n1); (try clear n0); (try clear i0); (try clear lst); omega, nwN _ (by (try clear n2); (try clear n1); (try clear n0); (try clear i0); (try clear lst); omega), ixN _ (by (try clear n2); (try clear n1); (try clear n0); (try clear i0); (try clear lst); omega)]
    exact ⟨rfl, rfl, nw_id (by (try clear n2); (try clear n1); (try clear n0); (try clear i0); (try clear lst); omega) (by (try clear n2); (try clear n1); (try clear n0); (try clear i0); (try clear lst); omega)⟩
  have addE : c < 7 → M_queue_b x1 x2 g = some ((c : Int) + 1, up (up (up g 158 c x1) 159 c x2) 117 59 ((c : Int) + 1)) := by
    intro z
    unfold M_queue_b
    have u1 : (up g 158 c x1) 117 59 = g 117 59 := by rw [up_at, if_neg (by (try clear n2); (try clear n1); (try clear n0); (try clear i0); (try clear lst); omega)]
    have u2 : (up (up g 158 c x1) 159 c x2) 117 59 = g 117 59 := by rw [up_at, if_neg (by (try clear n2); (try clear n1); (try clear n0); (try clear i0); (try clear lst); omega), u1]
    rw [n0, i0, if_pos (by (try clear n2); (try clear n1); (try clear n0); (try clear i0); (try clear lst); omega), sb, u1, n0, i0, if_pos (by (try clear n2); (try clear n1); (try clear n0); (try clear i0); (try clear lst); omega), sb, u2, hg, sb, up_at, if_pos ⟨rfl, rfl⟩]
  constructor
  · intro ⟨o1, o2, o3, o4⟩
    unfold M_queue
    rw [n2, if_neg hx, if_neg (by rw [w2]; clear n0 n1 n2 i0 w1 w2 lst; omega), if_neg (by rw [w1]; clear n0 n1 n2 i0 w1 w2 lst; omega), n0, if_neg (by (try clear n2); (try clear n1); (try clear n0); (try clear i0); (try clear lst); omega)]
    by_cases y : 0 < c
    · obtain ⟨l1, l2, l3⟩ := lst y
      rw [if_neg (by (try clear n2); (try clear n1); (try clear n0); (try clear i0); (try clear lst); omega), l1, l2, l3, n1, if_pos (by (try clear n2); (try clear n1); (try clear n0); (try clear i0); (try clear lst); omega), if_pos (o4 y)]
      exact addE o3
    · rw [if_pos (by (try clear n2); (try clear n1); (try clear n0); (try clear i0); (try clear lst); omega)]
      exact addE o3
  · intro z
    unfold M_queue
    rw [n2, if_neg hx]
    by_cases b : 0 ≤ x1 ∧ x1 ≤ 9999
    · rw [if_neg (by rw [w2]; clear n0 n1 n2 i0 w1 w2 lst; omega)]
      by_cases a : 0 ≤ x2 ∧ x2 ≤ 1
      · rw [if_neg (by rw [w1]; clear n0 n1 n2 i0 w1 w2 lst; omega), n0]
        by_cases y7 : c < 7
        · have y : 0 < c := by
            rcases Nat.eq_zero_or_pos c with e | e
            · exact absurd ⟨a, b, y7, fun a => by (try clear n2); (try clear n1); (try clear n0); (try clear i0); (try clear lst); omega⟩ z
            · exact e
          have y2 : ¬ g 158 (c - 1) ≤ x1 := fun q => z ⟨a, b, y7, fun _ => q⟩
          obtain ⟨l1, l2, l3⟩ := lst y
          rw [if_neg (by (try clear n2); (try clear n1); (try clear n0); (try clear i0); (try clear lst); omega), if_neg (by (try clear n2); (try clear n1); (try clear n0); (try clear i0); (try clear lst); omega), l1, l2, l3, n1, if_pos (by (try clear n2); (try clear n1); (try clear n0); (try clear i0); (try clear lst); omega), if_neg y2]
        · rw [if_pos (by (try clear n2); (try clear n1); (try clear n0); (try clear i0); (try clear lst); omega)]
      · rw [if_pos (by rw [w1]; clear n0 n1 n2 i0 w1 w2 lst; omega)]
    · rw [if_pos (by rw [w2]; clear n0 n1 n2 i0 w1 w2 lst; omega)]
theorem sm_queue {x1 x2 : Int} {g : AG} (h1 : I32 x1) (h2 : I32 x2) (q : JQueue g) :
    ∃ r1 r2, X_queue x1 x2 g = some r1 ∧ M_queue x1 x2 r1.2 = some r2 ∧ nw r1.1 = nw r2.1 ∧ JQueue r2.2 ∧ FR [(8, 3), (8, 4), (8, 5), (81, 0), (82, 0), (83, 0), (84, 0), (117, 60), (158, 0), (159, 0)] g r2.2 := by
  obtain ⟨c, q1, q2, q3, q4, q5, p, q6, q7, q8⟩ := q
  by_cases hx : x2 = -1
  · subst hx
    refine ⟨(0, up (up (up g 8 2 0) 8 3 0) 8 4 0), (0, up (up (up (up g 8 2 0) 8 3 0) 8 4 0) 117 59 0), ?_, ?_, rfl, ?_, ?_⟩
    · unfold X_queue LockQueue_clear
      rw [nw_m1, if_pos rfl]
      rfl
    · unfold M_queue
      rw [nw_m1, if_pos rfl]
      rfl
    · refine ⟨0, by omega, by simp [up_at], by simp [up_at], fun j hj => by omega, ?_, (0, qId 0), ?_, ?_, fun j hj => by omega⟩
      · simp [up_at, qTW]
      · unfold qBest qS qLeaf
        rfl
      · simp [up_at]
    · exact Fr.up (Fr.up (Fr.up (Fr.up Fr.rf rfl) rfl) rfl) rfl
  · have X := X_queue_s (g := g) h1 h2 q1 q2 (fun j hj => (q4 j hj).1) hx
    by_cases ok : qOk x1 x2 c (g 81)
    · have eX := X.1 ok
      have o := ok
      obtain ⟨o1, o2, o3, o4⟩ := o
      obtain ⟨g7, hg7⟩ : ∃ g7 : AG, g7 = up (up (up g 81 c x1) 82 c x2) 8 2 (c + 1) := ⟨_, rfl⟩
      have f7 : FR [(8, 3), (81, 0), (82, 0)] g g7 := by rw [hg7]; exact Fr.up (Fr.up (Fr.up Fr.rf rfl) rfl) rfl
      have r81 : ∀ j, j < c + 1 → 0 ≤ g7 81 j ∧ g7 81 j ≤ 9999 := fun j hj => by
        rw [hg7]
        simp only [up_at, Nat.reduceEqDiff, false_and, if_false, true_and]
        by_cases z : j = c
        · rw [if_pos z]; exact o2
        · rw [if_neg z]; exact (q4 j (by omega)).1
      have r82 : ∀ j, j < c + 1 → 0 ≤ g7 82 j ∧ g7 82 j ≤ 1 := fun j hj => by
        rw [hg7]
        simp only [up_at, Nat.reduceEqDiff, false_and, if_false, true_and]
        by_cases z : j = c
        · rw [if_pos z]; exact o1
        · rw [if_neg z]; exact (q4 j (by omega)).2.1
      have C7 : QOk (g7 81) (c + 1) := ⟨by omega, r81⟩
      have Q7 : XQu g7 (g7 81) (g7 82) (c + 1) := ⟨by rw [hg7, up_at, if_pos ⟨rfl, rfl⟩]; rfl, fun j hj => ⟨rfl, rfl, r82 j hj⟩⟩
      obtain ⟨g', e, f, w3, p', ep, B⟩ := X_find_s C7 (by omega) (c + 1) 0 g7 (by omega) Q7 (fun j hj => by omega)
      have e' : LockQueue_findBest g7 = some (0, g') := e
      have c1 : g' 8 2 = (c + 1 : Nat) := by rw [f 8 2 rfl]; exact Q7.1
      have e81 : g' 81 = g7 81 := funext fun j => f 81 j rfl
      have e82 : g' 82 = g7 82 := funext fun j => f 82 j rfl
      have m59 : g' 117 59 = c := by rw [f 117 59 rfl, f7 117 59 rfl]; exact q3
      have m158 : ∀ j, j < c → g' 158 j = g 81 j := fun j hj => by rw [f 158 j rfl, f7 158 j rfl]; exact (q4 j hj).2.2.1
      have M := M_queue_s (g := g') (c := c) h1 h2 q1 m59 (fun j hj => by rw [m158 j hj]; exact (q4 j hj).1) hx
      have okM : qOk x1 x2 c (g' 158) := ⟨o1, o2, o3, fun z => by rw [m158 _ (by omega)]; exact o4 z⟩
      have eM := M.1 okM
      refine ⟨(g' 8 2, g'), _, ?_, eM, ?_, ?_, ?_⟩
      · rw [eX, ← hg7, e', sb]
      · dsimp only; rw [c1]; rfl
      · dsimp only
        have fM : FR [(117, 60), (158, 0), (159, 0)] g' (up (up (up g' 158 c x1) 159 c x2) 117 59 (c + 1)) := Fr.up (Fr.up (Fr.up Fr.rf rfl) rfl) rfl
        have E81 : (up (up (up g' 158 c x1) 159 c x2) 117 59 (c + 1)) 81 = g7 81 := (funext fun j => fM 81 j rfl).trans e81
        have E82 : (up (up (up g' 158 c x1) 159 c x2) 117 59 (c + 1)) 82 = g7 82 := (funext fun j => fM 82 j rfl).trans e82
        refine ⟨c + 1, by omega, by rw [fM 8 2 rfl]; exact c1, by rw [up_at, if_pos ⟨rfl, rfl⟩]; rfl, fun j hj => ?_, ?_, p', ?_, ?_, fun j hj => ?_⟩
        · rw [E81, E82]
          refine ⟨r81 j hj, r82 j hj, ?_, ?_⟩
          · rw [hg7]
            simp only [up_at, Nat.reduceEqDiff, false_and, if_false, true_and]
            by_cases z : j = c
            · rw [if_pos z, if_pos z]
            · rw [if_neg z, if_neg z]; exact m158 j (by omega)
          · rw [hg7]
            simp only [up_at, Nat.reduceEqDiff, false_and, if_false, true_and]
            by_cases z : j = c
            · rw [if_pos z, if_pos z]
            · rw [if_neg z, if_neg z, f 159 j rfl, f7 159 j rfl]; exact (q4 j (by omega)).2.2.2
        · rw [fM 8 3 rfl, E81, E82]; exact w3
        · rw [E81, E82]; exact ep
        · rw [fM 8 4 rfl]; exact B.1
        · rw [fM 84 j rfl]; exact B.2.2 j hj
      · exact (FR.mo f7 rfl).tr ((FR.mo f rfl).tr (Fr.up (Fr.up (Fr.up Fr.rf rfl) rfl) rfl))
    · have eX := X.2 ok
      have M := M_queue_s (g := g) (c := c) h1 h2 q1 q3 (fun j hj => by rw [(q4 j hj).2.2.1]; exact (q4 j hj).1) hx
      have eM := M.2 (fun z => ok ⟨z.1, z.2.1, z.2.2.1, fun y => by rw [← (q4 (c - 1) (by omega)).2.2.1]; exact z.2.2.2 y⟩)
      exact ⟨_, _, eX, eM, rfl, ⟨c, q1, q2, q3, q4, q5, p, q6, q7, q8⟩, Fr.rf⟩
