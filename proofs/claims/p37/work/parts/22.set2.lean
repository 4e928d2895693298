/-! plain programs: rows put behind others (trips, boats) -/
def RTrip : Reg := [(6, 8), (7, 9), (117, 50), (76, 0), (77, 0), (78, 0), (79, 0), (80, 0), (149, 0), (150, 0), (151, 0), (152, 0), (153, 0)]
def JTrip (g : AG) : Prop := (g 117 49 = g 7 8 ∧ 0 ≤ g 7 8 ∧ g 7 8 ≤ 20) ∧ (∀ k : Nat, k < 20 → g 149 k = g 76 k ∧ g 150 k = g 77 k ∧ g 151 k = g 78 k ∧ g 152 k = g 79 k ∧ g 153 k = g 80 k) ∧ ∀ k : Nat, (k : Int) < g 7 8 → (0 ≤ g 76 k ∧ g 76 k < g 6 7) ∧ (0 ≤ g 77 k ∧ g 77 k ≤ 15) ∧ (0 ≤ g 78 k ∧ g 78 k ≤ 15) ∧ (0 ≤ g 79 k ∧ g 79 k ≤ 20159) ∧ (0 ≤ g 80 k ∧ g 80 k ≤ 20159)
theorem JTrip.cg {g g' : AG} (h : ∀ k i, inR RTrip k i = true → g' k i = g k i) (q : JTrip g) : JTrip g' := by
  have q1 : JTrip (rs (inR RTrip) g) := q
  rw [← rs_eq h] at q1
  exact q1
def TripOk (x1 x2 x3 x4 x5 n k : Int) : Prop := 0 ≤ x1 ∧ x1 ≤ n - 1 ∧ 0 ≤ x2 ∧ x2 ≤ 15 ∧ 0 ≤ x3 ∧ x3 ≤ 15 ∧ 0 ≤ x4 ∧ x4 ≤ 20159 ∧ 0 ≤ x5 ∧ x5 ≤ 20159 ∧ k < 20
theorem X_trip_s {x1 x2 x3 x4 x5 : Int} {g : AG} (h1 : I32 x1) (h2 : I32 x2) (h3 : I32 x3) (h4 : I32 x4) (h5 : I32 x5) (hn : 0 ≤ g 6 7 ∧ g 6 7 ≤ 10) (hk : 0 ≤ g 7 8 ∧ g 7 8 ≤ 20) :
    (TripOk x1 x2 x3 x4 x5 (g 6 7) (g 7 8) → X_trip x1 x2 x3 x4 x5 g = some (g 7 8, up (up (up (up (up (up (g) 76 (g 7 8).toNat x1) 77 (g 7 8).toNat x2) 78 (g 7 8).toNat x3) 79 (g 7 8).toNat x4) 80 (g 7 8).toNat x5) 7 8 (g 7 8 + 1))) ∧ (¬ TripOk x1 x2 x3 x4 x5 (g 6 7) (g 7 8) → X_trip x1 x2 x3 x4 x5 g = some (-1, g)) := by
  unfold I32 TripOk at *
  unfold X_trip Trips_add
  constructor
  · intro h
    simp (disch := omega) only [nw_id, ix_id, sb, if_pos, if_neg, X_isWay0, isTimeX0, up_at]
    simp (disch := omega) only [nw_id, ix_id, sb, if_pos, if_neg, Nat.reduceEqDiff, false_and, and_self, reduceIte, Int.add_sub_cancel]
  · intro h
    simp (disch := omega) only [nw_id, ix_id, sb, if_pos, if_neg, X_isWay0, isTimeX0]
    ((repeat' split) <;> first | rfl | omega)
theorem M_trip_s {x1 x2 x3 x4 x5 : Int} {g : AG} (h1 : I32 x1) (h2 : I32 x2) (h3 : I32 x3) (h4 : I32 x4) (h5 : I32 x5) (hn : 0 ≤ g 117 12 ∧ g 117 12 ≤ 10) (hk : 0 ≤ g 117 49 ∧ g 117 49 ≤ 20) :
    (TripOk x1 x2 x3 x4 x5 (g 117 12) (g 117 49) → M_trip x1 x2 x3 x4 x5 g = some (g 117 49, up (up (up (up (up (up (g) 149 (g 117 49).toNat x1) 150 (g 117 49).toNat x2) 151 (g 117 49).toNat x3) 152 (g 117 49).toNat x4) 153 (g 117 49).toNat x5) 117 49 (g 117 49 + 1))) ∧ (¬ TripOk x1 x2 x3 x4 x5 (g 117 12) (g 117 49) → M_trip x1 x2 x3 x4 x5 g = some (-1, g)) := by
  unfold I32 TripOk at *
  unfold M_trip
  constructor
  · intro h
    simp (disch := omega) only [nw_id, ix_id, sb, if_pos, if_neg, M_isBoat0, isPoint0, isTime0, up_at]
    simp (disch := omega) only [nw_id, ix_id, sb, if_pos, if_neg, Nat.reduceEqDiff, false_and, and_self, reduceIte, Int.add_sub_cancel]
  · intro h
    simp (disch := omega) only [nw_id, ix_id, sb, if_pos, if_neg, M_isBoat0, isPoint0, isTime0]
    ((repeat' split) <;> first | rfl | omega)
theorem sm_trip {x1 x2 x3 x4 x5 : Int} {g : AG} (h1 : I32 x1) (h2 : I32 x2) (h3 : I32 x3) (h4 : I32 x4) (h5 : I32 x5) (hb : g 117 12 = g 6 7 ∧ 0 ≤ g 6 7 ∧ g 6 7 ≤ 10) (q : JTrip g) :
    ∃ r1 r2, X_trip x1 x2 x3 x4 x5 g = some r1 ∧ M_trip x1 x2 x3 x4 x5 r1.2 = some r2 ∧ nw r1.1 = nw r2.1 ∧ JTrip r2.2 ∧ FR [(7, 9), (117, 50), (76, 0), (77, 0), (78, 0), (79, 0), (80, 0), (149, 0), (150, 0), (151, 0), (152, 0), (153, 0)] g r2.2 := by
  obtain ⟨q1, q2, q3⟩ := q
  have hX := X_trip_s (g := g) h1 h2 h3 h4 h5 hb.2 ⟨q1.2.1, q1.2.2⟩
  by_cases h : TripOk x1 x2 x3 x4 x5 (g 6 7) (g 7 8)
  · have eX := hX.1 h
    have hM := (M_trip_s (g := up (up (up (up (up (up (g) 76 (g 7 8).toNat x1) 77 (g 7 8).toNat x2) 78 (g 7 8).toNat x3) 79 (g 7 8).toNat x4) 80 (g 7 8).toNat x5) 7 8 (g 7 8 + 1)) h1 h2 h3 h4 h5 (by simp [up_at]; omega) (by simp [up_at]; omega)).1 (by
      simp only [up_at, Nat.reduceEqDiff, false_and, reduceIte]
      first | rw [hb.1, q1.1]; exact h | rw [q1.1]; exact h)
    refine ⟨_, _, eX, hM, ?_, ⟨?_, ?_, ?_⟩, ?_⟩
    · simp only [up_at, Nat.reduceEqDiff, false_and, reduceIte]
      rw [q1.1]
    · unfold TripOk at h
      simp [up_at]; omega
    · intro k hk
      have := q2 k hk
      simp only [up_at, Nat.reduceEqDiff, false_and, true_and, and_self, reduceIte]
      rw [q1.1]
      by_cases e : k = (g 7 8).toNat
      · simp only [e, reduceIte]; first | omega | simp
      · simp only [e, reduceIte]; omega
    · intro k hk
      unfold TripOk at h
      simp only [up_at, Nat.reduceEqDiff, false_and, true_and, and_self, reduceIte] at hk ⊢
      by_cases e : k = (g 7 8).toNat
      · simp only [e, reduceIte]; omega
      · have := q3 k (by omega)
        simp only [e, reduceIte]; omega
    · refine Fr.up (Fr.up (Fr.up (Fr.up (Fr.up (Fr.up (Fr.up (Fr.up (Fr.up (Fr.up (Fr.up (Fr.up Fr.rf ?_) ?_) ?_) ?_) ?_) ?_) ?_) ?_) ?_) ?_) ?_) ?_ <;> rfl
  · have hM := (M_trip_s (g := g) h1 h2 h3 h4 h5 (by rw [hb.1]; exact hb.2) (by rw [q1.1]; exact q1.2)).2 (by first | rw [hb.1, q1.1]; exact h | rw [q1.1]; exact h)
    exact ⟨_, _, hX.2 h, hM, rfl, ⟨q1, q2, q3⟩, Fr.rf⟩
def RBoat : Reg := [(6, 8), (117, 13), (48, 0), (49, 0), (50, 0), (51, 0), (124, 0), (125, 0), (126, 0), (127, 0)]
def JBoat (g : AG) : Prop := (g 117 12 = g 6 7 ∧ 0 ≤ g 6 7 ∧ g 6 7 ≤ 10) ∧ (∀ k : Nat, k < 10 → g 124 k = g 48 k ∧ g 125 k = g 49 k ∧ g 126 k = g 50 k ∧ g 127 k = g 51 k) ∧ ∀ k : Nat, (k : Int) < g 6 7 → (2 ≤ g 48 k ∧ g 48 k ≤ 12) ∧ (0 ≤ g 49 k ∧ g 49 k ≤ 99) ∧ (0 ≤ g 50 k ∧ g 50 k ≤ 15) ∧ (0 ≤ g 51 k ∧ g 51 k ≤ 60)
theorem JBoat.cg {g g' : AG} (h : ∀ k i, inR RBoat k i = true → g' k i = g k i) (q : JBoat g) : JBoat g' := by
  have q1 : JBoat (rs (inR RBoat) g) := q
  rw [← rs_eq h] at q1
  exact q1
def BoatOk (x1 x2 x3 x4 n k : Int) : Prop := 2 ≤ x1 ∧ x1 ≤ 12 ∧ 0 ≤ x2 ∧ x2 ≤ 99 ∧ 0 ≤ x3 ∧ x3 ≤ 15 ∧ 0 ≤ x4 ∧ x4 ≤ 60 ∧ k < 10
theorem X_boat_s {x1 x2 x3 x4 : Int} {g : AG} (h1 : I32 x1) (h2 : I32 x2) (h3 : I32 x3) (h4 : I32 x4) (hn : 0 ≤ g 6 7 ∧ g 6 7 ≤ 10) (hk : 0 ≤ g 6 7 ∧ g 6 7 ≤ 10) :
    (BoatOk x1 x2 x3 x4 (g 6 7) (g 6 7) → X_boat x1 x2 x3 x4 g = some (g 6 7, up (up (up (up (up (g) 48 (g 6 7).toNat x1) 49 (g 6 7).toNat x2) 50 (g 6 7).toNat x3) 51 (g 6 7).toNat x4) 6 7 (g 6 7 + 1))) ∧ (¬ BoatOk x1 x2 x3 x4 (g 6 7) (g 6 7) → X_boat x1 x2 x3 x4 g = some (-1, g)) := by
  unfold I32 BoatOk at *
  unfold X_boat Boats_add
  constructor
  · intro h
    simp (disch := omega) only [nw_id, ix_id, sb, if_pos, if_neg, isBerths0, isPointX0, within0, up_at]
    simp (disch := omega) only [nw_id, ix_id, sb, if_pos, if_neg, Nat.reduceEqDiff, false_and, and_self, reduceIte, Int.add_sub_cancel]
  · intro h
    simp (disch := omega) only [nw_id, ix_id, sb, if_pos, if_neg, isBerths0, isPointX0, within0]
    ((repeat' split) <;> first | rfl | omega)
theorem M_boat_s {x1 x2 x3 x4 : Int} {g : AG} (h1 : I32 x1) (h2 : I32 x2) (h3 : I32 x3) (h4 : I32 x4) (hn : 0 ≤ g 117 12 ∧ g 117 12 ≤ 10) (hk : 0 ≤ g 117 12 ∧ g 117 12 ≤ 10) :
    (BoatOk x1 x2 x3 x4 (g 117 12) (g 117 12) → M_boat x1 x2 x3 x4 g = some (g 117 12, up (up (up (up (up (g) 124 (g 117 12).toNat x1) 125 (g 117 12).toNat x2) 126 (g 117 12).toNat x3) 127 (g 117 12).toNat x4) 117 12 (g 117 12 + 1))) ∧ (¬ BoatOk x1 x2 x3 x4 (g 117 12) (g 117 12) → M_boat x1 x2 x3 x4 g = some (-1, g)) := by
  unfold I32 BoatOk at *
  unfold M_boat
  constructor
  · intro h
    simp (disch := omega) only [nw_id, ix_id, sb, if_pos, if_neg, isIn0, isPoint0, up_at]
    simp (disch := omega) only [nw_id, ix_id, sb, if_pos, if_neg, Nat.reduceEqDiff, false_and, and_self, reduceIte, Int.add_sub_cancel]
  · intro h
    simp (disch := omega) only [nw_id, ix_id, sb, if_pos, if_neg, isIn0, isPoint0]
    ((repeat' split) <;> first | rfl | omega)
theorem sm_boat {x1 x2 x3 x4 : Int} {g : AG} (h1 : I32 x1) (h2 : I32 x2) (h3 : I32 x3) (h4 : I32 x4) (hb : g 117 12 = g 6 7 ∧ 0 ≤ g 6 7 ∧ g 6 7 ≤ 10) (q : JBoat g) :
    ∃ r1 r2, X_boat x1 x2 x3 x4 g = some r1 ∧ M_boat x1 x2 x3 x4 r1.2 = some r2 ∧ nw r1.1 = nw r2.1 ∧ JBoat r2.2 ∧ FR [(6, 8), (117, 13), (48, 0), (49, 0), (50, 0), (51, 0), (124, 0), (125, 0), (126, 0), (127, 0)] g r2.2 := by
  obtain ⟨q1, q2, q3⟩ := q
  have hX := X_boat_s (g := g) h1 h2 h3 h4 hb.2 ⟨q1.2.1, q1.2.2⟩
  by_cases h : BoatOk x1 x2 x3 x4 (g 6 7) (g 6 7)
  · have eX := hX.1 h
    have hM := (M_boat_s (g := up (up (up (up (up (g) 48 (g 6 7).toNat x1) 49 (g 6 7).toNat x2) 50 (g 6 7).toNat x3) 51 (g 6 7).toNat x4) 6 7 (g 6 7 + 1)) h1 h2 h3 h4 (by simp [up_at]; omega) (by simp [up_at]; omega)).1 (by
      simp only [up_at, Nat.reduceEqDiff, false_and, reduceIte]
      first | rw [hb.1, q1.1]; exact h | rw [q1.1]; exact h)
    refine ⟨_, _, eX, hM, ?_, ⟨?_, ?_, ?_⟩, ?_⟩
    · simp only [up_at, Nat.reduceEqDiff, false_and, reduceIte]
      rw [q1.1]
    · unfold BoatOk at h
      simp [up_at]; omega
    · intro k hk
      have := q2 k hk
      simp only [up_at, Nat.reduceEqDiff, false_and, true_and, and_self, reduceIte]
      rw [q1.1]
      by_cases e : k = (g 6 7).toNat
      · simp only [e, reduceIte]; first | omega | simp
      · simp only [e, reduceIte]; omega
    · intro k hk
      unfold BoatOk at h
      simp only [up_at, Nat.reduceEqDiff, false_and, true_and, and_self, reduceIte] at hk ⊢
      by_cases e : k = (g 6 7).toNat
      · simp only [e, reduceIte]; omega
      · have := q3 k (by omega)
        simp only [e, reduceIte]; omega
    · refine Fr.up (Fr.up (Fr.up (Fr.up (Fr.up (Fr.up (Fr.up (Fr.up (Fr.up (Fr.up Fr.rf ?_) ?_) ?_) ?_) ?_) ?_) ?_) ?_) ?_) ?_ <;> rfl
  · have hM := (M_boat_s (g := g) h1 h2 h3 h4 (by rw [hb.1]; exact hb.2) (by rw [q1.1]; exact q1.2)).2 (by first | rw [hb.1, q1.1]; exact h | rw [q1.1]; exact h)
    exact ⟨_, _, hX.2 h, hM, rfl, ⟨q1, q2, q3⟩, Fr.rf⟩
