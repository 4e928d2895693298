/-! plain programs: the setters -/
def RWay : Reg := [(13, 0), (14, 0), (15, 0), (118, 0), (119, 0), (120, 0)]
def JWay (g : AG) : Prop := ∀ i : Nat, i < 15 → g 118 i = g 13 i ∧ g 119 i = g 14 i ∧ g 120 i = g 15 i ∧ 0 ≤ g 118 i ∧ g 118 i ≤ 9 ∧ 0 ≤ g 119 i ∧ g 119 i ≤ 9 ∧ 1 ≤ g 120 i ∧ g 120 i ≤ 99
theorem JWay.cg {g g' : AG} (h : ∀ k i, inR RWay k i = true → g' k i = g k i) (q : JWay g) : JWay g' := by
  have q1 : JWay (rs (inR RWay) g) := q
  rw [← rs_eq h] at q1
  exact q1
theorem X_stretch_s {x1 x2 x3 x4 : Int} {g : AG} (h1 : I32 x1) (h2 : I32 x2) (h3 : I32 x3) (h4 : I32 x4) :
    X_stretch x1 x2 x3 x4 g = if (0 ≤ x1 ∧ x1 ≤ 14 ∧ 0 ≤ x2 ∧ x2 ≤ 9 ∧ 0 ≤ x3 ∧ x3 ≤ 9 ∧ 1 ≤ x4 ∧ x4 ≤ 99) then some (1, up (up (up g 13 x1.toNat x2) 14 x1.toNat x3) 15 x1.toNat x4) else some (0, g) := by
  unfold I32 at *
  unfold X_stretch
  by_cases h : (0 ≤ x1 ∧ x1 ≤ 14 ∧ 0 ≤ x2 ∧ x2 ≤ 9 ∧ 0 ≤ x3 ∧ x3 ≤ 9 ∧ 1 ≤ x4 ∧ x4 ≤ 99)
  · simp (disch := omega) only [nw_id, ix_id, sb, if_pos, if_neg, within0]
  · simp (disch := omega) only [nw_id, ix_id, sb, if_pos, if_neg, within0]
    ((repeat' split) <;> first | rfl | omega)
theorem M_stretch_s {x1 x2 x3 x4 : Int} {g : AG} (h1 : I32 x1) (h2 : I32 x2) (h3 : I32 x3) (h4 : I32 x4) :
    M_stretch x1 x2 x3 x4 g = if (0 ≤ x1 ∧ x1 ≤ 14 ∧ 0 ≤ x2 ∧ x2 ≤ 9 ∧ 0 ≤ x3 ∧ x3 ≤ 9 ∧ 1 ≤ x4 ∧ x4 ≤ 99) then some (1, up (up (up g 118 x1.toNat x2) 119 x1.toNat x3) 120 x1.toNat x4) else some (0, g) := by
  unfold I32 at *
  unfold M_stretch
  by_cases h : (0 ≤ x1 ∧ x1 ≤ 14 ∧ 0 ≤ x2 ∧ x2 ≤ 9 ∧ 0 ≤ x3 ∧ x3 ≤ 9 ∧ 1 ≤ x4 ∧ x4 ≤ 99)
  · simp (disch := omega) only [nw_id, ix_id, sb, if_pos, if_neg, isIn0]
  · simp (disch := omega) only [nw_id, ix_id, sb, if_pos, if_neg, isIn0]
    ((repeat' split) <;> first | rfl | omega)
theorem sm_stretch {x1 x2 x3 x4 : Int} {g : AG} (h1 : I32 x1) (h2 : I32 x2) (h3 : I32 x3) (h4 : I32 x4) (q : JWay g) :
    ∃ r1 r2, X_stretch x1 x2 x3 x4 g = some r1 ∧ M_stretch x1 x2 x3 x4 r1.2 = some r2 ∧ nw r1.1 = nw r2.1 ∧ JWay r2.2 ∧ FR RWay g r2.2 := by
  rw [X_stretch_s h1 h2 h3 h4]
  by_cases h : (0 ≤ x1 ∧ x1 ≤ 14 ∧ 0 ≤ x2 ∧ x2 ≤ 9 ∧ 0 ≤ x3 ∧ x3 ≤ 9 ∧ 1 ≤ x4 ∧ x4 ≤ 99)
  · rw [if_pos h]
    refine ⟨_, _, rfl, (M_stretch_s h1 h2 h3 h4).trans (if_pos h), rfl, ?_, ?_⟩
    · intro i hi
      have := q i hi
      simp only [up_at]
      by_cases e : i = x1.toNat
      · simp [e]; omega
      · simp [e]; omega
    · exact Fr.up (Fr.up (Fr.up (Fr.up (Fr.up (Fr.up Fr.rf rfl) rfl) rfl) rfl) rfl) rfl
  · rw [if_neg h]
    exact ⟨_, _, rfl, (M_stretch_s h1 h2 h3 h4).trans (if_neg h), rfl, q, Fr.rf⟩
