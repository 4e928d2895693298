/-! plain programs: weights, pumps, jobs, calls -/
def RWgt : Reg := [(107, 0), (180, 0)]
def JWgt (g : AG) : Prop := ∀ p : Nat, p < 16 → g 180 p = g 107 p ∧ 0 ≤ g 107 p ∧ g 107 p ≤ 99
theorem JWgt.cg {g g' : AG} (h : ∀ k i, inR RWgt k i = true → g' k i = g k i) (q : JWgt g) : JWgt g' := by
  have q1 : JWgt (rs (inR RWgt) g) := q
  rw [← rs_eq h] at q1
  exact q1
theorem sm_weight {x1 x2 : Int} {g : AG} (h1 : I32 x1) (h2 : I32 x2) (q : JWgt g) :
    ∃ r1 r2, X_weight x1 x2 g = some r1 ∧ M_weight x1 x2 r1.2 = some r2 ∧ nw r1.1 = nw r2.1 ∧ JWgt r2.2 ∧ FR RWgt g r2.2 := by
  unfold I32 at *
  by_cases h : 0 ≤ x1 ∧ x1 ≤ 15 ∧ 0 ≤ x2 ∧ x2 ≤ 99
  · have eX : X_weight x1 x2 g = some (1, up g 107 x1.toNat x2) := by
      unfold X_weight
      simp (disch := omega) only [nw_id, ix_id, sb, if_pos, if_neg, isPointX0, within0]
    have eM : ∀ g, M_weight x1 x2 g = some (1, up g 180 x1.toNat x2) := by
      intro g
      unfold M_weight
      simp (disch := omega) only [nw_id, ix_id, sb, if_pos, if_neg, isPoint0, isIn0]
    refine ⟨_, _, eX, eM _, rfl, ?_, Fr.up (Fr.up Fr.rf rfl) rfl⟩
    intro p hp
    have := q p hp
    simp only [up_at]
    by_cases e : p = x1.toNat
    · simp [e]; omega
    · simp [e]; omega
  · have eX : X_weight x1 x2 g = some (0, g) := by
      unfold X_weight
      simp (disch := omega) only [nw_id, ix_id, sb, if_pos, if_neg, isPointX0, within0]
      ((repeat' split) <;> first | rfl | omega)
    have eM : M_weight x1 x2 g = some (0, g) := by
      unfold M_weight
      simp (disch := omega) only [nw_id, ix_id, sb, if_pos, if_neg, isPoint0, isIn0]
      ((repeat' split) <;> first | rfl | omega)
    exact ⟨_, _, eX, eM, rfl, q, Fr.rf⟩
def RPump : Reg := [(1, 7), (154, 0)]
def JPump (g : AG) : Prop := ∀ p : Nat, p < 16 → g 154 p = if tb (g 1 6) p = true then 1 else 0
theorem JPump.cg {g g' : AG} (h : ∀ k i, inR RPump k i = true → g' k i = g k i) (q : JPump g) : JPump g' := by
  have q1 : JPump (rs (inR RPump) g) := q
  rw [← rs_eq h] at q1
  exact q1
theorem sm_pump {x1 x2 : Int} {g : AG} (h1 : I32 x1) (h2 : x2 = 0 ∨ x2 = 1) (q : JPump g) :
    ∃ r1 r2, X_pump x1 x2 g = some r1 ∧ M_pump x1 x2 r1.2 = some r2 ∧ nw r1.1 = nw r2.1 ∧ JPump r2.2 ∧ FR RPump g r2.2 := by
  unfold I32 at *
  by_cases h : 0 ≤ x1 ∧ x1 ≤ 15
  · obtain ⟨n, rfl⟩ := natOf h.1
    have eM : ∀ g, M_pump n x2 g = some (1, up g 154 n x2) := by
      intro g
      unfold M_pump
      simp (disch := omega) only [nw_id, ix_id, sb, if_pos, if_neg, isPoint0, Int.toNat_natCast]
    have eX : X_pump n x2 g = some (1, up g 1 6 (if x2 = 0 then andI (g 1 6) (xorI (shlI 1 n) (-1)) else orI (g 1 6) (shlI 1 n))) := by
      unfold X_pump Canal_setPump
      simp (disch := omega) only [nw_id, ix_id, sb, if_pos, if_neg, isPointX0]
      by_cases e : x2 = 0
      · simp (disch := omega) only [nw_id, ix_id, sb, if_pos, if_neg]
      · simp (disch := omega) only [nw_id, ix_id, sb, if_pos, if_neg]
    refine ⟨_, _, eX, eM _, rfl, ?_, Fr.up (Fr.up Fr.rf rfl) rfl⟩
    intro p hp
    have := q p hp
    simp only [up_at, Nat.reduceEqDiff, false_and, true_and, and_self, reduceIte]
    rcases h2 with e | e
    · subst e
      simp only [reduceIte, tb_and, tb_xor, tb_m1 (show p < 32 by omega), tb_shl1 n (by omega) (show p < 32 by omega)]
      by_cases e : p = n
      · simp [e]
      · simp [e, this]
    · subst e
      rw [if_neg (show ¬ (1 : Int) = 0 by decide), tb_or, tb_shl1 n (by omega) (show p < 32 by omega)]
      by_cases e : p = n
      · simp [e]
      · simp [e, this]
  · have eX : X_pump x1 x2 g = some (0, g) := by
      unfold X_pump
      simp (disch := omega) only [nw_id, ix_id, sb, if_pos, if_neg, isPointX0]
    have eM : M_pump x1 x2 g = some (0, g) := by
      unfold M_pump
      simp (disch := omega) only [nw_id, ix_id, sb, if_pos, if_neg, isPoint0]
    exact ⟨_, _, eX, eM, rfl, q, Fr.rf⟩
def RJob : Reg := [(10, 8), (117, 88), (103, 0), (178, 0)]
def JJob (g : AG) : Prop := (g 117 87 = g 10 7 ∧ 0 ≤ g 10 7 ∧ g 10 7 ≤ 8) ∧ ∀ k : Nat, (k : Int) < g 10 7 → g 178 k = g 103 k ∧ 1 ≤ g 103 k ∧ g 103 k ≤ 300
theorem JJob.cg {g g' : AG} (h : ∀ k i, inR RJob k i = true → g' k i = g k i) (q : JJob g) : JJob g' := by
  have q1 : JJob (rs (inR RJob) g) := q
  rw [← rs_eq h] at q1
  exact q1
theorem sm_job {x1 : Int} {g : AG} (h1 : I32 x1) (q : JJob g) :
    ∃ r1 r2, X_job x1 g = some r1 ∧ M_job x1 r1.2 = some r2 ∧ nw r1.1 = nw r2.1 ∧ JJob r2.2 ∧ FR RJob g r2.2 := by
  unfold I32 at *
  obtain ⟨⟨q1, q2, q3⟩, q4⟩ := q
  by_cases h0 : x1 = 0
  · have eX : X_job x1 g = some (0, up g 10 7 0) := by
      unfold X_job
      simp (disch := omega) only [nw_id, ix_id, sb, if_pos, if_neg]
    have eM : ∀ g, M_job x1 g = some (0, up g 117 87 0) := by
      intro g
      unfold M_job
      simp (disch := omega) only [nw_id, ix_id, sb, if_pos, if_neg]
    refine ⟨_, _, eX, eM _, rfl, ⟨by simp [up_at], ?_⟩, Fr.up (Fr.up Fr.rf rfl) rfl⟩
    intro k hk
    simp [up_at] at hk
    omega
  · by_cases h : 1 ≤ x1 ∧ x1 ≤ 300 ∧ g 10 7 < 8
    · obtain ⟨n, hn⟩ := natOf q2
      have eX : X_job x1 g = some (g 10 7 + 1, up (up g 103 n x1) 10 7 (g 10 7 + 1)) := by
        unfold X_job Yard_addJob
        simp (disch := omega) only [nw_id, ix_id, sb, if_pos, if_neg, within0, up_at, Nat.reduceEqDiff, false_and, and_self, reduceIte, hn, Int.toNat_natCast]
      have eM : ∀ g, 0 ≤ g 117 87 → g 117 87 < 8 → M_job x1 g = some (g 117 87 + 1, up (up g 178 (g 117 87).toNat x1) 117 87 (g 117 87 + 1)) := by
        intro g a b
        unfold M_job
        simp (disch := omega) only [nw_id, ix_id, sb, if_pos, if_neg, isIn0, up_at, Nat.reduceEqDiff, false_and, and_self, reduceIte]
      have eM1 := eM (up (up g 103 n x1) 10 7 (g 10 7 + 1)) (by simp [up_at]; omega) (by simp [up_at]; omega)
      simp only [up_at, Nat.reduceEqDiff, false_and, and_self, reduceIte, q1, hn, Int.toNat_natCast] at eM1
      rw [hn] at eX
      refine ⟨_, _, eX, eM1, rfl, ⟨?_, ?_⟩, ?_⟩
      · simp [up_at]; omega
      · intro k hk
        simp only [up_at, Nat.reduceEqDiff, false_and, true_and, and_self, reduceIte] at hk ⊢
        by_cases e : k = n
        · simp only [e, reduceIte]; simp; omega
        · have := q4 k (by omega)
          simp only [e, reduceIte]; omega
      · refine Fr.up (Fr.up (Fr.up (Fr.up Fr.rf ?_) ?_) ?_) ?_ <;> rfl
    · have eX : X_job x1 g = some (-1, g) := by
        unfold X_job Yard_addJob
        simp (disch := omega) only [nw_id, ix_id, sb, if_pos, if_neg, within0]
        ((repeat' split) <;> first | rfl | omega)
      have eM : M_job x1 g = some (-1, g) := by
        unfold M_job
        simp (disch := omega) only [nw_id, ix_id, sb, if_pos, if_neg, isIn0]
        ((repeat' split) <;> first | rfl | omega)
      exact ⟨_, _, eX, eM, rfl, ⟨⟨q1, q2, q3⟩, q4⟩, Fr.rf⟩
def RCall : Reg := [(11, 6), (117, 93), (109, 0), (110, 0), (111, 0), (181, 0), (182, 0), (183, 0)]
def JCall (g : AG) : Prop := (g 117 92 = g 11 5 ∧ 0 ≤ g 11 5 ∧ g 11 5 ≤ 12) ∧ ∀ k : Nat, (k : Int) < g 11 5 → (g 181 k = g 109 k ∧ g 182 k = g 110 k ∧ g 183 k = g 111 k) ∧ (0 ≤ g 109 k ∧ g 109 k ≤ 9999) ∧ (0 ≤ g 110 k ∧ g 110 k ≤ 15) ∧ (1 ≤ g 111 k ∧ g 111 k ≤ 300)
theorem JCall.cg {g g' : AG} (h : ∀ k i, inR RCall k i = true → g' k i = g k i) (q : JCall g) : JCall g' := by
  have q1 : JCall (rs (inR RCall) g) := q
  rw [← rs_eq h] at q1
  exact q1
theorem sm_call {x1 x2 x3 : Int} {g : AG} (h1 : I32 x1) (h2 : I32 x2) (h3 : I32 x3) (q : JCall g) :
    ∃ r1 r2, X_call x1 x2 x3 g = some r1 ∧ M_call x1 x2 x3 r1.2 = some r2 ∧ nw r1.1 = nw r2.1 ∧ JCall r2.2 ∧ FR RCall g r2.2 := by
  unfold I32 at *
  obtain ⟨⟨q1, q2, q3⟩, q4⟩ := q
  by_cases h0 : x3 = 0
  · have eX : X_call x1 x2 x3 g = some (0, up g 11 5 0) := by
      unfold X_call
      simp (disch := omega) only [nw_id, ix_id, sb, if_pos, if_neg]
    have eM : ∀ g, M_call x1 x2 x3 g = some (0, up g 117 92 0) := by
      intro g
      unfold M_call
      simp (disch := omega) only [nw_id, ix_id, sb, if_pos, if_neg]
    refine ⟨_, _, eX, eM _, rfl, ⟨by simp [up_at], ?_⟩, Fr.up (Fr.up Fr.rf rfl) rfl⟩
    intro k hk
    simp [up_at] at hk
    omega
  · obtain ⟨n, hn⟩ := natOf q2
    have hl : 0 < n → (g 181 (n - 1) = g 109 (n - 1)) ∧ 0 ≤ g 109 (n - 1) ∧ g 109 (n - 1) ≤ 9999 := fun a => ⟨(q4 (n - 1) (by omega)).1.1, (q4 (n - 1) (by omega)).2.1⟩
    by_cases h : 0 ≤ x1 ∧ x1 ≤ 9999 ∧ 0 ≤ x2 ∧ x2 ≤ 15 ∧ 1 ≤ x3 ∧ x3 ≤ 300 ∧ g 11 5 < 12 ∧ (n = 0 ∨ g 109 (n - 1) ≤ x1)
    · have eX : X_call x1 x2 x3 g = some (g 11 5 + 1, up (up (up (up g 109 n x1) 110 n x2) 111 n x3) 11 5 (g 11 5 + 1)) := by
        unfold X_call Vans_addCall Vans_addCall_b
        simp (disch := omega) only [nw_id, ix_id, sb, if_pos, if_neg, within0, isPointX0, up_at, Nat.reduceEqDiff, false_and, and_self, reduceIte, hn, Int.toNat_natCast]
        by_cases e : n = 0
        · simp (disch := omega) only [nw_id, ix_id, sb, if_pos, if_neg]
        · have := hl (by omega)
          rw [show ((n : Int) - 1).toNat = n - 1 by omega]
          simp (disch := omega) only [nw_id, ix_id, sb, if_pos, if_neg]
      have eM : ∀ g' : AG, g' 117 92 = n → g' 181 (n - 1) = g 181 (n - 1) → M_call x1 x2 x3 g' = some ((n : Int) + 1, up (up (up (up g' 181 n x1) 182 n x2) 183 n x3) 117 92 ((n : Int) + 1)) := by
        intro g' a b
        unfold M_call M_call_b
        simp (disch := omega) only [nw_id, ix_id, sb, if_pos, if_neg, isIn0, isPoint0, up_at, Nat.reduceEqDiff, false_and, and_self, reduceIte, a, Int.toNat_natCast]
        by_cases e : n = 0
        · simp (disch := omega) only [nw_id, ix_id, sb, if_pos, if_neg]
        · have := hl (by omega)
          rw [show ((n : Int) - 1).toNat = n - 1 by omega]
          simp (disch := omega) only [nw_id, ix_id, sb, if_pos, if_neg]
      have eM1 := eM (up (up (up (up g 109 n x1) 110 n x2) 111 n x3) 11 5 (g 11 5 + 1)) (by simp [up_at]; omega) (by simp [up_at])
      refine ⟨_, _, eX, eM1, by rw [hn], ⟨?_, ?_⟩, ?_⟩
      · simp [up_at]; omega
      · intro k hk
        simp only [up_at, Nat.reduceEqDiff, false_and, true_and, and_self, reduceIte] at hk ⊢
        by_cases e : k = n
        · simp only [e, reduceIte]; simp; omega
        · have := q4 k (by omega)
          simp only [e, reduceIte]; omega
      · refine Fr.up (Fr.up (Fr.up (Fr.up (Fr.up (Fr.up (Fr.up (Fr.up Fr.rf ?_) ?_) ?_) ?_) ?_) ?_) ?_) ?_ <;> rfl
    · have eX : X_call x1 x2 x3 g = some (-1, g) := by
        unfold X_call Vans_addCall
        generalize Vans_addCall_b x1 x2 x3 g = big
        revert h
        by_cases e : n = 0
        · clear hl
          simp (disch := omega) only [nw_id, ix_id, within0, isPointX0, hn]
          intro h
          simp only [sb]
          ((repeat' split) <;> first | rfl | omega)
        · have := hl (by omega)
          clear hl
          simp (disch := omega) only [nw_id, ix_id, within0, isPointX0, hn]
          rw [show ((n : Int) - 1).toNat = n - 1 by omega]
          simp (disch := omega) only [nw_id, ix_id]
          intro h
          simp only [sb]
          ((repeat' split) <;> first | rfl | omega)
      have eM : M_call x1 x2 x3 g = some (-1, g) := by
        unfold M_call
        generalize M_call_b x1 x2 x3 g = big
        revert h
        by_cases e : n = 0
        · clear hl
          simp (disch := omega) only [nw_id, ix_id, isIn0, isPoint0, q1, hn]
          intro h
          ((repeat' split) <;> first | rfl | omega)
        · have := hl (by omega)
          clear hl
          simp (disch := omega) only [nw_id, ix_id, isIn0, isPoint0, q1, hn]
          rw [show ((n : Int) - 1).toNat = n - 1 by omega]
          simp (disch := omega) only [nw_id, ix_id]
          intro h
          ((repeat' split) <;> first | rfl | omega)
      exact ⟨_, _, eX, eM, rfl, ⟨⟨q1, q2, q3⟩, q4⟩, Fr.rf⟩
