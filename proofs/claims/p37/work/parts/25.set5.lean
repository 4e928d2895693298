/-! plain programs: logs, the dock's dates, looks -/
def RLog : Reg := [(74, 0), (155, 0), (156, 0), (157, 0), (53, 0), (54, 0), (55, 0), (56, 0), (57, 0), (58, 0), (59, 0), (60, 0), (61, 0), (62, 0), (64, 0), (65, 0), (66, 0), (67, 0), (68, 0), (69, 0), (70, 0), (71, 0), (72, 0), (73, 0)]
def JLog (g : AG) : Prop := (∀ b : Nat, b < 10 → g 155 b = g 74 b ∧ 0 ≤ g 74 b ∧ g 74 b ≤ 10) ∧ ∀ b j : Nat, b < 10 → (j : Int) < g 74 b → g 156 (10 * b + j) = g (53 + b) j ∧ g 157 (10 * b + j) = g (64 + b) j ∧ (0 ≤ g (53 + b) j ∧ g (53 + b) j ≤ 15) ∧ (0 ≤ g (64 + b) j ∧ g (64 + b) j ≤ 20159)
theorem RLog_at : ∀ b : Nat, b < 10 → ∀ j, inR RLog (53 + b) j = true ∧ inR RLog (64 + b) j = true := by
  intro b hb j
  have : b = 0 ∨ b = 1 ∨ b = 2 ∨ b = 3 ∨ b = 4 ∨ b = 5 ∨ b = 6 ∨ b = 7 ∨ b = 8 ∨ b = 9 := by omega
  rcases this with e | e | e | e | e | e | e | e | e | e <;> subst e <;> exact ⟨rfl, rfl⟩
theorem JLog.cg {g g' : AG} (h : ∀ k i, inR RLog k i = true → g' k i = g k i) (q : JLog g) : JLog g' := by
  obtain ⟨q1, q2⟩ := q
  refine ⟨fun b hb => ?_, fun b j hb hj => ?_⟩
  · rw [h 155 b rfl, h 74 b rfl]; exact q1 b hb
  · rw [h 74 b rfl] at hj
    rw [h 156 _ rfl, h 157 _ rfl, h (53 + b) j (RLog_at b hb j).1, h (64 + b) j (RLog_at b hb j).2]
    exact q2 b j hb hj
theorem sm_log {x1 x2 x3 : Int} {g : AG} (h1 : I32 x1) (h2 : I32 x2) (h3 : I32 x3) (hb : g 117 12 = g 6 7 ∧ 0 ≤ g 6 7 ∧ g 6 7 ≤ 10) (q : JLog g) :
    ∃ r1 r2, X_log x1 x2 x3 g = some r1 ∧ M_log x1 x2 x3 r1.2 = some r2 ∧ nw r1.1 = nw r2.1 ∧ JLog r2.2 ∧ FR RLog g r2.2 := by
  unfold I32 at *
  obtain ⟨q1, q4⟩ := q
  by_cases hB : 0 ≤ x1 ∧ x1 < g 6 7
  · obtain ⟨b, rfl⟩ := natOf hB.1
    obtain ⟨p1, p2, p3⟩ := q1 b (by omega)
    obtain ⟨n, hn⟩ := natOf p2
    have hl : 0 < n → (g 157 (10 * b + (n - 1)) = g (64 + b) (n - 1)) ∧ 0 ≤ g (64 + b) (n - 1) ∧ g (64 + b) (n - 1) ≤ 20159 := fun a => by
      have := q4 b (n - 1) (by omega) (by omega)
      exact ⟨this.2.1, this.2.2.2⟩
    have t1 : ((n : Int) - 1).toNat = n - 1 := by omega
    have t2 : (10 * (b : Int) + (n : Int)).toNat = 10 * b + n := by omega
    have t3 : 0 < n → (10 * (b : Int) + (n : Int) - 1).toNat = 10 * b + (n - 1) := by omega
    by_cases h : 0 ≤ x2 ∧ x2 ≤ 15 ∧ 0 ≤ x3 ∧ x3 ≤ 20159 ∧ n < 10 ∧ (n = 0 ∨ g (64 + b) (n - 1) < x3)
    · clear h1 h2 h3
      have eX : X_log b x2 x3 g = some ((n : Int) + 1, up (up (up g (53 + b) n x2) (64 + b) n x3) 74 b ((n : Int) + 1)) := by
        unfold X_log Boats_addLog Boats_addLog_b
        by_cases e : n = 0
        · clear hl t3
          simp (disch := omega) only [nw_id, ix_id, sb, if_true, if_false, if_pos, if_neg, true_and, and_true, false_and, and_false, and_self, X_isWay0, hn, Int.toNat_natCast]
        · have := hl (by omega)
          clear hl t3
          simp (disch := omega) only [nw_id, ix_id, sb, if_true, if_false, if_pos, if_neg, true_and, and_true, false_and, and_false, and_self, X_isWay0, hn, Int.toNat_natCast, t1]
      have eM : ∀ g' : AG, g' 117 12 = g 6 7 → g' 155 b = n → (0 < n → g' 157 (10 * b + (n - 1)) = g 157 (10 * b + (n - 1))) → M_log b x2 x3 g' = some ((n : Int) + 1, up (up (up g' 156 (10 * b + n) x2) 157 (10 * b + n) x3) 155 b ((n : Int) + 1)) := by
        intro g' a1 a2 a3
        unfold M_log M_log_b
        by_cases e : n = 0
        · clear hl t3 a3
          simp (disch := omega) only [nw_id, ix_id, sb, if_true, if_false, if_pos, if_neg, true_and, and_true, false_and, and_false, and_self, M_isBoat0, isPoint0, isTime0, a1, a2, Int.toNat_natCast, t2, up_at, and_self, reduceIte]
        · have := hl (by omega)
          have t3 := t3 (by omega)
          have a3 := a3 (by omega)
          clear hl
          simp (disch := omega) only [nw_id, ix_id, sb, if_true, if_false, if_pos, if_neg, true_and, and_true, false_and, and_false, and_self, M_isBoat0, isPoint0, isTime0, a1, a2, Int.toNat_natCast, t2, t3, a3, up_at, and_self, reduceIte]
      have eM1 := eM (up (up (up g (53 + b) n x2) (64 + b) n x3) 74 b ((n : Int) + 1)) (by simp (disch := omega) only [nw_id, ix_id, sb, if_true, if_false, if_pos, if_neg, true_and, and_true, false_and, and_false, and_self, up_at, Nat.reduceEqDiff, hb.1]) (by simp (disch := omega) only [nw_id, ix_id, sb, if_true, if_false, if_pos, if_neg, true_and, and_true, false_and, and_false, and_self, up_at, Nat.reduceEqDiff]; omega) (fun _ => by simp (disch := omega) only [nw_id, ix_id, sb, if_true, if_false, if_pos, if_neg, true_and, and_true, false_and, and_false, and_self, up_at, Nat.reduceEqDiff])
      refine ⟨_, _, eX, eM1, rfl, ⟨?_, ?_⟩, ?_⟩
      · intro b' hb'
        have := q1 b' hb'
        obtain ⟨y1, y2, y3, y4, y5, _⟩ := h
        clear hl t1 t2 t3 eX eM eM1
        by_cases e : b' = b
        · subst e; simp (disch := omega) only [nw_id, ix_id, sb, if_true, if_false, if_pos, if_neg, true_and, and_true, false_and, and_false, and_self, up_at, Nat.reduceEqDiff]; omega
        · simp (disch := omega) only [nw_id, ix_id, sb, if_true, if_false, if_pos, if_neg, true_and, and_true, false_and, and_false, and_self, up_at, Nat.reduceEqDiff]; omega
      · intro b' j hb' hj
        obtain ⟨y1, y2, y3, y4, y5, _⟩ := h
        clear t1 t2 t3 eX eM eM1
        by_cases e : b' = b
        · subst e
          have hj2 : j < n + 1 := by revert hj; simp (disch := omega) only [nw_id, ix_id, sb, if_true, if_false, if_pos, if_neg, true_and, and_true, false_and, and_false, and_self, up_at, Nat.reduceEqDiff]; omega
          clear hj
          by_cases e2 : j = n
          · subst e2; clear hl; simp (disch := omega) only [nw_id, ix_id, sb, if_true, if_false, if_pos, if_neg, true_and, and_true, false_and, and_false, and_self, up_at, Nat.reduceEqDiff]; omega
          · have := q4 b' j hb' (by omega)
            clear hl
            simp (disch := omega) only [nw_id, ix_id, sb, if_true, if_false, if_pos, if_neg, true_and, and_true, false_and, and_false, and_self, up_at, Nat.reduceEqDiff]; omega
        · have hj2 : (j : Int) < g 74 b' := by revert hj; simp (disch := omega) only [nw_id, ix_id, sb, if_true, if_false, if_pos, if_neg, true_and, and_true, false_and, and_false, and_self, up_at, Nat.reduceEqDiff]; omega
          have hj3 := q1 b' hb'
          clear hj
          have := q4 b' j hb' hj2
          clear hl
          simp (disch := omega) only [nw_id, ix_id, sb, if_true, if_false, if_pos, if_neg, true_and, and_true, false_and, and_false, and_self, up_at, Nat.reduceEqDiff]; omega
      · have r1 := RLog_at b (by omega) n
        refine Fr.up (Fr.up (Fr.up (Fr.up (Fr.up (Fr.up Fr.rf r1.1) r1.2) rfl) rfl) rfl) rfl
    · have eX : X_log b x2 x3 g = some (-1, g) := by
        unfold X_log Boats_addLog
        generalize Boats_addLog_b b x2 x3 (g 74 (ix b)) g = big
        revert h
        by_cases e : n = 0
        · clear hl t3
          simp (disch := omega) only [nw_id, ix_id, X_isWay0, hn, Int.toNat_natCast]
          intro h
          ((repeat' split) <;> first | rfl | omega)
        · have := hl (by omega)
          clear hl t3
          simp (disch := omega) only [nw_id, ix_id, X_isWay0, hn, Int.toNat_natCast, t1]
          intro h
          ((repeat' split) <;> first | rfl | omega)
      have eM : M_log b x2 x3 g = some (-1, g) := by
        unfold M_log
        generalize M_log_b b x2 x3 g = big
        revert h
        by_cases e : n = 0
        · clear hl t3
          simp (disch := omega) only [nw_id, ix_id, M_isBoat0, isPoint0, isTime0, p1, hn, Int.toNat_natCast, t2]
          intro h
          ((repeat' split) <;> first | rfl | omega)
        · have := hl (by omega)
          have t3 := t3 (by omega)
          clear hl
          simp (disch := omega) only [nw_id, ix_id, M_isBoat0, isPoint0, isTime0, p1, hn, Int.toNat_natCast, t2, t3]
          intro h
          ((repeat' split) <;> first | rfl | omega)
      exact ⟨_, _, eX, eM, rfl, ⟨q1, q4⟩, Fr.rf⟩
  · have eX : X_log x1 x2 x3 g = some (-1, g) := by
      unfold X_log
      simp (disch := omega) only [nw_id, ix_id, sb, if_true, if_false, if_pos, if_neg, true_and, and_true, false_and, and_false, and_self, X_isWay0]
    have eM : M_log x1 x2 x3 g = some (-1, g) := by
      unfold M_log
      simp (disch := omega) only [nw_id, ix_id, sb, if_true, if_false, if_pos, if_neg, true_and, and_true, false_and, and_false, and_self, M_isBoat0]
    exact ⟨_, _, eX, eM, rfl, ⟨q1, q4⟩, Fr.rf⟩
