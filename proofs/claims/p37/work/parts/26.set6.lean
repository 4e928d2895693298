/-! plain programs: the dock's dates, the stoppages -/
def RYard : Reg := [(97, 0), (98, 0), (173, 0), (174, 0), (6, 8)]
def dkF (g : AG) (k : Nat) : Int := if 0 < g 98 k then 1 else 0
def JYard (g : AG) : Prop := (∀ b : Nat, b < 10 → (0 < g 98 b → g 173 b = g 97 b) ∧ g 174 b = g 98 b ∧ (0 ≤ g 97 b ∧ g 97 b ≤ 999) ∧ (0 ≤ g 98 b ∧ g 98 b ≤ 60)) ∧ (∀ b : Nat, b < 10 → g 6 7 ≤ b → g 98 b = 0) ∧ sm (dkF g) 10 ≤ 7
theorem JYard.cg {g g' : AG} (h : ∀ k i, inR RYard k i = true → g' k i = g k i) (q : JYard g) : JYard g' := by
  obtain ⟨q1, q2, q3⟩ := q
  refine ⟨fun b hb => ?_, fun b hb hb2 => ?_, ?_⟩
  · rw [h 173 b rfl, h 97 b rfl, h 174 b rfl, h 98 b rfl]; exact q1 b hb
  · rw [h 6 7 rfl] at hb2
    rw [h 98 b rfl]; exact q2 b hb hb2
  · rw [show dkF g' = dkF g from funext fun k => by unfold dkF; rw [h 98 k rfl]]; exact q3
theorem othersX {g : AG} {x1 : Nat} (h1 : x1 < 10) : ∀ (n k : Nat) (acc : Int), n + k = 10 → 0 ≤ acc → acc ≤ k → (∀ b : Nat, b < 10 → -2147483648 ≤ g 98 b ∧ g 98 b ≤ 2147483647) → Yard_othersInDock_b x1 g acc k = some (acc + (sm (fun j => if j = x1 then 0 else dkF g j) 10 - sm (fun j => if j = x1 then 0 else dkF g j) k)) := by
  intro n
  induction n with
  | zero =>
    intro k acc h ha ha2 hr
    rw [Yard_othersInDock_b]
    simp (disch := omega) only [nw_id, ix_id, sb, if_true, if_false, if_pos, if_neg, true_and, and_true, false_and, and_false, and_self]
    rw [show k = 10 by omega]
    congr 1; omega
  | succ n ih =>
    intro k acc h ha ha2 hr
    have hk := hr k (by omega)
    rw [Yard_othersInDock_b]
    by_cases e : k = x1
    · subst e
      simp (disch := omega) only [nw_id, ix_id, sb, if_true, if_false, if_pos, if_neg, true_and, and_true, false_and, and_false, and_self]
      have e2 := ih (k + 1) (acc + 0) (by omega) (by omega) (by omega) hr
      rw [show ((k + 1 : Nat) : Int) = (k : Int) + 1 from rfl] at e2
      rw [e2]
      congr 1
      show _ = acc + (_ - sm _ k)
      rw [show sm (fun j => if j = k then 0 else dkF g j) (k + 1) = sm (fun j => if j = k then 0 else dkF g j) k + 0 from by show sm _ k + _ = _; simp]
      omega
    · simp (disch := omega) only [nw_id, ix_id, sb, if_true, if_false, if_pos, if_neg, true_and, and_true, false_and, and_false, and_self, Int.toNat_natCast]
      have e2 := ih (k + 1) (acc + dkF g k) (by omega) (by unfold dkF; split <;> omega) (by unfold dkF; split <;> omega) hr
      rw [show ((k + 1 : Nat) : Int) = (k : Int) + 1 from rfl] at e2
      have e3 : (if g 98 k ≤ 0 then (0 : Int) else 1) = dkF g k := by unfold dkF; split <;> split <;> omega
      rw [e3, e2]
      congr 1
      rw [show sm (fun j => if j = x1 then 0 else dkF g j) (k + 1) = sm (fun j => if j = x1 then 0 else dkF g j) k + dkF g k from by show sm _ k + _ = _; simp [e]]
      omega
theorem othersM {g : AG} {x1 N : Nat} {x2 x3 : Int} (h1 : x1 < 10) (hN : g 117 12 = N) (hN2 : N ≤ 10) : ∀ (n k : Nat) (acc : Int), n + k = N → 0 ≤ acc → acc ≤ k → (∀ b : Nat, b < 10 → -2147483648 ≤ g 174 b ∧ g 174 b ≤ 2147483647) →
    ∃ r, r = acc + (sm (fun j => if j = x1 then 0 else if 0 < g 174 j then 1 else 0) N - sm (fun j => if j = x1 then 0 else if 0 < g 174 j then 1 else 0) k) ∧ M_gas_b x1 x2 x3 1 acc k g = (if nw x3 = 0 then M_gas_b x1 x2 x3 2 r N g else (if nw r = 7 then some (0, g) else M_gas_b x1 x2 x3 2 r N g)) := by
  intro n
  induction n with
  | zero =>
    intro k acc h ha ha2 hr
    refine ⟨_, rfl, ?_⟩
    rw [show acc + (sm (fun j => if j = x1 then 0 else if 0 < g 174 j then 1 else 0) N - sm (fun j => if j = x1 then 0 else if 0 < g 174 j then 1 else 0) k) = acc by rw [show k = N by omega]; omega]
    rw [M_gas_b.eq_1 _ _ _ 1]
    rw [if_pos rfl, hN, if_pos (by rw [nw_id (by omega) (by omega), nw_id (by omega) (by omega)]; omega), show (k : Int) = N by omega]
  | succ n ih =>
    intro k acc h ha ha2 hr
    have hk := hr k (by omega)
    rw [M_gas_b.eq_1 _ _ _ 1]
    by_cases e : k = x1
    · subst e
      obtain ⟨r, hr1, hr2⟩ := ih (k + 1) (acc + 0) (by omega) (by omega) (by omega) hr
      refine ⟨r, ?_, ?_⟩
      · rw [hr1]
        rw [show sm (fun j => if j = k then 0 else if 0 < g 174 j then 1 else 0) (k + 1) = sm (fun j => if j = k then 0 else if 0 < g 174 j then 1 else 0) k + 0 from by show sm _ k + _ = _; simp]
        omega
      · rw [← hr2]
        rw [show ((k + 1 : Nat) : Int) = (k : Int) + 1 from rfl]
        simp (disch := omega) only [hN, nw_id, if_true, if_neg, sb]
    · have e3 : (if g 174 k ≤ 0 then (0 : Int) else 1) = (if 0 < g 174 k then 1 else 0) := by split <;> split <;> omega
      obtain ⟨r, hr1, hr2⟩ := ih (k + 1) (acc + (if 0 < g 174 k then 1 else 0)) (by omega) (by split <;> omega) (by split <;> omega) hr
      refine ⟨r, ?_, ?_⟩
      · rw [hr1]
        rw [show sm (fun j => if j = x1 then 0 else if 0 < g 174 j then 1 else 0) (k + 1) = sm (fun j => if j = x1 then 0 else if 0 < g 174 j then 1 else 0) k + (if 0 < g 174 k then 1 else 0) from by show sm _ k + _ = _; simp [e]]
        omega
      · rw [← hr2]
        rw [show ((k + 1 : Nat) : Int) = (k : Int) + 1 from rfl, ← e3]
        have c1 : ¬ nw (N : Int) ≤ nw (k : Int) := by rw [nw_id (by omega) (by omega), nw_id (by omega) (by omega)]; omega
        have c2 : ¬ nw (k : Int) = nw (x1 : Int) := by rw [nw_id (by omega) (by omega), nw_id (by omega) (by omega)]; omega
        have c3 : 0 ≤ nw (k : Int) ∧ nw (k : Int) < 10 := by rw [nw_id (by omega) (by omega)]; omega
        rw [if_pos rfl, hN, if_neg c1, if_neg c2, if_pos c3, sb, sb, ix_id (by omega) (by omega), Int.toNat_natCast, nw_id hk.1 (by omega)]
theorem sm_gas {x1 x2 x3 : Int} {g : AG} (h1 : I32 x1) (h2 : I32 x2) (h3 : I32 x3) (hb : g 117 12 = g 6 7 ∧ 0 ≤ g 6 7 ∧ g 6 7 ≤ 10) (q : JYard g) :
    ∃ r1 r2, X_gas x1 x2 x3 g = some r1 ∧ M_gas x1 x2 x3 r1.2 = some r2 ∧ ((x3 ≠ 0 ∨ sm (dkF g) 10 < 7) → nw r1.1 = nw r2.1) ∧ JYard r2.2 ∧ FR [(97, 0), (98, 0), (173, 0), (174, 0)] g r2.2 := by
  unfold I32 at *
  obtain ⟨q1, q2, q3⟩ := q
  by_cases h : 0 ≤ x1 ∧ x1 < g 6 7 ∧ 0 ≤ x2 ∧ x2 ≤ 999 ∧ 0 ≤ x3 ∧ x3 ≤ 60
  · obtain ⟨b, rfl⟩ := natOf h.1
    obtain ⟨N, hN⟩ := natOf hb.2.1
    have oX := othersX (g := g) (x1 := b) (by omega) 10 0 0 (by omega) (by omega) (by omega) (fun b hb => by have := q1 b hb; omega)
    have hs : sm (fun j => if j = b then 0 else dkF g j) 10 ≤ 7 := Int.le_trans (sm_mono 10 (fun i hi => by unfold dkF; split <;> split <;> omega)) q3
    have hs0 : 0 ≤ sm (fun j => if j = b then 0 else dkF g j) 10 := sm_nn 10 (fun i hi => by unfold dkF; split <;> (try split) <;> omega)
    have eS : ∀ g' : AG, (∀ j : Nat, j < 10 → g' 174 j = g 98 j) → sm (fun j => if j = b then 0 else if 0 < g' 174 j then 1 else 0) N = sm (fun j => if j = b then 0 else dkF g j) 10 := by
      intro g' hg
      rw [sm_zero (f := fun j => if j = b then 0 else dkF g j) (n := N) 10 (by omega) (fun i hi hi2 => by have := q2 i hi2 (by omega); unfold dkF; simp [this])]
      refine sm_cg N (fun i hi => ?_)
      rw [hg i (by omega)]
      rfl
    have oM : ∀ g' : AG, g' 117 12 = N → (∀ j : Nat, j < 10 → g' 174 j = g 98 j) → M_gas_b b x2 x3 1 0 0 g' = (if nw x3 = 0 then M_gas_b b x2 x3 2 (sm (fun j => if j = b then 0 else dkF g j) 10) N g' else (if nw (sm (fun j => if j = b then 0 else dkF g j) 10) = 7 then some (0, g') else M_gas_b b x2 x3 2 (sm (fun j => if j = b then 0 else dkF g j) 10) N g')) := by
      intro g' a1 a2
      obtain ⟨r, hr1, hr2⟩ := othersM (g := g') (x1 := b) (x2 := x2) (x3 := x3) (by omega) a1 (by omega) N 0 0 (by omega) (by omega) (by omega) (fun j hj => by have := q1 j hj; rw [a2 j hj]; omega)
      rw [eS g' a2] at hr1
      have e : r = sm (fun j => if j = b then 0 else dkF g j) 10 := by rw [hr1]; show 0 + (_ - 0) = _; omega
      rw [← e]
      exact hr2
    have e0 : (0 : Int) + (sm (fun j => if j = b then 0 else dkF g j) 10 - sm (fun j => if j = b then 0 else dkF g j) 0) = sm (fun j => if j = b then 0 else dkF g j) 10 := by show (0 : Int) + (_ - 0) = _; omega
    rw [e0] at oX
    rw [show ((0 : Nat) : Int) = (0 : Int) from rfl] at oX
    have hs6 : sm (fun j => if j = b then 0 else dkF g j) 10 ≤ sm (dkF g) 10 := sm_mono 10 (fun i hi => by unfold dkF; split <;> split <;> omega)
    by_cases h7 : sm (fun j => if j = b then 0 else dkF g j) 10 < 7
    · have eX : X_gas b x2 x3 g = some (1, up (up g 97 b x2) 98 b x3) := by
        unfold X_gas Yard_tellDock Yard_othersInDock
        clear oM eS q3
        have hs9 : sm (fun j => if j = b then 0 else dkF g j) 10 < 7 := by omega
        rw [oX]
        simp (disch := omega) only [nw_id, ix_id, sb, if_true, if_false, if_pos, if_neg, true_and, and_true, false_and, and_false, and_self, X_isBoat0, within0, Int.toNat_natCast]
        simp (disch := omega) only [nw_id, ix_id, sb, if_true, if_false, if_pos, if_neg, true_and, and_true, false_and, and_false, and_self, true_or, or_true]
      have eM : M_gas b x2 x3 (up (up g 97 b x2) 98 b x3) = some (1, up (up (up (up g 97 b x2) 98 b x3) 173 b x2) 174 b x3) := by
        unfold M_gas
        rw [oM _ (by simp [up_at]; omega) (fun j hj => by simp [up_at]; have := q1 j hj; omega)]
        have c1 : nw (M_isBoat b (up (up g 97 b x2) 98 b x3)) = 0 ↔ False := by
          rw [M_isBoat0 (by omega) (by omega) (by simp [up_at]; omega) (by simp [up_at]; omega)]
          simp only [up_at, Nat.reduceEqDiff, false_and, if_false, iff_false]
          omega
        have c2 : ∀ r, M_gas_b b x2 x3 2 r N (up (up g 97 b x2) 98 b x3) = some (1, up (up (up (up g 97 b x2) 98 b x3) 173 b x2) 174 b x3) := by
          intro r
          rw [M_gas_b.eq_1 _ _ _ 2]
          clear oM eS q3 hs hs0 oX c1
          simp (disch := omega) only [nw_id, ix_id, sb, if_true, if_false, if_pos, if_neg, true_and, and_true, false_and, and_false, and_self, Int.toNat_natCast]
        simp only [c1, if_false, c2]
        clear oM eS q3 oX c1 c2
        simp (disch := omega) only [nw_id, ix_id, sb, if_true, if_false, if_pos, if_neg, true_and, and_true, false_and, and_false, and_self, isIn0]
        ((repeat' split) <;> first | rfl | omega)
      refine ⟨_, _, eX, eM, fun _ => rfl, ⟨?_, ?_, ?_⟩, ?_⟩
      · intro j hj
        have := q1 j hj
        clear oM eS q3 oX
        by_cases e : j = b
        · subst e; refine ⟨fun _ => by simp (disch := omega) only [nw_id, ix_id, sb, if_true, if_false, if_pos, if_neg, true_and, and_true, false_and, and_false, and_self, up_at, Nat.reduceEqDiff], ?_⟩; simp (disch := omega) only [nw_id, ix_id, sb, if_true, if_false, if_pos, if_neg, true_and, and_true, false_and, and_false, and_self, up_at, Nat.reduceEqDiff]; omega
        · simp (disch := omega) only [nw_id, ix_id, sb, if_true, if_false, if_pos, if_neg, true_and, and_true, false_and, and_false, and_self, up_at, Nat.reduceEqDiff]; omega
      · intro j hj hj2
        have hj3 : g 6 7 ≤ j := by simp [up_at] at hj2; omega
        have := q2 j hj hj3
        clear oM eS q3 oX
        simp (disch := omega) only [nw_id, ix_id, sb, if_true, if_false, if_pos, if_neg, true_and, and_true, false_and, and_false, and_self, up_at, Nat.reduceEqDiff]; omega
      · have f1 : ∀ j, dkF (up (up (up (up g 97 b x2) 98 b x3) 173 b x2) 174 b x3) j = if j = b then (if 0 < x3 then 1 else 0) else dkF g j := by
          intro j
          unfold dkF
          by_cases e : j = b
          · subst e; simp [up_at]
          · simp [up_at, e]
        have f2 : sm (dkF (up (up (up (up g 97 b x2) 98 b x3) 173 b x2) 174 b x3)) 10 = sm (fun j => if j = b then 0 else dkF g j) 10 + (if 0 < x3 then 1 else 0) := by
          rw [sm_cg (h := fun j => (if j = b then 0 else dkF g j) + (if j = b then (if 0 < x3 then 1 else 0) else 0)) 10 (fun j hj => by rw [f1 j]; split <;> omega)]
          have hb10 : b = 0 ∨ b = 1 ∨ b = 2 ∨ b = 3 ∨ b = 4 ∨ b = 5 ∨ b = 6 ∨ b = 7 ∨ b = 8 ∨ b = 9 := by omega
          rcases hb10 with e | e | e | e | e | e | e | e | e | e <;> subst e <;> simp only [sm] <;> simp <;> omega
        rw [f2]
        split <;> omega
      · refine Fr.up (Fr.up (Fr.up (Fr.up Fr.rf ?_) ?_) ?_) ?_ <;> rfl
    · have hs9 : sm (fun j => if j = b then 0 else dkF g j) 10 = 7 := by omega
      have eX : X_gas b x2 x3 g = some (0, g) := by
        unfold X_gas Yard_tellDock Yard_othersInDock
        rw [oX, hs9]
        clear oM eS q3 hs hs0 oX
        simp (disch := omega) only [nw_id, ix_id, sb, if_true, if_false, if_pos, if_neg, true_and, and_true, false_and, and_false, and_self, X_isBoat0, within0]
        simp (disch := omega) only [nw_id, ix_id, sb, if_true, if_false, if_pos, if_neg, true_and, and_true, false_and, and_false, and_self, true_or, or_true]
      by_cases z : x3 = 0
      · subst z
        have eM : M_gas b x2 0 g = some (1, up (up g 173 b x2) 174 b 0) := by
          unfold M_gas
          rw [oM g (by omega) (fun j hj => (q1 j hj).2.1), hs9]
          have c2 : ∀ r, M_gas_b b x2 0 2 r N g = some (1, up (up g 173 b x2) 174 b 0) := by
            intro r
            rw [M_gas_b.eq_1 _ _ _ 2]
            clear oM eS q3 hs hs0 oX
            simp (disch := omega) only [nw_id, ix_id, sb, if_true, if_false, if_pos, if_neg, true_and, and_true, false_and, and_false, and_self, Int.toNat_natCast]
          simp only [c2]
          clear oM eS q3 hs hs0 oX c2
          simp (disch := omega) only [nw_id, ix_id, sb, if_true, if_false, if_pos, if_neg, true_and, and_true, false_and, and_false, and_self, M_isBoat0, isIn0]
        have q0 : g 98 b = 0 := by
          have f2 : sm (dkF g) 10 = sm (fun j => if j = b then 0 else dkF g j) 10 + dkF g b := by
            rw [sm_cg (h := fun j => (if j = b then 0 else dkF g j) + (if j = b then dkF g j else 0)) 10 (fun j hj => by split <;> omega)]
            have hb10 : b = 0 ∨ b = 1 ∨ b = 2 ∨ b = 3 ∨ b = 4 ∨ b = 5 ∨ b = 6 ∨ b = 7 ∨ b = 8 ∨ b = 9 := by omega
            clear oM eS q3 hs hs0 oX eX eM
            rcases hb10 with e | e | e | e | e | e | e | e | e | e <;> subst e <;> simp only [sm] <;> simp <;> omega
          have f3 := q1 b (by omega)
          have f4 : dkF g b ≤ 0 := by omega
          unfold dkF at f4
          split at f4 <;> omega
        refine ⟨_, _, eX, eM, fun q => ?_, ⟨fun j hj => ?_, fun j hj hj2 => ?_, ?_⟩, Fr.up (Fr.up Fr.rf rfl) rfl⟩
        · exfalso
          rcases q with q | q
          · exact q rfl
          · omega
        · have := q1 j hj
          clear oM eS q3 oX
          by_cases e : j = b
          · subst e
            simp (disch := omega) only [nw_id, ix_id, sb, if_true, if_false, if_pos, if_neg, true_and, and_true, false_and, and_false, and_self, up_at, Nat.reduceEqDiff]
            omega
          · simp (disch := omega) only [nw_id, ix_id, sb, if_true, if_false, if_pos, if_neg, true_and, and_true, false_and, and_false, and_self, up_at, Nat.reduceEqDiff]
            omega
        · have hj3 : g 6 7 ≤ j := by simp [up_at] at hj2; omega
          have := q2 j hj hj3
          simp [up_at, this]
        · rw [show dkF (up (up g 173 b x2) 174 b 0) = dkF g from funext fun k => by unfold dkF; simp [up_at]]
          exact q3
      have eM : M_gas b x2 x3 g = some (0, g) := by
        unfold M_gas
        rw [oM g (by omega) (fun j hj => (q1 j hj).2.1), hs9]
        clear oM eS q3 hs hs0 oX
        simp (disch := omega) only [nw_id, ix_id, sb, if_true, if_false, if_pos, if_neg, true_and, and_true, false_and, and_false, and_self, M_isBoat0, isIn0]
      exact ⟨_, _, eX, eM, fun _ => rfl, ⟨q1, q2, q3⟩, Fr.rf⟩
  · have eX : X_gas x1 x2 x3 g = some (0, g) := by
      unfold X_gas
      revert h
      simp (disch := omega) only [nw_id, ix_id, X_isBoat0, within0]
      intro h
      ((repeat' split) <;> first | rfl | omega)
    have eM : M_gas x1 x2 x3 g = some (0, g) := by
      unfold M_gas
      revert h
      simp (disch := omega) only [nw_id, ix_id, M_isBoat0, isIn0]
      intro h
      ((repeat' split) <;> first | rfl | omega)
    exact ⟨_, _, eX, eM, fun _ => rfl, ⟨q1, q2, q3⟩, Fr.rf⟩
