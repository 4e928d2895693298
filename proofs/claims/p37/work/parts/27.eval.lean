/-! plain programs: the rules' code, evaluated -/
def stp (s v : Int) (fc : Nat → Int) (st : List Int) : Option (List Int) :=
  if s < 10 then some ((if s = 0 then v else fc s.toNat) :: st)
  else if s = 13 then (match st with | a :: r => some ((nw a).tdiv (nw v) :: r) | [] => none)
  else if s = 17 then (match st with | a :: r => some ((1 - a) :: r) | [] => none)
  else (match st with | b :: a :: r => some (M_both s a b :: r) | _ => none)
def evl (cd fc : Nat → Int) : Nat → Nat → List Int → Option (List Int)
  | 0, _, st => some st
  | n + 1, i, st => (stp (cd (2 * i)) (cd (2 * i + 1)) fc st) >>= fun st1 => if st1.length ≤ 32 then evl cd fc n (i + 1) st1 else none
theorem stp_fc {s v : Int} {fc fc' : Nat → Int} {st : List Int} (h : ∀ k, k < 10 → fc k = fc' k) : stp s v fc st = stp s v fc' st := by
  unfold stp
  by_cases e : s < 10
  · rw [if_pos e, if_pos e, h s.toNat (by omega)]
  · rw [if_neg e, if_neg e]
theorem evl_fc {cd fc fc' : Nat → Int} (h : ∀ k, k < 10 → fc k = fc' k) : ∀ (n i : Nat) (st : List Int), evl cd fc n i st = evl cd fc' n i st
  | 0, _, _ => rfl
  | n + 1, i, st => by
    show (stp _ _ fc st >>= _) = (stp _ _ fc' st >>= _)
    rw [stp_fc h]
    cases stp (cd (2 * i)) (cd (2 * i + 1)) fc' st with
    | none => rfl
    | some st1 =>
      rw [sb, sb]
      by_cases e : st1.length ≤ 32
      · rw [if_pos e, if_pos e]; exact evl_fc h n (i + 1) st1
      · rw [if_neg e, if_neg e]
theorem evl_cd {cd cd' fc : Nat → Int} : ∀ (n i : Nat) (st : List Int), (∀ k, 2 * i ≤ k → k < 2 * (i + n) → cd k = cd' k) → evl cd fc n i st = evl cd' fc n i st
  | 0, _, _, _ => rfl
  | n + 1, i, st, h => by
    show (stp _ _ fc st >>= _) = (stp _ _ fc st >>= _)
    rw [h (2 * i) (by omega) (by omega), h (2 * i + 1) (by omega) (by omega)]
    cases stp (cd' (2 * i)) (cd' (2 * i + 1)) fc st with
    | none => rfl
    | some st1 =>
      rw [sb, sb]
      by_cases e : st1.length ≤ 32
      · rw [if_pos e, if_pos e]; exact evl_cd n (i + 1) st1 (fun k h1 h2 => h k (by omega) (by omega))
      · rw [if_neg e, if_neg e]
theorem evl_app {cd fc : Nat → Int} : ∀ (n m i : Nat) (st st1 : List Int), evl cd fc n i st = some st1 → evl cd fc (n + m) i st = evl cd fc m (i + n) st1
  | 0, m, i, st, st1, h => by
    have e : st = st1 := Option.some.inj h
    rw [e]; simp
  | n + 1, m, i, st, st1, h => by
    rw [show n + 1 + m = (n + m) + 1 by omega]
    show (stp _ _ fc st >>= _) = _
    have h' : (stp (cd (2 * i)) (cd (2 * i + 1)) fc st >>= fun st1 => if st1.length ≤ 32 then evl cd fc n (i + 1) st1 else none) = some st1 := h
    cases e : stp (cd (2 * i)) (cd (2 * i + 1)) fc st with
    | none => rw [e] at h'; cases h'
    | some st2 =>
      rw [e, sb] at h'
      rw [sb]
      by_cases e2 : st2.length ≤ 32
      · rw [if_pos e2] at h' ⊢
        rw [evl_app n m (i + 1) st2 st1 h', show i + 1 + n = i + (n + 1) by omega]
      · rw [if_neg e2] at h'; cases h'
/-- the stack's cells hold the list, its head on top -/
def stk (c : Nat → Int) : List Int → Prop
  | [] => True
  | a :: r => c r.length = a ∧ stk c r
theorem stk_up {g : AG} {k i : Nat} {v : Int} : ∀ {r : List Int}, stk (g k) r → r.length ≤ i → stk (up g k i v k) r
  | [], _, _ => trivial
  | a :: r, h, hi => ⟨by rw [up_at, if_neg (by simp at hi; omega)]; exact h.1, stk_up h.2 (by simp at hi; omega)⟩
theorem stk_push {g : AG} {k : Nat} {v : Int} {r : List Int} (h : stk (g k) r) : stk (up g k r.length v k) (v :: r) := ⟨by rw [up_at, if_pos ⟨rfl, rfl⟩], stk_up h (Nat.le_refl _)⟩
theorem M_comesTo_b_s : ∀ (n i : Nat) (st : List Int) (g : AG) (v : Int), i + n ≤ 510 → (∀ k, k < 1020 → I32 (g 134 k)) → (∀ j : Nat, i ≤ j → j < i + n → 0 ≤ g 134 (2 * j)) → (∀ j : Nat, i ≤ j → j < i + n → g 134 (2 * j) = 13 → ¬ g 134 (2 * j + 1) = 0) → st.length ≤ 32 → stk (g 147) st → evl (g 134) (g 148) n i st = some [v] →
    ∃ g', M_comesTo_b ((i + n : Nat) : Int) st.length i g = some (v, g') ∧ FR [(147, 0)] g g' := by
  intro n
  induction n with
  | zero =>
    intro i st g v h hr h0 h1 hl hs he
    rw [M_comesTo_b]
    simp (disch := omega) only [nw_id, ix_id, sb, if_true, if_false, if_pos, if_neg, true_and, and_true, false_and, and_false, and_self]
    have e : st = [v] := Option.some.inj he
    subst e
    exact ⟨g, by have := hs.1; simp at this; simp [this], Fr.rf⟩
  | succ n ih =>
    intro i st g v h hr h0 h1 hl hs he
    have r1 := hr (2 * i) (by omega)
    have r2 := hr (2 * i + 1) (by omega)
    have a0 := h0 i (by omega) (by omega)
    have a1 := h1 i (by omega) (by omega)
    unfold I32 at r1 r2
    have t1 : (2 * (i : Int)).toNat = 2 * i := by omega
    have t2 : (2 * (i : Int) + 1).toNat = 2 * i + 1 := by omega
    have he1 : (stp (g 134 (2 * i)) (g 134 (2 * i + 1)) (g 148) st >>= fun st1 => if st1.length ≤ 32 then evl (g 134) (g 148) n (i + 1) st1 else none) = some [v] := he
    rw [M_comesTo_b]
    -- what the rest does
    have go : ∀ (st1 : List Int) (g1 : AG) (L : Int), L = st1.length → stk (g1 147) st1 → FR [(147, 0)] g g1 → (if st1.length ≤ 32 then evl (g 134) (g 148) n (i + 1) st1 else none) = some [v] → ∃ g', M_comesTo_b ((i + (n + 1) : Nat) : Int) L ((i : Int) + 1) g1 = some (v, g') ∧ FR [(147, 0)] g g' := by
      intro st1 g1 L hL hs1 hf he2
      by_cases e2 : st1.length ≤ 32
      · rw [if_pos e2] at he2
        have c1 : g1 134 = g 134 := hf.cell (fun _ => rfl)
        have c2 : g1 148 = g 148 := hf.cell (fun _ => rfl)
        obtain ⟨g', hg1, hg2⟩ := ih (i + 1) st1 g1 v (by omega) (by rw [c1]; exact hr) (by rw [c1]; intro j j1 j2; exact h0 j (by omega) (by omega)) (by rw [c1]; intro j j1 j2; exact h1 j (by omega) (by omega)) e2 hs1 (by rw [c1, c2]; exact he2)
        rw [show i + 1 + n = i + (n + 1) by omega, ← hL] at hg1
        exact ⟨g', hg1, hf.tr hg2⟩
      · rw [if_neg e2] at he2; cases he2
    unfold stp at he1
    by_cases c1 : g 134 (2 * i) < 10
    · rw [if_pos c1, sb] at he1
      have t3 : (g 134 (2 * i)).toNat = (g 134 (2 * i)).toNat := rfl
      simp (disch := omega) only [nw_id, ix_id, sb, if_true, if_false, if_pos, if_neg, true_and, and_true, false_and, and_false, and_self, t1, t2, Int.toNat_natCast]
      by_cases c2 : g 134 (2 * i) = 0
      · rw [if_pos c2] at he1
        simp (disch := omega) only [nw_id, ix_id, sb, if_true, if_false, if_pos, if_neg, true_and, and_true, false_and, and_false, and_self]
        refine go _ _ _ ?_ (stk_push hs) (Fr.up Fr.rf rfl) he1
        simp
      · rw [if_neg c2] at he1
        simp (disch := omega) only [nw_id, ix_id, sb, if_true, if_false, if_pos, if_neg, true_and, and_true, false_and, and_false, and_self]
        refine go _ _ _ ?_ (stk_push hs) (Fr.up Fr.rf rfl) he1
        simp
    · rw [if_neg c1] at he1
      by_cases c2 : g 134 (2 * i) = 13
      · rw [if_pos c2] at he1
        have a1 := a1 c2
        cases st with
        | nil => cases he1
        | cons a r =>
          rw [sb] at he1
          have hs1 := hs.1
          simp only [List.length_cons] at hl ⊢
          have t3 : (((r.length + 1 : Nat) : Int) - 1).toNat = r.length := by omega
          simp (disch := omega) only [nw_id, ix_id, sb, if_true, if_false, if_pos, if_neg, true_and, and_true, false_and, and_false, and_self, t1, t2, t3]
          rw [hs1]
          refine go _ _ _ ?_ (stk_push hs.2) (Fr.up Fr.rf rfl) ?_
          · simp
          · rw [nw_id (a := g 134 (2 * i + 1)) (by omega) (by omega)] at he1; exact he1
      · rw [if_neg c2] at he1
        by_cases c3 : g 134 (2 * i) = 17
        · rw [if_pos c3] at he1
          cases st with
          | nil => cases he1
          | cons a r =>
            rw [sb] at he1
            have hs1 := hs.1
            simp only [List.length_cons] at hl ⊢
            have t3 : (((r.length + 1 : Nat) : Int) - 1).toNat = r.length := by omega
            simp (disch := omega) only [nw_id, ix_id, sb, if_true, if_false, if_pos, if_neg, true_and, and_true, false_and, and_false, and_self, t1, t2, t3]
            rw [hs1]
            exact go _ _ _ (by simp) (stk_push hs.2) (Fr.up Fr.rf rfl) he1
        · rw [if_neg c3] at he1
          cases st with
          | nil => cases he1
          | cons b st2 =>
            cases st2 with
            | nil => cases he1
            | cons a r =>
              rw [sb] at he1
              have hs1 := hs.1
              have hs2 := hs.2.1
              simp only [List.length_cons] at hl hs1 ⊢
              have t3 : (((r.length + 1 + 1 : Nat) : Int) + -1).toNat = r.length + 1 := by omega
              have t4 : (((r.length + 1 + 1 : Nat) : Int) + -1 - 1).toNat = r.length := by omega
              simp (disch := omega) only [nw_id, ix_id, sb, if_true, if_false, if_pos, if_neg, true_and, and_true, false_and, and_false, and_self, t1, t2, t3, t4]
              rw [hs1, hs2]
              exact go _ _ _ (by simp; omega) (stk_push hs.2.2) (Fr.up Fr.rf rfl) he1
