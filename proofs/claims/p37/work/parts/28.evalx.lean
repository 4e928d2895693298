/-! plain programs: the class's code, evaluated; the line that serves -/
def opR (s v w c : Int) : Prop := (s = 0 ∧ w = 2 ∧ c = v ∧ 0 ≤ v ∧ v ≤ 9999) ∨ (1 ≤ s ∧ s ≤ 9 ∧ w = 3 ∧ c = s - 1) ∨ (s = 10 ∧ w = 43) ∨ (s = 11 ∧ w = 45) ∨ (s = 12 ∧ w = 42) ∨ (s = 13 ∧ w = 47 ∧ c = v ∧ 1 ≤ v ∧ v ≤ 9999) ∨ (s = 14 ∧ w = 60) ∨ (s = 15 ∧ w = 61) ∨ (s = 16 ∧ w = 62) ∨ (s = 17 ∧ w = 110) ∨ (s = 18 ∧ w = 109) ∨ (s = 19 ∧ w = 108)
theorem opR_s {s v w c : Int} (h : opR s v w c) : 0 ≤ s ∧ s ≤ 19 := by unfold opR at h; omega
theorem both_eq {s v w c a b : Int} (h : opR s v w c) (h1 : ¬ s < 10) (h2 : ¬ s = 13) (h3 : ¬ s = 17) : Rules_both w a b = M_both s a b := by
  unfold opR at h
  rcases h with ⟨rfl, rfl, _⟩ | ⟨_, _, rfl, _⟩ | ⟨rfl, rfl⟩ | ⟨rfl, rfl⟩ | ⟨rfl, rfl⟩ | ⟨rfl, rfl, _⟩ | ⟨rfl, rfl⟩ | ⟨rfl, rfl⟩ | ⟨rfl, rfl⟩ | ⟨rfl, rfl⟩ | ⟨rfl, rfl⟩ | ⟨rfl, rfl⟩ <;> (try omega) <;> (unfold Rules_both M_both; simp (disch := omega) only [nw_id, ix_id, sb, if_true, if_false, if_pos, if_neg, true_and, and_true, false_and, and_false, and_self])
theorem Rules_run_b_s {cd fc : Nat → Int} : ∀ (n i : Nat) (st : List Int) (x5 : Int) (g : AG) (v : Int), i + n ≤ 500 → (∀ j : Nat, i ≤ j → j < i + n → opR (cd (2 * j)) (cd (2 * j + 1)) (g 17 j) (g 18 j)) → (∀ s : Nat, 1 ≤ s → s < 10 → g 27 (s - 1) = fc s) → st.length ≤ 32 → stk (g 28) st → evl cd fc n i st = some [v] →
    ∃ g', Rules_run_b ((i + n : Nat) : Int) 1 st.length i x5 g = some (v, g') ∧ FR [(28, 0)] g g' := by
  intro n
  induction n with
  | zero =>
    intro i st x5 g v h ho hf hl hs he
    rw [Rules_run_b]
    have e : st = [v] := Option.some.inj he
    subst e
    have t : (((([v] : List Int).length : Nat) : Int) - 1).toNat = 0 := by simp
    have h0 := hs.1
    simp only [List.length_cons, List.length_nil] at t h0 ⊢
    simp (disch := omega) only [nw_id, ix_id, sb, if_true, if_false, if_pos, if_neg, true_and, and_true, false_and, and_false, and_self]
    simp only [Nat.zero_add] at t ⊢
    rw [show ((((1 : Nat) : Int) - 1).toNat) = 0 from rfl, h0]
    exact ⟨g, rfl, Fr.rf⟩
  | succ n ih =>
    intro i st x5 g v h ho hf hl hs he
    have hsr := opR_s (ho i (by omega) (by omega))
    have he1 : (stp (cd (2 * i)) (cd (2 * i + 1)) fc st >>= fun st1 => if st1.length ≤ 32 then evl cd fc n (i + 1) st1 else none) = some [v] := he
    have go : ∀ (st1 : List Int) (g1 : AG) (L x6 : Int), L = st1.length → stk (g1 28) st1 → FR [(28, 0)] g g1 → (if st1.length ≤ 32 then evl cd fc n (i + 1) st1 else none) = some [v] → ∃ g', Rules_run_b ((i + (n + 1) : Nat) : Int) 4 L i x6 g1 = some (v, g') ∧ FR [(28, 0)] g g' := by
      intro st1 g1 L x6 hL hs1 hfr he2
      by_cases e2 : st1.length ≤ 32
      · rw [if_pos e2] at he2
        have c1 : g1 17 = g 17 := hfr.cell (fun _ => rfl)
        have c2 : g1 18 = g 18 := hfr.cell (fun _ => rfl)
        have c3 : g1 27 = g 27 := hfr.cell (fun _ => rfl)
        obtain ⟨g', hg1, hg2⟩ := ih (i + 1) st1 x6 g1 v (by omega) (by rw [c1, c2]; intro j j1 j2; exact ho j (by omega) (by omega)) (by rw [c3]; exact hf) e2 hs1 he2
        rw [show i + 1 + n = i + (n + 1) by omega, ← hL] at hg1
        refine ⟨g', ?_, hfr.tr hg2⟩
        rw [Rules_run_b]
        exact hg1
      · rw [if_neg e2] at he2; cases he2
    have hlen : ∀ x : Int, (if (x :: st).length ≤ 32 then evl cd fc n (i + 1) (x :: st) else none) = some [v] → st.length < 32 := by
      intro x hx
      by_cases e2 : (x :: st).length ≤ 32
      · simp at e2; omega
      · rw [if_neg e2] at hx; cases hx
    have n1 : nw (((i + (n + 1) : Nat)) : Int) = ((i + (n + 1) : Nat) : Int) := nw_id (by omega) (by omega)
    have n2 : nw (i : Int) = (i : Int) := nw_id (by omega) (by omega)
    have n3 : ix (i : Int) = i := by rw [ix_id (by omega) (by omega)]; simp
    have n4 : nw (st.length : Int) = (st.length : Int) := nw_id (by omega) (by omega)
    have n5 : ix (st.length : Int) = st.length := by rw [ix_id (by omega) (by omega)]; simp
    have nn : nw (2 : Int) = 2 ∧ nw (3 : Int) = 3 ∧ nw 10 = 10 := ⟨nw_id (by decide) (by decide), nw_id (by decide) (by decide), nw_id (by decide) (by decide)⟩
    have m1 : ¬ ((i + (n + 1) : Nat) : Int) ≤ (i : Int) := by clear n1 n2 n3 n4 n5 nn; omega
    have m2 : 0 ≤ (i : Int) ∧ (i : Int) < 500 := by clear n1 n2 n3 n4 n5 nn; omega
    rw [Rules_run_b, if_pos rfl, n1, n2, n3, if_neg m1, if_pos m2]
    clear n1
    have hop := ho i (by omega) (by omega)
    unfold stp at he1
    by_cases c1 : cd (2 * i) < 10
    · rw [if_pos c1, sb] at he1
      by_cases c2 : cd (2 * i) = 0
      · rw [if_pos c2] at he1
        have hw : g 17 i = 2 ∧ g 18 i = cd (2 * i + 1) := by clear n2 n3 n4 n5 nn; unfold opR at hop; omega
        clear hop
        have hl2 := hlen _ he1
        have m3 : (st.length : Int) < 32 := by clear n2 n3 n4 n5 nn; omega
        have m4 : 0 ≤ (st.length : Int) ∧ (st.length : Int) < 32 := by clear n2 n3 n4 n5 nn; omega
        rw [hw.1, if_pos nn.1, Rules_run_b, if_neg (by decide), if_pos rfl, n4, if_pos m3, if_pos nn.1, n2, n3, if_pos m2, sb, if_pos m4, sb, n5, hw.2]
        exact go _ _ _ _ (by simp) (stk_push hs) (Fr.up Fr.rf rfl) he1
      · rw [if_neg c2] at he1
        have hw : g 17 i = 3 ∧ g 18 i = cd (2 * i) - 1 := by clear n2 n3 n4 n5 nn; unfold opR at hop; omega
        clear hop
        have hl2 := hlen _ he1
        have m3 : (st.length : Int) < 32 := by clear n2 n3 n4 n5 nn; omega
        have m4 : 0 ≤ (st.length : Int) ∧ (st.length : Int) < 32 := by clear n2 n3 n4 n5 nn; omega
        have hfc := hf (cd (2 * i)).toNat (by clear n2 n3 n4 n5 nn; omega) (by clear n2 n3 n4 n5 nn; omega)
        have ha : Rules_askedOf (cd (2 * i) - 1) g = some (fc (cd (2 * i)).toNat) := by
          clear n2 n3 n4 n5 nn
          unfold Rules_askedOf
          simp (disch := omega) only [nw_id, ix_id, sb, if_true, if_false, if_pos, if_neg, true_and, and_true, false_and, and_false, and_self, within0]
          rw [show (cd (2 * i) - 1).toNat = (cd (2 * i)).toNat - 1 by omega, hfc]
        rw [hw.1, if_neg (by rw [nn.2.1]; decide), if_pos nn.2.1, Rules_run_b, if_neg (by decide), if_pos rfl, n4, if_pos m3, if_neg (by rw [nn.2.1]; decide), n2, n3, if_pos m2, hw.2, ha, sb, sb, if_pos m4, sb, n5]
        exact go _ _ _ _ (by simp) (stk_push hs) (Fr.up Fr.rf rfl) he1
    · rw [if_neg c1] at he1
      clear n2 n4 n5 nn
      by_cases c2 : cd (2 * i) = 13
      · rw [if_pos c2] at he1
        have hw : g 17 i = 47 ∧ g 18 i = cd (2 * i + 1) ∧ 1 ≤ cd (2 * i + 1) ∧ cd (2 * i + 1) ≤ 9999 := by clear n3; unfold opR at hop; omega
        clear hop
        cases st with
        | nil => cases he1
        | cons a r =>
          rw [sb] at he1
          have hs1 := hs.1
          simp only [List.length_cons] at hl ⊢
          have t3 : (((r.length + 1 : Nat) : Int) - 1).toNat = r.length := by clear n3; omega
          clear n3
          have ha : ∀ x, Rules_alone 47 x (g 18 i) g = some ((nw x).tdiv (nw (cd (2 * i + 1)))) := by
            intro x
            unfold Rules_alone
            rw [hw.2.1, nw_id (a := cd (2 * i + 1)) (by omega) (by omega)]
            simp (disch := omega) only [nw_id, ix_id, sb, if_true, if_false, if_pos, if_neg, true_and, and_true, false_and, and_false, and_self]
          rw [hw.1]
          simp (disch := omega) only [nw_id, ix_id, sb, if_true, if_false, if_pos, if_neg, true_and, and_true, false_and, and_false, and_self]
          rw [Rules_run_b]
          simp (disch := omega) only [nw_id, ix_id, sb, if_true, if_false, if_pos, if_neg, true_and, and_true, false_and, and_false, and_self, Int.toNat_natCast, t3, ha, hs1]
          rw [nw_id (a := cd (2 * i + 1)) (by omega) (by omega)] at he1
          exact go _ _ _ _ (by simp) (stk_push hs.2) (Fr.up Fr.rf rfl) he1
      · rw [if_neg c2] at he1
        by_cases c3 : cd (2 * i) = 17
        · rw [if_pos c3] at he1
          have hw : g 17 i = 110 := by clear n3; unfold opR at hop; omega
          clear hop
          cases st with
          | nil => cases he1
          | cons a r =>
            rw [sb] at he1
            have hs1 := hs.1
            simp only [List.length_cons] at hl ⊢
            have t3 : (((r.length + 1 : Nat) : Int) - 1).toNat = r.length := by clear n3; omega
            clear n3
            have ha : ∀ x y, Rules_alone 110 x y g = some (1 - x) := by
              intro x y
              unfold Rules_alone
              simp (disch := omega) only [nw_id, ix_id, sb, if_true, if_false, if_pos, if_neg, true_and, and_true, false_and, and_false, and_self]
            rw [hw]
            simp (disch := omega) only [nw_id, ix_id, sb, if_true, if_false, if_pos, if_neg, true_and, and_true, false_and, and_false, and_self]
            rw [Rules_run_b]
            simp (disch := omega) only [nw_id, ix_id, sb, if_true, if_false, if_pos, if_neg, true_and, and_true, false_and, and_false, and_self, Int.toNat_natCast, t3, ha, hs1]
            exact go _ _ _ _ (by simp) (stk_push hs.2) (Fr.up Fr.rf rfl) he1
        · rw [if_neg c3] at he1
          have hb := fun a b => both_eq (a := a) (b := b) hop c1 c2 c3
          have hw : ¬ g 17 i = 2 ∧ ¬ g 17 i = 3 ∧ ¬ g 17 i = 110 ∧ ¬ g 17 i = 47 ∧ 0 ≤ g 17 i ∧ g 17 i ≤ 200 := by clear n3; unfold opR at hop; omega
          clear hop
          cases st with
          | nil => cases he1
          | cons b st2 =>
            cases st2 with
            | nil => cases he1
            | cons a r =>
              rw [sb] at he1
              have hs1 := hs.1
              have hs2 := hs.2.1
              simp only [List.length_cons] at hl hs1 ⊢
              clear n3
              have t3 : (((r.length + 1 + 1 : Nat) : Int) + -1).toNat = r.length + 1 := by omega
              have t4 : (((r.length + 1 + 1 : Nat) : Int) + -1 - 1).toNat = r.length := by omega
              simp (disch := omega) only [nw_id, ix_id, sb, if_true, if_false, if_pos, if_neg, true_and, and_true, false_and, and_false, and_self, t3, t4]
              rw [hs1, hs2, hb]
              exact go _ _ _ _ (by simp; omega) (stk_push hs.2.2) (Fr.up Fr.rf rfl) he1
