/-! plain programs: the dock, what is sought -/
theorem mk_or : ∀ m, m < 128 → ∀ i, i < 7 → orI (m : Nat) (shlI 1 (i : Nat)) = ((m ||| 2 ^ i : Nat) : Int) := by decide +kernel
theorem mk_tb : ∀ m, m < 128 → ∀ i, i < 7 → tb (m : Nat) i = m.testBit i := by decide +kernel
theorem mk_lt {c m i : Nat} (hm : m < 2 ^ c) (hi : i < c) : m ||| 2 ^ i < 2 ^ c := Nat.or_lt_two_pow hm (Nat.pow_lt_pow_right (by omega) hi)
theorem mk_bit {m i j : Nat} : (m ||| 2 ^ i).testBit j = (m.testBit j || decide (i = j)) := by rw [Nat.testBit_or, Nat.testBit_two_pow]
theorem mk_gt : ∀ m, m < 128 → ∀ i, i < 7 → m.testBit i = false → m < m ||| 2 ^ i := by decide +kernel
theorem mk_p2 : ∀ c, c < 8 → 1 ≤ 2 ^ c ∧ 2 ^ c ≤ 128 ∧ shlI 1 (c : Nat) = ((2 ^ c : Nat) : Int) := by decide +kernel
def mk_n (m : Nat) : Nat → Nat
  | 0 => 0
  | i + 1 => mk_n m i + (if m.testBit i = true then 1 else 0)
theorem mk_n_le (m : Nat) : ∀ c : Nat, mk_n m c ≤ c
  | 0 => Nat.le_refl 0
  | i + 1 => by have := mk_n_le m i; unfold mk_n; split <;> omega
theorem mk_n_or {m i : Nat} (h : m.testBit i = false) : ∀ c : Nat, mk_n (m ||| 2 ^ i) c = mk_n m c + (if i < c then 1 else 0)
  | 0 => by unfold mk_n; rfl
  | c + 1 => by
    unfold mk_n
    rw [mk_n_or h c, mk_bit]
    by_cases z : i = c
    · subst z
      rw [h]
      simp
    · by_cases y : i < c
      · rw [if_pos y, if_pos (show i < c + 1 by omega)]
        simp only [decide_eq_false z, Bool.or_false]
        omega
      · rw [if_neg y, if_neg (show ¬ i < c + 1 by omega)]
        simp only [decide_eq_false z, Bool.or_false]
        omega
theorem mk_n_all {m : Nat} : ∀ c : Nat, (∀ j, j < c → m.testBit j = true) → mk_n m c = c
  | 0, _ => rfl
  | c + 1, h => by unfold mk_n; rw [mk_n_all c (fun j hj => h j (by omega)), h c (by omega)]; rfl
theorem mk_full : ∀ c, c < 8 → ∀ m, m < 128 → m < 2 ^ c → mk_n m c = c → m = 2 ^ c - 1 := by decide +kernel
theorem mk_n_full : ∀ c, c < 8 → mk_n (2 ^ c - 1) c = c := by decide +kernel
def dkDay (dy : Nat → Int) (m : Nat) : Nat → Int
  | 0 => 0
  | i + 1 => dkDay dy m i + (if m.testBit i = true then dy i else 0)
theorem dkDay_or {dy : Nat → Int} {m i : Nat} (h : m.testBit i = false) : ∀ c : Nat, dkDay dy (m ||| 2 ^ i) c = dkDay dy m c + (if i < c then dy i else 0)
  | 0 => by unfold dkDay; rfl
  | c + 1 => by
    unfold dkDay
    rw [dkDay_or h c, mk_bit]
    by_cases z : i = c
    · subst z
      rw [h]
      simp
    · by_cases y : i < c
      · rw [if_pos y, if_pos (show i < c + 1 by omega)]
        simp only [decide_eq_false z, Bool.or_false]
        omega
      · rw [if_neg y, if_neg (show ¬ i < c + 1 by omega)]
        simp only [decide_eq_false z, Bool.or_false]
        omega
theorem dkDay_0 {dy : Nat → Int} : ∀ c : Nat, dkDay dy 0 c = 0
  | 0 => rfl
  | c + 1 => by unfold dkDay; rw [dkDay_0 c, Nat.zero_testBit]; rfl
def DkOk (dy dt : Nat → Int) (c : Nat) : Prop := c ≤ 7 ∧ ∀ i, i < c → (1 ≤ dy i ∧ dy i ≤ 60) ∧ (0 ≤ dt i ∧ dt i ≤ 999)
theorem dkDay_rng {dy dt : Nat → Int} {c m : Nat} (K : DkOk dy dt c) : ∀ i : Nat, i ≤ c → 0 ≤ dkDay dy m i ∧ dkDay dy m i ≤ 60 * i
  | 0, _ => by unfold dkDay; omega
  | i + 1, h => by
    have := dkDay_rng (m := m) K i (by omega)
    have := (K.2 i (by omega)).1
    unfold dkDay
    split <;> omega
/-- is (a, b) better than (c, d) -/
abbrev dkLt (a b c d : Int) : Prop := a < c ∨ (a = c ∧ b < d)
def dkStep (dy dt : Nat → Int) (T : Nat → Int × Int) (c m : Nat) : Nat → Option (Int × Int × Nat)
  | 0 => none
  | i + 1 => if m.testBit i = true then dkStep dy dt T c m i else
    match dkStep dy dt T c m i with
    | none => some ((T (m ||| 2 ^ i)).1 + (if dkDay dy m c + dy i ≤ dt i then 0 else 1), (T (m ||| 2 ^ i)).2 + (dkDay dy m c + dy i), i)
    | some p => if dkLt ((T (m ||| 2 ^ i)).1 + (if dkDay dy m c + dy i ≤ dt i then 0 else 1)) ((T (m ||| 2 ^ i)).2 + (dkDay dy m c + dy i)) p.1 p.2.1 then some ((T (m ||| 2 ^ i)).1 + (if dkDay dy m c + dy i ≤ dt i then 0 else 1), (T (m ||| 2 ^ i)).2 + (dkDay dy m c + dy i), i) else some p
theorem dkStep_cg {dy dt : Nat → Int} {T T' : Nat → Int × Int} {c m : Nat} (hc : c ≤ 7) (hm : m < 2 ^ c) (h : ∀ x, m < x → x < 2 ^ c → T x = T' x) : ∀ i : Nat, i ≤ c → dkStep dy dt T c m i = dkStep dy dt T' c m i
  | 0, _ => rfl
  | i + 1, hi => by
    have e := dkStep_cg (dy := dy) (dt := dt) hc hm h i (by omega)
    have p2 := mk_p2 c (by omega)
    unfold dkStep
    by_cases z : m.testBit i = true
    · rw [if_pos z, if_pos z]; exact e
    · have z' : m.testBit i = false := by cases y : m.testBit i with
        | true => exact absurd y z
        | false => rfl
      rw [if_neg z, if_neg z, e, h _ (mk_gt m (by omega) i (by omega) z') (mk_lt hm (by omega))]
theorem dkStep_none {dy dt : Nat → Int} {T : Nat → Int × Int} {c m : Nat} : ∀ i : Nat, dkStep dy dt T c m i = none → ∀ j, j < i → m.testBit j = true
  | 0, _, j, hj => by omega
  | i + 1, h, j, hj => by
    unfold dkStep at h
    by_cases z : m.testBit i = true
    · rw [if_pos z] at h
      by_cases y : j = i
      · rw [y]; exact z
      · exact dkStep_none i h j (by omega)
    · rw [if_neg z] at h
      generalize (if dkDay dy m c + dy i ≤ dt i then (0 : Int) else 1) = E at h
      cases q : dkStep dy dt T c m i with
      | none => rw [q] at h; cases h
      | some p => rw [q] at h; dsimp only at h; split at h <;> cases h
theorem dkStep_ok {dy dt : Nat → Int} {T : Nat → Int × Int} {c m : Nat} (K : DkOk dy dt c) (hm : m < 2 ^ c) (hT : ∀ x, m < x → x < 2 ^ c → (0 ≤ (T x).1 ∧ (T x).1 ≤ c - mk_n x c) ∧ (0 ≤ (T x).2 ∧ (T x).2 ≤ 420 * (c - mk_n x c))) : ∀ i : Nat, i ≤ c → ∀ p, dkStep dy dt T c m i = some p → ((0 ≤ p.1 ∧ p.1 ≤ c - mk_n m c) ∧ (0 ≤ p.2.1 ∧ p.2.1 ≤ 420 * (c - mk_n m c))) ∧ p.2.2 < i ∧ m.testBit p.2.2 = false
  | 0, _, p, h => by cases h
  | i + 1, hi, p, h => by
    have hc := K.1
    have p2 := mk_p2 c (by omega)
    have ih := dkStep_ok K hm hT i (by omega)
    have rD := dkDay_rng (m := m) K c (Nat.le_refl c)
    have ri := K.2 i (by omega)
    unfold dkStep at h
    by_cases z : m.testBit i = true
    · rw [if_pos z] at h
      have := ih p h
      exact ⟨this.1, by omega, this.2.2⟩
    · have z' : m.testBit i = false := by cases y : m.testBit i with
        | true => exact absurd y z
        | false => rfl
      rw [if_neg z] at h
      have t := hT _ (mk_gt m (by omega) i (by omega) z') (mk_lt hm (by omega))
      have nn := mk_n_or z' c
      rw [if_pos (show i < c by omega)] at nn
      have nl := mk_n_le (m ||| 2 ^ i) c
      rw [nn] at t nl
      have rD2 := dkDay_rng (m := m ||| 2 ^ i) K c (Nat.le_refl c)
      rw [dkDay_or z' c, if_pos (show i < c by omega)] at rD2
      obtain ⟨E, hE⟩ : ∃ E : Int, E = (if dkDay dy m c + dy i ≤ dt i then (0 : Int) else 1) := ⟨_, rfl⟩
      have rE : 0 ≤ E ∧ E ≤ 1 := by rw [hE]; split <;> omega
      rw [← hE] at h
      have new : ∀ q : Int × Int × Nat, q = ((T (m ||| 2 ^ i)).1 + E, (T (m ||| 2 ^ i)).2 + (dkDay dy m c + dy i), i) → ((0 ≤ q.1 ∧ q.1 ≤ c - mk_n m c) ∧ (0 ≤ q.2.1 ∧ q.2.1 ≤ 420 * (c - mk_n m c))) ∧ q.2.2 < i + 1 ∧ m.testBit q.2.2 = false := by
        intro q hq
        subst hq
        dsimp only
        exact ⟨⟨by omega, by omega⟩, by omega, z'⟩
      cases e : dkStep dy dt T c m i with
      | none =>
        rw [e] at h
        exact new p (Option.some.inj h).symm
      | some q =>
        rw [e] at h
        dsimp only at h
        split at h
        · exact new p (Option.some.inj h).symm
        · have hp := Option.some.inj h
          subst hp
          have := ih q e
          exact ⟨this.1, by omega, this.2.2⟩
/-- the boats that are told for the dock, in their order -/
def dkL (f : Nat → Int) : Nat → Nat × (Nat → Nat)
  | 0 => (0, fun _ => 0)
  | b + 1 => if 0 < f b then ((dkL f b).1 + 1, ud (dkL f b).2 (dkL f b).1 b) else dkL f b
theorem dkL_ok {f : Nat → Int} : ∀ b : Nat, (dkL f b).1 ≤ b ∧ ∀ i, i < (dkL f b).1 → (dkL f b).2 i < b ∧ 0 < f ((dkL f b).2 i)
  | 0 => ⟨Nat.le_refl 0, fun i hi => by unfold dkL at hi; omega⟩
  | b + 1 => by
    have ih := dkL_ok (f := f) b
    unfold dkL
    by_cases z : 0 < f b
    · rw [if_pos z]
      dsimp only
      refine ⟨by omega, fun i hi => ?_⟩
      by_cases y : i = (dkL f b).1
      · rw [y, ud_at]; exact ⟨by omega, z⟩
      · rw [ud_lt (by omega)]
        have := ih.2 i (by omega)
        exact ⟨by omega, this.2⟩
    · rw [if_neg z]
      refine ⟨by omega, fun i hi => ?_⟩
      have := ih.2 i hi
      exact ⟨by omega, this.2⟩
theorem dkL_sm {g : AG} : ∀ b : Nat, ((dkL (g 98) b).1 : Int) = sm (dkF g) b
  | 0 => rfl
  | b + 1 => by
    have ih := dkL_sm (g := g) b
    show _ = sm (dkF g) b + dkF g b
    rw [← ih]
    have e1 : dkL (g 98) (b + 1) = if 0 < g 98 b then ((dkL (g 98) b).1 + 1, ud (dkL (g 98) b).2 (dkL (g 98) b).1 b) else dkL (g 98) b := rfl
    have e2 : dkF g b = if 0 < g 98 b then 1 else 0 := rfl
    rw [e1, e2]
    by_cases z : 0 < g 98 b
    · rw [if_pos z, if_pos z]; rfl
    · rw [if_neg z, if_neg z]; omega
theorem dkL_end {f : Nat → Int} {N : Nat} : ∀ b : Nat, N ≤ b → (∀ x, N ≤ x → x < b → f x = 0) → dkL f b = dkL f N
  | 0, h, _ => by rw [show N = 0 by omega]
  | b + 1, h, q => by
    by_cases e : N = b + 1
    · rw [e]
    · have e1 : dkL f (b + 1) = dkL f b := by
        show (if 0 < f b then _ else dkL f b) = _
        rw [if_neg (by rw [q b (by omega) (by omega)]; decide)]
      rw [e1]
      exact dkL_end (f := f) (N := N) b (by omega) (fun x h1 h2 => q x h1 (by omega))
