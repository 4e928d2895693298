/-! plain programs: maybe; what the boat reaches -/
theorem nw_iff {x y : Int} : nw x = nw y ↔ (x - y) % 4294967296 = 0 := by
  unfold nw
  simp only [Int.bmod]
  constructor
  · intro h
    split at h <;> split at h <;> omega
  · intro h
    split <;> split <;> omega
theorem nw_add {x x' y y' : Int} (h1 : nw x = nw x') (h2 : nw y = nw y') : nw (x + y) = nw (x' + y') := by
  rw [nw_iff] at *
  omega
theorem nw_mulc {x x' : Int} (c : Int) (h : nw x = nw x') : nw (c * x) = nw (c * x') := by
  rw [nw_iff] at *
  rw [← Int.mul_sub]
  have : (x - x') = 4294967296 * ((x - x') / 4294967296) := by omega
  rw [this, ← Int.mul_assoc, Int.mul_comm c, Int.mul_assoc]
  exact Int.mul_emod_right _ _
section REACH
variable {ok : TOK} {tu : Nat → Bool} {mi lk : Nat → Int} {la : Int}
theorem thF_fst {i : Nat} {up : Bool} {p q : Int × List Int} (h : p.1 = q.1) : (thF ok tu mi lk la i up p).1 = (thF ok tu mi lk la i up q).1 := by
  unfold thF
  rw [h]
  exact lkF_fst _ _ _ _
theorem upF_fst : ∀ (n a : Nat) (p q : Int × List Int), p.1 = q.1 → (upF ok tu mi lk la n a p).1 = (upF ok tu mi lk la n a q).1
  | 0, _, _, _, h => h
  | n + 1, a, p, q, h => upF_fst n (a + 1) _ _ (thF_fst h)
theorem dnF_fst : ∀ (n a : Nat) (p q : Int × List Int), p.1 = q.1 → (dnF ok tu mi lk la n a p).1 = (dnF ok tu mi lk la n a q).1
  | 0, _, _, _, h => h
  | n + 1, a, p, q, h => dnF_fst n (a - 1) _ _ (thF_fst h)
theorem upF_last : ∀ (n a : Nat) (p : Int × List Int), upF ok tu mi lk la (n + 1) a p = thF ok tu mi lk la (a + n) true (upF ok tu mi lk la n a p)
  | 0, _, _ => rfl
  | n + 1, a, p => by
    show upF ok tu mi lk la (n + 1) (a + 1) (thF ok tu mi lk la a true p) = _
    rw [upF_last n (a + 1), show a + 1 + n = a + (n + 1) by omega]
    rfl
theorem dnF_last : ∀ (n a : Nat) (p : Int × List Int), dnF ok tu mi lk la (n + 1) a p = thF ok tu mi lk la (a - n - 1) false (dnF ok tu mi lk la n a p)
  | 0, _, _ => rfl
  | n + 1, a, p => by
    show dnF ok tu mi lk la (n + 1) (a - 1) (thF ok tu mi lk la (a - 1) false p) = _
    rw [dnF_last n (a - 1), show a - 1 - n - 1 = a - (n + 1) - 1 by omega]
    rfl
theorem led_up {a c : Nat} {t : Int} (h : a ≤ c) : (ledF ok tu mi lk la a (c + 1) (t, [])).1 = (thF ok tu mi lk la c true ((ledF ok tu mi lk la a c (t, [])).1, [])).1 := by
  unfold ledF
  rw [show a - (c + 1) = 0 by omega, show a - c = 0 by omega, show c + 1 - a = (c - a) + 1 by omega]
  show (upF ok tu mi lk la (c - a + 1) a (t, [])).1 = (thF ok tu mi lk la c true ((upF ok tu mi lk la (c - a) a (t, [])).1, [])).1
  rw [upF_last, show a + (c - a) = c by omega]
  exact thF_fst rfl
theorem led_dn {a c : Nat} {t : Int} (h : c < a) : (ledF ok tu mi lk la a c (t, [])).1 = (thF ok tu mi lk la c false ((ledF ok tu mi lk la a (c + 1) (t, [])).1, [])).1 := by
  unfold ledF
  rw [show c - a = 0 by omega, show c + 1 - a = 0 by omega, show a - c = (a - (c + 1)) + 1 by omega]
  show (dnF ok tu mi lk la (a - (c + 1) + 1) a (t, [])).1 = (thF ok tu mi lk la c false ((dnF ok tu mi lk la (a - (c + 1)) a (t, [])).1, [])).1
  rw [dnF_last, show a - (a - (c + 1)) - 1 = c by omega]
  exact thF_fst rfl
theorem led_self {a : Nat} {t : Int} : (ledF ok tu mi lk la a a (t, [])).1 = t := by
  unfold ledF
  rw [show a - a = 0 by omega]
  rfl
theorem led_up_m1 {a c c' : Nat} {t : Int} (h : a ≤ c) (h2 : c ≤ c') (e : (ledF ok tu mi lk la a c (t, [])).1 = -1) : (ledF ok tu mi lk la a c' (t, [])).1 = -1 := by
  obtain ⟨n, rfl⟩ : ∃ n, c' = c + n := ⟨c' - c, by omega⟩
  clear h2
  induction n with
  | zero => exact e
  | succ n ih => rw [show c + (n + 1) = (c + n) + 1 by omega, led_up (by omega), ih, thF_m1]
theorem led_dn_m1 {a c c' : Nat} {t : Int} (h : c ≤ a) (h2 : c' ≤ c) (e : (ledF ok tu mi lk la a c (t, [])).1 = -1) : (ledF ok tu mi lk la a c' (t, [])).1 = -1 := by
  obtain ⟨n, hn⟩ : ∃ n, c = c' + n := ⟨c - c', by omega⟩
  induction n generalizing c' with
  | zero => rw [show c' = c by omega]; exact e
  | succ n ih => rw [led_dn (by omega), ih (c' := c' + 1) (by omega) (by omega), thF_m1]
/-- the walk outward -/
theorem reach_dn {x2 : Int} : ∀ (n a : Nat) (g : AG), XI g ok tu mi lk la → n = a → a ≤ 15 → (∀ p : Nat, p < 16 → TmOk (g 46 p)) → ∃ g', Voyage_reach_b x2 2 a g = some (0, g') ∧ FR [(46, 0), (47, 0)] g g' ∧ (∀ p : Nat, a ≤ p → g' 46 p = g 46 p) ∧ (∀ p : Nat, p < a → g' 46 p = (thF ok tu mi lk la p false (g' 46 (p + 1), [])).1) ∧ (∀ p : Nat, p < 16 → TmOk (g' 46 p)) := by
  intro n
  induction n with
  | zero =>
    intro a g X hn ha hT
    subst hn
    refine ⟨g, ?_, Fr.rf, fun p _ => rfl, fun p hp => by omega, hT⟩
    rw [Voyage_reach_b]
    simp (disch := omega) only [nw_id, ix_id, sb, if_true, if_false, if_pos, if_neg, true_and, and_true, false_and, and_false, and_self]
  | succ n ih =>
    intro a g X hn ha hT
    obtain ⟨g1, e1, f1, _⟩ := X_pass_s (i := a - 1) (by omega) (u := 0) (Or.inl rfl) [] X (hT a (by omega))
    have tm := thF_tm (i := a - 1) (by omega) (up := false) (ds := []) X (hT a (by omega))
    have f2 : FR [(46, 0), (47, 0)] g (up g1 46 (a - 1) (thF ok tu mi lk la (a - 1) false (g 46 a, [])).1) := Fr.up (f1.mo rfl) rfl
    obtain ⟨g2, e2, f3, p3, q3, t3⟩ := ih (a - 1) _ (X.fr f2 rfl) (by omega) (by omega) (by
      intro p hp
      simp only [up_at, true_and]
      by_cases e : p = a - 1
      · rw [if_pos e]; exact tm
      · rw [if_neg e, f1 46 p rfl]; exact hT p hp)
    have na : ((a - 1 : Nat) : Int) = (a : Int) - 1 := by omega
    have na2 : ((a - 1 : Nat) : Int) = (a : Int) + -1 := by omega
    have na3 : ((a : Int) - 1).toNat = a - 1 := by omega
    rw [na] at e1
    rw [na2] at e2
    refine ⟨g2, ?_, f2.tr f3, ?_, ?_, t3⟩
    · rw [Voyage_reach_b]
      simp (disch := omega) only [nw_id, ix_id, sb, if_true, if_false, if_pos, if_neg, true_and, and_true, false_and, and_false, and_self, Int.toNat_natCast, e1, na3]
      exact e2
    · intro p hp
      rw [p3 p (by omega)]
      simp only [up_at, true_and]
      rw [if_neg (by omega), f1 46 p rfl]
    · intro p hp
      by_cases e : p = a - 1
      · subst e
        rw [p3 (a - 1) (by omega), p3 (a - 1 + 1) (by omega)]
        simp only [up_at, true_and]
        rw [if_pos trivial, if_neg (by omega), f1 46 _ rfl, show a - 1 + 1 = a by omega]
      · exact q3 p (by omega)
theorem reach_up {a0 : Nat} : ∀ (n a : Nat) (g : AG), XI g ok tu mi lk la → n + a = 15 → a0 ≤ a → (∀ p : Nat, p < 16 → TmOk (g 46 p)) → ∃ g', Voyage_reach_b a0 1 a g = some (0, g') ∧ FR [(46, 0), (47, 0)] g g' ∧ (∀ p : Nat, a0 ≤ p → p ≤ a → g' 46 p = g 46 p) ∧ (∀ p : Nat, a ≤ p → p < 15 → g' 46 (p + 1) = (thF ok tu mi lk la p true (g' 46 p, [])).1) ∧ (∀ p : Nat, p < a0 → g' 46 p = (thF ok tu mi lk la p false (g' 46 (p + 1), [])).1) ∧ (∀ p : Nat, p < 16 → TmOk (g' 46 p)) := by
  intro n
  induction n with
  | zero =>
    intro a g X hn ha hT
    obtain ⟨g2, e2, f3, p3, q3, t3⟩ := reach_dn (x2 := a0) a0 a0 g X rfl (by omega) hT
    refine ⟨g2, ?_, f3, fun p h1 h2 => p3 p h1, fun p h1 h2 => by omega, q3, t3⟩
    rw [Voyage_reach_b]
    simp (disch := omega) only [nw_id, ix_id, sb, if_true, if_false, if_pos, if_neg, true_and, and_true, false_and, and_false, and_self]
    exact e2
  | succ n ih =>
    intro a g X hn ha hT
    obtain ⟨g1, e1, f1, _⟩ := X_pass_s (i := a) (by omega) (u := 1) (Or.inr rfl) [] X (hT a (by omega))
    have tm := thF_tm (i := a) (by omega) (up := true) (ds := []) X (hT a (by omega))
    have f2 : FR [(46, 0), (47, 0)] g (up g1 46 (a + 1) (thF ok tu mi lk la a true (g 46 a, [])).1) := Fr.up (f1.mo rfl) rfl
    obtain ⟨g2, e2, f3, p3, q3, r3, t3⟩ := ih (a + 1) _ (X.fr f2 rfl) (by omega) (by omega) (by
      intro p hp
      simp only [up_at, true_and]
      by_cases e : p = a + 1
      · rw [if_pos e]; exact tm
      · rw [if_neg e, f1 46 p rfl]; exact hT p hp)
    rw [show ((a + 1 : Nat) : Int) = (a : Int) + 1 from rfl] at e2
    have na3 : ((a : Int) + 1).toNat = a + 1 := by omega
    refine ⟨g2, ?_, f2.tr f3, ?_, ?_, r3, t3⟩
    · rw [Voyage_reach_b]
      simp (disch := omega) only [nw_id, ix_id, sb, if_true, if_false, if_pos, if_neg, true_and, and_true, false_and, and_false, and_self, Int.toNat_natCast, e1, na3]
      exact e2
    · intro p h1 h2
      rw [p3 p h1 (by omega)]
      simp only [up_at, true_and]
      rw [if_neg (by omega), f1 46 p rfl]
    · intro p h1 h2
      by_cases e : p = a
      · subst e
        rw [p3 (p + 1) (by omega) (by omega), p3 p (by omega) (by omega)]
        simp only [up_at, true_and]
        rw [if_pos trivial, if_neg (by omega), f1 46 _ rfl]
      · exact q3 p (by omega) h2
end REACH
theorem X_reach_s {a : Nat} {ta t : Int} {g : AG} (V : JV g) (ha : a ≤ 15) (ht : 0 ≤ ta ∧ ta ≤ 60) (htm : TmOk t) (hA : ∀ p : Nat, p < 16 → TmOk (g 46 p)) : ∃ g', Voyage_reach ta a t g = some (0, g') ∧ FR WA g g' ∧ (∀ p : Nat, p < 16 → g' 46 p = ldM g ta a p t) ∧ (∀ p : Nat, p < 16 → TmOk (g' 46 p)) := by
  obtain ⟨g1, e1, f1, a1, a2, a3⟩ := setOut_s (g := g) (ta := ta) (hd := 1) ht (Or.inr rfl)
  have f2 : FR WA g (up g1 46 a t) := Fr.up (f1.mo rfl) rfl
  have f2' : FR [(46, 0)] g1 (up g1 46 a t) := Fr.up Fr.rf rfl
  have V1 : JV (up g1 46 a t) := V.fr f2 rfl
  have h57 : (up g1 46 a t) 5 7 = 1 := by rw [f2' 5 7 rfl]; exact a2
  have X := XI.of (g := up g1 46 a t) (la := laF ta) V1 (Or.inr h57) (by rw [f2' 5 6 rfl]; exact a1) (by unfold laF; omega)
  have k1 : sdX (up g1 46 a t) = stpM g := by
    unfold sdX
    rw [if_pos h57, stpM_fr f2 rfl]
  have k2 : okM (up g1 46 a t) (sdX (up g1 46 a t)) = okM g (stpM g) := by rw [k1, okM_fr f2 rfl]
  have k3 : tuM (up g1 46 a t) = tuM g := by funext i; unfold tuM; rw [f2.cell (k := 144) (fun _ => rfl)]
  have k4 : (up g1 46 a t) 118 = g 118 := f2.cell (fun _ => rfl)
  have k5 : (up g1 46 a t) 119 = g 119 := f2.cell (fun _ => rfl)
  rw [k2, k3, k4, k5] at X
  obtain ⟨g2, e2, f3, p3, q3, r3, t3⟩ := reach_up (a0 := a) (15 - a) a (up g1 46 a t) X (by omega) (Nat.le_refl _) (by
    intro p hp
    simp only [up_at, true_and]
    by_cases e : p = a
    · rw [if_pos e]; exact htm
    · have : g1 46 p = g 46 p := f1 46 p rfl
      rw [if_neg e, this]; exact hA p hp)
  refine ⟨g2, ?_, f2.tr (f3.mo rfl), ?_, t3⟩
  · unfold Voyage_reach
    simp (disch := omega) only [nw_id, ix_id, sb, if_true, if_false, if_pos, if_neg, true_and, and_true, false_and, and_false, and_self, e1, Int.toNat_natCast]
    exact e2
  · have base : g2 46 a = t := by rw [p3 a (Nat.le_refl _) (Nat.le_refl _)]; simp [up_at]
    have up' : ∀ n : Nat, a + n < 16 → g2 46 (a + n) = ldM g ta a (a + n) t := by
      intro n
      induction n with
      | zero => intro _; rw [show a + 0 = a by omega, base]; unfold ldM; rw [led_self]
      | succ n ih =>
        intro h
        have := ih (by omega)
        rw [show a + (n + 1) = (a + n) + 1 by omega, q3 (a + n) (by omega) (by omega), this]
        unfold ldM
        rw [led_up (by omega)]
    have dn' : ∀ n : Nat, n ≤ a → g2 46 (a - n) = ldM g ta a (a - n) t := by
      intro n
      induction n with
      | zero => intro _; rw [show a - 0 = a by omega, base]; unfold ldM; rw [led_self]
      | succ n ih =>
        intro h
        have := ih (by omega)
        rw [r3 (a - (n + 1)) (by omega), show a - (n + 1) + 1 = a - n by omega, this]
        unfold ldM
        rw [led_dn (a := a) (c := a - (n + 1)) (by omega), show a - (n + 1) + 1 = a - n by omega]
    intro p hp
    by_cases e : a ≤ p
    · have := up' (p - a) (by omega)
      rw [show a + (p - a) = p by omega] at this
      exact this
    · have := dn' (a - p) (by omega)
      rw [show a - (a - p) = p by omega] at this
      exact this
theorem reached_s {x1 : Int} {g : AG} (hx : 0 ≤ x1 ∧ x1 ≤ 20159) (hA : ∀ p : Nat, p < 16 → TmOk (g 46 p)) : ∀ (n k : Nat) (v : Int), k + n = 16 → ∃ r, Voyage_reached_b x1 g v k = some r ∧ ∀ i, i < 32 → tb r i = (tb v i || decide (k ≤ i ∧ i < 16 ∧ ¬ g 46 i = -1 ∧ g 46 i ≤ x1)) := by
  intro n
  induction n with
  | zero =>
    intro k v h
    refine ⟨v, ?_, fun i hi => ?_⟩
    · rw [Voyage_reached_b]
      simp (disch := omega) only [nw_id, ix_id, sb, if_true, if_false, if_pos, if_neg, true_and, and_true, false_and, and_false, and_self]
    · have : ¬ (k ≤ i ∧ i < 16 ∧ ¬ g 46 i = -1 ∧ g 46 i ≤ x1) := by omega
      simp [this]
  | succ n ih =>
    intro k v h
    have tm := hA k (by omega)
    unfold TmOk at tm
    by_cases c : ¬ g 46 k = -1 ∧ g 46 k ≤ x1
    · obtain ⟨r, e1, e2⟩ := ih (k + 1) (orI v (shlI 1 k)) (by omega)
      rw [show ((k + 1 : Nat) : Int) = (k : Int) + 1 from rfl] at e1
      refine ⟨r, ?_, fun i hi => ?_⟩
      · rw [Voyage_reached_b]
        simp (disch := omega) only [nw_id, ix_id, sb, if_true, if_false, if_pos, if_neg, true_and, and_true, false_and, and_false, and_self, Int.toNat_natCast]
        exact e1
      · rw [e2 i hi, tb_or, tb_shl1 k (by omega) hi]
        by_cases e : i = k
        · subst e
          have : i ≤ i ∧ i < 16 ∧ ¬ g 46 i = -1 ∧ g 46 i ≤ x1 := ⟨Nat.le_refl _, by omega, c⟩
          simp [this]
        · have e3 : (k + 1 ≤ i ∧ i < 16 ∧ ¬ g 46 i = -1 ∧ g 46 i ≤ x1) ↔ (k ≤ i ∧ i < 16 ∧ ¬ g 46 i = -1 ∧ g 46 i ≤ x1) := by omega
          simp only [e3, e, decide_false, Bool.or_false]
    · obtain ⟨r, e1, e2⟩ := ih (k + 1) v (by omega)
      rw [show ((k + 1 : Nat) : Int) = (k : Int) + 1 from rfl] at e1
      refine ⟨r, ?_, fun i hi => ?_⟩
      · rw [Voyage_reached_b]
        by_cases e : g 46 k = -1
        · clear tm
          simp (disch := omega) only [nw_id, ix_id, sb, if_true, if_false, if_pos, if_neg, true_and, and_true, false_and, and_false, and_self, Int.toNat_natCast, e]
          exact e1
        · have : x1 < g 46 k := by omega
          simp (disch := omega) only [nw_id, ix_id, sb, if_true, if_false, if_pos, if_neg, true_and, and_true, false_and, and_false, and_self, Int.toNat_natCast]
          exact e1
      · rw [e2 i hi]
        by_cases e : i = k
        · subst e
          have h1 : ¬ (i + 1 ≤ i ∧ i < 16 ∧ ¬ g 46 i = -1 ∧ g 46 i ≤ x1) := by omega
          have h2 : ¬ (i ≤ i ∧ i < 16 ∧ ¬ g 46 i = -1 ∧ g 46 i ≤ x1) := fun q => c q.2.2
          simp only [h1, h2]
        · have e3 : (k + 1 ≤ i ∧ i < 16 ∧ ¬ g 46 i = -1 ∧ g 46 i ≤ x1) ↔ (k ≤ i ∧ i < 16 ∧ ¬ g 46 i = -1 ∧ g 46 i ≤ x1) := by omega
          simp only [e3]
theorem M_maybe_b_s {b a : Nat} {sn tm : Int} (hb : b < 10) (ha : a ≤ 15) (hs : 0 ≤ sn ∧ sn ≤ 20159) (htm : 0 ≤ tm ∧ tm ≤ 20159) : ∀ (n k : Nat) (v : Int) (g : AG), k + n = 16 → JV g → JFlag g → (0 ≤ g 127 b ∧ g 127 b ≤ 60) → ∃ r g', M_maybe_b b a sn tm v k g = some (r, g') ∧ FR [(147, 0), (148, 0), (117, 49)] g g' ∧ ∀ i, i < 32 → tb r i = (tb v i || decide (k ≤ i ∧ i < 16 ∧ ¬ ldM g (g 127 b) a i sn = -1 ∧ ldM g (g 127 b) a i sn ≤ tm)) := by
  intro n
  induction n with
  | zero =>
    intro k v g h V hf ht
    refine ⟨v, g, ?_, Fr.rf, fun i hi => ?_⟩
    · rw [M_maybe_b]
      simp (disch := omega) only [nw_id, ix_id, sb, if_true, if_false, if_pos, if_neg, true_and, and_true, false_and, and_false, and_self]
    · have : ¬ (k ≤ i ∧ i < 16 ∧ ¬ ldM g (g 127 b) a i sn = -1 ∧ ldM g (g 127 b) a i sn ≤ tm) := fun q => by have := q.1; have := q.2.1; omega
      simp [this]
  | succ n ih =>
    intro k v g h V hf ht
    obtain ⟨g1, e1, f1⟩ := M_led1 (b := b) (a := a) (c := k) (t := sn) V hf hb ha (by omega) ht (Or.inr hs)
    have lt := ldM_tm (g := g) (a := a) (c := k) (ta := g 127 b) (t := sn) V ha (by omega) ht (Or.inr hs)
    have hL : ldM g1 = ldM g := ldM_fr f1 rfl
    have step : ∀ w : Int, (∀ i, i < 32 → tb w i = (tb v i || decide (i = k ∧ ¬ ldM g (g 127 b) a k sn = -1 ∧ ldM g (g 127 b) a k sn ≤ tm))) → ∃ r g', M_maybe_b b a sn tm w ((k : Int) + 1) g1 = some (r, g') ∧ FR [(147, 0), (148, 0), (117, 49)] g g' ∧ ∀ i, i < 32 → tb r i = (tb v i || decide (k ≤ i ∧ i < 16 ∧ ¬ ldM g (g 127 b) a i sn = -1 ∧ ldM g (g 127 b) a i sn ≤ tm)) := by
      intro w hw
      obtain ⟨r, g2, e2, f2, q2⟩ := ih (k + 1) w g1 (by omega) (V.fr f1 rfl) (by unfold JFlag; rw [f1 117 47 rfl]; exact hf) (by rw [f1 127 b rfl]; exact ht)
      refine ⟨r, g2, e2, f1.tr f2, fun i hi => ?_⟩
      rw [q2 i hi, hw i hi, hL, f1 127 b rfl]
      by_cases e : i = k
      · subst e
        have h1 : ¬ (i + 1 ≤ i) := by omega
        have h2 : i < 16 := by omega
        simp only [h1, h2, decide_false, Bool.or_false, true_and, Nat.le_refl, false_and]
      · have e3 : (k + 1 ≤ i ∧ i < 16 ∧ ¬ ldM g (g 127 b) a i sn = -1 ∧ ldM g (g 127 b) a i sn ≤ tm) ↔ (k ≤ i ∧ i < 16 ∧ ¬ ldM g (g 127 b) a i sn = -1 ∧ ldM g (g 127 b) a i sn ≤ tm) := ⟨fun q => ⟨by have := q.1; omega, q.2⟩, fun q => ⟨by have := q.1; omega, q.2⟩⟩
        simp only [e3, e, false_and, decide_false, Bool.or_false]
    rw [M_maybe_b]
    have c0 : ¬ 16 ≤ nw (k : Int) := by rw [nw_id (by omega) (by omega)]; omega
    rw [if_neg c0, e1, sb]
    clear c0
    dsimp only
    unfold TmOk at lt
    generalize ldM g (g 127 b) a k sn = L at lt step ⊢
    refine step _ (fun i hi => ?_)
    rw [tb_or]
    congr 1
    by_cases c1 : L = -1
    · subst c1
      rw [nw_m1, if_pos rfl, tb_0]
      simp
    · have c2 : 0 ≤ L ∧ L ≤ 20159 := by omega
      clear lt step
      simp (disch := omega) only [nw_id, ix_id, sb, if_true, if_false, if_pos, if_neg, true_and, and_true, false_and, and_false, and_self]
      by_cases c3 : tm < L
      · simp (disch := omega) only [nw_id, ix_id, sb, if_true, if_false, if_pos, if_neg, true_and, and_true, false_and, and_false, and_self, tb_0]
        simp
        omega
      · simp (disch := omega) only [nw_id, ix_id, sb, if_true, if_false, if_pos, if_neg, true_and, and_true, false_and, and_false, and_self, tb_shl1 k (by omega) hi]
        by_cases e : i = k
        · simp [e]; omega
        · simp [e]
