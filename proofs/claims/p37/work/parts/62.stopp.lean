/-! plain programs: stoppages told -/
theorem stpN_snoc (a b c : Nat → Int) (i d : Int) : ∀ n s, stpN a b c i d (n + 1) s = (stpN a b c i d n s || decide (a (s + n) = i ∧ b (s + n) ≤ d ∧ d ≤ c (s + n)))
  | 0, s => by
    show (decide (a s = i ∧ b s ≤ d ∧ d ≤ c s) || false) = (false || decide (a (s + 0) = i ∧ b (s + 0) ≤ d ∧ d ≤ c (s + 0)))
    rw [Bool.or_false, Bool.false_or]
    rfl
  | n + 1, s => by
    show (decide (a s = i ∧ b s ≤ d ∧ d ≤ c s) || stpN a b c i d (n + 1) (s + 1)) = ((decide (a s = i ∧ b s ≤ d ∧ d ≤ c s) || stpN a b c i d n (s + 1)) || _)
    rw [stpN_snoc a b c i d n (s + 1), Bool.or_assoc, show s + 1 + n = s + (n + 1) by omega]
theorem stpN_cg {a b c a' b' c' : Nat → Int} {i d : Int} : ∀ n s, (∀ t, s ≤ t → t < s + n → a' t = a t ∧ b' t = b t ∧ c' t = c t) → stpN a' b' c' i d n s = stpN a b c i d n s
  | 0, _, _ => rfl
  | n + 1, s, h => by
    have q := h s (Nat.le_refl s) (by omega)
    show (decide (a' s = i ∧ b' s ≤ d ∧ d ≤ c' s) || stpN a' b' c' i d n (s + 1)) = _
    rw [q.1, q.2.1, q.2.2, stpN_cg n (s + 1) (fun t h1 h2 => h t (by omega) (by omega))]
    rfl
theorem X_stop_s {i e : Nat} (hi : i < 15) (he : e ≤ 13) : ∀ (n k : Nat) (g : AG), k + n = e + 1 → ∃ g', Canal_stop_b i e k g = some (0, g') ∧ FR [(1, 5), (16, 0)] g g' ∧ g' 1 4 = g 1 4 + 1 ∧ ∀ j d : Nat, d < 14 → tb (g' 16 j) d = (tb (g 16 j) d || decide (j = i ∧ k ≤ d ∧ d ≤ e)) := by
  intro n
  induction n with
  | zero =>
    intro k g h
    have : k = e + 1 := by omega
    subst this
    refine ⟨up g 1 4 (g 1 4 + 1), ?_, Fr.up Fr.rf rfl, by rw [up_at, if_pos ⟨rfl, rfl⟩], fun j d hd => ?_⟩
    · rw [Canal_stop_b, if_pos (by rw [nw_id (by omega) (by omega), nw_id (by omega) (by omega)]; omega), sb]
    · rw [up_at, if_neg (fun z => absurd z.1 (by decide)), show decide (j = i ∧ e + 1 ≤ d ∧ d ≤ e) = false from decide_eq_false (by omega), Bool.or_false]
  | succ n ih =>
    intro k g h
    have c0 : ¬ nw (e : Int) < nw (k : Int) := by rw [nw_id (by omega) (by omega), nw_id (by omega) (by omega)]; omega
    have c1 : 0 ≤ nw (i : Int) ∧ nw (i : Int) < 15 := by clear c0; rw [nw_id (by omega) (by omega)]; omega
    have c2 : ix (i : Int) = i := by clear c0 c1; rw [ix_id (by omega) (by omega), Int.toNat_natCast]
    obtain ⟨g', e1, f1, p1, q1⟩ := ih (k + 1) (up g 16 i (orI (g 16 i) (shlI 1 k))) (by clear c0 c1 c2; omega)
    refine ⟨g', ?_, (Fr.up Fr.rf rfl : FR [(1, 5), (16, 0)] g _).tr f1, ?_, fun j d hd => ?_⟩
    · rw [show ((k + 1 : Nat) : Int) = (k : Int) + 1 from rfl] at e1
      rw [← e1, Canal_stop_b, if_neg c0, if_pos c1, c2, sb]
    · rw [p1, up_at, if_neg (fun z => absurd z.1 (by decide))]
    · rw [q1 j d hd, up_at]
      clear c0 c1 c2
      by_cases z : j = i
      · rw [if_pos ⟨rfl, z⟩, tb_or, tb_shl1 k (by omega) (show d < 32 by omega), z, Bool.or_assoc]
        congr 1
        by_cases y : d = k
        · rw [decide_eq_true y, Bool.true_or, eq_comm, decide_eq_true_eq]; omega
        · rw [decide_eq_false y, Bool.false_or]
          exact decide_eq_decide.2 (by omega)
      · rw [if_neg (fun w => z w.2)]
        congr 1
        exact decide_eq_decide.2 (by omega)
theorem sm_stoppage {x1 x2 x3 : Int} {g : AG} (h1 : I32 x1) (h2 : I32 x2) (h3 : I32 x3) (S : JStop g) :
    ∃ r1 r2, X_stoppage x1 x2 x3 g = some r1 ∧ M_stoppage x1 x2 x3 r1.2 = some r2 ∧ nw r1.1 = nw r2.1 ∧ JStop r2.2 ∧ FR RStop g r2.2 := by
  have S0 := S
  obtain ⟨s1, ⟨s2, s3⟩, s4⟩ := S
  unfold I32 at *
  have n1 : nw x1 = x1 := nw_id (by omega) (by omega)
  have i1 : (nw (M_isIn x1 0 14) = 0) = (x1 < 0 ∨ 14 < x1) := by clear n1; exact isIn0 (by omega) (by omega) (by decide) (by decide) (by decide) (by decide)
  have w1 : (nw (X_within x1 0 14) = 0) = (x1 < 0 ∨ 14 < x1) := i1
  have i2 : (nw (M_isIn x2 0 13) = 0) = (x2 < 0 ∨ 13 < x2) := by clear n1 i1 w1; exact isIn0 (by omega) (by omega) (by decide) (by decide) (by decide) (by decide)
  have i3 : (nw (M_isIn x3 x2 13) = 0) = (x3 < x2 ∨ 13 < x3) := by clear n1 i1 w1 i2; exact isIn0 (by omega) (by omega) (by omega) (by omega) (by decide) (by decide)
  have n2 : nw x2 = x2 := by clear n1 i1 w1 i2 i3; exact nw_id (by omega) (by omega)
  have n3 : nw x3 = x3 := by clear n1 i1 w1 i2 i3 n2; exact nw_id (by omega) (by omega)
  have n4 : nw (g 1 4) = g 1 4 := by clear n1 i1 w1 i2 i3 n2 n3; exact nw_id (by omega) (by omega)
  by_cases m : x1 = -1
  · refine ⟨(0, up (fillG g 16 15 0) 1 4 0), (0, up (up (fillG g 16 15 0) 1 4 0) 117 11 0), ?_, ?_, rfl, ⟨?_, ⟨?_, ?_⟩, ?_⟩, Fr.up (Fr.up (Fr.fill Fr.rf (fun _ => rfl)) rfl) rfl⟩
    · unfold X_stoppage Canal_reopen
      rw [if_pos (by rw [n1]; exact m), sb, sb, sb]
    · unfold M_stoppage
      dsimp only
      rw [if_pos (by rw [n1]; exact m), sb]
    · simp [up_at]
    · simp [up_at]
    · intro s hs
      simp [up_at] at hs
      omega
    · intro i d hi hd
      have e0 : (up (up (fillG g 16 15 0) 1 4 0) 117 11 0) 16 i = 0 := by
        rw [up_at, if_neg (fun z => absurd z.1 (by decide)), up_at, if_neg (fun z => absurd z.1 (by decide)), fill_at, if_pos ⟨rfl, hi⟩]
      dsimp only
      rw [e0, tb_0]
      rfl
  by_cases ok : (0 ≤ x1 ∧ x1 ≤ 14) ∧ 0 ≤ x2 ∧ x2 ≤ x3 ∧ x3 ≤ 13 ∧ g 1 4 < 8
  · obtain ⟨i, hi⟩ := natOf ok.1.1
    obtain ⟨a, ha⟩ := natOf ok.2.1
    obtain ⟨e, he⟩ := natOf (show 0 ≤ x3 by clear n1 i1 w1 i2 i3 n2 n3 n4; omega)
    obtain ⟨N, hN⟩ := natOf s2.1
    have b1 : i < 15 := by clear n1 i1 w1 i2 i3 n2 n3 n4; omega
    have b2 : e ≤ 13 := by clear n1 i1 w1 i2 i3 n2 n3 n4; omega
    have b3 : a ≤ e := by clear n1 i1 w1 i2 i3 n2 n3 n4; omega
    have b4 : N < 8 := by clear n1 i1 w1 i2 i3 n2 n3 n4; omega
    obtain ⟨gX, eX, fX, pX, qX⟩ := X_stop_s b1 b2 (e + 1 - a) a g (by clear n1 i1 w1 i2 i3 n2 n3 n4; omega)
    have k11 : gX 117 11 = N := by rw [fX 117 11 rfl]; exact hN
    obtain ⟨gM, hM⟩ : ∃ gM : AG, gM = up (up (up (up gX 121 N x1) 122 N x2) 123 N x3) 117 11 ((N : Int) + 1) := ⟨_, rfl⟩
    have fM : FR RStop gX gM := by rw [hM]; exact Fr.up (Fr.up (Fr.up (Fr.up Fr.rf rfl) rfl) rfl) rfl
    have m11 : gM 117 11 = (N : Int) + 1 := by rw [hM, up_at, if_pos ⟨rfl, rfl⟩]
    have m14 : gM 1 4 = (N : Int) + 1 := by rw [hM]; simp only [up_at, Nat.reduceEqDiff, false_and, if_false]; rw [pX, ← s1, hN]
    have m16 : ∀ j, gM 16 j = gX 16 j := fun j => by rw [hM]; simp only [up_at, Nat.reduceEqDiff, false_and, if_false]
    have mA : ∀ j, gM 121 j = if j = N then x1 else g 121 j := fun j => by rw [hM]; simp only [up_at, Nat.reduceEqDiff, false_and, true_and, if_false]; rw [fX 121 j rfl]
    have mB : ∀ j, gM 122 j = if j = N then x2 else g 122 j := fun j => by rw [hM]; simp only [up_at, Nat.reduceEqDiff, false_and, true_and, if_false]; rw [fX 122 j rfl]
    have mC : ∀ j, gM 123 j = if j = N then x3 else g 123 j := fun j => by rw [hM]; simp only [up_at, Nat.reduceEqDiff, false_and, true_and, if_false]; rw [fX 123 j rfl]
    refine ⟨(gX 1 4, gX), ((N : Int) + 1, gM), ?_, ?_, ?_, ⟨?_, ⟨?_, ?_⟩, ?_⟩, (FR.mo fX rfl).tr fM⟩
    · unfold X_stoppage Canal_stop
      rw [if_neg (by rw [n1]; exact m), if_neg (by rw [w1]; clear n1 i1 w1 i2 i3 n2 n3 n4; omega), if_neg (by rw [n2]; clear n1 i1 w1 i2 i3 n2 n3 n4; omega), if_neg (by rw [n2, n3]; clear n1 i1 w1 i2 i3 n2 n3 n4; omega), if_pos (by rw [n3]; clear n1 i1 w1 i2 i3 n2 n3 n4; omega), if_pos (by rw [n4]; exact ok.2.2.2.2), hi, ha, he, eX, sb]
    · unfold M_stoppage
      dsimp only
      have d0 : 0 ≤ nw (N : Int) ∧ nw (N : Int) < 8 := by clear n1 i1 w1 i2 i3 n2 n3 n4; rw [nw_id (by omega) (by omega)]; omega
      have d1 : ix (N : Int) = N := by clear d0 n1 i1 w1 i2 i3 n2 n3 n4; rw [ix_id (by omega) (by omega), Int.toNat_natCast]
      have d2 : ¬ nw (N : Int) = 8 := by clear d0 d1 n1 i1 w1 i2 i3 n2 n3 n4; rw [nw_id (by omega) (by omega)]; omega
      have u1 : (up gX 121 N x1) 117 11 = N := by rw [up_at, if_neg (fun z => absurd z.1 (by decide))]; exact k11
      have u2 : (up (up gX 121 N x1) 122 N x2) 117 11 = N := by rw [up_at, if_neg (fun z => absurd z.1 (by decide))]; exact u1
      have u3 : (up (up (up gX 121 N x1) 122 N x2) 123 N x3) 117 11 = N := by rw [up_at, if_neg (fun z => absurd z.1 (by decide))]; exact u2
      rw [if_neg (by rw [n1]; exact m), if_neg (by rw [i1]; clear d0 d1 d2 n1 i1 w1 i2 i3 n2 n3 n4; omega), if_neg (by rw [i2]; clear d0 d1 d2 n1 i1 w1 i2 i3 n2 n3 n4; omega), if_neg (by rw [i3]; clear d0 d1 d2 n1 i1 w1 i2 i3 n2 n3 n4; omega), if_neg (by rw [k11]; exact d2), if_pos (by rw [k11]; exact d0), k11, d1, sb, if_pos (by rw [u1]; exact d0), u1, d1, sb, if_pos (by rw [u2]; exact d0), u2, d1, sb, u3, sb, ← hM, m11]
    · show nw (gX 1 4) = nw ((N : Int) + 1)
      rw [pX, ← s1, hN]
    · dsimp only; rw [m11, m14]
    · dsimp only; rw [m11]; clear n1 i1 w1 i2 i3 n2 n3 n4; omega
    · intro s hs
      dsimp only at hs ⊢
      rw [m11] at hs
      rw [mA, mB, mC]
      clear n1 i1 w1 i2 i3 n2 n3 n4
      by_cases z : s = N
      · rw [if_pos z, if_pos z, if_pos z]; omega
      · rw [if_neg z, if_neg z, if_neg z]; exact s3 s (by omega)
    · intro j d hj hd
      dsimp only
      rw [m16, qX j d hd, s4 j d hj hd]
      have cgN : stpN (gM 121) (gM 122) (gM 123) (j : Int) (d : Int) N 0 = stpN (g 121) (g 122) (g 123) (j : Int) (d : Int) N 0 := stpN_cg N 0 (fun t _ ht => by
        rw [mA, mB, mC, if_neg (by omega), if_neg (by omega), if_neg (by omega)]; exact ⟨rfl, rfl, rfl⟩)
      unfold stpM
      rw [m11, hN, show ((N : Int) + 1).toNat = N + 1 by clear n1 i1 w1 i2 i3 n2 n3 n4; omega, Int.toNat_natCast, stpN_snoc, cgN]
      rw [Nat.zero_add, mA, mB, mC, if_pos rfl, if_pos rfl, if_pos rfl]
      clear n1 i1 w1 i2 i3 n2 n3 n4
      congr 1
      exact decide_eq_decide.2 (by omega)
  · refine ⟨(-1, g), (-1, g), ?_, ?_, rfl, S0, Fr.rf⟩
    · unfold X_stoppage
      rw [if_neg (by rw [n1]; exact m)]
      by_cases z1 : x1 < 0 ∨ 14 < x1
      · rw [if_pos (by rw [w1]; exact z1)]
      rw [if_neg (by rw [w1]; exact z1), n2, n3, n4]
      clear n1 i1 w1 i2 i3 n2 n3 n4
      by_cases z2 : x2 < 0
      · rw [if_pos z2]
      rw [if_neg z2]
      by_cases z3 : x3 < x2
      · rw [if_pos z3]
      rw [if_neg z3]
      by_cases z4 : x3 < 14
      · rw [if_pos z4, if_neg (by omega)]
      rw [if_neg z4]
    · unfold M_stoppage
      dsimp only
      rw [if_neg (by rw [n1]; exact m)]
      by_cases z1 : x1 < 0 ∨ 14 < x1
      · rw [if_pos (by rw [i1]; exact z1)]
      rw [if_neg (by rw [i1]; exact z1)]
      by_cases z2 : x2 < 0 ∨ 13 < x2
      · rw [if_pos (by rw [i2]; exact z2)]
      rw [if_neg (by rw [i2]; exact z2)]
      by_cases z3 : x3 < x2 ∨ 13 < x3
      · rw [if_pos (by rw [i3]; exact z3)]
      rw [if_neg (by rw [i3]; exact z3), if_pos (by rw [s1, n4]; clear n1 i1 w1 i2 i3 n2 n3 n4; omega)]
