/-! plain programs: could, whose, tonight -/
theorem sm_could {x1 x2 x3 x4 : Int} {g : AG} (h1 : I32 x1) (h2 : I32 x2) (h3 : I32 x3) (h4 : I32 x4) (L : JL g) (hf : JFlag g) :
    ∃ r1 r2, X_could x1 x2 x3 x4 g = some r1 ∧ M_could x1 x2 x3 x4 r1.2 = some r2 ∧ nw r1.1 = nw r2.1 ∧ FR SCV g r2.2 := by
  unfold I32 at *
  have B := L.2.1
  obtain ⟨⟨b1, b2, b3⟩, bv, bs⟩ := B
  by_cases h : 0 ≤ x1 ∧ x1 < g 6 7 ∧ 0 ≤ x2 ∧ x2 ≤ 15 ∧ 0 ≤ x3 ∧ x3 ≤ x4 ∧ x4 ≤ 20159
  · obtain ⟨b, rfl⟩ := natOf h.1
    obtain ⟨p, rfl⟩ := natOf h.2.2.1
    obtain ⟨hb10, _, _, _, _, ⟨n, e5, e6⟩, _, _⟩ := L.row (b := b) (by omega)
    obtain ⟨g1, e1, f1⟩ := X_can_s (b := b) (p := p) (a := x3) (c := x4) (by omega) (by omega) (by omega) (n + 1) 0 g L (by omega) (by omega)
    obtain ⟨g2, e2, f2⟩ := M_can_s (b := b) (p := p) (a := x3) (c := x4) (by omega) (by omega) (by omega) (n + 1) 0 g1 (L.fr f1 rfl rfl rfl) (by unfold JFlag; rw [f1 117 47 rfl]; exact hf) (by rw [f1 6 7 rfl]; omega) (by rw [f1 74 b rfl]; omega)
    rw [chF_fr hb10 f1 rfl rfl] at e2
    rw [show ((0 : Nat) : Int) - 1 = -1 by decide] at e1 e2
    have q1 : g1 117 12 = g 117 12 := f1 117 12 rfl
    refine ⟨(if chF g b p x3 x4 (n + 1) 0 = true then 1 else 0, g1), (if chF g b p x3 x4 (n + 1) 0 = true then 1 else 0, g2), ?_, ?_, rfl, (f1.mo rfl).tr (f2.mo rfl)⟩
    · unfold X_could Boats_canHaveBeen
      simp (disch := omega) only [nw_id, ix_id, sb, if_true, if_false, if_pos, if_neg, true_and, and_true, false_and, and_false, and_self, X_isWay0, isTimeX0, e1]
      cases chF g b p x3 x4 (n + 1) 0 <;> simp (disch := omega) only [nw_id, ix_id, sb, if_true, if_false, if_pos, if_neg, true_and, and_true, false_and, and_false, and_self, Bool.false_eq_true]
    · unfold M_could M_canHaveBeen M_isSpan
      simp (disch := omega) only [nw_id, ix_id, sb, if_true, if_false, if_pos, if_neg, true_and, and_true, false_and, and_false, and_self, M_isBoat0, isPoint0, isTime0, isIn0, e2]
      cases chF g b p x3 x4 (n + 1) 0 <;> simp (disch := omega) only [nw_id, ix_id, sb, if_true, if_false, if_pos, if_neg, true_and, and_true, false_and, and_false, and_self, Bool.false_eq_true]
  · have eX : X_could x1 x2 x3 x4 g = some (-1, g) := by
      unfold X_could
      revert h
      simp (disch := omega) only [nw_id, ix_id, X_isWay0, isTimeX0]
      intro h
      ((repeat' split) <;> first | rfl | omega)
    have eM : M_could x1 x2 x3 x4 g = some (-1, g) := by
      unfold M_could M_isSpan
      by_cases c1 : x1 < 0 ∨ g 117 12 - 1 < x1
      · simp (disch := omega) only [nw_id, ix_id, sb, if_true, if_false, if_pos, if_neg, true_and, and_true, false_and, and_false, and_self, M_isBoat0]
      · by_cases c2 : x2 < 0 ∨ 15 < x2
        · simp (disch := omega) only [nw_id, ix_id, sb, if_true, if_false, if_pos, if_neg, true_and, and_true, false_and, and_false, and_self, M_isBoat0, isPoint0]
        · by_cases c3 : x3 < 0 ∨ 20159 < x3
          · simp (disch := omega) only [nw_id, ix_id, sb, if_true, if_false, if_pos, if_neg, true_and, and_true, false_and, and_false, and_self, M_isBoat0, isPoint0, isTime0]
          · simp (disch := omega) only [nw_id, ix_id, sb, if_true, if_false, if_pos, if_neg, true_and, and_true, false_and, and_false, and_self, M_isBoat0, isPoint0, isTime0, isIn0]
    exact ⟨_, _, eX, eM, rfl, Fr.rf⟩
/-- how many bits a set has -/
def pcF (S : Nat) : Int := (((S % 2) + (S / 2 % 2) + (S / 4 % 2) + (S / 8 % 2) + (S / 16 % 2) + (S / 32 % 2) + (S / 64 % 2) + (S / 128 % 2) + (S / 256 % 2) + (S / 512 % 2) : Nat) : Int)
theorem pc_bits : ∀ S : Nat, S < 1024 → Integer_bitCount (S : Int) (fun _ _ => 0) = some (pcF S) := by decide +kernel
theorem pc_s {S : Nat} (h : S < 1024) (g : AG) : Integer_bitCount (S : Int) g = some (pcF S) := pc_bits S h
theorem or_add : ∀ k : Nat, k < 10 → ∀ S : Nat, S < 2 ^ k → orI (S : Int) (shlI 1 (k : Int)) = ((S + 2 ^ k : Nat) : Int) := by decide +kernel
theorem pc_add : ∀ k : Nat, k < 10 → ∀ S : Nat, S < 2 ^ k → pcF (S + 2 ^ k) = pcF S + 1 := by decide +kernel
theorem pc_rng (S : Nat) : 0 ≤ pcF S ∧ pcF S ≤ 10 := by unfold pcF; omega
/-- the boats from k on that can have been, as a set; the last of them; how many -/
def wsN (can : Nat → Bool) : Nat → Nat → Nat × Int × Int → Nat × Int × Int
  | 0, _, p => p
  | n + 1, k, p => wsN can n (k + 1) (if can k = true then (p.1 + 2 ^ k, (k : Int), p.2.2 + 1) else p)
def canB (g : AG) (p : Nat) (a c : Int) (b : Nat) : Bool := chF g b p a c ((g 74 b).toNat + 1) 0
theorem X_whose_b_s {p : Nat} {a c wh : Int} (hp : p ≤ 15) (ha : 0 ≤ a ∧ a ≤ 20159) (hc : 0 ≤ c ∧ c ≤ 20159) (hw : wh = 0 ∨ wh = 1) {can : Nat → Bool} : ∀ (n k : Nat) (S : Nat) (one cnt : Int) (g : AG), JL g → ((k + n : Nat) : Int) = g 6 7 → (∀ b : Nat, (b : Int) < g 6 7 → canB g p a c b = can b) → S < 2 ^ k → pcF S = cnt → (one = -1 ∨ (0 ≤ one ∧ one < 10)) → ∃ g', X_whose_b p a c wh S one k g = some (if wh = 0 then ((wsN can n k (S, one, cnt)).1 : Int) else if (wsN can n k (S, one, cnt)).2.2 = 1 then (wsN can n k (S, one, cnt)).2.1 else -1, g') ∧ FR WV g g' := by
  intro n
  induction n with
  | zero =>
    intro k S one cnt g L h hcan hS hpc ho
    have B := L.2.1.1
    have hk10 : k ≤ 10 := by omega
    have hS2 : S < 1024 := Nat.lt_of_lt_of_le hS (Nat.le_trans (Nat.pow_le_pow_right (by decide) hk10) (by decide))
    have pr := pc_rng S
    refine ⟨g, ?_, Fr.rf⟩
    rw [X_whose_b]
    show _ = some (if wh = 0 then (S : Int) else if cnt = 1 then one else -1, g)
    rw [← hpc]
    clear hpc
    rcases hw with e | e
    · subst e
      simp (disch := omega) only [nw_id, ix_id, sb, if_true, if_false, if_pos, if_neg, true_and, and_true, false_and, and_false, and_self]
    · subst e
      simp (disch := omega) only [nw_id, ix_id, sb, if_true, if_false, if_pos, if_neg, true_and, and_true, false_and, and_false, and_self, pc_s hS2]
  | succ n ih =>
    intro k S one cnt g L h hcan hS hpc ho
    have B := L.2.1.1
    have hb : (k : Int) < g 6 7 := by omega
    have hk10 : k < 10 := by omega
    obtain ⟨_, _, _, _, _, ⟨m, e5, e6⟩, _, _⟩ := L.row hb
    obtain ⟨g1, e1, f1⟩ := X_can_s (b := k) (p := p) (a := a) (c := c) hp ha hc (m + 1) 0 g L hb (by omega)
    rw [show ((0 : Nat) : Int) - 1 = -1 by decide] at e1
    have hck := hcan k hb
    unfold canB at hck
    rw [e5, Int.toNat_natCast] at hck
    rw [hck] at e1
    have L1 := L.fr f1 rfl rfl rfl
    have hcan1 : ∀ b : Nat, (b : Int) < g1 6 7 → canB g1 p a c b = can b := by
      intro b hb'
      rw [f1 6 7 rfl] at hb'
      unfold canB
      rw [f1 74 b rfl, chF_fr (by omega) f1 rfl rfl]
      exact hcan b hb'
    have q1 : g1 6 7 = g 6 7 := f1 6 7 rfl
    have hp2 : 2 ^ (k + 1) = 2 ^ k + 2 ^ k := by rw [Nat.pow_succ]; omega
    rw [X_whose_b]
    unfold wsN Boats_canHaveBeen
    cases hc2 : can k with
    | true =>
      rw [hc2] at e1
      obtain ⟨g2, e2, f2⟩ := ih (k + 1) (S + 2 ^ k) k (cnt + 1) g1 L1 (by omega) hcan1 (by omega) (by rw [pc_add k hk10 S hS, hpc]) (by omega)
      rw [show ((k + 1 : Nat) : Int) = (k : Int) + 1 from rfl] at e2
      refine ⟨g2, ?_, f1.tr f2⟩
      have oa := or_add k hk10 S hS
      have c0 : ¬ nw (g 6 7) ≤ nw (k : Int) := by rw [nw_id (by omega) (by omega), nw_id (by omega) (by omega)]; omega
      rw [if_neg c0, e1, sb, if_pos rfl, nw_1, if_neg (by decide), sb]
      dsimp only
      rw [oa]
      exact e2
    | false =>
      rw [hc2] at e1
      obtain ⟨g2, e2, f2⟩ := ih (k + 1) S one cnt g1 L1 (by omega) hcan1 (by omega) hpc ho
      rw [show ((k + 1 : Nat) : Int) = (k : Int) + 1 from rfl] at e2
      refine ⟨g2, ?_, f1.tr f2⟩
      have c0 : ¬ nw (g 6 7) ≤ nw (k : Int) := by rw [nw_id (by omega) (by omega), nw_id (by omega) (by omega)]; omega
      rw [if_neg c0, e1, sb, if_neg (show ¬ (false = true) by decide), nw_0, if_pos rfl, sb]
      exact e2
theorem M_whose_b_s {p : Nat} {a c wh : Int} (hp : p ≤ 15) (ha : 0 ≤ a ∧ a ≤ 20159) (hc : 0 ≤ c ∧ c ≤ 20159) (hw : wh = 0 ∨ wh = 1) {can : Nat → Bool} : ∀ (n k : Nat) (S : Nat) (one cnt : Int) (g : AG), JL g → JFlag g → ((k + n : Nat) : Int) = g 6 7 → (∀ b : Nat, (b : Int) < g 6 7 → canB g p a c b = can b) → S < 2 ^ k → (0 ≤ cnt ∧ cnt ≤ k) → (one = -1 ∨ (0 ≤ one ∧ one < 10)) → ∃ g', M_whose_b p a c wh S one cnt k g = some (if wh = 0 then ((wsN can n k (S, one, cnt)).1 : Int) else if (wsN can n k (S, one, cnt)).2.2 = 1 then (wsN can n k (S, one, cnt)).2.1 else -1, g') ∧ FR WM g g' := by
  intro n
  induction n with
  | zero =>
    intro k S one cnt g L hf h hcan hS hcn ho
    have B := L.2.1.1
    have hk10 : k ≤ 10 := by omega
    refine ⟨g, ?_, Fr.rf⟩
    rw [M_whose_b]
    show _ = some (if wh = 0 then (S : Int) else if cnt = 1 then one else -1, g)
    rcases hw with e | e
    · subst e
      simp (disch := omega) only [nw_id, ix_id, sb, if_true, if_false, if_pos, if_neg, true_and, and_true, false_and, and_false, and_self]
    · subst e
      simp (disch := omega) only [nw_id, ix_id, sb, if_true, if_false, if_pos, if_neg, true_and, and_true, false_and, and_false, and_self]
  | succ n ih =>
    intro k S one cnt g L hf h hcan hS hcn ho
    have B := L.2.1.1
    have hb : (k : Int) < g 6 7 := by omega
    have hk10 : k < 10 := by omega
    obtain ⟨_, _, _, _, _, ⟨m, e5, e6⟩, _, _⟩ := L.row hb
    obtain ⟨g1, e1, f1⟩ := M_can_s (b := k) (p := p) (a := a) (c := c) hp ha hc (m + 1) 0 g L hf hb (by omega)
    rw [show ((0 : Nat) : Int) - 1 = -1 by decide] at e1
    have hck := hcan k hb
    unfold canB at hck
    rw [e5, Int.toNat_natCast] at hck
    rw [hck] at e1
    have L1 := L.fr f1 rfl rfl rfl
    have hf1 : JFlag g1 := by unfold JFlag; rw [f1 117 47 rfl]; exact hf
    have hcan1 : ∀ b : Nat, (b : Int) < g1 6 7 → canB g1 p a c b = can b := by
      intro b hb'
      rw [f1 6 7 rfl] at hb'
      unfold canB
      rw [f1 74 b rfl, chF_fr (by omega) f1 rfl rfl]
      exact hcan b hb'
    have q1 : g1 6 7 = g 6 7 := f1 6 7 rfl
    have hp2 : 2 ^ (k + 1) = 2 ^ k + 2 ^ k := by rw [Nat.pow_succ]; omega
    rw [M_whose_b]
    unfold wsN M_canHaveBeen
    have c0 : ¬ nw (g 117 12) ≤ nw (k : Int) := by rw [nw_id (by omega) (by omega), nw_id (by omega) (by omega)]; omega
    cases hc2 : can k with
    | true =>
      rw [hc2] at e1
      obtain ⟨g2, e2, f2⟩ := ih (k + 1) (S + 2 ^ k) k (cnt + 1) g1 L1 hf1 (by clear c0; omega) hcan1 (by clear c0; omega) (by clear c0; omega) (by clear c0; omega)
      rw [show ((k + 1 : Nat) : Int) = (k : Int) + 1 from rfl] at e2
      refine ⟨g2, ?_, f1.tr f2⟩
      have oa := or_add k hk10 S hS
      rw [if_neg c0, e1, sb, if_pos rfl, nw_1, if_neg (by decide), sb]
      dsimp only
      rw [oa]
      exact e2
    | false =>
      rw [hc2] at e1
      obtain ⟨g2, e2, f2⟩ := ih (k + 1) S one cnt g1 L1 hf1 (by clear c0; omega) hcan1 (by clear c0; omega) (by clear c0; omega) ho
      rw [show ((k + 1 : Nat) : Int) = (k : Int) + 1 from rfl] at e2
      refine ⟨g2, ?_, f1.tr f2⟩
      rw [if_neg c0, e1, sb, if_neg (show ¬ (false = true) by decide), nw_0, if_pos rfl, sb]
      exact e2
theorem sm_whose {x1 x2 x3 x4 : Int} {g : AG} (h1 : I32 x1) (h2 : I32 x2) (h3 : I32 x3) (h4 : I32 x4) (L : JL g) (hf : JFlag g) :
    ∃ r1 r2, X_whose x1 x2 x3 x4 g = some r1 ∧ M_whose x1 x2 x3 x4 r1.2 = some r2 ∧ nw r1.1 = nw r2.1 ∧ FR SCV g r2.2 := by
  unfold I32 at *
  have B := L.2.1.1
  by_cases h : 0 ≤ x1 ∧ x1 ≤ 15 ∧ 0 ≤ x2 ∧ x2 ≤ x3 ∧ x3 ≤ 20159 ∧ 0 ≤ x4 ∧ x4 ≤ 1
  · obtain ⟨p, rfl⟩ := natOf h.1
    obtain ⟨N, hN⟩ := natOf B.2.1
    obtain ⟨g1, e1, f1⟩ := X_whose_b_s (p := p) (a := x2) (c := x3) (wh := x4) (by omega) (by omega) (by omega) (by omega) (can := canB g p x2 x3) N 0 0 (-1) 0 g L (by omega) (fun _ _ => rfl) (by decide) (by decide) (Or.inl rfl)
    obtain ⟨g2, e2, f2⟩ := M_whose_b_s (p := p) (a := x2) (c := x3) (wh := x4) (by omega) (by omega) (by omega) (by omega) (can := canB g p x2 x3) N 0 0 (-1) 0 g1 (L.fr f1 rfl rfl rfl) (by unfold JFlag; rw [f1 117 47 rfl]; exact hf) (by rw [f1 6 7 rfl]; omega) (fun b hb => by
      rw [f1 6 7 rfl] at hb
      unfold canB
      rw [f1 74 b rfl, chF_fr (by omega) f1 rfl rfl]) (by decide) (by decide) (Or.inl rfl)
    refine ⟨(if x4 = 0 then ((wsN (canB g p x2 x3) N 0 (0, -1, 0)).1 : Int) else if (wsN (canB g p x2 x3) N 0 (0, -1, 0)).2.2 = 1 then (wsN (canB g p x2 x3) N 0 (0, -1, 0)).2.1 else -1, g1), (if x4 = 0 then ((wsN (canB g p x2 x3) N 0 (0, -1, 0)).1 : Int) else if (wsN (canB g p x2 x3) N 0 (0, -1, 0)).2.2 = 1 then (wsN (canB g p x2 x3) N 0 (0, -1, 0)).2.1 else -1, g2), ?_, ?_, rfl, (f1.mo rfl).tr (f2.mo rfl)⟩
    · unfold X_whose
      simp (disch := omega) only [nw_id, ix_id, sb, if_true, if_false, if_pos, if_neg, true_and, and_true, false_and, and_false, and_self, isPointX0, isTimeX0, within0]
      exact e1
    · unfold M_whose M_isSpan
      simp (disch := omega) only [nw_id, ix_id, sb, if_true, if_false, if_pos, if_neg, true_and, and_true, false_and, and_false, and_self, isPoint0, isTime0, isIn0]
      exact e2
  · have eX : X_whose x1 x2 x3 x4 g = some (-1, g) := by
      unfold X_whose
      generalize X_whose_b x1 x2 x3 x4 0 (-1) 0 g = big
      revert h
      simp (disch := omega) only [nw_id, ix_id, isPointX0, isTimeX0, within0]
      intro h
      ((repeat' split) <;> first | rfl | omega)
    have eM : M_whose x1 x2 x3 x4 g = some (-1, g) := by
      unfold M_whose M_isSpan
      generalize M_whose_b x1 x2 x3 x4 0 (-1) 0 0 g = big
      by_cases c2 : x1 < 0 ∨ 15 < x1
      · simp (disch := omega) only [nw_id, ix_id, sb, if_true, if_false, if_pos, if_neg, true_and, and_true, false_and, and_false, and_self, isPoint0]
      · by_cases c3 : x2 < 0 ∨ 20159 < x2
        · simp (disch := omega) only [nw_id, ix_id, sb, if_true, if_false, if_pos, if_neg, true_and, and_true, false_and, and_false, and_self, isPoint0, isTime0]
        · by_cases c4 : x3 < x2 ∨ 20159 < x3
          · simp (disch := omega) only [nw_id, ix_id, sb, if_true, if_false, if_pos, if_neg, true_and, and_true, false_and, and_false, and_self, isPoint0, isTime0, isIn0]
          · simp (disch := omega) only [nw_id, ix_id, sb, if_true, if_false, if_pos, if_neg, true_and, and_true, false_and, and_false, and_self, isPoint0, isTime0, isIn0]
    exact ⟨_, _, eX, eM, rfl, Fr.rf⟩
