/-! plain programs: the tape -/
theorem mask_b (k : Nat) (x : Int32) (m : Int32) (hk : k ≤ 30) (hm : m.toBitVec.toNat = 2 ^ k - 1) : (x &&& m) = Int32.ofInt ((x.toBitVec.toNat % 2 ^ k : Nat) : Int) := by
  have e : x = nI x.toBitVec.toNat := Int32.toBitVec_inj.mp (by show _ = BitVec.ofNat 32 _; simp)
  have h := pk_andN (n := x.toBitVec.toNat) (by exact x.toBitVec.isLt) k hm
  rw [oI, ← h, ← e]
theorem and255 (y : Int) : 0 ≤ andI y 255 ∧ andI y 255 ≤ 255 := by
  unfold andI
  have h : (255 : Int32) = Int32.ofInt 255 := rfl
  rw [← h, mask_b 8 _ 255 (by decide) (by decide), Int32.toInt_ofInt]
  have h1 : (Int32.ofInt y).toBitVec.toNat % 2 ^ 8 < 2 ^ 8 := Nat.mod_lt _ (by decide)
  have e := nw_id (a := (((Int32.ofInt y).toBitVec.toNat % 2 ^ 8 : Nat) : Int)) (by omega) (by omega)
  unfold nw at e
  have e2 : (((Int32.ofInt y).toBitVec.toNat % 2 ^ 8 : Nat) : Int).bmod (2 ^ 32) = (((Int32.ofInt y).toBitVec.toNat % 2 ^ 8 : Nat) : Int) := e
  rw [e2]
  omega
theorem tb_ushr (x : Int) (k : Nat) (hk : k < 32) {i : Nat} (hi : i < 32) : tb (ushrI x k) i = bt (Int32.ofInt x) (k + i) := by
  unfold ushrI; rw [tb_toInt, oI, b_ushr k hk]
theorem tb_255 (i : Nat) : tb 255 i = decide (i < 8) := b_255 i
theorem sh_eq (x : Int) (k : Nat) (hk : k ≤ 24) : andI (shrI x k) 255 = andI (ushrI x k) 255 := by
  rw [← nw_and, ← nw_and (ushrI x k)]
  refine tb_ext (fun i hi => ?_)
  rw [tb_and, tb_and, tb_255, tb_ushr x k (by omega) hi]
  by_cases h : i < 8
  · rw [tb_shr x k (by omega) (by omega)]; rfl
  · simp [h]
def RTape : Reg := [(4, 3), (117, 38), (41, 0), (146, 0)]
def JTape (g : AG) : Prop := (g 117 37 = g 4 2 ∧ 0 ≤ g 4 2 ∧ g 4 2 ≤ 500) ∧ ∀ k : Nat, (k : Int) < g 4 2 → g 146 k = g 41 k ∧ 0 ≤ g 41 k ∧ g 41 k ≤ 255
theorem JTape.cg {g g' : AG} (h : ∀ k i, inR RTape k i = true → g' k i = g k i) (q : JTape g) : JTape g' := by
  have q1 : JTape (rs (inR RTape) g) := q
  rw [← rs_eq h] at q1
  exact q1
theorem sm_end {x1 : Int} {g : AG} (h1 : I32 x1) (q : JTape g) :
    ∃ r1 r2, X_end x1 g = some r1 ∧ M_end x1 r1.2 = some r2 ∧ nw r1.1 = nw r2.1 ∧ JTape r2.2 ∧ FR [(4, 3), (117, 38)] g r2.2 := by
  unfold I32 at *
  obtain ⟨⟨q1, q2, q3⟩, q4⟩ := q
  by_cases h : 0 ≤ x1 ∧ x1 ≤ g 4 2
  · have eX : X_end x1 g = some (1, up g 4 2 x1) := by
      unfold X_end
      simp (disch := omega) only [nw_id, ix_id, sb, if_pos, if_neg, true_and, and_true, false_and]
    have eM : ∀ g' : AG, g' 117 37 = g 4 2 → M_end x1 g' = some (1, up g' 117 37 x1) := by
      intro g' a
      unfold M_end
      simp (disch := omega) only [nw_id, ix_id, sb, if_pos, if_neg, true_and, and_true, false_and, isIn0, a]
    refine ⟨_, _, eX, eM _ (by simp [up_at, q1]), rfl, ⟨by simp [up_at]; omega, ?_⟩, Fr.up (Fr.up Fr.rf rfl) rfl⟩
    intro k hk
    simp [up_at] at hk ⊢
    exact q4 k (by omega)
  · have eX : X_end x1 g = some (0, g) := by
      unfold X_end
      simp (disch := omega) only [nw_id, ix_id, sb, if_pos, if_neg, true_and, and_true, false_and]
      ((repeat' split) <;> first | rfl | omega)
    have eM : M_end x1 g = some (0, g) := by
      unfold M_end
      simp (disch := omega) only [nw_id, ix_id, sb, if_pos, if_neg, true_and, and_true, false_and, isIn0, q1]
    exact ⟨_, _, eX, eM, rfl, ⟨⟨q1, q2, q3⟩, q4⟩, Fr.rf⟩
def putG (g : AG) (L : Nat) (x : Int) : AG := fun a b => if a = 41 ∧ L ≤ b ∧ b < L + 4 then andI (ushrI x (24 - 8 * ((b - L : Nat) : Int))) 255 else if a = 4 ∧ b = 2 then (L : Int) + 4 else g a b
theorem Parser_put_s {x : Int} {g : AG} {L : Nat} (h : g 4 2 = L) (hL : L + 4 ≤ 500) : Parser_put x g = some (0, putG g L x) := by
  have t1 : ((L : Int) + 1).toNat = L + 1 := by omega
  have t2 : ((L : Int) + 1 + 1).toNat = L + 2 := by omega
  have t3 : ((L : Int) + 1 + 1 + 1).toNat = L + 3 := by omega
  unfold Parser_put
  rw [Parser_put_b]
  simp (disch := omega) only [nw_id, ix_id, sb, if_pos, if_neg, true_and, and_true, false_and, up_at, Nat.reduceEqDiff, false_and, and_self, reduceIte, h, Int.toNat_natCast]
  rw [Parser_put_b]
  simp (disch := omega) only [nw_id, ix_id, sb, if_pos, if_neg, true_and, and_true, false_and, up_at, Nat.reduceEqDiff, false_and, and_self, reduceIte, h, Int.toNat_natCast, t1]
  rw [Parser_put_b]
  simp (disch := omega) only [nw_id, ix_id, sb, if_pos, if_neg, true_and, and_true, false_and, up_at, Nat.reduceEqDiff, false_and, and_self, reduceIte, h, Int.toNat_natCast, t1, t2]
  rw [Parser_put_b]
  simp (disch := omega) only [nw_id, ix_id, sb, if_pos, if_neg, true_and, and_true, false_and, up_at, Nat.reduceEqDiff, false_and, and_self, reduceIte, h, Int.toNat_natCast, t1, t2, t3]
  rw [Parser_put_b]
  simp (disch := omega) only [nw_id, ix_id, sb, if_pos, if_neg, true_and, and_true, false_and, up_at, Nat.reduceEqDiff, false_and, and_self, reduceIte, h, Int.toNat_natCast, t1, t2, t3]
  congr 2
  funext a b
  simp only [up_at, putG]
  by_cases e : a = 4
  · subst e
    by_cases e2 : b = 2
    · subst e2; simp; omega
    · simp [e2]
  · simp only [e, false_and, if_false]
    by_cases e1 : a = 41
    · subst e1
      by_cases b0 : b = L
      · subst b0; simp
      by_cases b1 : b = L + 1
      · subst b1; simp
      by_cases b2 : b = L + 2
      · subst b2; simp
      by_cases b3 : b = L + 3
      · subst b3; simp
      simp (disch := omega) only [nw_id, ix_id, sb, if_pos, if_neg, true_and, and_true, false_and]
    · simp [e1]
def fdF (x1 x2 x3 x4 x5 k : Int) : Int := andI (shrI (if 4 ≤ k then (if 8 ≤ k then (if 12 ≤ k then (if 16 ≤ k then x5 else x4) else x3) else x2) else x1) (24 - 8 * (k % 4))) 255
theorem M_feed_b_s (x1 x2 x3 x4 x5 : Int) (L : Nat) (hL : L + 20 ≤ 500) : ∀ (n k : Nat) (g : AG), n + k = 20 → g 117 37 = (L : Int) + k → M_feed_b x1 x2 x3 x4 x5 k g = some ((L : Int) + 20, fun a b => if a = 146 ∧ L + k ≤ b ∧ b < L + 20 then fdF x1 x2 x3 x4 x5 ((b - L : Nat) : Int) else if a = 117 ∧ b = 37 then (L : Int) + 20 else g a b) := by
  intro n
  induction n with
  | zero =>
    intro k g h hg
    rw [M_feed_b]
    simp (disch := omega) only [nw_id, ix_id, sb, if_pos, if_neg, true_and, and_true, false_and]
    rw [hg]
    congr 2
    · omega
    · funext a b
      by_cases e : a = 117 ∧ b = 37
      · obtain ⟨rfl, rfl⟩ := e
        simp (disch := omega) only [nw_id, ix_id, sb, if_pos, if_neg, true_and, and_true, false_and, Nat.reduceEqDiff, false_and, and_self]
        omega
      · simp (disch := omega) only [nw_id, ix_id, sb, if_pos, if_neg, true_and, and_true, false_and]
  | succ n ih =>
    intro k g h hg
    rw [M_feed_b]
    simp (disch := omega) only [nw_id, ix_id, sb, if_pos, if_neg, true_and, and_true, false_and, hg, up_at, Nat.reduceEqDiff, false_and, and_self, reduceIte, tmE]
    have e := ih (k + 1) (up (up g 146 ((L : Int) + k).toNat (fdF x1 x2 x3 x4 x5 k)) 117 37 ((L : Int) + k + 1)) (by omega) (by simp [up_at]; omega)
    rw [show ((k + 1 : Nat) : Int) = (k : Int) + 1 from rfl] at e
    refine e.trans ?_
    congr 2
    funext a b
    simp only [up_at]
    by_cases e1 : a = 117
    · subst e1; simp
      split <;> rfl
    · simp only [e1, false_and, if_false]
      by_cases e2 : a = 146
      · subst e2
        by_cases e3 : b = L + k
        · subst e3
          simp (disch := omega) only [nw_id, ix_id, sb, if_pos, if_neg, true_and, and_true, false_and]
          rw [show ((L + k - L : Nat) : Int) = (k : Int) by omega]
        · by_cases e4 : L + (k + 1) ≤ b ∧ b < L + 20
          · simp (disch := omega) only [nw_id, ix_id, sb, if_pos, if_neg, true_and, and_true, false_and]
          · simp (disch := omega) only [nw_id, ix_id, sb, if_pos, if_neg, true_and, and_true, false_and]
      · simp [e2]
theorem putG_in {g : AG} {L b : Nat} {x : Int} (h1 : L ≤ b) (h2 : b < L + 4) : putG g L x 41 b = andI (ushrI x (24 - 8 * ((b - L : Nat) : Int))) 255 := if_pos ⟨rfl, h1, h2⟩
theorem putG_lt {g : AG} {L b : Nat} {x : Int} (h1 : b < L) : putG g L x 41 b = g 41 b := by
  unfold putG
  rw [if_neg (by omega), if_neg (by omega)]
theorem putG_o {g : AG} {L a b : Nat} {x : Int} (h1 : a ≠ 41) (h2 : a ≠ 4) : putG g L x a b = g a b := by
  unfold putG
  rw [if_neg (by omega), if_neg (by omega)]
theorem fd_key (a b : Int) (h : ∃ (x : Int) (s : Nat), s ≤ 24 ∧ a = andI (shrI x (s : Int)) 255 ∧ b = andI (ushrI x (s : Int)) 255) : a = b ∧ 0 ≤ b ∧ b ≤ 255 := by
  obtain ⟨x, s, hs, rfl, rfl⟩ := h
  exact ⟨sh_eq x s hs, and255 _⟩
theorem fd_read {g : AG} {L : Nat} {x1 x2 x3 x4 x5 : Int} {j : Nat} (hj : j < 20) : fdF x1 x2 x3 x4 x5 (j : Int) = putG (putG (putG (putG (putG g L x1) (L + 4) x2) (L + 8) x3) (L + 12) x4) (L + 16) x5 41 (L + j) ∧ 0 ≤ putG (putG (putG (putG (putG g L x1) (L + 4) x2) (L + 8) x3) (L + 12) x4) (L + 16) x5 41 (L + j) ∧ putG (putG (putG (putG (putG g L x1) (L + 4) x2) (L + 8) x3) (L + 12) x4) (L + 16) x5 41 (L + j) ≤ 255 := by
  have hj : j = 0 ∨ j = 1 ∨ j = 2 ∨ j = 3 ∨ j = 4 ∨ j = 5 ∨ j = 6 ∨ j = 7 ∨ j = 8 ∨ j = 9 ∨ j = 10 ∨ j = 11 ∨ j = 12 ∨ j = 13 ∨ j = 14 ∨ j = 15 ∨ j = 16 ∨ j = 17 ∨ j = 18 ∨ j = 19 := by omega
  refine fd_key _ _ ?_
  rcases hj with e | e | e | e | e | e | e | e | e | e | e | e | e | e | e | e | e | e | e | e <;> subst e
  · exact ⟨x1, 24, by decide, rfl, by rw [putG_lt (by omega), putG_lt (by omega), putG_lt (by omega), putG_lt (by omega), putG_in (by omega) (by omega), show L + 0 - L = 0 by omega]; rfl⟩
  · exact ⟨x1, 16, by decide, rfl, by rw [putG_lt (by omega), putG_lt (by omega), putG_lt (by omega), putG_lt (by omega), putG_in (by omega) (by omega), show L + 1 - L = 1 by omega]; rfl⟩
  · exact ⟨x1, 8, by decide, rfl, by rw [putG_lt (by omega), putG_lt (by omega), putG_lt (by omega), putG_lt (by omega), putG_in (by omega) (by omega), show L + 2 - L = 2 by omega]; rfl⟩
  · exact ⟨x1, 0, by decide, rfl, by rw [putG_lt (by omega), putG_lt (by omega), putG_lt (by omega), putG_lt (by omega), putG_in (by omega) (by omega), show L + 3 - L = 3 by omega]; rfl⟩
  · exact ⟨x2, 24, by decide, rfl, by rw [putG_lt (by omega), putG_lt (by omega), putG_lt (by omega), putG_in (by omega) (by omega), show L + 4 - (L + 4) = 0 by omega]; rfl⟩
  · exact ⟨x2, 16, by decide, rfl, by rw [putG_lt (by omega), putG_lt (by omega), putG_lt (by omega), putG_in (by omega) (by omega), show L + 5 - (L + 4) = 1 by omega]; rfl⟩
  · exact ⟨x2, 8, by decide, rfl, by rw [putG_lt (by omega), putG_lt (by omega), putG_lt (by omega), putG_in (by omega) (by omega), show L + 6 - (L + 4) = 2 by omega]; rfl⟩
  · exact ⟨x2, 0, by decide, rfl, by rw [putG_lt (by omega), putG_lt (by omega), putG_lt (by omega), putG_in (by omega) (by omega), show L + 7 - (L + 4) = 3 by omega]; rfl⟩
  · exact ⟨x3, 24, by decide, rfl, by rw [putG_lt (by omega), putG_lt (by omega), putG_in (by omega) (by omega), show L + 8 - (L + 8) = 0 by omega]; rfl⟩
  · exact ⟨x3, 16, by decide, rfl, by rw [putG_lt (by omega), putG_lt (by omega), putG_in (by omega) (by omega), show L + 9 - (L + 8) = 1 by omega]; rfl⟩
  · exact ⟨x3, 8, by decide, rfl, by rw [putG_lt (by omega), putG_lt (by omega), putG_in (by omega) (by omega), show L + 10 - (L + 8) = 2 by omega]; rfl⟩
  · exact ⟨x3, 0, by decide, rfl, by rw [putG_lt (by omega), putG_lt (by omega), putG_in (by omega) (by omega), show L + 11 - (L + 8) = 3 by omega]; rfl⟩
  · exact ⟨x4, 24, by decide, rfl, by rw [putG_lt (by omega), putG_in (by omega) (by omega), show L + 12 - (L + 12) = 0 by omega]; rfl⟩
  · exact ⟨x4, 16, by decide, rfl, by rw [putG_lt (by omega), putG_in (by omega) (by omega), show L + 13 - (L + 12) = 1 by omega]; rfl⟩
  · exact ⟨x4, 8, by decide, rfl, by rw [putG_lt (by omega), putG_in (by omega) (by omega), show L + 14 - (L + 12) = 2 by omega]; rfl⟩
  · exact ⟨x4, 0, by decide, rfl, by rw [putG_lt (by omega), putG_in (by omega) (by omega), show L + 15 - (L + 12) = 3 by omega]; rfl⟩
  · exact ⟨x5, 24, by decide, rfl, by rw [putG_in (by omega) (by omega), show L + 16 - (L + 16) = 0 by omega]; rfl⟩
  · exact ⟨x5, 16, by decide, rfl, by rw [putG_in (by omega) (by omega), show L + 17 - (L + 16) = 1 by omega]; rfl⟩
  · exact ⟨x5, 8, by decide, rfl, by rw [putG_in (by omega) (by omega), show L + 18 - (L + 16) = 2 by omega]; rfl⟩
  · exact ⟨x5, 0, by decide, rfl, by rw [putG_in (by omega) (by omega), show L + 19 - (L + 16) = 3 by omega]; rfl⟩
theorem sm_feed {x1 x2 x3 x4 x5 : Int} {g : AG} (q : JTape g) :
    ∃ r1 r2, X_feed x1 x2 x3 x4 x5 g = some r1 ∧ M_feed x1 x2 x3 x4 x5 r1.2 = some r2 ∧ nw r1.1 = nw r2.1 ∧ JTape r2.2 ∧ FR RTape g r2.2 := by
  obtain ⟨⟨q1, q2, q3⟩, q4⟩ := q
  obtain ⟨L, hL⟩ := natOf q2
  by_cases h : L + 20 ≤ 500
  · have eX : X_feed x1 x2 x3 x4 x5 g = some ((L : Int) + 20, putG (putG (putG (putG (putG g L x1) (L + 4) x2) (L + 8) x3) (L + 12) x4) (L + 16) x5) := by
      unfold X_feed
      simp (disch := omega) only [nw_id, ix_id, sb, if_pos, if_neg, true_and, and_true, false_and, hL]
      rw [Parser_put_s hL (by omega)]
      simp (disch := omega) only [nw_id, ix_id, sb, if_pos, if_neg, true_and, and_true, false_and]
      rw [Parser_put_s (L := L + 4) (by simp [putG]) (by omega)]
      simp (disch := omega) only [nw_id, ix_id, sb, if_pos, if_neg, true_and, and_true, false_and]
      rw [Parser_put_s (L := L + 8) (by simp [putG]; omega) (by omega)]
      simp (disch := omega) only [nw_id, ix_id, sb, if_pos, if_neg, true_and, and_true, false_and]
      rw [Parser_put_s (L := L + 12) (by simp [putG]; omega) (by omega)]
      simp (disch := omega) only [nw_id, ix_id, sb, if_pos, if_neg, true_and, and_true, false_and]
      rw [Parser_put_s (L := L + 16) (by simp [putG]; omega) (by omega)]
      simp (disch := omega) only [nw_id, ix_id, sb, if_pos, if_neg, true_and, and_true, false_and]
      congr 2
    have eM := M_feed_b_s x1 x2 x3 x4 x5 L h 20 0 (putG (putG (putG (putG (putG g L x1) (L + 4) x2) (L + 8) x3) (L + 12) x4) (L + 16) x5) (by omega) (by simp [putG]; omega)
    have eM1 : ∀ r, M_feed_b x1 x2 x3 x4 x5 0 (putG (putG (putG (putG (putG g L x1) (L + 4) x2) (L + 8) x3) (L + 12) x4) (L + 16) x5) = r → M_feed x1 x2 x3 x4 x5 (putG (putG (putG (putG (putG g L x1) (L + 4) x2) (L + 8) x3) (L + 12) x4) (L + 16) x5) = r := by
      intro r hr
      unfold M_feed
      rw [show (putG (putG (putG (putG (putG g L x1) (L + 4) x2) (L + 8) x3) (L + 12) x4) (L + 16) x5) 117 37 = (L : Int) by simp [putG, q1, hL]]
      simp (disch := omega) only [nw_id, ix_id, sb, if_pos, if_neg, true_and, and_true, false_and]
      exact hr
    refine ⟨_, _, eX, eM1 _ eM, rfl, ⟨?_, ?_⟩, ?_⟩
    · simp [putG]; omega
    · intro k hk
      have hk2 : k < L + 20 := by simp [putG] at hk; omega
      by_cases e : k < L
      · have := q4 k (by omega)
        simp [putG]
        rw [if_neg (by omega), if_neg (by omega), if_neg (by omega), if_neg (by omega), if_neg (by omega), if_neg (by omega)]
        exact this
      · obtain ⟨j, rfl⟩ : ∃ j, k = L + j := ⟨k - L, by omega⟩
        have h5 := fd_read (g := g) (L := L) (x1 := x1) (x2 := x2) (x3 := x3) (x4 := x4) (x5 := x5) (j := j) (by omega)
        dsimp only
        rw [if_pos (show 146 = 146 ∧ L + 0 ≤ L + j ∧ L + j < L + 20 from ⟨rfl, by omega, by omega⟩), if_neg (show ¬ (41 = 146 ∧ L + 0 ≤ L + j ∧ L + j < L + 20) by omega), if_neg (show ¬ (41 = 117 ∧ L + j = 37) by omega), show L + j - L = j by omega]
        exact h5
    · intro a b h
      have n1 : a ≠ 41 := fun e => by subst e; revert h; simp [RTape, inR, inP]
      have n2 : a ≠ 146 := fun e => by subst e; revert h; simp [RTape, inR, inP]
      have n3 : ¬ (a = 4 ∧ b = 2) := fun e => by obtain ⟨e1, e2⟩ := e; subst e1; subst e2; revert h; simp [RTape, inR, inP]
      have n4 : ¬ (a = 117 ∧ b = 37) := fun e => by obtain ⟨e1, e2⟩ := e; subst e1; subst e2; revert h; simp [RTape, inR, inP]
      simp only [putG, n1, n2, n3, n4, false_and, if_false]
  · have eX : X_feed x1 x2 x3 x4 x5 g = some (-1, g) := by
      unfold X_feed
      simp (disch := omega) only [nw_id, ix_id, sb, if_pos, if_neg, true_and, and_true, false_and, hL]
    have eM : M_feed x1 x2 x3 x4 x5 g = some (-1, g) := by
      unfold M_feed
      simp (disch := omega) only [nw_id, ix_id, sb, if_pos, if_neg, true_and, and_true, false_and, q1, hL]
    exact ⟨_, _, eX, eM, rfl, ⟨⟨q1, q2, q3⟩, q4⟩, Fr.rf⟩
