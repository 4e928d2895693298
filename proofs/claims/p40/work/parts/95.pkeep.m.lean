section
/-! plain programs: rules kept -/
theorem stp_op {s v s' v' w c : Int} (h : opR s v w c) (h' : opR s' v' w c) {fc : Nat → Int} {st : List Int} : stp s v fc st = stp s' v' fc st := by
  have e : s = s' := by
    unfold opR at h h'
    rcases h with h | h | h | h | h | h | h | h | h | h | h | h <;> omega
  subst e
  unfold stp
  by_cases c0 : s < 10
  · rw [if_pos c0, if_pos c0]
    by_cases c1 : s = 0
    · have ev : v = v' := by
        unfold opR at h h'
        rcases h with h | h | h | h | h | h | h | h | h | h | h | h <;> omega
      rw [ev]
    · rw [if_neg c1, if_neg c1]
  · rw [if_neg c0, if_neg c0]
    by_cases c1 : s = 13
    · have ev : v = v' := by
        unfold opR at h h'
        rcases h with h | h | h | h | h | h | h | h | h | h | h | h <;> omega
      rw [ev]
    · rw [if_neg c1, if_neg c1]
theorem evl_op {cd cd' fc : Nat → Int} {w c : Nat → Int} : ∀ (n i : Nat) (st : List Int), (∀ j, i ≤ j → j < i + n → opR (cd (2 * j)) (cd (2 * j + 1)) (w j) (c j) ∧ opR (cd' (2 * j)) (cd' (2 * j + 1)) (w j) (c j)) → evl cd fc n i st = evl cd' fc n i st
  | 0, _, _, _ => rfl
  | n + 1, i, st, h => by
    have hi := h i (Nat.le_refl i) (by omega)
    show (stp _ _ fc st >>= _) = (stp _ _ fc st >>= _)
    rw [stp_op hi.1 hi.2]
    cases stp (cd' (2 * i)) (cd' (2 * i + 1)) fc st with
    | none => rfl
    | some st1 =>
      rw [sb, sb]
      by_cases e : st1.length ≤ 32
      · rw [if_pos e, if_pos e]; exact evl_op n (i + 1) st1 (fun j h1 h2 => h j (by omega) (by omega))
      · rw [if_neg e, if_neg e]
theorem srvF_cg {kd md en cd kd' md' en' cd' fc : Nat → Int} {sort : Int} : ∀ (n l : Nat), (∀ j, l ≤ j → j < l + n → kd j = kd' j ∧ md j = md' j ∧ en j = en' j ∧ evl cd fc (en j - md j).toNat (md j).toNat [] = evl cd' fc (en j - md j).toNat (md j).toNat []) → srvF kd md en cd fc sort n l = srvF kd' md' en' cd' fc sort n l
  | 0, _, _ => rfl
  | n + 1, l, h => by
    have hl := h l (Nat.le_refl l) (by omega)
    unfold srvF
    rw [srvF_cg n (l + 1) (fun j h1 h2 => h j (by omega) (by omega)), hl.2.2.2, hl.1, hl.2.1, hl.2.2.1]
def K1 (n k : Nat) (g : AG) : AG := fun a b => if 128 ≤ a ∧ a ≤ 133 ∧ k ≤ b ∧ b < n then g (a + 7) b else g a b
def K2 (c d n k : Nat) (g : AG) : AG := fun a b => if a = c ∧ k ≤ b ∧ b < n then g d b else g a b
theorem keep1 {n : Nat} (hn : n ≤ 16) : ∀ (m k : Nat) (g : AG), k + m = n → g 117 34 = n → M_keeps_b 1 k g = M_keeps_b 2 0 (K1 n k g) := by
  intro m
  induction m with
  | zero =>
    intro k g h h2
    have e : k = n := by omega
    subst e
    have eK : K1 k k g = g := by
      funext a b
      unfold K1
      rw [if_neg (by omega)]
    rw [M_keeps_b.eq_1 1, if_pos rfl, h2, if_pos (Int.le_refl _), eK]
  | succ m ih =>
    intro k g h h2
    obtain ⟨U, hU⟩ : ∃ U : AG, U = fun a b => if 128 ≤ a ∧ a ≤ 133 ∧ b = k then g (a + 7) b else g a b := ⟨_, rfl⟩
    have eU : M_keeps_b 1 k g = M_keeps_b 1 ((k : Int) + 1) U := by
      rw [M_keeps_b.eq_1 1, if_pos rfl, h2, nwN n (by omega), nwN k (by omega), if_neg (by omega), if_pos (by omega), ixN k (by omega), sb, sb, sb, sb, sb, sb]
      congr 1
      rw [hU]
      funext a b
      simp only [up_at, Nat.reduceEqDiff, false_and, if_false]
      by_cases hb : b = k
      · by_cases c0 : a = 128
        · subst c0; subst hb; simp
        by_cases c1 : a = 129
        · subst c1; subst hb; simp
        by_cases c2 : a = 130
        · subst c2; subst hb; simp
        by_cases c3 : a = 131
        · subst c3; subst hb; simp
        by_cases c4 : a = 132
        · subst c4; subst hb; simp
        by_cases c5 : a = 133
        · subst c5; subst hb; simp
        rw [if_neg (by omega), if_neg (by omega), if_neg (by omega), if_neg (by omega), if_neg (by omega), if_neg (by omega), if_neg (by omega)]
      · rw [if_neg (by omega), if_neg (by omega), if_neg (by omega), if_neg (by omega), if_neg (by omega), if_neg (by omega), if_neg (by omega)]
    have u34 : U 117 34 = n := by rw [hU]; dsimp only; rw [if_neg (by omega)]; exact h2
    have e := ih (k + 1) U (by omega) u34
    have eK : K1 n (k + 1) U = K1 n k g := by
      funext a b
      rw [hU]
      unfold K1
      dsimp only
      by_cases c1 : 128 ≤ a ∧ a ≤ 133 ∧ k + 1 ≤ b ∧ b < n
      · rw [if_pos c1, if_neg (by omega), if_pos (by omega)]
      · rw [if_neg c1]
        by_cases c2 : 128 ≤ a ∧ a ≤ 133 ∧ b = k
        · rw [if_pos c2, if_pos (by omega)]
        · rw [if_neg c2, if_neg (by omega)]
    rw [eU, ← eK]
    exact e
theorem K2_end {c d n : Nat} {g : AG} : K2 c d n n g = g := by
  funext a b
  unfold K2
  rw [if_neg (by omega)]
theorem K2_step {c d n k : Nat} {g : AG} (hcd : c ≠ d) (hk : k < n) : K2 c d n (k + 1) (up g c k (g d k)) = K2 c d n k g := by
  funext a b
  unfold K2
  simp only [up_at]
  by_cases c1 : a = c ∧ k + 1 ≤ b ∧ b < n
  · rw [if_pos c1, if_neg (fun q => hcd q.1.symm), if_pos (by omega)]
  · rw [if_neg c1]
    by_cases c2 : a = c ∧ b = k
    · rw [if_pos c2, if_pos (by omega), c2.2]
    · rw [if_neg c2, if_neg (by omega)]
theorem keep2 {s : Nat} (hs : s ≤ 500) : ∀ (m k : Nat) (g : AG), k + m = 2 * s → g 117 36 = s → M_keeps_b 2 k g = M_keeps_b 3 0 (K2 134 141 (2 * s) k g) := by
  intro m
  induction m with
  | zero =>
    intro k g h h2
    have e : k = 2 * s := by omega
    subst e
    have e2 : 2 * (s : Int) = ((2 * s : Nat) : Int) := by omega
    rw [M_keeps_b.eq_1 2, if_neg (by decide), if_pos rfl, h2, e2, if_pos (Int.le_refl _), K2_end]
  | succ m ih =>
    intro k g h h2
    have e2 : 2 * (s : Int) = ((2 * s : Nat) : Int) := by omega
    have e := ih (k + 1) (up g 134 k (g 141 k)) (by omega) (by rw [up_at, if_neg (fun q => absurd q.1 (by decide))]; exact h2)
    rw [K2_step (by decide) (by omega)] at e
    rw [M_keeps_b.eq_1 2, if_neg (by decide), if_pos rfl, h2, e2, nwN (2 * s) (by omega), nwN k (by omega), if_neg (by omega), if_pos (by omega), ixN k (by omega), sb, ← e]
    rfl
theorem keep3 : ∀ (m k : Nat) (g : AG), k + m = 30 → (∀ j, j < 30 → g 145 j = 0 ∨ g 145 j = 1) → M_keeps_b 3 k g = M_keeps_b 4 0 (K2 144 145 30 k g) := by
  intro m
  induction m with
  | zero =>
    intro k g h h2
    have e : k = 30 := by omega
    subst e
    rw [M_keeps_b.eq_1 3, if_neg (by decide), if_neg (by decide), if_pos rfl, nwN 30 (by omega), if_pos (by decide), K2_end]
  | succ m ih =>
    intro k g h h2
    have e := ih (k + 1) (up g 144 k (g 145 k)) (by omega) (fun j hj => by rw [up_at, if_neg (fun q => absurd q.1 (by decide))]; exact h2 j hj)
    rw [K2_step (by decide) (by omega)] at e
    rw [M_keeps_b.eq_1 3, if_neg (by decide), if_neg (by decide), if_pos rfl, nwN k (by omega), if_neg (by omega), if_pos (by omega), ixN k (by omega), if_pos (h2 k (by omega)), sb, ← e]
    rfl
theorem keep4 : ∀ (m k : Nat) (g : AG), k + m = 60 → M_keeps_b 4 k g = some (0, K2 142 143 60 k g) := by
  intro m
  induction m with
  | zero =>
    intro k g h
    have e : k = 60 := by omega
    subst e
    rw [M_keeps_b.eq_1 4, if_neg (by decide), if_neg (by decide), if_neg (by decide), if_pos rfl, nwN 60 (by omega), if_pos (by decide), K2_end]
  | succ m ih =>
    intro k g h
    have e := ih (k + 1) (up g 142 k (g 143 k)) (by omega)
    rw [K2_step (by decide) (by omega)] at e
    rw [M_keeps_b.eq_1 4, if_neg (by decide), if_neg (by decide), if_neg (by decide), if_pos rfl, nwN k (by omega), if_neg (by omega), if_pos (by omega), ixN k (by omega), sb, ← e]
    rfl
abbrev RKM : Reg := [(117, 35), (128, 0), (129, 0), (130, 0), (131, 0), (132, 0), (133, 0), (134, 0), (142, 0), (144, 0)]
theorem K1_fr {n : Nat} {g : AG} : FR RKM g (K1 n 0 g) := by
  intro a b h
  unfold K1
  rw [if_neg (fun q => ?_)]
  have c : a = 128 ∨ a = 129 ∨ a = 130 ∨ a = 131 ∨ a = 132 ∨ a = 133 := by omega
  rcases c with rfl | rfl | rfl | rfl | rfl | rfl <;> simp [inR, inP] at h
theorem K2_fr {c d n : Nat} {g : AG} : FR [(c, 0)] g (K2 c d n 0 g) := by
  intro a b h
  unfold K2
  rw [if_neg (fun q => ?_)]
  rw [q.1] at h
  simp [inR, inP] at h
theorem keeps_s {g : AG} {n s : Nat} (hn : n ≤ 16) (hs : s ≤ 500) (h35 : g 117 35 = n) (h36 : g 117 36 = s) (h145 : ∀ j, j < 30 → g 145 j = 0 ∨ g 145 j = 1) : ∃ g', M_keeps g = some (0, g') ∧ FR RKM g g' ∧ g' 117 34 = n ∧ (∀ l, l < n → g' 128 l = g 135 l ∧ g' 129 l = g 136 l ∧ g' 130 l = g 137 l ∧ g' 131 l = g 138 l ∧ g' 132 l = g 139 l ∧ g' 133 l = g 140 l) ∧ (∀ j, g' 134 j = if j < 2 * s then g 141 j else g 134 j) ∧ (∀ j, j < 30 → g' 144 j = g 145 j) ∧ ∀ j, j < 60 → g' 142 j = g 143 j := by
  obtain ⟨g1, hg1⟩ : ∃ g1 : AG, g1 = up g 117 34 (n : Int) := ⟨_, rfl⟩
  have f1 : FR RKM g g1 := by rw [hg1]; exact Fr.up Fr.rf rfl
  have a34 : g1 117 34 = n := by rw [hg1, up_at, if_pos ⟨rfl, rfl⟩]
  have e1 := keep1 hn n 0 g1 (by omega) a34
  obtain ⟨g2, hg2⟩ : ∃ g2 : AG, g2 = K1 n 0 g1 := ⟨_, rfl⟩
  have f2 : FR RKM g1 g2 := by rw [hg2]; exact K1_fr
  rw [← hg2] at e1
  have e2 := keep2 hs (2 * s) 0 g2 (by omega) (by rw [f2 117 36 rfl, f1 117 36 rfl]; exact h36)
  obtain ⟨g3, hg3⟩ : ∃ g3 : AG, g3 = K2 134 141 (2 * s) 0 g2 := ⟨_, rfl⟩
  have f3 : FR [(134, 0)] g2 g3 := by rw [hg3]; exact K2_fr
  rw [← hg3] at e2
  have e3 := keep3 30 0 g3 (by omega) (fun j hj => by rw [f3 145 j rfl, f2 145 j rfl, f1 145 j rfl]; exact h145 j hj)
  obtain ⟨g4, hg4⟩ : ∃ g4 : AG, g4 = K2 144 145 30 0 g3 := ⟨_, rfl⟩
  have f4 : FR [(144, 0)] g3 g4 := by rw [hg4]; exact K2_fr
  rw [← hg4] at e3
  have e4 := keep4 60 0 g4 (by omega)
  obtain ⟨g5, hg5⟩ : ∃ g5 : AG, g5 = K2 142 143 60 0 g4 := ⟨_, rfl⟩
  have f5 : FR [(142, 0)] g4 g5 := by rw [hg5]; exact K2_fr
  rw [← hg5] at e4
  have up : ∀ l, l < n → g2 128 l = g 135 l ∧ g2 129 l = g 136 l ∧ g2 130 l = g 137 l ∧ g2 131 l = g 138 l ∧ g2 132 l = g 139 l ∧ g2 133 l = g 140 l := fun l hl => by
    rw [hg2]
    unfold K1
    rw [if_pos (by omega), if_pos (by omega), if_pos (by omega), if_pos (by omega), if_pos (by omega), if_pos (by omega), f1 (128 + 7) l rfl, f1 (129 + 7) l rfl, f1 (130 + 7) l rfl, f1 (131 + 7) l rfl, f1 (132 + 7) l rfl, f1 (133 + 7) l rfl]
    exact ⟨rfl, rfl, rfl, rfl, rfl, rfl⟩
  refine ⟨g5, ?_, f1.tr (f2.tr ((FR.mo f3 rfl).tr ((FR.mo f4 rfl).tr (FR.mo f5 rfl)))), by rw [f5 117 34 rfl, f4 117 34 rfl, f3 117 34 rfl, hg2]; exact a34, fun l hl => ?_, fun j => ?_, fun j hj => ?_, fun j hj => ?_⟩
  · unfold M_keeps
    rw [h35, sb, ← hg1]
    have e1' : M_keeps_b 1 0 g1 = M_keeps_b 2 0 g2 := e1
    have e2' : M_keeps_b 2 0 g2 = M_keeps_b 3 0 g3 := e2
    have e3' : M_keeps_b 3 0 g3 = M_keeps_b 4 0 g4 := e3
    have e4' : M_keeps_b 4 0 g4 = some (0, g5) := e4
    rw [e1', e2', e3', e4']
  · rw [f5 128 l rfl, f4 128 l rfl, f3 128 l rfl, f5 129 l rfl, f4 129 l rfl, f3 129 l rfl, f5 130 l rfl, f4 130 l rfl, f3 130 l rfl, f5 131 l rfl, f4 131 l rfl, f3 131 l rfl, f5 132 l rfl, f4 132 l rfl, f3 132 l rfl, f5 133 l rfl, f4 133 l rfl, f3 133 l rfl]
    exact up l hl
  · rw [f5 134 j rfl, f4 134 j rfl, hg3]
    unfold K2
    by_cases c : j < 2 * s
    · rw [if_pos (by omega), if_pos c, f2 141 j rfl, f1 141 j rfl]
    · rw [if_neg (by omega), if_neg c, hg2]
      unfold K1
      rw [if_neg (by omega), hg1, up_at, if_neg (fun q => absurd q.1 (by decide))]
  · rw [f5 144 j rfl, hg4]
    unfold K2
    rw [if_pos (by omega), f3 145 j rfl, f2 145 j rfl, f1 145 j rfl]
  · rw [hg5]
    unfold K2
    rw [if_pos (by omega), f4 143 j rfl, f3 143 j rfl, f2 143 j rfl, f1 143 j rfl]
abbrev RTO : Reg := [(2, 3), (2, 4), (2, 11), (17, 0), (18, 0), (19, 0), (20, 0), (21, 0), (22, 0), (23, 0), (24, 0), (25, 0), (26, 0)]
theorem Fr.copy {W : Nat → Nat → Bool} {g g' : AG} {ks sp kd dp n : Nat} (h1 : Fr W g g') (hw : ∀ i, W kd i = true) : Fr W g (copyG g' ks sp kd dp n) := by
  intro a b h
  unfold copyG
  rw [if_neg (fun q => by rw [q.1, hw] at h; cases h)]
  exact h1 a b h
theorem takeOver_s (g : AG) : ∃ g', Rules_takeOver g = some (0, g') ∧ FR RTO g g' ∧ g' 2 3 = g 3 3 ∧ g' 2 10 = g 3 10 ∧ (∀ j, j < 500 → g' 17 j = g 29 j ∧ g' 18 j = g 30 j) ∧ (∀ l, l < 16 → g' 19 l = g 31 l ∧ g' 20 l = g 32 l ∧ g' 21 l = g 33 l ∧ g' 22 l = g 34 l ∧ g' 23 l = g 35 l ∧ g' 24 l = g 36 l) ∧ ∀ i, i < 30 → g' 25 i = g 37 i ∧ g' 26 i = g 38 i := by
  have i0 : ix 0 = 0 := ixN 0 (by ((try clear i0); (try clear i500); (try clear i16); (try clear i30); omega))
  have i500 : ix 500 = 500 := ixN 500 (by ((try clear i0); (try clear i500); (try clear i16); (try clear i30); omega))
  have i16 : ix 16 = 16 := ixN 16 (by ((try clear i0); (try clear i500); (try clear i16); (try clear i30); omega))
  have i30 : ix 30 = 30 := ixN 30 (by ((try clear i0); (try clear i500); (try clear i16); (try clear i30); omega))
  unfold Rules_takeOver
  rw [i0, i500, i16, i30]
  simp only [sb]
  refine ⟨_, rfl, ?_, ?_, ?_, ?_, ?_, ?_⟩
  · exact Fr.copy (Fr.copy (Fr.copy (Fr.copy (Fr.copy (Fr.copy (Fr.copy (Fr.copy (Fr.copy (Fr.copy (Fr.up (Fr.up (Fr.up Fr.rf rfl) rfl) rfl) (fun _ => rfl)) (fun _ => rfl)) (fun _ => rfl)) (fun _ => rfl)) (fun _ => rfl)) (fun _ => rfl)) (fun _ => rfl)) (fun _ => rfl)) (fun _ => rfl)) (fun _ => rfl)
  · simp [copyG, up_at]
  · simp [copyG, up_at]
  · intro j hj; simp [copyG, up_at, hj]
  · intro l hl; simp [copyG, up_at, hl]
  · intro i hi; simp [copyG, up_at, hi]
end
section
/-! plain programs: rules, both sides -/
def JVal (g : AG) : Prop := 0 ≤ g 117 41 ∧ g 117 41 ≤ 9999
theorem POk_xrel {tp : Nat → Int} {L T k s n : Nat} {rX rM gT : AG} (R : PRel tp L T k s rX rM) (hn : n ≤ 16) (LN : ∀ l, l < n → LnR s rX rM l) (t23 : gT 2 3 = n) (t17 : ∀ j, j < 500 → gT 17 j = rX 29 j ∧ gT 18 j = rX 30 j) (t19 : ∀ l, l < 16 → gT 19 l = rX 31 l ∧ gT 20 l = rX 32 l ∧ gT 21 l = rX 33 l ∧ gT 22 l = rX 34 l) : XRel gT (rM 135) (rM 138) (rM 139) (rM 140) (rM 141) := by
  have s5 : s ≤ 500 := R.2.2.2.2.2.2.2.2.2.1
  have op := R.2.2.2.2.2.2.2.2.2.2.1
  refine ⟨by omega, fun l hl => ?_, fun l hl h2 fc => ?_, fun l hl h2 fc => ?_, fun l hl j h1 h2 => ?_⟩
  · obtain ⟨h1, h2, h3, ⟨a, b, c, e1, e2, e3, l1, l2, l3, v1, v2⟩, h5⟩ := LN l (by omega)
    have t := t19 l (by omega)
    refine ⟨by rw [t.1]; exact h1, h2, ⟨by rw [t.2.1]; exact h3.1.symm, by rw [t.2.2.1]; exact h3.2.1.symm, by rw [t.2.2.2]; exact h3.2.2.symm⟩, ?_⟩
    rw [t.2.1, t.2.2.1, t.2.2.2, e1, e2, e3]
    omega
  · obtain ⟨h1, h2', h3, ⟨a, b, c, e1, e2, e3, l1, l2, l3, v1, v2⟩, h5⟩ := LN l (by omega)
    have t := t19 l (by omega)
    rw [t.2.1, t.2.2.1, e1, e2, show ((b : Int) - (a : Int)).toNat = b - a by omega, Int.toNat_natCast]
    exact v1 h2 fc [] (by simp)
  · obtain ⟨h1, h2', h3, ⟨a, b, c, e1, e2, e3, l1, l2, l3, v1, v2⟩, h5⟩ := LN l (by omega)
    have t := t19 l (by omega)
    rw [t.2.2.1, t.2.2.2, e2, e3] at h2
    rw [t.2.2.1, t.2.2.2, e2, e3, show ((c : Int) - (b : Int)).toNat = c - b by omega, Int.toNat_natCast]
    exact v2 (by omega) fc [] (by simp)
  · obtain ⟨h1', h2', h3, ⟨a, b, c, e1, e2, e3, l1, l2, l3, v1, v2⟩, h5⟩ := LN l (by omega)
    have t := t19 l (by omega)
    rw [t.2.2.2, e3] at h2
    have tj := t17 j (by omega)
    rw [tj.1, tj.2]
    exact op j (by omega)
abbrev RRX : Reg := [(4, 3), (4, 6), (4, 7), (4, 8), (4, 9), (3, 3), (3, 4), (3, 11), (29, 0), (30, 0), (31, 0), (32, 0), (33, 0), (34, 0), (35, 0), (36, 0), (37, 0), (38, 0), (42, 0), (43, 0), (2, 3), (2, 4), (2, 11), (17, 0), (18, 0), (19, 0), (20, 0), (21, 0), (22, 0), (23, 0), (24, 0), (25, 0), (26, 0), (27, 0), (28, 0), (44, 0), (45, 0)]
abbrev RRM : Reg := [(117, 36), (117, 39), (117, 40), (117, 41), (117, 42), (117, 43), (117, 44), (117, 37), (117, 46), (135, 0), (136, 0), (137, 0), (138, 0), (139, 0), (140, 0), (141, 0), (143, 0), (145, 0), (117, 38), (117, 45), (117, 47), (117, 35), (128, 0), (129, 0), (130, 0), (131, 0), (132, 0), (133, 0), (134, 0), (142, 0), (144, 0)]
abbrev RRules : Reg := [(4, 3), (4, 6), (4, 7), (4, 8), (4, 9), (3, 3), (3, 4), (3, 11), (29, 0), (30, 0), (31, 0), (32, 0), (33, 0), (34, 0), (35, 0), (36, 0), (37, 0), (38, 0), (42, 0), (43, 0), (2, 3), (2, 4), (2, 11), (17, 0), (18, 0), (19, 0), (20, 0), (21, 0), (22, 0), (23, 0), (24, 0), (25, 0), (26, 0), (27, 0), (28, 0), (44, 0), (45, 0), (117, 36), (117, 39), (117, 40), (117, 41), (117, 42), (117, 43), (117, 44), (117, 37), (117, 46), (135, 0), (136, 0), (137, 0), (138, 0), (139, 0), (140, 0), (141, 0), (143, 0), (145, 0), (117, 38), (117, 45), (117, 47), (117, 35), (128, 0), (129, 0), (130, 0), (131, 0), (132, 0), (133, 0), (134, 0), (142, 0), (144, 0)]
/-- the class alone, its rules read -/
theorem X_rules_s {g : AG} (qT : JTape g) (qV : JVal g) : ∃ (T : Nat) (rX rM : AG), TkOk (g 41) (g 4 2).toNat T ∧ FR RPA g rX ∧ Parser_read g = some (if rX 4 7 = 0 then rX 3 3 else -1, up rX 4 2 0) ∧ ((rX 4 7 = 0 ∧ POk (g 41) (g 4 2).toNat T rX rM ∧ ∃ n gT gL, rX 3 3 = ((n : Nat) : Int) ∧ n ≤ 16 ∧ X_rules g = some ((n : Int), gL) ∧ FR RTO (up rX 4 2 0) gT ∧ FR [(27, 0), (28, 0), (44, 0), (45, 0)] gT gL ∧ gT 2 3 = n ∧ gT 2 10 = rX 3 10 ∧ (∀ j, j < 500 → gT 17 j = rX 29 j ∧ gT 18 j = rX 30 j) ∧ (∀ l, l < 16 → gT 19 l = rX 31 l ∧ gT 20 l = rX 32 l ∧ gT 21 l = rX 33 l ∧ gT 22 l = rX 34 l ∧ gT 23 l = rX 35 l ∧ gT 24 l = rX 36 l) ∧ (∀ i, i < 30 → gT 25 i = rX 37 i ∧ gT 26 i = rX 38 i) ∧ ∀ d : Nat, d < 14 → (gL 44 d = if srvF (rM 135) (rM 139) (rM 140) (rM 141) (fcDay d (g 1 5)) 0 n 0 = -1 then 0 else gT 23 (srvF (rM 135) (rM 139) (rM 140) (rM 141) (fcDay d (g 1 5)) 0 n 0).toNat) ∧ (gL 45 d = if srvF (rM 135) (rM 139) (rM 140) (rM 141) (fcDay d (g 1 5)) 0 n 0 = -1 then 24 else gT 24 (srvF (rM 135) (rM 139) (rM 140) (rM 141) (fcDay d (g 1 5)) 0 n 0).toNat)) ∨ (rX 4 7 ≠ 0 ∧ X_rules g = some (-1, up rX 4 2 0))) := by
  obtain ⟨⟨q1, q2, q3⟩, q4⟩ := qT
  obtain ⟨L, hL⟩ := natOf q2
  have eL : (g 4 2).toNat = L := by omega
  rw [eL]
  have O : TpOk (g 41) L := ⟨by omega, fun k hk => (q4 k (by omega)).2⟩
  obtain ⟨T, rX, rM, b, OT, e1, e2, er, f1, f2⟩ := parse_rel O (gX := g) (gM := g) ⟨hL, fun k _ => rfl⟩ ⟨by rw [q1]; exact hL, fun k hk => (q4 k (by omega)).1⟩ qV
  refine ⟨T, rX, rM, OT, f1, e1, ?_⟩
  have u2 : ∀ a b, ¬ (a = 4 ∧ b = 2) → (up rX 4 2 0) a b = rX a b := fun a b h => by rw [up_at, if_neg h]
  rcases er with ⟨_, P⟩ | ⟨_, w, p, F, _⟩
  · have P0 := P
    obtain ⟨k, s, n, R, hn, h33, h35, LN, TN⟩ := P
    have r7 : rX 4 7 = 0 := R.2.2.1
    obtain ⟨gT, t1, fT, t23, t210, t17, t19, t25⟩ := takeOver_s (up rX 4 2 0)
    rw [u2 3 3 (by omega)] at t23
    rw [u2 3 10 (by omega)] at t210
    have t17' : ∀ j, j < 500 → gT 17 j = rX 29 j ∧ gT 18 j = rX 30 j := fun j hj => by
      have := t17 j hj
      rw [u2 29 j (by omega), u2 30 j (by omega)] at this
      exact this
    have t19' : ∀ l, l < 16 → gT 19 l = rX 31 l ∧ gT 20 l = rX 32 l ∧ gT 21 l = rX 33 l ∧ gT 22 l = rX 34 l ∧ gT 23 l = rX 35 l ∧ gT 24 l = rX 36 l := fun l hl => by
      have := t19 l hl
      rw [u2 31 l (by omega), u2 32 l (by omega), u2 33 l (by omega), u2 34 l (by omega), u2 35 l (by omega), u2 36 l (by omega)] at this
      exact this
    have t25' : ∀ i, i < 30 → gT 25 i = rX 37 i ∧ gT 26 i = rX 38 i := fun i hi => by
      have := t25 i hi
      rw [u2 37 i (by omega), u2 38 i (by omega)] at this
      exact this
    have t23' : gT 2 3 = n := t23.trans h33
    have X := POk_xrel R hn LN t23' t17' (fun l hl => ⟨(t19' l hl).1, (t19' l hl).2.1, (t19' l hl).2.2.1, (t19' l hl).2.2.2.1⟩)
    have w15 : gT 1 5 = g 1 5 := by rw [fT 1 5 rfl, u2 1 5 (by omega), f1 1 5 rfl]
    obtain ⟨gL, l1, fL, _, l3⟩ := learn_s (hA := gT 23) (hB := gT 24) 14 0 gT (by omega) w15 X (fun l _ _ => ⟨rfl, rfl⟩)
    have nt : (gT 2 3).toNat = n := by omega
    rw [nt] at l3
    refine Or.inl ⟨r7, P0, n, gT, gL, h33, hn, ?_, fT, fL, t23', t210, t17', t19', t25', fun d hd => l3 d (Nat.zero_le d) hd⟩
    unfold X_rules
    rw [e1, if_pos r7, sb, h33, nwN n (by omega), if_neg (by omega), t1, sb]
    unfold Voyage_learnHours
    have l1' : Voyage_learnHours_b 0 gT = some (0, gL) := l1
    rw [l1', sb]
  · have w1 := F.2.2.1
    have w2 := F.2.2.2.2.2.1
    have r7 : rX 4 7 ≠ 0 := by omega
    refine Or.inr ⟨r7, ?_⟩
    unfold X_rules
    rw [e1, if_neg r7, sb, nw_m1, if_pos rfl]
theorem sm_rules {g : AG} (qT : JTape g) (qR : JRule g) (qH : JHour g) (qW : JWat g) (qV : JVal g) : ∃ r1 r2, X_rules g = some r1 ∧ M_rules r1.2 = some r2 ∧ nw r1.1 = nw r2.1 ∧ JTape r2.2 ∧ JRule r2.2 ∧ JHour r2.2 ∧ JFault r2.2 ∧ JVal r2.2 ∧ FR RRules g r2.2 := by
  obtain ⟨T, rX, rM, OT, f1, e1, er⟩ := X_rules_s qT qV
  have qT0 := qT
  obtain ⟨⟨q1, q2, q3⟩, q4⟩ := qT
  obtain ⟨L, hL⟩ := natOf q2
  have eL : (g 4 2).toNat = L := by omega
  rw [eL] at OT er
  have O : TpOk (g 41) L := ⟨by omega, fun k hk => (q4 k (by omega)).2⟩
  have fU : FR RRX g (up rX 4 2 0) := Fr.up (FR.mo f1 rfl) rfl
  -- the reference, over what the class left
  have second : ∀ gL : AG, FR RRX g gL → ∃ (T' : Nat) (rM' : AG) (b : Int), M_rules gL = M_rules_b 3 b rM' ∧ ((b = 1 ∧ POk (g 41) L T' rX rM') ∨ (b = 0 ∧ PFail (g 41) L T' rX rM')) ∧ FR RQM gL rM' := by
    intro gL fL
    obtain ⟨T', rX', rM', b, OT', e1', e2', er', f1', f2'⟩ := parse_rel O (gX := g) (gM := gL) ⟨hL, fun k _ => rfl⟩ ⟨by rw [fL 117 37 rfl, q1]; exact hL, fun k hk => by rw [fL 146 k rfl]; exact (q4 k (by omega)).1⟩ (by rw [fL 117 41 rfl]; exact qV)
    have eX : rX' = rX := by
      have h := e1'.symm.trans e1
      have h2 : up rX' 4 2 0 = up rX 4 2 0 := congrArg Prod.snd (Option.some.inj h)
      funext a b
      by_cases c : a = 4 ∧ b = 2
      · rw [c.1, c.2, f1' 4 2 rfl, f1 4 2 rfl]
      · have h3 : (up rX' 4 2 0) a b = (up rX 4 2 0) a b := by rw [h2]
        rw [up_at, up_at, if_neg c, if_neg c] at h3
        exact h3
    rw [eX] at er'
    exact ⟨T', rM', b, e2', er', f2'⟩
  rcases er with ⟨r7, P, n, gT, gL, h33, hn, eX, fT, fL, t23, t210, t17, t19, t25, th⟩ | ⟨r7, eX⟩
  · have fgL : FR RRX g gL := fU.tr ((FR.mo fT rfl).tr (FR.mo fL rfl))
    obtain ⟨T', rM', b, e2, er', f2⟩ := second gL fgL
    rcases er' with ⟨hb, k', s', n', R', hn', h33', h35', LN', TN'⟩ | ⟨_, w, p, F, _⟩
    · subst hb
      have en : n' = n := by omega
      subst en
      obtain ⟨g7, hg7⟩ : ∃ g7 : AG, g7 = up (up (up rM' 117 37 0) 117 44 (rM' 117 42)) 117 46 (-1) := ⟨_, rfl⟩
      have f7 : FR [(117, 38), (117, 45), (117, 47)] rM' g7 := by rw [hg7]; exact Fr.up (Fr.up (Fr.up Fr.rf rfl) rfl) rfl
      have s5 : s' ≤ 500 := R'.2.2.2.2.2.2.2.2.2.1
      obtain ⟨gF, k1, kf, k34, kl, k134, k144, k142⟩ := keeps_s (g := g7) (n := n') (s := s') hn' s5 (by rw [f7 117 35 rfl]; exact h35') (by rw [f7 117 36 rfl]; exact R'.2.2.2.2.2.2.2.1) (fun j hj => by
        have t := TN' (j / 2) (by omega) (j % 2) (by omega)
        rw [show 2 * (j / 2) + j % 2 = j by omega] at t
        rw [f7 145 j rfl, t.1]
        by_cases c : tb (rX 3 10) (15 * (j % 2) + j / 2) = true
        · rw [if_pos c]; exact Or.inr rfl
        · rw [if_neg c]; exact Or.inl rfl)
      have fF : FR RRM gL gF := (FR.mo f2 rfl).tr ((FR.mo f7 rfl).tr (FR.mo kf rfl))
      have fgF : FR RRules g gF := (FR.mo fgL rfl).tr (FR.mo fF rfl)
      have c2 : gF 2 3 = n' := by rw [fF 2 3 rfl, fL 2 3 rfl]; exact t23
      have cX : ∀ a l, a = 17 ∨ a = 18 ∨ a = 19 ∨ a = 20 ∨ a = 21 ∨ a = 22 ∨ a = 23 ∨ a = 24 ∨ a = 25 ∨ a = 26 → gF a l = gT a l := fun a l ha => by
        rcases ha with rfl | rfl | rfl | rfl | rfl | rfl | rfl | rfl | rfl | rfl <;> rw [fF _ l rfl, fL _ l rfl]
      have c310 : gF 2 10 = rX 3 10 := by rw [fF 2 10 rfl, fL 2 10 rfl]; exact t210
      have k134' : ∀ j, j < 2 * s' → gF 134 j = rM' 141 j := fun j hj => by rw [k134 j, if_pos hj, f7 141 j rfl]
      have op := R'.2.2.2.2.2.2.2.2.2.2.1
      have jl : JRuL gF := fun l hl => by
        obtain ⟨h1, h2, h3, ⟨a, b, c, e1, e2, e3, l1, l2, l3, v1, v2⟩, h5⟩ := LN' l (by omega)
        have t := t19 l (by omega)
        have kk := kl l (by omega)
        rw [cX 19 l (by omega), cX 20 l (by omega), cX 21 l (by omega), cX 22 l (by omega), kk.1, kk.2.2.2.1, kk.2.2.2.2.1, kk.2.2.2.2.2, f7 135 l rfl, f7 138 l rfl, f7 139 l rfl, f7 140 l rfl, t.1, t.2.1, t.2.2.1, t.2.2.2.1]
        exact ⟨h1, h2, h3, by omega⟩
      have jh : JRuH gF := fun l hl h0 => by
        obtain ⟨h1, h2, h3, _, h5⟩ := LN' l (by omega)
        have t := t19 l (by omega)
        have kk := kl l (by omega)
        rw [kk.1, f7 135 l rfl] at h0
        rw [kk.2.1, kk.2.2.1, f7 136 l rfl, f7 137 l rfl, cX 23 l (by omega), cX 24 l (by omega), t.2.2.2.2.1, t.2.2.2.2.2]
        exact h5 h0
      have hrule : JRule gF := by
        refine ⟨⟨by rw [c2]; exact k34, by omega, by omega⟩, fun j hj => ?_, jl, jh, fun l hl h2 fc => ?_, fun l hl h2 fc => ?_, fun l hl j h1 h2 => ?_, fun i hi => ?_⟩
        · rw [k134 j]
          by_cases c : j < 2 * s'
          · rw [if_pos c, f7 141 j rfl]; exact R'.2.2.2.2.2.2.2.2.2.2.2.1 j c
          · rw [if_neg c, f7 134 j rfl, f2 134 j rfl, fgL 134 j rfl]; exact qR.2.1 j hj
        · obtain ⟨h1, h2', h3, ⟨a, b, c, e1, e2, e3, l1, l2, l3, v1, v2⟩, h5⟩ := LN' l (by omega)
          have t := t19 l (by omega)
          have kk := kl l (by omega)
          rw [kk.1, f7 135 l rfl] at h2
          rw [cX 20 l (by omega), cX 21 l (by omega), t.2.1, t.2.2.1, e1, e2, show ((b : Int) - (a : Int)).toNat = b - a by omega, Int.toNat_natCast]
          have q := (v1 h2).cd (cd' := gF 134) l1 (fun j hj => k134' j (by omega))
          exact q fc [] (by simp)
        · obtain ⟨h1, h2', h3, ⟨a, b, c, e1, e2, e3, l1, l2, l3, v1, v2⟩, h5⟩ := LN' l (by omega)
          have t := t19 l (by omega)
          rw [cX 21 l (by omega), cX 22 l (by omega), t.2.2.1, t.2.2.2.1, e2, e3] at h2
          rw [cX 21 l (by omega), cX 22 l (by omega), t.2.2.1, t.2.2.2.1, e2, e3, show ((c : Int) - (b : Int)).toNat = c - b by omega, Int.toNat_natCast]
          have q := (v2 (by omega)).cd (cd' := gF 134) l2 (fun j hj => k134' j (by omega))
          exact q fc [] (by simp)
        · obtain ⟨h1', h2', h3, ⟨a, b, c, e1, e2, e3, l1, l2, l3, v1, v2⟩, h5⟩ := LN' l (by omega)
          have t := t19 l (by omega)
          rw [cX 22 l (by omega), t.2.2.2.1, e3] at h2
          have tj := t17 j (by omega)
          rw [cX 17 j (by omega), cX 18 j (by omega), tj.1, tj.2, k134' (2 * j) (by omega), k134' (2 * j + 1) (by omega)]
          exact op j (by omega)
        · have a := TN' i hi 0 (by omega)
          have b := TN' i hi 1 (by omega)
          have ti := t25 i (by omega)
          have ti2 := t25 (15 + i) (by omega)
          rw [show 2 * i + 0 = 2 * i by omega, show 15 * 0 + i = i by omega] at a
          rw [show 15 * 1 + i = 15 + i by omega] at b
          rw [k144 (2 * i) (by omega), k144 (2 * i + 1) (by omega), k142 (2 * (2 * i)) (by omega), k142 (2 * (2 * i) + 1) (by omega), k142 (2 * (2 * i + 1)) (by omega), k142 (2 * (2 * i + 1) + 1) (by omega), f7 145 _ rfl, f7 145 _ rfl, f7 143 _ rfl, f7 143 _ rfl, f7 143 _ rfl, f7 143 _ rfl, cX 25 i (by omega), cX 26 i (by omega), cX 25 (15 + i) (by omega), cX 26 (15 + i) (by omega), ti.1, ti.2, ti2.1, ti2.2, c310]
          exact ⟨a, b⟩
      have c42 : gF 4 2 = 0 := by rw [fF 4 2 rfl, fL 4 2 rfl, fT 4 2 rfl, up_at, if_pos ⟨rfl, rfl⟩]
      have jt : JTape gF := by
        refine ⟨⟨?_, by omega, by omega⟩, fun k hk => by omega⟩
        rw [c42, kf 117 37 rfl, hg7, up_at, if_neg (by omega), up_at, if_neg (by omega), up_at, if_pos ⟨rfl, rfl⟩]
      have jhr : JHour gF := by
        intro d hd
        obtain ⟨k, s, n2, R, hn2, h332, h352, LN, TN⟩ := P
        have en2 : n2 = n' := by omega
        subst en2
        have s5' : s ≤ 500 := R.2.2.2.2.2.2.2.2.2.1
        have tt := th d hd
        have w10 : gF 117 10 = g 1 5 := by rw [fF 117 10 rfl, fgL 117 10 rfl]; exact qW.1
        have es : srvF (rM 135) (rM 139) (rM 140) (rM 141) (fcDay d (g 1 5)) 0 n2 0 = srvG gF (fcDay d (gF 117 10)) 0 (gF 2 3).toNat 0 := by
          rw [w10, c2, Int.toNat_natCast]
          refine srvF_cg n2 0 (fun j _ hj => ?_)
          obtain ⟨h1, h2, h3, ⟨a, b, c, e1, e2, e3, l1, l2, l3, v1, v2⟩, h5⟩ := LN j (by omega)
          obtain ⟨h1', h2', h3', ⟨a', b', c', e1', e2', e3', l1', l2', l3', v1', v2'⟩, h5'⟩ := LN' j (by omega)
          have kk := kl j (by omega)
          have eb : b' = b := by omega
          have ec : c' = c := by omega
          refine ⟨?_, ?_, ?_, ?_⟩
          · rw [kk.1, f7 135 j rfl]; omega
          · rw [kk.2.2.2.2.1, f7 139 j rfl, h3.2.1, h3'.2.1]
          · rw [kk.2.2.2.2.2, f7 140 j rfl, h3.2.2, h3'.2.2]
          · rw [h3.2.1, h3.2.2, e2, e3, show ((c : Int) - (b : Int)).toNat = c - b by omega, Int.toNat_natCast]
            refine evl_op (w := rX 29) (c := rX 30) (c - b) b [] (fun i i1 i2 => ⟨R.2.2.2.2.2.2.2.2.2.2.1 i (by omega), ?_⟩)
            rw [k134' (2 * i) (by omega), k134' (2 * i + 1) (by omega)]
            exact op i (by omega)
        have rg := srvF_rng (kd := gF 128) (md := gF 132) (en := gF 133) (cd := gF 134) (fc := fcDay d (gF 117 10)) (sort := 0) (gF 2 3).toNat 0
        rw [es] at tt
        unfold hrA hrB
        rw [fF 44 d rfl, fF 45 d rfl, tt.1, tt.2]
        have rg2 : srvG gF (fcDay d (gF 117 10)) 0 (gF 2 3).toNat 0 = -1 ∨ (((0 : Nat) : Int) ≤ srvG gF (fcDay d (gF 117 10)) 0 (gF 2 3).toNat 0 ∧ srvG gF (fcDay d (gF 117 10)) 0 (gF 2 3).toNat 0 < ((0 + (gF 2 3).toNat : Nat) : Int) ∧ gF 128 (srvG gF (fcDay d (gF 117 10)) 0 (gF 2 3).toNat 0).toNat = 0) := rg
        generalize srvG gF (fcDay d (gF 117 10)) 0 (gF 2 3).toNat 0 = v at rg2 ⊢
        rcases rg2 with r | ⟨r1, r2, r3⟩
        · rw [if_pos r, if_pos r, if_pos r, if_pos r]
          exact ⟨rfl, rfl⟩
        · have vn : ¬ v = -1 := by omega
          have hh := jh v.toNat (by omega) r3
          rw [if_neg vn, if_neg vn, if_neg vn, if_neg vn, hh.1, hh.2.1, cX 23 _ (by omega), cX 24 _ (by omega)]
          exact ⟨rfl, rfl⟩
      have jf : JFault gF := by
        refine ⟨?_, ?_⟩
        · rw [kf 117 44 rfl, hg7, up_at, if_neg (by omega), up_at, if_pos ⟨rfl, rfl⟩, R'.2.2.2.2.2.2.2.2.2.2.2.2.2, fF 4 7 rfl, fL 4 7 rfl, fT 4 7 rfl, up_at, if_neg (by omega), r7]
        · rw [kf 117 46 rfl, hg7, up_at, if_pos ⟨rfl, rfl⟩, fF 4 8 rfl, fL 4 8 rfl, fT 4 8 rfl, up_at, if_neg (by omega), R'.2.2.2.2.2.2.2.2.2.2.2.2.1]
      have jv : JVal gF := by
        unfold JVal
        rw [kf 117 41 rfl, f7 117 41 rfl]
        exact R'.2.2.2.2.2.2.1
      refine ⟨((n' : Int), gL), ((n' : Int), gF), eX, ?_, rfl, jt, hrule, jhr, jf, jv, fgF⟩
      have u1 : (up rM' 117 37 0) 117 42 = rM' 117 42 := by rw [up_at, if_neg (by omega)]
      rw [e2, M_rules_b.eq_1 3, if_neg (by decide), if_neg (by decide), if_pos rfl, sb, u1, sb, nw_1, if_neg (by decide), sb, sb, ← hg7, if_neg (by decide), k1, sb]
      dsimp only
      rw [k34]
    · exfalso
      have w1 := F.2.2.1
      have w2 := F.2.2.2.2.2.1
      omega
  · obtain ⟨T', rM', b, e2, er', f2⟩ := second _ fU
    rcases er' with ⟨_, k', s', n', R', _⟩ | ⟨hb, w, p, F, b4, b5, b6⟩
    · exact absurd R'.2.2.1 r7
    · subst hb
      obtain ⟨g7, hg7⟩ : ∃ g7 : AG, g7 = up (up (up rM' 117 37 0) 117 44 (rM' 117 42)) 117 46 (rM' 117 43) := ⟨_, rfl⟩
      have f7 : FR [(117, 38), (117, 45), (117, 47)] rM' g7 := by rw [hg7]; exact Fr.up (Fr.up (Fr.up Fr.rf rfl) rfl) rfl
      have fF : FR [(117, 36), (117, 39), (117, 40), (117, 41), (117, 42), (117, 43), (117, 44), (117, 37), (117, 46), (135, 0), (136, 0), (137, 0), (138, 0), (139, 0), (140, 0), (141, 0), (143, 0), (145, 0), (117, 38), (117, 45), (117, 47)] (up rX 4 2 0) g7 := (FR.mo f2 rfl).tr (FR.mo f7 rfl)
      have fU2 : FR [(4, 3), (4, 6), (4, 7), (4, 8), (4, 9), (3, 3), (3, 4), (3, 11), (29, 0), (30, 0), (31, 0), (32, 0), (33, 0), (34, 0), (35, 0), (36, 0), (37, 0), (38, 0), (42, 0), (43, 0)] g (up rX 4 2 0) := Fr.up (FR.mo f1 rfl) rfl
      have c42 : g7 4 2 = 0 := by rw [fF 4 2 rfl, up_at, if_pos ⟨rfl, rfl⟩]
      have c47 : g7 4 7 = w := by rw [fF 4 7 rfl, up_at, if_neg (by omega)]; exact F.2.2.1
      have c48 : g7 4 8 = p := by rw [fF 4 8 rfl, up_at, if_neg (by omega)]; exact F.2.2.2.1
      have jt : JTape g7 := by
        refine ⟨⟨?_, by omega, by omega⟩, fun k hk => by omega⟩
        rw [c42, hg7, up_at, if_neg (by omega), up_at, if_neg (by omega), up_at, if_pos ⟨rfl, rfl⟩]
      have jf : JFault g7 := by
        refine ⟨?_, ?_⟩
        · rw [c47, hg7, up_at, if_neg (by omega), up_at, if_pos ⟨rfl, rfl⟩]; exact b4
        · rw [c48, hg7, up_at, if_pos ⟨rfl, rfl⟩]; exact b5
      have jv : JVal g7 := by
        unfold JVal
        rw [f7 117 41 rfl]
        exact b6
      refine ⟨(-1, up rX 4 2 0), (-1, g7), eX, ?_, rfl, jt, (qR.cg (fU2.cg rfl)).cg (fF.cg rfl), (qH.cg (fU2.cg rfl)).cg (fF.cg rfl), jf, jv, (FR.mo fU rfl).tr (FR.mo fF rfl)⟩
      have u1 : (up rM' 117 37 0) 117 42 = rM' 117 42 := by rw [up_at, if_neg (by omega)]
      have u3 : (up (up rM' 117 37 0) 117 44 (rM' 117 42)) 117 43 = rM' 117 43 := by rw [up_at, if_neg (by omega), up_at, if_neg (by omega)]
      rw [e2, M_rules_b.eq_1 3, if_neg (by decide), if_neg (by decide), if_pos rfl, sb, u1, sb, nw_0, if_pos rfl, u3, sb, sb, ← hg7, if_pos rfl]
end
section
/-! plain programs: all that holds, behind every call -/
theorem JFlag.cg {g g' : AG} (h : ∀ k i, inR [(117, 48)] k i = true → g' k i = g k i) (q : JFlag g) : JFlag g' := by
  unfold JFlag
  rw [h 117 47 rfl]
  exact q
theorem JArr.cg {g g' : AG} (h : ∀ k i, inR [(46, 0)] k i = true → g' k i = g k i) (q : JArr g) : JArr g' := by
  intro p hp
  rw [h 46 p rfl]
  exact q p hp
theorem JAlong.cg {g g' : AG} (h : ∀ k i, inR [(108, 1)] k i = true → g' k i = g k i) (q : JAlong g) : JAlong g' := by
  unfold JAlong
  rw [h 108 0 rfl]
  exact q
theorem JFault.cg {g g' : AG} (h : ∀ k i, inR [(117, 45), (4, 8), (117, 47), (4, 9)] k i = true → g' k i = g k i) (q : JFault g) : JFault g' := by
  unfold JFault
  rw [h 117 44 rfl, h 4 7 rfl, h 117 46 rfl, h 4 8 rfl]
  exact q
theorem JRain.cg {g g' : AG} (h : ∀ k i, inR [(12, 1), (12, 2)] k i = true → g' k i = g k i) (q : JRain g) : JRain g' := by
  unfold JRain
  rw [h 12 0 rfl, h 12 1 rfl]
  exact q
theorem JVal.cg {g g' : AG} (h : ∀ k i, inR [(117, 42)] k i = true → g' k i = g k i) (q : JVal g) : JVal g' := by
  unfold JVal
  rw [h 117 41 rfl]
  exact q
def Inv (g : AG) : Prop := JWay g ∧ JTrip g ∧ JBoat g ∧ JWgt g ∧ JPump g ∧ JJob g ∧ JCall g ∧ JTape g ∧ JLog g ∧ JYard g ∧ JRule g ∧ JWat g ∧ JHour g ∧ JStop g ∧ JFlag g ∧ JArr g ∧ JAlong g ∧ JFault g ∧ JRain g ∧ JQueue g ∧ JBook g ∧ JVal g
theorem iv_stretch : ∀ (x1 x2 x3 x4 : Int) (g : AG), I32 x1 → I32 x2 → I32 x3 → I32 x4 → Inv g → ∃ (r1 : Int × AG) (r2 : Int × AG), X_stretch x1 x2 x3 x4 g = some r1 ∧ M_stretch x1 x2 x3 x4 r1.2 = some r2 ∧ nw (r1.1) = nw (r2.1) ∧ Inv (r2.2) := by
  intro x1 x2 x3 x4 g h1 h2 h3 h4 hI
  obtain ⟨iWay, iTrip, iBoat, iWgt, iPump, iJob, iCall, iTape, iLog, iYard, iRule, iWat, iHour, iStop, iFlag, iArr, iAlong, iFault, iRain, iQueue, iBook, iVal⟩ := hI
  obtain ⟨r1, r2, e1, e2, e3, nWay, f⟩ := sm_stretch (g := g) h1 h2 h3 h4 iWay
  exact ⟨r1, r2, e1, e2, e3, nWay, iTrip.cg (f.cg rfl), iBoat.cg (f.cg rfl), iWgt.cg (f.cg rfl), iPump.cg (f.cg rfl), iJob.cg (f.cg rfl), iCall.cg (f.cg rfl), iTape.cg (f.cg rfl), iLog.cg (f.cg rfl), iYard.cg (f.cg rfl), iRule.cg (f.cg rfl), iWat.cg (f.cg rfl), iHour.cg (f.cg rfl), iStop.cg (f.cg rfl), iFlag.cg (f.cg rfl), iArr.cg (f.cg rfl), iAlong.cg (f.cg rfl), iFault.cg (f.cg rfl), iRain.cg (f.cg rfl), iQueue.cg (f.cg rfl), iBook.cg (f.cg rfl), iVal.cg (f.cg rfl)⟩
theorem iv_water : ∀ (x1 : Int) (g : AG), I32 x1 → Inv g → ∃ (r1 : Int × AG) (r2 : Int × AG), X_water x1 g = some r1 ∧ M_water x1 r1.2 = some r2 ∧ nw (r1.1) = nw (r2.1) ∧ Inv (r2.2) := by
  intro x1 g h1 hI
  obtain ⟨iWay, iTrip, iBoat, iWgt, iPump, iJob, iCall, iTape, iLog, iYard, iRule, iWat, iHour, iStop, iFlag, iArr, iAlong, iFault, iRain, iQueue, iBook, iVal⟩ := hI
  obtain ⟨r1, r2, e1, e2, e3, nWat, nHour, f⟩ := sm_water (g := g) h1 iRule iWat iHour
  exact ⟨r1, r2, e1, e2, e3, iWay.cg (f.cg rfl), iTrip.cg (f.cg rfl), iBoat.cg (f.cg rfl), iWgt.cg (f.cg rfl), iPump.cg (f.cg rfl), iJob.cg (f.cg rfl), iCall.cg (f.cg rfl), iTape.cg (f.cg rfl), iLog.cg (f.cg rfl), iYard.cg (f.cg rfl), iRule.cg (f.cg rfl), nWat, nHour, iStop.cg (f.cg rfl), iFlag.cg (f.cg rfl), iArr.cg (f.cg rfl), iAlong.cg (f.cg rfl), iFault.cg (f.cg rfl), iRain.cg (f.cg rfl), iQueue.cg (f.cg rfl), iBook.cg (f.cg rfl), iVal.cg (f.cg rfl)⟩
theorem iv_stoppage : ∀ (x1 x2 x3 : Int) (g : AG), I32 x1 → I32 x2 → I32 x3 → Inv g → ∃ (r1 : Int × AG) (r2 : Int × AG), X_stoppage x1 x2 x3 g = some r1 ∧ M_stoppage x1 x2 x3 r1.2 = some r2 ∧ nw (r1.1) = nw (r2.1) ∧ Inv (r2.2) := by
  intro x1 x2 x3 g h1 h2 h3 hI
  obtain ⟨iWay, iTrip, iBoat, iWgt, iPump, iJob, iCall, iTape, iLog, iYard, iRule, iWat, iHour, iStop, iFlag, iArr, iAlong, iFault, iRain, iQueue, iBook, iVal⟩ := hI
  obtain ⟨r1, r2, e1, e2, e3, nStop, f⟩ := sm_stoppage (g := g) h1 h2 h3 iStop
  exact ⟨r1, r2, e1, e2, e3, iWay.cg (f.cg rfl), iTrip.cg (f.cg rfl), iBoat.cg (f.cg rfl), iWgt.cg (f.cg rfl), iPump.cg (f.cg rfl), iJob.cg (f.cg rfl), iCall.cg (f.cg rfl), iTape.cg (f.cg rfl), iLog.cg (f.cg rfl), iYard.cg (f.cg rfl), iRule.cg (f.cg rfl), iWat.cg (f.cg rfl), iHour.cg (f.cg rfl), nStop, iFlag.cg (f.cg rfl), iArr.cg (f.cg rfl), iAlong.cg (f.cg rfl), iFault.cg (f.cg rfl), iRain.cg (f.cg rfl), iQueue.cg (f.cg rfl), iBook.cg (f.cg rfl), iVal.cg (f.cg rfl)⟩
theorem iv_boat : ∀ (x1 x2 x3 x4 : Int) (g : AG), I32 x1 → I32 x2 → I32 x3 → I32 x4 → Inv g → ∃ (r1 : Int × AG) (r2 : Int × AG), X_boat x1 x2 x3 x4 g = some r1 ∧ M_boat x1 x2 x3 x4 r1.2 = some r2 ∧ nw (r1.1) = nw (r2.1) ∧ Inv (r2.2) := by
  intro x1 x2 x3 x4 g h1 h2 h3 h4 hI
  obtain ⟨iWay, iTrip, iBoat, iWgt, iPump, iJob, iCall, iTape, iLog, iYard, iRule, iWat, iHour, iStop, iFlag, iArr, iAlong, iFault, iRain, iQueue, iBook, iVal⟩ := hI
  obtain ⟨r1, r2, e1, e2, e3, nBoat, f⟩ := sm_boat (g := g) h1 h2 h3 h4 iBoat.1 iBoat
  exact ⟨r1, r2, e1, e2, e3, iWay.cg (f.cg rfl), iTrip.mono (f.cg rfl) (boat_up h1 h2 h3 h4 iBoat.1 e1 e2), nBoat, iWgt.cg (f.cg rfl), iPump.cg (f.cg rfl), iJob.cg (f.cg rfl), iCall.cg (f.cg rfl), iTape.cg (f.cg rfl), iLog.cg (f.cg rfl), iYard.mono (f.cg rfl) (boat_up h1 h2 h3 h4 iBoat.1 e1 e2), iRule.cg (f.cg rfl), iWat.cg (f.cg rfl), iHour.cg (f.cg rfl), iStop.cg (f.cg rfl), iFlag.cg (f.cg rfl), iArr.cg (f.cg rfl), iAlong.cg (f.cg rfl), iFault.cg (f.cg rfl), iRain.cg (f.cg rfl), iQueue.cg (f.cg rfl), iBook.cg (f.cg rfl), iVal.cg (f.cg rfl)⟩
theorem iv_feed : ∀ (x1 x2 x3 x4 x5 : Int) (g : AG), I32 x1 → I32 x2 → I32 x3 → I32 x4 → I32 x5 → Inv g → ∃ (r1 : Int × AG) (r2 : Int × AG), X_feed x1 x2 x3 x4 x5 g = some r1 ∧ M_feed x1 x2 x3 x4 x5 r1.2 = some r2 ∧ nw (r1.1) = nw (r2.1) ∧ Inv (r2.2) := by
  intro x1 x2 x3 x4 x5 g h1 h2 h3 h4 h5 hI
  obtain ⟨iWay, iTrip, iBoat, iWgt, iPump, iJob, iCall, iTape, iLog, iYard, iRule, iWat, iHour, iStop, iFlag, iArr, iAlong, iFault, iRain, iQueue, iBook, iVal⟩ := hI
  obtain ⟨r1, r2, e1, e2, e3, nTape, f⟩ := sm_feed (x1 := x1) (x2 := x2) (x3 := x3) (x4 := x4) (x5 := x5) (g := g) iTape
  exact ⟨r1, r2, e1, e2, e3, iWay.cg (f.cg rfl), iTrip.cg (f.cg rfl), iBoat.cg (f.cg rfl), iWgt.cg (f.cg rfl), iPump.cg (f.cg rfl), iJob.cg (f.cg rfl), iCall.cg (f.cg rfl), nTape, iLog.cg (f.cg rfl), iYard.cg (f.cg rfl), iRule.cg (f.cg rfl), iWat.cg (f.cg rfl), iHour.cg (f.cg rfl), iStop.cg (f.cg rfl), iFlag.cg (f.cg rfl), iArr.cg (f.cg rfl), iAlong.cg (f.cg rfl), iFault.cg (f.cg rfl), iRain.cg (f.cg rfl), iQueue.cg (f.cg rfl), iBook.cg (f.cg rfl), iVal.cg (f.cg rfl)⟩
theorem iv_end : ∀ (x1 : Int) (g : AG), I32 x1 → Inv g → ∃ (r1 : Int × AG) (r2 : Int × AG), X_end x1 g = some r1 ∧ M_end x1 r1.2 = some r2 ∧ nw (r1.1) = nw (r2.1) ∧ Inv (r2.2) := by
  intro x1 g h1 hI
  obtain ⟨iWay, iTrip, iBoat, iWgt, iPump, iJob, iCall, iTape, iLog, iYard, iRule, iWat, iHour, iStop, iFlag, iArr, iAlong, iFault, iRain, iQueue, iBook, iVal⟩ := hI
  obtain ⟨r1, r2, e1, e2, e3, nTape, f⟩ := sm_end (g := g) h1 iTape
  exact ⟨r1, r2, e1, e2, e3, iWay.cg (f.cg rfl), iTrip.cg (f.cg rfl), iBoat.cg (f.cg rfl), iWgt.cg (f.cg rfl), iPump.cg (f.cg rfl), iJob.cg (f.cg rfl), iCall.cg (f.cg rfl), nTape, iLog.cg (f.cg rfl), iYard.cg (f.cg rfl), iRule.cg (f.cg rfl), iWat.cg (f.cg rfl), iHour.cg (f.cg rfl), iStop.cg (f.cg rfl), iFlag.cg (f.cg rfl), iArr.cg (f.cg rfl), iAlong.cg (f.cg rfl), iFault.cg (f.cg rfl), iRain.cg (f.cg rfl), iQueue.cg (f.cg rfl), iBook.cg (f.cg rfl), iVal.cg (f.cg rfl)⟩
theorem iv_rules : ∀ (g : AG), Inv g → ∃ (r1 : Int × AG) (r2 : Int × AG), X_rules g = some r1 ∧ M_rules r1.2 = some r2 ∧ nw (r1.1) = nw (r2.1) ∧ Inv (r2.2) := by
  intro g hI
  obtain ⟨iWay, iTrip, iBoat, iWgt, iPump, iJob, iCall, iTape, iLog, iYard, iRule, iWat, iHour, iStop, iFlag, iArr, iAlong, iFault, iRain, iQueue, iBook, iVal⟩ := hI
  obtain ⟨r1, r2, e1, e2, e3, nTape, nRule, nHour, nFault, nVal, f⟩ := sm_rules (g := g)  iTape iRule iHour iWat iVal
  exact ⟨r1, r2, e1, e2, e3, iWay.cg (f.cg rfl), iTrip.cg (f.cg rfl), iBoat.cg (f.cg rfl), iWgt.cg (f.cg rfl), iPump.cg (f.cg rfl), iJob.cg (f.cg rfl), iCall.cg (f.cg rfl), nTape, iLog.cg (f.cg rfl), iYard.cg (f.cg rfl), nRule, iWat.cg (f.cg rfl), nHour, iStop.cg (f.cg rfl), iFlag.cg (f.cg rfl), iArr.cg (f.cg rfl), iAlong.cg (f.cg rfl), nFault, iRain.cg (f.cg rfl), iQueue.cg (f.cg rfl), iBook.cg (f.cg rfl), nVal⟩
theorem iv_fault : ∀ (x1 : Int) (g : AG), I32 x1 → Inv g → nw (X_fault x1 g) = nw (M_fault x1 g) ∧ Inv g := by
  intro x1 g _ hI
  have hI0 := hI
  obtain ⟨iWay, iTrip, iBoat, iWgt, iPump, iJob, iCall, iTape, iLog, iYard, iRule, iWat, iHour, iStop, iFlag, iArr, iAlong, iFault, iRain, iQueue, iBook, iVal⟩ := hI
  exact ⟨sm_fault iFault, hI0⟩
theorem iv_open : ∀ (x1 x2 : Int) (g : AG), I32 x1 → I32 x2 → Inv g → ∃ (v1 : Int) (r2 : Int × AG), X_open x1 x2 g = some v1 ∧ M_open x1 x2 g = some r2 ∧ nw (v1) = nw (r2.1) ∧ Inv (r2.2) := by
  intro x1 x2 g h1 h2 hI
  obtain ⟨iWay, iTrip, iBoat, iWgt, iPump, iJob, iCall, iTape, iLog, iYard, iRule, iWat, iHour, iStop, iFlag, iArr, iAlong, iFault, iRain, iQueue, iBook, iVal⟩ := hI
  obtain ⟨r1, r2, e1, e2, e3, f⟩ := sm_open (g := g) h1 h2 iRule iHour
  exact ⟨r1, r2, e1, e2, e3, iWay.cg (f.cg rfl), iTrip.cg (f.cg rfl), iBoat.cg (f.cg rfl), iWgt.cg (f.cg rfl), iPump.cg (f.cg rfl), iJob.cg (f.cg rfl), iCall.cg (f.cg rfl), iTape.cg (f.cg rfl), iLog.cg (f.cg rfl), iYard.cg (f.cg rfl), iRule.cg (f.cg rfl), iWat.cg (f.cg rfl), iHour.cg (f.cg rfl), iStop.cg (f.cg rfl), iFlag.cg (f.cg rfl), iArr.cg (f.cg rfl), iAlong.cg (f.cg rfl), iFault.cg (f.cg rfl), iRain.cg (f.cg rfl), iQueue.cg (f.cg rfl), iBook.cg (f.cg rfl), iVal.cg (f.cg rfl)⟩
theorem iv_comes : ∀ (x1 x2 x3 x4 : Int) (g : AG), I32 x1 → I32 x2 → I32 x3 → I32 x4 → Inv g → ∃ (r1 : Int × AG) (r2 : Int × AG), X_comes x1 x2 x3 x4 g = some r1 ∧ M_comes x1 x2 x3 x4 r1.2 = some r2 ∧ nw (r1.1) = nw (r2.1) ∧ Inv (r2.2) := by
  intro x1 x2 x3 x4 g h1 h2 h3 h4 hI
  obtain ⟨iWay, iTrip, iBoat, iWgt, iPump, iJob, iCall, iTape, iLog, iYard, iRule, iWat, iHour, iStop, iFlag, iArr, iAlong, iFault, iRain, iQueue, iBook, iVal⟩ := hI
  obtain ⟨r1, r2, e1, e2, e3, f⟩ := sm_comes (g := g) h1 h2 h3 h4 ⟨iWay, iRule, iHour, iStop, iWat⟩ iBoat iFlag
  exact ⟨r1, r2, e1, e2, e3, iWay.cg (f.cg rfl), iTrip.cg (f.cg rfl), iBoat.cg (f.cg rfl), iWgt.cg (f.cg rfl), iPump.cg (f.cg rfl), iJob.cg (f.cg rfl), iCall.cg (f.cg rfl), iTape.cg (f.cg rfl), iLog.cg (f.cg rfl), iYard.cg (f.cg rfl), iRule.cg (f.cg rfl), iWat.cg (f.cg rfl), iHour.cg (f.cg rfl), iStop.cg (f.cg rfl), iFlag.cg (f.cg rfl), iArr.cg (f.cg rfl), iAlong.cg (f.cg rfl), iFault.cg (f.cg rfl), iRain.cg (f.cg rfl), iQueue.cg (f.cg rfl), iBook.cg (f.cg rfl), iVal.cg (f.cg rfl)⟩
theorem iv_maybe : ∀ (x1 x2 x3 x4 : Int) (g : AG), I32 x1 → I32 x2 → I32 x3 → I32 x4 → Inv g → ∃ (r1 : Int × AG) (r2 : Int × AG), X_maybe x1 x2 x3 x4 g = some r1 ∧ M_maybe x1 x2 x3 x4 r1.2 = some r2 ∧ nw (r1.1) = nw (r2.1) ∧ Inv (r2.2) := by
  intro x1 x2 x3 x4 g h1 h2 h3 h4 hI
  obtain ⟨iWay, iTrip, iBoat, iWgt, iPump, iJob, iCall, iTape, iLog, iYard, iRule, iWat, iHour, iStop, iFlag, iArr, iAlong, iFault, iRain, iQueue, iBook, iVal⟩ := hI
  obtain ⟨r1, r2, e1, e2, e3, f, nArr⟩ := sm_maybe (g := g) h1 h2 h3 h4 ⟨iWay, iRule, iHour, iStop, iWat⟩ iBoat iFlag iArr
  exact ⟨r1, r2, e1, e2, e3, iWay.cg (f.cg rfl), iTrip.cg (f.cg rfl), iBoat.cg (f.cg rfl), iWgt.cg (f.cg rfl), iPump.cg (f.cg rfl), iJob.cg (f.cg rfl), iCall.cg (f.cg rfl), iTape.cg (f.cg rfl), iLog.cg (f.cg rfl), iYard.cg (f.cg rfl), iRule.cg (f.cg rfl), iWat.cg (f.cg rfl), iHour.cg (f.cg rfl), iStop.cg (f.cg rfl), iFlag.cg (f.cg rfl), nArr, iAlong.cg (f.cg rfl), iFault.cg (f.cg rfl), iRain.cg (f.cg rfl), iQueue.cg (f.cg rfl), iBook.cg (f.cg rfl), iVal.cg (f.cg rfl)⟩
theorem iv_harm : ∀ (x1 x2 x3 x4 : Int) (g : AG), I32 x1 → I32 x2 → I32 x3 → I32 x4 → Inv g → ∃ (r1 : Int × AG) (r2 : Int × AG), X_harm x1 x2 x3 x4 g = some r1 ∧ M_harm x1 x2 x3 x4 r1.2 = some r2 ∧ nw (r1.1) = nw (r2.1) ∧ Inv (r2.2) := by
  intro x1 x2 x3 x4 g h1 h2 h3 h4 hI
  obtain ⟨iWay, iTrip, iBoat, iWgt, iPump, iJob, iCall, iTape, iLog, iYard, iRule, iWat, iHour, iStop, iFlag, iArr, iAlong, iFault, iRain, iQueue, iBook, iVal⟩ := hI
  obtain ⟨r1, r2, e1, e2, e3, f⟩ := sm_harm (g := g) h1 h2 h3 h4 ⟨iWay, iRule, iHour, iStop, iWat⟩ iBoat iFlag
  exact ⟨r1, r2, e1, e2, e3, iWay.cg (f.cg rfl), iTrip.cg (f.cg rfl), iBoat.cg (f.cg rfl), iWgt.cg (f.cg rfl), iPump.cg (f.cg rfl), iJob.cg (f.cg rfl), iCall.cg (f.cg rfl), iTape.cg (f.cg rfl), iLog.cg (f.cg rfl), iYard.cg (f.cg rfl), iRule.cg (f.cg rfl), iWat.cg (f.cg rfl), iHour.cg (f.cg rfl), iStop.cg (f.cg rfl), iFlag.cg (f.cg rfl), iArr.cg (f.cg rfl), iAlong.cg (f.cg rfl), iFault.cg (f.cg rfl), iRain.cg (f.cg rfl), iQueue.cg (f.cg rfl), iBook.cg (f.cg rfl), iVal.cg (f.cg rfl)⟩
theorem iv_back : ∀ (x1 x2 : Int) (g : AG), I32 x1 → I32 x2 → Inv g → ∃ (r1 : Int × AG) (r2 : Int × AG), X_back x1 x2 g = some r1 ∧ M_back x1 x2 r1.2 = some r2 ∧ nw (r1.1) = nw (r2.1) ∧ Inv (r2.2) := by
  intro x1 x2 g h1 h2 hI
  obtain ⟨iWay, iTrip, iBoat, iWgt, iPump, iJob, iCall, iTape, iLog, iYard, iRule, iWat, iHour, iStop, iFlag, iArr, iAlong, iFault, iRain, iQueue, iBook, iVal⟩ := hI
  obtain ⟨r1, r2, e1, e2, e3, f⟩ := sm_back (g := g) h1 h2 ⟨⟨iWay, iRule, iHour, iStop, iWat⟩, iBoat, iTrip⟩ iFlag
  exact ⟨r1, r2, e1, e2, e3, iWay.cg (f.cg rfl), iTrip.cg (f.cg rfl), iBoat.cg (f.cg rfl), iWgt.cg (f.cg rfl), iPump.cg (f.cg rfl), iJob.cg (f.cg rfl), iCall.cg (f.cg rfl), iTape.cg (f.cg rfl), iLog.cg (f.cg rfl), iYard.cg (f.cg rfl), iRule.cg (f.cg rfl), iWat.cg (f.cg rfl), iHour.cg (f.cg rfl), iStop.cg (f.cg rfl), iFlag.cg (f.cg rfl), iArr.cg (f.cg rfl), iAlong.cg (f.cg rfl), iFault.cg (f.cg rfl), iRain.cg (f.cg rfl), iQueue.cg (f.cg rfl), iBook.cg (f.cg rfl), iVal.cg (f.cg rfl)⟩
theorem iv_rung : ∀ (g : AG), Inv g → ∃ (r1 : Int × AG) (r2 : Int × AG), X_rung g = some r1 ∧ M_rung r1.2 = some r2 ∧ nw (r1.1) = nw (r2.1) ∧ Inv (r2.2) := by
  intro g hI
  obtain ⟨iWay, iTrip, iBoat, iWgt, iPump, iJob, iCall, iTape, iLog, iYard, iRule, iWat, iHour, iStop, iFlag, iArr, iAlong, iFault, iRain, iQueue, iBook, iVal⟩ := hI
  obtain ⟨r1, r2, e1, e2, e3, f⟩ := sm_rung (g := g)  ⟨⟨iWay, iRule, iHour, iStop, iWat⟩, iBoat, iTrip⟩ iFlag
  exact ⟨r1, r2, e1, e2, e3, iWay.cg (f.cg rfl), iTrip.cg (f.cg rfl), iBoat.cg (f.cg rfl), iWgt.cg (f.cg rfl), iPump.cg (f.cg rfl), iJob.cg (f.cg rfl), iCall.cg (f.cg rfl), iTape.cg (f.cg rfl), iLog.cg (f.cg rfl), iYard.cg (f.cg rfl), iRule.cg (f.cg rfl), iWat.cg (f.cg rfl), iHour.cg (f.cg rfl), iStop.cg (f.cg rfl), iFlag.cg (f.cg rfl), iArr.cg (f.cg rfl), iAlong.cg (f.cg rfl), iFault.cg (f.cg rfl), iRain.cg (f.cg rfl), iQueue.cg (f.cg rfl), iBook.cg (f.cg rfl), iVal.cg (f.cg rfl)⟩
theorem iv_pump : ∀ (x1 x2 : Int) (g : AG), I32 x1 → (x2 = 0 ∨ x2 = 1) → Inv g → ∃ (r1 : Int × AG) (r2 : Int × AG), X_pump x1 x2 g = some r1 ∧ M_pump x1 x2 r1.2 = some r2 ∧ nw (r1.1) = nw (r2.1) ∧ Inv (r2.2) := by
  intro x1 x2 g h1 h2 hI
  obtain ⟨iWay, iTrip, iBoat, iWgt, iPump, iJob, iCall, iTape, iLog, iYard, iRule, iWat, iHour, iStop, iFlag, iArr, iAlong, iFault, iRain, iQueue, iBook, iVal⟩ := hI
  obtain ⟨r1, r2, e1, e2, e3, nPump, f⟩ := sm_pump (g := g) h1 h2 iPump
  exact ⟨r1, r2, e1, e2, e3, iWay.cg (f.cg rfl), iTrip.cg (f.cg rfl), iBoat.cg (f.cg rfl), iWgt.cg (f.cg rfl), nPump, iJob.cg (f.cg rfl), iCall.cg (f.cg rfl), iTape.cg (f.cg rfl), iLog.cg (f.cg rfl), iYard.cg (f.cg rfl), iRule.cg (f.cg rfl), iWat.cg (f.cg rfl), iHour.cg (f.cg rfl), iStop.cg (f.cg rfl), iFlag.cg (f.cg rfl), iArr.cg (f.cg rfl), iAlong.cg (f.cg rfl), iFault.cg (f.cg rfl), iRain.cg (f.cg rfl), iQueue.cg (f.cg rfl), iBook.cg (f.cg rfl), iVal.cg (f.cg rfl)⟩
theorem iv_pumped : ∀ (x1 x2 x3 x4 x5 : Int) (g : AG), I32 x1 → I32 x2 → I32 x3 → I32 x4 → I32 x5 → Inv g → ∃ (r1 : Int × AG) (r2 : Int × AG), X_pumped x1 x2 x3 x4 x5 g = some r1 ∧ M_pumped x1 x2 x3 x4 x5 r1.2 = some r2 ∧ nw (r1.1) = nw (r2.1) ∧ Inv (r2.2) := by
  intro x1 x2 x3 x4 x5 g h1 h2 h3 h4 h5 hI
  obtain ⟨iWay, iTrip, iBoat, iWgt, iPump, iJob, iCall, iTape, iLog, iYard, iRule, iWat, iHour, iStop, iFlag, iArr, iAlong, iFault, iRain, iQueue, iBook, iVal⟩ := hI
  obtain ⟨r1, r2, e1, e2, e3, f, nArr⟩ := sm_pumped (g := g) h1 h2 h3 h4 h5 ⟨iWay, iRule, iHour, iStop, iWat⟩ iBoat iFlag iArr iPump
  exact ⟨r1, r2, e1, e2, e3, iWay.cg (f.cg rfl), iTrip.cg (f.cg rfl), iBoat.cg (f.cg rfl), iWgt.cg (f.cg rfl), iPump.cg (f.cg rfl), iJob.cg (f.cg rfl), iCall.cg (f.cg rfl), iTape.cg (f.cg rfl), iLog.cg (f.cg rfl), iYard.cg (f.cg rfl), iRule.cg (f.cg rfl), iWat.cg (f.cg rfl), iHour.cg (f.cg rfl), iStop.cg (f.cg rfl), iFlag.cg (f.cg rfl), nArr, iAlong.cg (f.cg rfl), iFault.cg (f.cg rfl), iRain.cg (f.cg rfl), iQueue.cg (f.cg rfl), iBook.cg (f.cg rfl), iVal.cg (f.cg rfl)⟩
theorem iv_enough : ∀ (x1 x2 x3 x4 x5 : Int) (g : AG), I32 x1 → I32 x2 → I32 x3 → I32 x4 → I32 x5 → Inv g → ∃ (r1 : Int × AG) (r2 : Int × AG), X_enough x1 x2 x3 x4 x5 g = some r1 ∧ M_enough x1 x2 x3 x4 x5 r1.2 = some r2 ∧ nw (r1.1) = nw (r2.1) ∧ Inv (r2.2) := by
  intro x1 x2 x3 x4 x5 g h1 h2 h3 h4 h5 hI
  obtain ⟨iWay, iTrip, iBoat, iWgt, iPump, iJob, iCall, iTape, iLog, iYard, iRule, iWat, iHour, iStop, iFlag, iArr, iAlong, iFault, iRain, iQueue, iBook, iVal⟩ := hI
  obtain ⟨r1, r2, e1, e2, e3, f⟩ := sm_enough (g := g) h1 h2 h3 h4 h5 ⟨iWay, iRule, iHour, iStop, iWat⟩ iBoat iFlag
  exact ⟨r1, r2, e1, e2, e3, iWay.cg (f.cg rfl), iTrip.cg (f.cg rfl), iBoat.cg (f.cg rfl), iWgt.cg (f.cg rfl), iPump.cg (f.cg rfl), iJob.cg (f.cg rfl), iCall.cg (f.cg rfl), iTape.cg (f.cg rfl), iLog.cg (f.cg rfl), iYard.cg (f.cg rfl), iRule.cg (f.cg rfl), iWat.cg (f.cg rfl), iHour.cg (f.cg rfl), iStop.cg (f.cg rfl), iFlag.cg (f.cg rfl), iArr.cg (f.cg rfl), iAlong.cg (f.cg rfl), iFault.cg (f.cg rfl), iRain.cg (f.cg rfl), iQueue.cg (f.cg rfl), iBook.cg (f.cg rfl), iVal.cg (f.cg rfl)⟩
theorem iv_trip : ∀ (x1 x2 x3 x4 x5 : Int) (g : AG), I32 x1 → I32 x2 → I32 x3 → I32 x4 → I32 x5 → Inv g → ∃ (r1 : Int × AG) (r2 : Int × AG), X_trip x1 x2 x3 x4 x5 g = some r1 ∧ M_trip x1 x2 x3 x4 x5 r1.2 = some r2 ∧ nw (r1.1) = nw (r2.1) ∧ Inv (r2.2) := by
  intro x1 x2 x3 x4 x5 g h1 h2 h3 h4 h5 hI
  obtain ⟨iWay, iTrip, iBoat, iWgt, iPump, iJob, iCall, iTape, iLog, iYard, iRule, iWat, iHour, iStop, iFlag, iArr, iAlong, iFault, iRain, iQueue, iBook, iVal⟩ := hI
  obtain ⟨r1, r2, e1, e2, e3, nTrip, f⟩ := sm_trip (g := g) h1 h2 h3 h4 h5 iBoat.1 iTrip
  exact ⟨r1, r2, e1, e2, e3, iWay.cg (f.cg rfl), nTrip, iBoat.cg (f.cg rfl), iWgt.cg (f.cg rfl), iPump.cg (f.cg rfl), iJob.cg (f.cg rfl), iCall.cg (f.cg rfl), iTape.cg (f.cg rfl), iLog.cg (f.cg rfl), iYard.cg (f.cg rfl), iRule.cg (f.cg rfl), iWat.cg (f.cg rfl), iHour.cg (f.cg rfl), iStop.cg (f.cg rfl), iFlag.cg (f.cg rfl), iArr.cg (f.cg rfl), iAlong.cg (f.cg rfl), iFault.cg (f.cg rfl), iRain.cg (f.cg rfl), iQueue.cg (f.cg rfl), iBook.cg (f.cg rfl), iVal.cg (f.cg rfl)⟩
theorem iv_late : ∀ (x1 : Int) (g : AG), I32 x1 → Inv g → ∃ (r1 : Int × AG) (r2 : Int × AG), X_late x1 g = some r1 ∧ M_late x1 r1.2 = some r2 ∧ nw (r1.1) = nw (r2.1) ∧ Inv (r2.2) := by
  intro x1 g h1 hI
  obtain ⟨iWay, iTrip, iBoat, iWgt, iPump, iJob, iCall, iTape, iLog, iYard, iRule, iWat, iHour, iStop, iFlag, iArr, iAlong, iFault, iRain, iQueue, iBook, iVal⟩ := hI
  obtain ⟨r1, r2, e1, e2, e3, f⟩ := sm_late (g := g) h1 ⟨⟨iWay, iRule, iHour, iStop, iWat⟩, iBoat, iTrip⟩ iFlag
  exact ⟨r1, r2, e1, e2, e3, iWay.cg (f.cg rfl), iTrip.cg (f.cg rfl), iBoat.cg (f.cg rfl), iWgt.cg (f.cg rfl), iPump.cg (f.cg rfl), iJob.cg (f.cg rfl), iCall.cg (f.cg rfl), iTape.cg (f.cg rfl), iLog.cg (f.cg rfl), iYard.cg (f.cg rfl), iRule.cg (f.cg rfl), iWat.cg (f.cg rfl), iHour.cg (f.cg rfl), iStop.cg (f.cg rfl), iFlag.cg (f.cg rfl), iArr.cg (f.cg rfl), iAlong.cg (f.cg rfl), iFault.cg (f.cg rfl), iRain.cg (f.cg rfl), iQueue.cg (f.cg rfl), iBook.cg (f.cg rfl), iVal.cg (f.cg rfl)⟩
theorem iv_log : ∀ (x1 x2 x3 : Int) (g : AG), I32 x1 → I32 x2 → I32 x3 → Inv g → ∃ (r1 : Int × AG) (r2 : Int × AG), X_log x1 x2 x3 g = some r1 ∧ M_log x1 x2 x3 r1.2 = some r2 ∧ nw (r1.1) = nw (r2.1) ∧ Inv (r2.2) := by
  intro x1 x2 x3 g h1 h2 h3 hI
  obtain ⟨iWay, iTrip, iBoat, iWgt, iPump, iJob, iCall, iTape, iLog, iYard, iRule, iWat, iHour, iStop, iFlag, iArr, iAlong, iFault, iRain, iQueue, iBook, iVal⟩ := hI
  obtain ⟨r1, r2, e1, e2, e3, nLog, f⟩ := sm_log (g := g) h1 h2 h3 iBoat.1 iLog
  exact ⟨r1, r2, e1, e2, e3, iWay.cg (f.cg rfl), iTrip.cg (f.cg rfl), iBoat.cg (f.cg rfl), iWgt.cg (f.cg rfl), iPump.cg (f.cg rfl), iJob.cg (f.cg rfl), iCall.cg (f.cg rfl), iTape.cg (f.cg rfl), nLog, iYard.cg (f.cg rfl), iRule.cg (f.cg rfl), iWat.cg (f.cg rfl), iHour.cg (f.cg rfl), iStop.cg (f.cg rfl), iFlag.cg (f.cg rfl), iArr.cg (f.cg rfl), iAlong.cg (f.cg rfl), iFault.cg (f.cg rfl), iRain.cg (f.cg rfl), iQueue.cg (f.cg rfl), iBook.cg (f.cg rfl), iVal.cg (f.cg rfl)⟩
theorem iv_could : ∀ (x1 x2 x3 x4 : Int) (g : AG), I32 x1 → I32 x2 → I32 x3 → I32 x4 → Inv g → ∃ (r1 : Int × AG) (r2 : Int × AG), X_could x1 x2 x3 x4 g = some r1 ∧ M_could x1 x2 x3 x4 r1.2 = some r2 ∧ nw (r1.1) = nw (r2.1) ∧ Inv (r2.2) := by
  intro x1 x2 x3 x4 g h1 h2 h3 h4 hI
  obtain ⟨iWay, iTrip, iBoat, iWgt, iPump, iJob, iCall, iTape, iLog, iYard, iRule, iWat, iHour, iStop, iFlag, iArr, iAlong, iFault, iRain, iQueue, iBook, iVal⟩ := hI
  obtain ⟨r1, r2, e1, e2, e3, f⟩ := sm_could (g := g) h1 h2 h3 h4 ⟨⟨iWay, iRule, iHour, iStop, iWat⟩, iBoat, iLog⟩ iFlag
  exact ⟨r1, r2, e1, e2, e3, iWay.cg (f.cg rfl), iTrip.cg (f.cg rfl), iBoat.cg (f.cg rfl), iWgt.cg (f.cg rfl), iPump.cg (f.cg rfl), iJob.cg (f.cg rfl), iCall.cg (f.cg rfl), iTape.cg (f.cg rfl), iLog.cg (f.cg rfl), iYard.cg (f.cg rfl), iRule.cg (f.cg rfl), iWat.cg (f.cg rfl), iHour.cg (f.cg rfl), iStop.cg (f.cg rfl), iFlag.cg (f.cg rfl), iArr.cg (f.cg rfl), iAlong.cg (f.cg rfl), iFault.cg (f.cg rfl), iRain.cg (f.cg rfl), iQueue.cg (f.cg rfl), iBook.cg (f.cg rfl), iVal.cg (f.cg rfl)⟩
theorem iv_whose : ∀ (x1 x2 x3 x4 : Int) (g : AG), I32 x1 → I32 x2 → I32 x3 → I32 x4 → Inv g → ∃ (r1 : Int × AG) (r2 : Int × AG), X_whose x1 x2 x3 x4 g = some r1 ∧ M_whose x1 x2 x3 x4 r1.2 = some r2 ∧ nw (r1.1) = nw (r2.1) ∧ Inv (r2.2) := by
  intro x1 x2 x3 x4 g h1 h2 h3 h4 hI
  obtain ⟨iWay, iTrip, iBoat, iWgt, iPump, iJob, iCall, iTape, iLog, iYard, iRule, iWat, iHour, iStop, iFlag, iArr, iAlong, iFault, iRain, iQueue, iBook, iVal⟩ := hI
  obtain ⟨r1, r2, e1, e2, e3, f⟩ := sm_whose (g := g) h1 h2 h3 h4 ⟨⟨iWay, iRule, iHour, iStop, iWat⟩, iBoat, iLog⟩ iFlag
  exact ⟨r1, r2, e1, e2, e3, iWay.cg (f.cg rfl), iTrip.cg (f.cg rfl), iBoat.cg (f.cg rfl), iWgt.cg (f.cg rfl), iPump.cg (f.cg rfl), iJob.cg (f.cg rfl), iCall.cg (f.cg rfl), iTape.cg (f.cg rfl), iLog.cg (f.cg rfl), iYard.cg (f.cg rfl), iRule.cg (f.cg rfl), iWat.cg (f.cg rfl), iHour.cg (f.cg rfl), iStop.cg (f.cg rfl), iFlag.cg (f.cg rfl), iArr.cg (f.cg rfl), iAlong.cg (f.cg rfl), iFault.cg (f.cg rfl), iRain.cg (f.cg rfl), iQueue.cg (f.cg rfl), iBook.cg (f.cg rfl), iVal.cg (f.cg rfl)⟩
theorem iv_tonight : ∀ (x1 x2 : Int) (g : AG), I32 x1 → I32 x2 → Inv g → ∃ (r1 : Int × AG) (r2 : Int × AG), X_tonight x1 x2 g = some r1 ∧ M_tonight x1 x2 r1.2 = some r2 ∧ nw (r1.1) = nw (r2.1) ∧ Inv (r2.2) := by
  intro x1 x2 g h1 h2 hI
  obtain ⟨iWay, iTrip, iBoat, iWgt, iPump, iJob, iCall, iTape, iLog, iYard, iRule, iWat, iHour, iStop, iFlag, iArr, iAlong, iFault, iRain, iQueue, iBook, iVal⟩ := hI
  obtain ⟨r1, r2, e1, e2, e3, f, nArr⟩ := sm_tonight (g := g) h1 h2 ⟨⟨iWay, iRule, iHour, iStop, iWat⟩, iBoat, iLog⟩ iFlag iArr
  exact ⟨r1, r2, e1, e2, e3, iWay.cg (f.cg rfl), iTrip.cg (f.cg rfl), iBoat.cg (f.cg rfl), iWgt.cg (f.cg rfl), iPump.cg (f.cg rfl), iJob.cg (f.cg rfl), iCall.cg (f.cg rfl), iTape.cg (f.cg rfl), iLog.cg (f.cg rfl), iYard.cg (f.cg rfl), iRule.cg (f.cg rfl), iWat.cg (f.cg rfl), iHour.cg (f.cg rfl), iStop.cg (f.cg rfl), iFlag.cg (f.cg rfl), nArr, iAlong.cg (f.cg rfl), iFault.cg (f.cg rfl), iRain.cg (f.cg rfl), iQueue.cg (f.cg rfl), iBook.cg (f.cg rfl), iVal.cg (f.cg rfl)⟩
theorem iv_queue : ∀ (x1 x2 : Int) (g : AG), I32 x1 → I32 x2 → Inv g → ∃ (r1 : Int × AG) (r2 : Int × AG), X_queue x1 x2 g = some r1 ∧ M_queue x1 x2 r1.2 = some r2 ∧ nw (r1.1) = nw (r2.1) ∧ Inv (r2.2) := by
  intro x1 x2 g h1 h2 hI
  obtain ⟨iWay, iTrip, iBoat, iWgt, iPump, iJob, iCall, iTape, iLog, iYard, iRule, iWat, iHour, iStop, iFlag, iArr, iAlong, iFault, iRain, iQueue, iBook, iVal⟩ := hI
  obtain ⟨r1, r2, e1, e2, e3, nQueue, f⟩ := sm_queue (g := g) h1 h2 iQueue
  exact ⟨r1, r2, e1, e2, e3, iWay.cg (f.cg rfl), iTrip.cg (f.cg rfl), iBoat.cg (f.cg rfl), iWgt.cg (f.cg rfl), iPump.cg (f.cg rfl), iJob.cg (f.cg rfl), iCall.cg (f.cg rfl), iTape.cg (f.cg rfl), iLog.cg (f.cg rfl), iYard.cg (f.cg rfl), iRule.cg (f.cg rfl), iWat.cg (f.cg rfl), iHour.cg (f.cg rfl), iStop.cg (f.cg rfl), iFlag.cg (f.cg rfl), iArr.cg (f.cg rfl), iAlong.cg (f.cg rfl), iFault.cg (f.cg rfl), iRain.cg (f.cg rfl), nQueue, iBook.cg (f.cg rfl), iVal.cg (f.cg rfl)⟩
theorem iv_lock : ∀ (x1 : Int) (g : AG), I32 x1 → Inv g → ∃ (v1 : Int) (r2 : Int × AG), X_lock x1 g = some v1 ∧ M_lock x1 g = some r2 ∧ nw (v1) = nw (r2.1) ∧ Inv (r2.2) := by
  intro x1 g h1 hI
  obtain ⟨iWay, iTrip, iBoat, iWgt, iPump, iJob, iCall, iTape, iLog, iYard, iRule, iWat, iHour, iStop, iFlag, iArr, iAlong, iFault, iRain, iQueue, iBook, iVal⟩ := hI
  obtain ⟨r1, r2, e1, e2, e3, f⟩ := sm_lock (g := g) h1 iQueue
  exact ⟨r1, r2, e1, e2, e3, iWay.cg (f.cg rfl), iTrip.cg (f.cg rfl), iBoat.cg (f.cg rfl), iWgt.cg (f.cg rfl), iPump.cg (f.cg rfl), iJob.cg (f.cg rfl), iCall.cg (f.cg rfl), iTape.cg (f.cg rfl), iLog.cg (f.cg rfl), iYard.cg (f.cg rfl), iRule.cg (f.cg rfl), iWat.cg (f.cg rfl), iHour.cg (f.cg rfl), iStop.cg (f.cg rfl), iFlag.cg (f.cg rfl), iArr.cg (f.cg rfl), iAlong.cg (f.cg rfl), iFault.cg (f.cg rfl), iRain.cg (f.cg rfl), iQueue.cg (f.cg rfl), iBook.cg (f.cg rfl), iVal.cg (f.cg rfl)⟩
theorem iv_booking : ∀ (x1 x2 x3 x4 : Int) (g : AG), I32 x1 → I32 x2 → I32 x3 → I32 x4 → Inv g → ∃ (r1 : Int × AG) (r2 : Int × AG), X_booking x1 x2 x3 x4 g = some r1 ∧ M_booking x1 x2 x3 x4 r1.2 = some r2 ∧ nw (r1.1) = nw (r2.1) ∧ Inv (r2.2) := by
  intro x1 x2 x3 x4 g h1 h2 h3 h4 hI
  obtain ⟨iWay, iTrip, iBoat, iWgt, iPump, iJob, iCall, iTape, iLog, iYard, iRule, iWat, iHour, iStop, iFlag, iArr, iAlong, iFault, iRain, iQueue, iBook, iVal⟩ := hI
  obtain ⟨r1, r2, e1, e2, e3, nBook, f⟩ := sm_booking (g := g) h1 h2 h3 h4 iBook
  exact ⟨r1, r2, e1, e2, e3, iWay.cg (f.cg rfl), iTrip.cg (f.cg rfl), iBoat.cg (f.cg rfl), iWgt.cg (f.cg rfl), iPump.cg (f.cg rfl), iJob.cg (f.cg rfl), iCall.cg (f.cg rfl), iTape.cg (f.cg rfl), iLog.cg (f.cg rfl), iYard.cg (f.cg rfl), iRule.cg (f.cg rfl), iWat.cg (f.cg rfl), iHour.cg (f.cg rfl), iStop.cg (f.cg rfl), iFlag.cg (f.cg rfl), iArr.cg (f.cg rfl), iAlong.cg (f.cg rfl), iFault.cg (f.cg rfl), iRain.cg (f.cg rfl), iQueue.cg (f.cg rfl), nBook, iVal.cg (f.cg rfl)⟩
theorem iv_given : ∀ (x1 x2 : Int) (g : AG), I32 x1 → I32 x2 → Inv g → ∃ (r1 : Int × AG) (r2 : Int × AG), X_given x1 x2 g = some r1 ∧ M_given x1 x2 r1.2 = some r2 ∧ nw (r1.1) = nw (r2.1) ∧ Inv (r2.2) := by
  intro x1 x2 g h1 h2 hI
  obtain ⟨iWay, iTrip, iBoat, iWgt, iPump, iJob, iCall, iTape, iLog, iYard, iRule, iWat, iHour, iStop, iFlag, iArr, iAlong, iFault, iRain, iQueue, iBook, iVal⟩ := hI
  obtain ⟨r1, r2, e1, e2, e3, nBook, f⟩ := sm_given (g := g) h1 h2 iBoat iBook
  exact ⟨r1, r2, e1, e2, e3, iWay.cg (f.cg rfl), iTrip.cg (f.cg rfl), iBoat.cg (f.cg rfl), iWgt.cg (f.cg rfl), iPump.cg (f.cg rfl), iJob.cg (f.cg rfl), iCall.cg (f.cg rfl), iTape.cg (f.cg rfl), iLog.cg (f.cg rfl), iYard.cg (f.cg rfl), iRule.cg (f.cg rfl), iWat.cg (f.cg rfl), iHour.cg (f.cg rfl), iStop.cg (f.cg rfl), iFlag.cg (f.cg rfl), iArr.cg (f.cg rfl), iAlong.cg (f.cg rfl), iFault.cg (f.cg rfl), iRain.cg (f.cg rfl), iQueue.cg (f.cg rfl), nBook, iVal.cg (f.cg rfl)⟩
theorem iv_more : ∀ (x1 x2 x3 : Int) (g : AG), I32 x1 → I32 x2 → I32 x3 → Inv g → ∃ (r1 : Int × AG) (r2 : Int × AG), X_more x1 x2 x3 g = some r1 ∧ M_more x1 x2 x3 r1.2 = some r2 ∧ nw (r1.1) = nw (r2.1) ∧ Inv (r2.2) := by
  intro x1 x2 x3 g h1 h2 h3 hI
  obtain ⟨iWay, iTrip, iBoat, iWgt, iPump, iJob, iCall, iTape, iLog, iYard, iRule, iWat, iHour, iStop, iFlag, iArr, iAlong, iFault, iRain, iQueue, iBook, iVal⟩ := hI
  obtain ⟨r1, r2, e1, e2, e3, nBook, f⟩ := sm_more (g := g) h1 h2 h3 iBoat iBook
  exact ⟨r1, r2, e1, e2, e3, iWay.cg (f.cg rfl), iTrip.cg (f.cg rfl), iBoat.cg (f.cg rfl), iWgt.cg (f.cg rfl), iPump.cg (f.cg rfl), iJob.cg (f.cg rfl), iCall.cg (f.cg rfl), iTape.cg (f.cg rfl), iLog.cg (f.cg rfl), iYard.cg (f.cg rfl), iRule.cg (f.cg rfl), iWat.cg (f.cg rfl), iHour.cg (f.cg rfl), iStop.cg (f.cg rfl), iFlag.cg (f.cg rfl), iArr.cg (f.cg rfl), iAlong.cg (f.cg rfl), iFault.cg (f.cg rfl), iRain.cg (f.cg rfl), iQueue.cg (f.cg rfl), nBook, iVal.cg (f.cg rfl)⟩
theorem iv_gas : ∀ (x1 x2 x3 : Int) (g : AG), I32 x1 → I32 x2 → I32 x3 → Inv g → ∃ (r1 : Int × AG) (r2 : Int × AG), X_gas x1 x2 x3 g = some r1 ∧ M_gas x1 x2 x3 r1.2 = some r2 ∧ ((x3 ≠ 0 ∨ sm (dkF g) 10 < 7) → nw (r1.1) = nw (r2.1)) ∧ Inv (r2.2) := by
  intro x1 x2 x3 g h1 h2 h3 hI
  obtain ⟨iWay, iTrip, iBoat, iWgt, iPump, iJob, iCall, iTape, iLog, iYard, iRule, iWat, iHour, iStop, iFlag, iArr, iAlong, iFault, iRain, iQueue, iBook, iVal⟩ := hI
  obtain ⟨r1, r2, e1, e2, e3, nYard, f⟩ := sm_gas (g := g) h1 h2 h3 iBoat.1 iYard
  exact ⟨r1, r2, e1, e2, e3, iWay.cg (f.cg rfl), iTrip.cg (f.cg rfl), iBoat.cg (f.cg rfl), iWgt.cg (f.cg rfl), iPump.cg (f.cg rfl), iJob.cg (f.cg rfl), iCall.cg (f.cg rfl), iTape.cg (f.cg rfl), iLog.cg (f.cg rfl), nYard, iRule.cg (f.cg rfl), iWat.cg (f.cg rfl), iHour.cg (f.cg rfl), iStop.cg (f.cg rfl), iFlag.cg (f.cg rfl), iArr.cg (f.cg rfl), iAlong.cg (f.cg rfl), iFault.cg (f.cg rfl), iRain.cg (f.cg rfl), iQueue.cg (f.cg rfl), iBook.cg (f.cg rfl), iVal.cg (f.cg rfl)⟩
theorem iv_dock : ∀ (x1 : Int) (g : AG), I32 x1 → Inv g → ∃ (r1 : Int × AG) (r2 : Int × AG), X_dock x1 g = some r1 ∧ M_dock x1 r1.2 = some r2 ∧ nw (r1.1) = nw (r2.1) ∧ Inv (r2.2) := by
  intro x1 g h1 hI
  obtain ⟨iWay, iTrip, iBoat, iWgt, iPump, iJob, iCall, iTape, iLog, iYard, iRule, iWat, iHour, iStop, iFlag, iArr, iAlong, iFault, iRain, iQueue, iBook, iVal⟩ := hI
  obtain ⟨r1, r2, e1, e2, e3, f⟩ := sm_dock (g := g) h1 iBoat.1 iYard
  exact ⟨r1, r2, e1, e2, e3, iWay.cg (f.cg rfl), iTrip.cg (f.cg rfl), iBoat.cg (f.cg rfl), iWgt.cg (f.cg rfl), iPump.cg (f.cg rfl), iJob.cg (f.cg rfl), iCall.cg (f.cg rfl), iTape.cg (f.cg rfl), iLog.cg (f.cg rfl), iYard.cg (f.cg rfl), iRule.cg (f.cg rfl), iWat.cg (f.cg rfl), iHour.cg (f.cg rfl), iStop.cg (f.cg rfl), iFlag.cg (f.cg rfl), iArr.cg (f.cg rfl), iAlong.cg (f.cg rfl), iFault.cg (f.cg rfl), iRain.cg (f.cg rfl), iQueue.cg (f.cg rfl), iBook.cg (f.cg rfl), iVal.cg (f.cg rfl)⟩
theorem iv_job : ∀ (x1 : Int) (g : AG), I32 x1 → Inv g → ∃ (r1 : Int × AG) (r2 : Int × AG), X_job x1 g = some r1 ∧ M_job x1 r1.2 = some r2 ∧ nw (r1.1) = nw (r2.1) ∧ Inv (r2.2) := by
  intro x1 g h1 hI
  obtain ⟨iWay, iTrip, iBoat, iWgt, iPump, iJob, iCall, iTape, iLog, iYard, iRule, iWat, iHour, iStop, iFlag, iArr, iAlong, iFault, iRain, iQueue, iBook, iVal⟩ := hI
  obtain ⟨r1, r2, e1, e2, e3, nJob, f⟩ := sm_job (g := g) h1 iJob
  exact ⟨r1, r2, e1, e2, e3, iWay.cg (f.cg rfl), iTrip.cg (f.cg rfl), iBoat.cg (f.cg rfl), iWgt.cg (f.cg rfl), iPump.cg (f.cg rfl), nJob, iCall.cg (f.cg rfl), iTape.cg (f.cg rfl), iLog.cg (f.cg rfl), iYard.cg (f.cg rfl), iRule.cg (f.cg rfl), iWat.cg (f.cg rfl), iHour.cg (f.cg rfl), iStop.cg (f.cg rfl), iFlag.cg (f.cg rfl), iArr.cg (f.cg rfl), iAlong.cg (f.cg rfl), iFault.cg (f.cg rfl), iRain.cg (f.cg rfl), iQueue.cg (f.cg rfl), iBook.cg (f.cg rfl), iVal.cg (f.cg rfl)⟩
theorem iv_turned : ∀ (x1 x2 : Int) (g : AG), I32 x1 → I32 x2 → Inv g → ∃ (r1 : Int × AG) (r2 : Int × AG), X_turned x1 x2 g = some r1 ∧ M_turned x1 x2 r1.2 = some r2 ∧ nw (r1.1) = nw (r2.1) ∧ Inv (r2.2) := by
  intro x1 x2 g h1 h2 hI
  obtain ⟨iWay, iTrip, iBoat, iWgt, iPump, iJob, iCall, iTape, iLog, iYard, iRule, iWat, iHour, iStop, iFlag, iArr, iAlong, iFault, iRain, iQueue, iBook, iVal⟩ := hI
  obtain ⟨r1, r2, e1, e2, e3, f⟩ := sm_turned (g := g) h1 h2 iJob
  exact ⟨r1, r2, e1, e2, e3, iWay.cg (f.cg rfl), iTrip.cg (f.cg rfl), iBoat.cg (f.cg rfl), iWgt.cg (f.cg rfl), iPump.cg (f.cg rfl), iJob.cg (f.cg rfl), iCall.cg (f.cg rfl), iTape.cg (f.cg rfl), iLog.cg (f.cg rfl), iYard.cg (f.cg rfl), iRule.cg (f.cg rfl), iWat.cg (f.cg rfl), iHour.cg (f.cg rfl), iStop.cg (f.cg rfl), iFlag.cg (f.cg rfl), iArr.cg (f.cg rfl), iAlong.cg (f.cg rfl), iFault.cg (f.cg rfl), iRain.cg (f.cg rfl), iQueue.cg (f.cg rfl), iBook.cg (f.cg rfl), iVal.cg (f.cg rfl)⟩
theorem iv_weight : ∀ (x1 x2 : Int) (g : AG), I32 x1 → I32 x2 → Inv g → ∃ (r1 : Int × AG) (r2 : Int × AG), X_weight x1 x2 g = some r1 ∧ M_weight x1 x2 r1.2 = some r2 ∧ nw (r1.1) = nw (r2.1) ∧ Inv (r2.2) := by
  intro x1 x2 g h1 h2 hI
  obtain ⟨iWay, iTrip, iBoat, iWgt, iPump, iJob, iCall, iTape, iLog, iYard, iRule, iWat, iHour, iStop, iFlag, iArr, iAlong, iFault, iRain, iQueue, iBook, iVal⟩ := hI
  obtain ⟨r1, r2, e1, e2, e3, nWgt, f⟩ := sm_weight (g := g) h1 h2 iWgt
  exact ⟨r1, r2, e1, e2, e3, iWay.cg (f.cg rfl), iTrip.cg (f.cg rfl), iBoat.cg (f.cg rfl), nWgt, iPump.cg (f.cg rfl), iJob.cg (f.cg rfl), iCall.cg (f.cg rfl), iTape.cg (f.cg rfl), iLog.cg (f.cg rfl), iYard.cg (f.cg rfl), iRule.cg (f.cg rfl), iWat.cg (f.cg rfl), iHour.cg (f.cg rfl), iStop.cg (f.cg rfl), iFlag.cg (f.cg rfl), iArr.cg (f.cg rfl), iAlong.cg (f.cg rfl), iFault.cg (f.cg rfl), iRain.cg (f.cg rfl), iQueue.cg (f.cg rfl), iBook.cg (f.cg rfl), iVal.cg (f.cg rfl)⟩
theorem iv_van : ∀ (x1 : Int) (g : AG), I32 x1 → Inv g → ∃ (r1 : Int × AG) (v2 : Int), X_van x1 g = some r1 ∧ M_van x1 r1.2 = some v2 ∧ nw (r1.1) = nw (v2) ∧ Inv (r1.2) := by
  intro x1 g h1 hI
  obtain ⟨iWay, iTrip, iBoat, iWgt, iPump, iJob, iCall, iTape, iLog, iYard, iRule, iWat, iHour, iStop, iFlag, iArr, iAlong, iFault, iRain, iQueue, iBook, iVal⟩ := hI
  obtain ⟨r1, r2, e1, e2, e3, f, nAlong⟩ := sm_van (g := g) h1 iWay iWgt iAlong
  exact ⟨r1, r2, e1, e2, e3, iWay.cg (f.cg rfl), iTrip.cg (f.cg rfl), iBoat.cg (f.cg rfl), iWgt.cg (f.cg rfl), iPump.cg (f.cg rfl), iJob.cg (f.cg rfl), iCall.cg (f.cg rfl), iTape.cg (f.cg rfl), iLog.cg (f.cg rfl), iYard.cg (f.cg rfl), iRule.cg (f.cg rfl), iWat.cg (f.cg rfl), iHour.cg (f.cg rfl), iStop.cg (f.cg rfl), iFlag.cg (f.cg rfl), iArr.cg (f.cg rfl), nAlong, iFault.cg (f.cg rfl), iRain.cg (f.cg rfl), iQueue.cg (f.cg rfl), iBook.cg (f.cg rfl), iVal.cg (f.cg rfl)⟩
theorem iv_vans : ∀ (x1 : Int) (g : AG), I32 x1 → Inv g → ∃ (r1 : Int × AG) (v2 : Int), X_vans x1 g = some r1 ∧ M_vans x1 r1.2 = some v2 ∧ nw (r1.1) = nw (v2) ∧ Inv (r1.2) := by
  intro x1 g h1 hI
  obtain ⟨iWay, iTrip, iBoat, iWgt, iPump, iJob, iCall, iTape, iLog, iYard, iRule, iWat, iHour, iStop, iFlag, iArr, iAlong, iFault, iRain, iQueue, iBook, iVal⟩ := hI
  obtain ⟨r1, r2, e1, e2, e3, f, nAlong⟩ := sm_vans (g := g) h1 iWay iWgt iAlong
  exact ⟨r1, r2, e1, e2, e3, iWay.cg (f.cg rfl), iTrip.cg (f.cg rfl), iBoat.cg (f.cg rfl), iWgt.cg (f.cg rfl), iPump.cg (f.cg rfl), iJob.cg (f.cg rfl), iCall.cg (f.cg rfl), iTape.cg (f.cg rfl), iLog.cg (f.cg rfl), iYard.cg (f.cg rfl), iRule.cg (f.cg rfl), iWat.cg (f.cg rfl), iHour.cg (f.cg rfl), iStop.cg (f.cg rfl), iFlag.cg (f.cg rfl), iArr.cg (f.cg rfl), nAlong, iFault.cg (f.cg rfl), iRain.cg (f.cg rfl), iQueue.cg (f.cg rfl), iBook.cg (f.cg rfl), iVal.cg (f.cg rfl)⟩
theorem iv_call : ∀ (x1 x2 x3 : Int) (g : AG), I32 x1 → I32 x2 → I32 x3 → Inv g → ∃ (r1 : Int × AG) (r2 : Int × AG), X_call x1 x2 x3 g = some r1 ∧ M_call x1 x2 x3 r1.2 = some r2 ∧ nw (r1.1) = nw (r2.1) ∧ Inv (r2.2) := by
  intro x1 x2 x3 g h1 h2 h3 hI
  obtain ⟨iWay, iTrip, iBoat, iWgt, iPump, iJob, iCall, iTape, iLog, iYard, iRule, iWat, iHour, iStop, iFlag, iArr, iAlong, iFault, iRain, iQueue, iBook, iVal⟩ := hI
  obtain ⟨r1, r2, e1, e2, e3, nCall, f⟩ := sm_call (g := g) h1 h2 h3 iCall
  exact ⟨r1, r2, e1, e2, e3, iWay.cg (f.cg rfl), iTrip.cg (f.cg rfl), iBoat.cg (f.cg rfl), iWgt.cg (f.cg rfl), iPump.cg (f.cg rfl), iJob.cg (f.cg rfl), nCall, iTape.cg (f.cg rfl), iLog.cg (f.cg rfl), iYard.cg (f.cg rfl), iRule.cg (f.cg rfl), iWat.cg (f.cg rfl), iHour.cg (f.cg rfl), iStop.cg (f.cg rfl), iFlag.cg (f.cg rfl), iArr.cg (f.cg rfl), iAlong.cg (f.cg rfl), iFault.cg (f.cg rfl), iRain.cg (f.cg rfl), iQueue.cg (f.cg rfl), iBook.cg (f.cg rfl), iVal.cg (f.cg rfl)⟩
theorem iv_taken : ∀ (x1 x2 x3 : Int) (g : AG), I32 x1 → I32 x2 → I32 x3 → Inv g → ∃ (r1 : Int × AG) (r2 : Int × AG), X_taken x1 x2 x3 g = some r1 ∧ M_taken x1 x2 x3 r1.2 = some r2 ∧ nw (r1.1) = nw (r2.1) ∧ Inv (r2.2) := by
  intro x1 x2 x3 g h1 h2 h3 hI
  obtain ⟨iWay, iTrip, iBoat, iWgt, iPump, iJob, iCall, iTape, iLog, iYard, iRule, iWat, iHour, iStop, iFlag, iArr, iAlong, iFault, iRain, iQueue, iBook, iVal⟩ := hI
  obtain ⟨r1, r2, e1, e2, e3, f, nAlong⟩ := sm_taken (g := g) h1 h2 h3 iWay iCall iAlong
  exact ⟨r1, r2, e1, e2, e3, iWay.cg (f.cg rfl), iTrip.cg (f.cg rfl), iBoat.cg (f.cg rfl), iWgt.cg (f.cg rfl), iPump.cg (f.cg rfl), iJob.cg (f.cg rfl), iCall.cg (f.cg rfl), iTape.cg (f.cg rfl), iLog.cg (f.cg rfl), iYard.cg (f.cg rfl), iRule.cg (f.cg rfl), iWat.cg (f.cg rfl), iHour.cg (f.cg rfl), iStop.cg (f.cg rfl), iFlag.cg (f.cg rfl), iArr.cg (f.cg rfl), nAlong, iFault.cg (f.cg rfl), iRain.cg (f.cg rfl), iQueue.cg (f.cg rfl), iBook.cg (f.cg rfl), iVal.cg (f.cg rfl)⟩
theorem iv_left : ∀ (x1 x2 x3 x4 x5 : Int) (g : AG), I32 x1 → I32 x2 → I32 x3 → I32 x4 → I32 x5 → Inv g → ∃ (r1 : Int × AG) (r2 : Int × AG), X_left x1 x2 x3 x4 x5 g = some r1 ∧ M_left x1 x2 x3 x4 x5 r1.2 = some r2 ∧ nw (r1.1) = nw (r2.1) ∧ Inv (r2.2) := by
  intro x1 x2 x3 x4 x5 g h1 h2 h3 h4 h5 hI
  obtain ⟨iWay, iTrip, iBoat, iWgt, iPump, iJob, iCall, iTape, iLog, iYard, iRule, iWat, iHour, iStop, iFlag, iArr, iAlong, iFault, iRain, iQueue, iBook, iVal⟩ := hI
  obtain ⟨r1, r2, e1, e2, e3, f, nRain⟩ := sm_left (g := g) h1 h2 h3 h4 h5 iWat iRain
  exact ⟨r1, r2, e1, e2, e3, iWay.cg (f.cg rfl), iTrip.cg (f.cg rfl), iBoat.cg (f.cg rfl), iWgt.cg (f.cg rfl), iPump.cg (f.cg rfl), iJob.cg (f.cg rfl), iCall.cg (f.cg rfl), iTape.cg (f.cg rfl), iLog.cg (f.cg rfl), iYard.cg (f.cg rfl), iRule.cg (f.cg rfl), iWat.cg (f.cg rfl), iHour.cg (f.cg rfl), iStop.cg (f.cg rfl), iFlag.cg (f.cg rfl), iArr.cg (f.cg rfl), iAlong.cg (f.cg rfl), iFault.cg (f.cg rfl), nRain, iQueue.cg (f.cg rfl), iBook.cg (f.cg rfl), iVal.cg (f.cg rfl)⟩
theorem iv_shuts : ∀ (x1 x2 x3 x4 : Int) (g : AG), I32 x1 → I32 x2 → I32 x3 → I32 x4 → Inv g → ∃ (r1 : Int × AG) (r2 : Int × AG), X_shuts x1 x2 x3 x4 g = some r1 ∧ M_shuts x1 x2 x3 x4 r1.2 = some r2 ∧ nw (r1.1) = nw (r2.1) ∧ Inv (r2.2) := by
  intro x1 x2 x3 x4 g h1 h2 h3 h4 hI
  obtain ⟨iWay, iTrip, iBoat, iWgt, iPump, iJob, iCall, iTape, iLog, iYard, iRule, iWat, iHour, iStop, iFlag, iArr, iAlong, iFault, iRain, iQueue, iBook, iVal⟩ := hI
  obtain ⟨r1, r2, e1, e2, e3, f, nRain⟩ := sm_shuts (g := g) h1 h2 h3 h4 iWat iRain
  exact ⟨r1, r2, e1, e2, e3, iWay.cg (f.cg rfl), iTrip.cg (f.cg rfl), iBoat.cg (f.cg rfl), iWgt.cg (f.cg rfl), iPump.cg (f.cg rfl), iJob.cg (f.cg rfl), iCall.cg (f.cg rfl), iTape.cg (f.cg rfl), iLog.cg (f.cg rfl), iYard.cg (f.cg rfl), iRule.cg (f.cg rfl), iWat.cg (f.cg rfl), iHour.cg (f.cg rfl), iStop.cg (f.cg rfl), iFlag.cg (f.cg rfl), iArr.cg (f.cg rfl), iAlong.cg (f.cg rfl), iFault.cg (f.cg rfl), nRain, iQueue.cg (f.cg rfl), iBook.cg (f.cg rfl), iVal.cg (f.cg rfl)⟩
theorem iv_price : ∀ (x1 x2 x3 : Int) (g : AG), I32 x1 → I32 x2 → (x3 = 0 ∨ x3 = 1) → Inv g → ∃ (r1 : Int × AG) (r2 : Int × AG), X_price x1 x2 x3 g = some r1 ∧ M_price x1 x2 x3 r1.2 = some r2 ∧ nw (r1.1) = nw (r2.1) ∧ Inv (r2.2) := by
  intro x1 x2 x3 g h1 h2 h3 hI
  obtain ⟨iWay, iTrip, iBoat, iWgt, iPump, iJob, iCall, iTape, iLog, iYard, iRule, iWat, iHour, iStop, iFlag, iArr, iAlong, iFault, iRain, iQueue, iBook, iVal⟩ := hI
  obtain ⟨r1, r2, e1, e2, e3, f⟩ := sm_price (g := g) h1 h2 h3 iRule iBoat.1 iBoat.2.1
  exact ⟨r1, r2, e1, e2, e3, iWay.cg (f.cg rfl), iTrip.cg (f.cg rfl), iBoat.cg (f.cg rfl), iWgt.cg (f.cg rfl), iPump.cg (f.cg rfl), iJob.cg (f.cg rfl), iCall.cg (f.cg rfl), iTape.cg (f.cg rfl), iLog.cg (f.cg rfl), iYard.cg (f.cg rfl), iRule.cg (f.cg rfl), iWat.cg (f.cg rfl), iHour.cg (f.cg rfl), iStop.cg (f.cg rfl), iFlag.cg (f.cg rfl), iArr.cg (f.cg rfl), iAlong.cg (f.cg rfl), iFault.cg (f.cg rfl), iRain.cg (f.cg rfl), iQueue.cg (f.cg rfl), iBook.cg (f.cg rfl), iVal.cg (f.cg rfl)⟩
theorem iv_held : ∀ (x1 x2 x3 x4 : Int) (g : AG), I32 x1 → I32 x2 → I32 x3 → I32 x4 → Inv g → ∃ (r1 : Int × AG) (r2 : Int × AG), X_held x1 x2 x3 x4 g = some r1 ∧ M_held x1 x2 x3 x4 r1.2 = some r2 ∧ nw (r1.1) = nw (r2.1) ∧ Inv (r2.2) := by
  intro x1 x2 x3 x4 g h1 h2 h3 h4 hI
  obtain ⟨iWay, iTrip, iBoat, iWgt, iPump, iJob, iCall, iTape, iLog, iYard, iRule, iWat, iHour, iStop, iFlag, iArr, iAlong, iFault, iRain, iQueue, iBook, iVal⟩ := hI
  obtain ⟨r1, r2, e1, e2, e3, f⟩ := sm_held (g := g) h1 h2 h3 h4 iRule iBoat.1 iBoat.2.1
  exact ⟨r1, r2, e1, e2, e3, iWay.cg (f.cg rfl), iTrip.cg (f.cg rfl), iBoat.cg (f.cg rfl), iWgt.cg (f.cg rfl), iPump.cg (f.cg rfl), iJob.cg (f.cg rfl), iCall.cg (f.cg rfl), iTape.cg (f.cg rfl), iLog.cg (f.cg rfl), iYard.cg (f.cg rfl), iRule.cg (f.cg rfl), iWat.cg (f.cg rfl), iHour.cg (f.cg rfl), iStop.cg (f.cg rfl), iFlag.cg (f.cg rfl), iArr.cg (f.cg rfl), iAlong.cg (f.cg rfl), iFault.cg (f.cg rfl), iRain.cg (f.cg rfl), iQueue.cg (f.cg rfl), iBook.cg (f.cg rfl), iVal.cg (f.cg rfl)⟩
theorem iv_look : ∀ (x1 : Int) (g : AG), I32 x1 → Inv g → nw (X_look x1 g) = nw (M_look x1 g) ∧ Inv g := by
  intro x1 g _ hI
  have hI0 := hI
  obtain ⟨iWay, iTrip, iBoat, iWgt, iPump, iJob, iCall, iTape, iLog, iYard, iRule, iWat, iHour, iStop, iFlag, iArr, iAlong, iFault, iRain, iQueue, iBook, iVal⟩ := hI
  obtain ⟨bc, bo, bb⟩ := iBook
  obtain ⟨qc, qq⟩ := iQueue
  exact ⟨sm_look iBoat.1.1 iTrip.1.1 (bb.2.2.1.trans bb.2.1.symm) iJob.1.1 (qq.2.2.1.trans qq.2.1.symm) iStop.1 iWat.1 iCall.1.1, hI0⟩
end
section
/-! what lies there at the start; all that holds of it -/
def g00 : AG := fun k i =>
  if k = 13 ∨ k = 118 then (if i < 15 then 1 else 0)
  else if k = 15 ∨ k = 120 then (if i < 15 then 5 else 0)
  else if k = 45 then (if i < 14 then 24 else 0)
  else if k = 1 then (if i = 5 then 500 else 0)
  else if k = 117 then (if i = 10 then 500 else if i = 46 then -1 else 0)
  else if k = 4 then (if i = 8 then -1 else 0)
  else if k = 12 then (if i = 0 then 115 else if i = 1 then 116 else 0)
  else 0
theorem z_way : JWay g00 := by
  intro i hi
  have a : g00 13 i = 1 := by simp [g00, hi]
  have b : g00 118 i = 1 := by simp [g00, hi]
  have c : g00 15 i = 5 := by simp [g00, hi]
  have d : g00 120 i = 5 := by simp [g00, hi]
  have e : g00 14 i = 0 := by simp [g00]
  have f : g00 119 i = 0 := by simp [g00]
  rw [a, b, c, d, e, f]
  omega
theorem z_trip : JTrip g00 := by
  have n : g00 7 8 = 0 := by simp [g00]
  refine ⟨⟨by simp [g00], by simp [g00], by simp [g00]⟩, fun k _ => by simp [g00], fun k hk => ?_⟩
  rw [n] at hk
  omega
theorem z_boat : JBoat g00 := by
  have n : g00 6 7 = 0 := by simp [g00]
  refine ⟨⟨by simp [g00], by simp [g00], by simp [g00]⟩, fun k _ => by simp [g00], fun k hk => ?_⟩
  rw [n] at hk
  omega
theorem z_wgt : JWgt g00 := by
  intro p _
  simp [g00]
theorem z_pump : JPump g00 := by
  intro p _
  have a : g00 1 6 = 0 := by simp [g00]
  have b : g00 154 p = 0 := by simp [g00]
  rw [a, b, tb_0]
  rfl
theorem z_job : JJob g00 := by
  have n : g00 10 7 = 0 := by simp [g00]
  refine ⟨⟨by simp [g00], by simp [g00], by simp [g00]⟩, fun k hk => ?_⟩
  rw [n] at hk
  omega
theorem z_call : JCall g00 := by
  have n : g00 11 5 = 0 := by simp [g00]
  refine ⟨⟨by simp [g00], by simp [g00], by simp [g00]⟩, fun k hk => ?_⟩
  rw [n] at hk
  omega
theorem z_tape : JTape g00 := by
  have n : g00 4 2 = 0 := by simp [g00]
  refine ⟨⟨by simp [g00], by simp [g00], by simp [g00]⟩, fun k hk => ?_⟩
  rw [n] at hk
  omega
theorem z_log : JLog g00 := by
  have n : ∀ b, g00 74 b = 0 := fun b => by simp [g00]
  refine ⟨fun b _ => by simp [g00], fun b j _ hj => ?_⟩
  rw [n] at hj
  omega
theorem z_yard : JYard g00 := by
  refine ⟨fun b _ => by simp [g00], fun b _ _ => by simp [g00], ?_⟩
  rw [sm_cg (h := fun _ => 0) 10 (fun i _ => by simp [dkF, g00]), sm_z]
  omega
theorem z_rule : JRule g00 := by
  have n : g00 2 3 = 0 := by simp [g00]
  have m : g00 2 10 = 0 := by simp [g00]
  refine ⟨⟨by simp [g00], by simp [g00], by simp [g00]⟩, fun k _ => by simp [g00, I32], fun l hl => ?_, fun l hl => ?_, fun l hl => ?_, fun l hl => ?_, fun l hl => ?_, fun i _ => ?_⟩
  · rw [n] at hl; omega
  · rw [n] at hl; omega
  · rw [n] at hl; omega
  · rw [n] at hl; omega
  · rw [n] at hl; omega
  · rw [m, tb_0, tb_0]
    have z : ∀ j, g00 144 j = 0 ∧ g00 142 j = 0 ∧ g00 25 j = 0 ∧ g00 26 j = 0 := fun j => by simp [g00]
    rw [(z _).1, (z _).2.1, (z _).2.1, (z _).2.2.1, (z _).2.2.2, (z (2 * i + 1)).1, (z _).2.1, (z _).2.1, (z (15 + i)).2.2.1, (z (15 + i)).2.2.2]
    exact ⟨⟨rfl, fun h => absurd h (by decide), fun _ => ⟨rfl, rfl⟩, by omega, by omega⟩, ⟨rfl, fun h => absurd h (by decide), fun _ => ⟨rfl, rfl⟩, by omega, by omega⟩⟩
theorem z_wat : JWat g00 := ⟨by simp [g00], by simp [g00], by simp [g00]⟩
theorem z_hour : JHour g00 := by
  intro d hd
  have n : g00 2 3 = 0 := by simp [g00]
  have s : ∀ w, srvG g00 (fcDay d w) 0 (g00 2 3).toNat 0 = -1 := fun w => by rw [n]; rfl
  unfold hrA hrB
  rw [s, if_pos rfl, if_pos rfl]
  exact ⟨by simp [g00], by simp [g00, hd]⟩
theorem stpN_0 {a f t : Nat → Int} {i d : Int} {s : Nat} : stpN a f t i d 0 s = false := rfl
theorem z_stop : JStop g00 := by
  have n : g00 117 11 = 0 := by simp [g00]
  refine ⟨by simp [g00], ⟨by rw [n]; omega, fun s hs => ?_⟩, fun i d _ _ => ?_⟩
  · rw [n] at hs; omega
  · have e : g00 16 i = 0 := by simp [g00]
    unfold stpM
    rw [n, e, tb_0]
    rfl
theorem z_queue : JQueue g00 := by
  refine ⟨0, by omega, by simp [g00], by simp [g00], fun j hj => by omega, by simp [g00, qTW], ?_⟩
  refine ⟨(0, qId 0), ?_, by simp [g00], fun j hj => by omega⟩
  unfold qBest qS qLeaf
  rfl
theorem z_book : JBook g00 := by
  have n : g00 9 11 = 0 := by simp [g00]
  refine ⟨0, fun _ => 0, ⟨by omega, fun j hj => by omega⟩, by simp [g00], by simp [g00], fun j hj => by omega, ⟨fun p hp => by omega, fun p q h1 h2 => by omega, fun j hj => by omega⟩, fun p hp => by omega, ⟨by omega, fun b _ => by simp [g00]⟩, by rw [n]; omega, fun h => absurd n h⟩
theorem z_rain : JRain g00 := ⟨115, 116, by unfold PQ; omega, by simp [g00], by simp [g00]⟩
theorem inv_g00 : Inv g00 := ⟨z_way, z_trip, z_boat, z_wgt, z_pump, z_job, z_call, z_tape, z_log, z_yard, z_rule, z_wat, z_hour, z_stop, by simp [JFlag, g00], fun p _ => Or.inr (by simp [g00]), by simp [JAlong, g00], ⟨by simp [g00], by simp [g00]⟩, z_rain, z_queue, z_book, ⟨by simp [g00], by simp [g00]⟩⟩
end
section
/-! every call, as the law makes it -/
theorem iw_stretch : Sim_stretch Inv Inv := iv_stretch
theorem iw_water : Sim_water Inv Inv := iv_water
theorem iw_stoppage : Sim_stoppage Inv Inv := iv_stoppage
theorem iw_boat : Sim_boat Inv Inv := iv_boat
theorem iw_feed : Sim_feed Inv Inv := iv_feed
theorem iw_end : Sim_end Inv Inv := iv_end
theorem iw_rules : Sim_rules Inv Inv := iv_rules
theorem iw_fault : Sim_fault Inv Inv := iv_fault
theorem iw_open : Sim_open Inv Inv := iv_open
theorem iw_comes : Sim_comes Inv Inv := iv_comes
theorem iw_maybe : Sim_maybe Inv Inv := iv_maybe
theorem iw_harm : Sim_harm Inv Inv := iv_harm
theorem iw_back : Sim_back Inv Inv := iv_back
theorem iw_rung : Sim_rung Inv Inv := iv_rung
theorem iw_pump : Sim_pump Inv Inv := iv_pump
theorem iw_pumped : Sim_pumped Inv Inv := iv_pumped
theorem iw_enough : Sim_enough Inv Inv := iv_enough
theorem iw_trip : Sim_trip Inv Inv := iv_trip
theorem iw_late : Sim_late Inv Inv := iv_late
theorem iw_log : Sim_log Inv Inv := iv_log
theorem iw_could : Sim_could Inv Inv := iv_could
theorem iw_whose : Sim_whose Inv Inv := iv_whose
theorem iw_tonight : Sim_tonight Inv Inv := iv_tonight
theorem iw_queue : Sim_queue Inv Inv := iv_queue
theorem iw_lock : Sim_lock Inv Inv := iv_lock
theorem iw_booking : Sim_booking Inv Inv := iv_booking
theorem iw_given : Sim_given Inv Inv := iv_given
theorem iw_more : Sim_more Inv Inv := iv_more
theorem iw_gas : Sim_gas Inv Inv := fun x1 x2 x3 g h1 h2 h3 hI => by
  obtain ⟨r1, r2, e1, e2, hv, hI2⟩ := iv_gas x1 x2 x3 g h1 h2 h3 hI
  exact ⟨r1, r2, e1, e2, hI2⟩
theorem iw_dock : Sim_dock Inv Inv := iv_dock
theorem iw_job : Sim_job Inv Inv := iv_job
theorem iw_turned : Sim_turned Inv Inv := iv_turned
theorem iw_weight : Sim_weight Inv Inv := iv_weight
theorem iw_van : Sim_van Inv Inv := iv_van
theorem iw_vans : Sim_vans Inv Inv := iv_vans
theorem iw_call : Sim_call Inv Inv := iv_call
theorem iw_taken : Sim_taken Inv Inv := iv_taken
theorem iw_left : Sim_left Inv Inv := iv_left
theorem iw_shuts : Sim_shuts Inv Inv := iv_shuts
theorem iw_price : Sim_price Inv Inv := iv_price
theorem iw_held : Sim_held Inv Inv := iv_held
theorem iw_look : Sim_look Inv Inv := iv_look
theorem sims_all : Sims Inv Inv := ⟨iw_stretch, iw_water, iw_stoppage, iw_boat, iw_feed, iw_end, iw_rules, iw_fault, iw_open, iw_comes, iw_maybe, iw_harm, iw_back, iw_rung, iw_pump, iw_pumped, iw_enough, iw_trip, iw_late, iw_log, iw_could, iw_whose, iw_tonight, iw_queue, iw_lock, iw_booking, iw_given, iw_more, iw_gas, iw_dock, iw_job, iw_turned, iw_weight, iw_van, iw_vans, iw_call, iw_taken, iw_left, iw_shuts, iw_price, iw_held, iw_look⟩
end
