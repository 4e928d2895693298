/-! plain programs: rules kept -/
theorem stp_op {s v s' v' w c : Int} (h : opR s v w c) (h' : opR s' v' w c) {fc : Nat → Int} {st : List Int} : stp s v fc st = stp s' v' fc st := by
  have e : s = s' := by
    unfold opR at h h'
    rcases h with h | h | h | h | h | h | h | h | h | h | h | h <;> omega
  subst e
  unfold stp
  by_cases c0 : s < 10
  · rw [if_pos c0, if_pos c0]
    by_cases c1 : s = 0
    · have ev : v = v' := by
        unfold opR at h h'
        rcases h with h | h | h | h | h | h | h | h | h | h | h | h <;> omega
      rw [ev]
    · rw [if_neg c1, if_neg c1]
  · rw [if_neg c0, if_neg c0]
    by_cases c1 : s = 13
    · have ev : v = v' := by
        unfold opR at h h'
        rcases h with h | h | h | h | h | h | h | h | h | h | h | h <;> omega
      rw [ev]
    · rw [if_neg c1, if_neg c1]
theorem evl_op {cd cd' fc : Nat → Int} {w c : Nat → Int} : ∀ (n i : Nat) (st : List Int), (∀ j, i ≤ j → j < i + n → opR (cd (2 * j)) (cd (2 * j + 1)) (w j) (c j) ∧ opR (cd' (2 * j)) (cd' (2 * j + 1)) (w j) (c j)) → evl cd fc n i st = evl cd' fc n i st
  | 0, _, _, _ => rfl
  | n + 1, i, st, h => by
    have hi := h i (Nat.le_refl i) (by omega)
    show (stp _ _ fc st >>= _) = (stp _ _ fc st >>= _)
    rw [stp_op hi.1 hi.2]
    cases stp (cd' (2 * i)) (cd' (2 * i + 1)) fc st with
    | none => rfl
    | some st1 =>
      rw [sb, sb]
      by_cases e : st1.length ≤ 32
      · rw [if_pos e, if_pos e]; exact evl_op n (i + 1) st1 (fun j h1 h2 => h j (by omega) (by omega))
      · rw [if_neg e, if_neg e]
theorem srvF_cg {kd md en cd kd' md' en' cd' fc : Nat → Int} {sort : Int} : ∀ (n l : Nat), (∀ j, l ≤ j → j < l + n → kd j = kd' j ∧ md j = md' j ∧ en j = en' j ∧ evl cd fc (en j - md j).toNat (md j).toNat [] = evl cd' fc (en j - md j).toNat (md j).toNat []) → srvF kd md en cd fc sort n l = srvF kd' md' en' cd' fc sort n l
  | 0, _, _ => rfl
  | n + 1, l, h => by
    have hl := h l (Nat.le_refl l) (by omega)
    unfold srvF
    rw [srvF_cg n (l + 1) (fun j h1 h2 => h j (by omega) (by omega)), hl.2.2.2, hl.1, hl.2.1, hl.2.2.1]
def K1 (n k : Nat) (g : AG) : AG := fun a b => if 128 ≤ a ∧ a ≤ 133 ∧ k ≤ b ∧ b < n then g (a + 7) b else g a b
def K2 (c d n k : Nat) (g : AG) : AG := fun a b => if a = c ∧ k ≤ b ∧ b < n then g d b else g a b
theorem keep1 {n : Nat} (hn : n ≤ 16) : ∀ (m k : Nat) (g : AG), k + m = n → g 117 34 = n → M_keeps_b 1 k g = M_keeps_b 2 0 (K1 n k g) := by
  intro m
  induction m with
  | zero =>
    intro k g h h2
    have e : k = n := by omega
    subst e
    have eK : K1 k k g = g := by
      funext a b
      unfold K1
      rw [if_neg (by omega)]
    rw [M_keeps_b.eq_1 1, if_pos rfl, h2, if_pos (Int.le_refl _), eK]
  | succ m ih =>
    intro k g h h2
    obtain ⟨U, hU⟩ : ∃ U : AG, U = fun a b => if 128 ≤ a ∧ a ≤ 133 ∧ b = k then g (a + 7) b else g a b := ⟨_, rfl⟩
    have eU : M_keeps_b 1 k g = M_keeps_b 1 ((k : Int) + 1) U := by
      rw [M_keeps_b.eq_1 1, if_pos rfl, h2, nwN n (by omega), nwN k (by omega), if_neg (by omega), if_pos (by omega), ixN k (by omega), sb, sb, sb, sb, sb, sb]
      congr 1
      rw [hU]
      funext a b
      simp only [up_at, Nat.reduceEqDiff, false_and, if_false]
      by_cases hb : b = k
      · by_cases c0 : a = 128
        · subst c0; subst hb; simp
        by_cases c1 : a = 129
        · subst c1; subst hb; simp
        by_cases c2 : a = 130
        · subst c2; subst hb; simp
        by_cases c3 : a = 131
        · subst c3; subst hb; simp
        by_cases c4 : a = 132
        · subst c4; subst hb; simp
        by_cases c5 : a = 133
        · subst c5; subst hb; simp
        rw [if_neg (by omega), if_neg (by omega), if_neg (by omega), if_neg (by omega), if_neg (by omega), if_neg (by omega), if_neg (by omega)]
      · rw [if_neg (by omega), if_neg (by omega), if_neg (by omega), if_neg (by omega), if_neg (by omega), if_neg (by omega), if_neg (by omega)]
    have u34 : U 117 34 = n := by rw [hU]; dsimp only; rw [if_neg (by omega)]; exact h2
    have e := ih (k + 1) U (by omega) u34
    have eK : K1 n (k + 1) U = K1 n k g := by
      funext a b
      rw [hU]
      unfold K1
      dsimp only
      by_cases c1 : 128 ≤ a ∧ a ≤ 133 ∧ k + 1 ≤ b ∧ b < n
      · rw [if_pos c1, if_neg (by omega), if_pos (by omega)]
      · rw [if_neg c1]
        by_cases c2 : 128 ≤ a ∧ a ≤ 133 ∧ b = k
        · rw [if_pos c2, if_pos (by omega)]
        · rw [if_neg c2, if_neg (by omega)]
    rw [eU, ← eK]
    exact e
theorem K2_end {c d n : Nat} {g : AG} : K2 c d n n g = g := by
  funext a b
  unfold K2
  rw [if_neg (by omega)]
theorem K2_step {c d n k : Nat} {g : AG} (hcd : c ≠ d) (hk : k < n) : K2 c d n (k + 1) (up g c k (g d k)) = K2 c d n k g := by
  funext a b
  unfold K2
  simp only [up_at]
  by_cases c1 : a = c ∧ k + 1 ≤ b ∧ b < n
  · rw [if_pos c1, if_neg (fun q => hcd q.1.symm), if_pos (by omega)]
  · rw [if_neg c1]
    by_cases c2 : a = c ∧ b = k
    · rw [if_pos c2, if_pos (by omega), c2.2]
    · rw [if_neg c2, if_neg (by omega)]
theorem keep2 {s : Nat} (hs : s ≤ 500) : ∀ (m k : Nat) (g : AG), k + m = 2 * s → g 117 36 = s → M_keeps_b 2 k g = M_keeps_b 3 0 (K2 134 141 (2 * s) k g) := by
  intro m
  induction m with
  | zero =>
    intro k g h h2
    have e : k = 2 * s := by omega
    subst e
    have e2 : 2 * (s : Int) = ((2 * s : Nat) : Int) := by omega
    rw [M_keeps_b.eq_1 2, if_neg (by decide), if_pos rfl, h2, e2, if_pos (Int.le_refl _), K2_end]
  | succ m ih =>
    intro k g h h2
    have e2 : 2 * (s : Int) = ((2 * s : Nat) : Int) := by omega
    have e := ih (k + 1) (up g 134 k (g 141 k)) (by omega) (by rw [up_at, if_neg (fun q => absurd q.1 (by decide))]; exact h2)
    rw [K2_step (by decide) (by omega)] at e
    rw [M_keeps_b.eq_1 2, if_neg (by decide), if_pos rfl, h2, e2, nwN (2 * s) (by omega), nwN k (by omega), if_neg (by omega), if_pos (by omega), ixN k (by omega), sb, ← e]
    rfl
theorem keep3 : ∀ (m k : Nat) (g : AG), k + m = 30 → (∀ j, j < 30 → g 145 j = 0 ∨ g 145 j = 1) → M_keeps_b 3 k g = M_keeps_b 4 0 (K2 144 145 30 k g) := by
  intro m
  induction m with
  | zero =>
    intro k g h h2
    have e : k = 30 := by omega
    subst e
    rw [M_keeps_b.eq_1 3, if_neg (by decide), if_neg (by decide), if_pos rfl, nwN 30 (by omega), if_pos (by decide), K2_end]
  | succ m ih =>
    intro k g h h2
    have e := ih (k + 1) (up g 144 k (g 145 k)) (by omega) (fun j hj => by rw [up_at, if_neg (fun q => absurd q.1 (by decide))]; exact h2 j hj)
    rw [K2_step (by decide) (by omega)] at e
    rw [M_keeps_b.eq_1 3, if_neg (by decide), if_neg (by decide), if_pos rfl, nwN k (by omega), if_neg (by omega), if_pos (by omega), ixN k (by omega), if_pos (h2 k (by omega)), sb, ← e]
    rfl
theorem keep4 : ∀ (m k : Nat) (g : AG), k + m = 60 → M_keeps_b 4 k g = some (0, K2 142 143 60 k g) := by
  intro m
  induction m with
  | zero =>
    intro k g h
    have e : k = 60 := by omega
    subst e
    rw [M_keeps_b.eq_1 4, if_neg (by decide), if_neg (by decide), if_neg (by decide), if_pos rfl, nwN 60 (by omega), if_pos (by decide), K2_end]
  | succ m ih =>
    intro k g h
    have e := ih (k + 1) (up g 142 k (g 143 k)) (by omega)
    rw [K2_step (by decide) (by omega)] at e
    rw [M_keeps_b.eq_1 4, if_neg (by decide), if_neg (by decide), if_neg (by decide), if_pos rfl, nwN k (by omega), if_neg (by omega), if_pos (by omega), ixN k (by omega), sb, ← e]
    rfl
abbrev RKM : Reg := [(117, 35), (128, 0), (129, 0), (130, 0), (131, 0), (132, 0), (133, 0), (134, 0), (142, 0), (144, 0)]
theorem K1_fr {n : Nat} {g : AG} : FR RKM g (K1 n 0 g) := by
  intro a b h
  unfold K1
  rw [if_neg (fun q => ?_)]
  have c : a = 128 ∨ a = 129 ∨ a = 130 ∨ a = 131 ∨ a = 132 ∨ a = 133 := by omega
  rcases c with rfl | rfl | rfl | rfl | rfl | rfl <;> simp [inR, inP] at h
theorem K2_fr {c d n : Nat} {g : AG} : FR [(c, 0)] g (K2 c d n 0 g) := by
  intro a b h
  unfold K2
  rw [if_neg (fun q => ?_)]
  rw [q.1] at h
  simp [inR, inP] at h
theorem keeps_s {g : AG} {n s : Nat} (hn : n ≤ 16) (hs : s ≤ 500) (h35 : g 117 35 = n) (h36 : g 117 36 = s) (h145 : ∀ j, j < 30 → g 145 j = 0 ∨ g 145 j = 1) : ∃ g', M_keeps g = some (0, g') ∧ FR RKM g g' ∧ g' 117 34 = n ∧ (∀ l, l < n → g' 128 l = g 135 l ∧ g' 129 l = g 136 l ∧ g' 130 l = g 137 l ∧ g' 131 l = g 138 l ∧ g' 132 l = g 139 l ∧ g' 133 l = g 140 l) ∧ (∀ j, g' 134 j = if j < 2 * s then g 141 j else g 134 j) ∧ (∀ j, j < 30 → g' 144 j = g 145 j) ∧ ∀ j, j < 60 → g' 142 j = g 143 j := by
  obtain ⟨g1, hg1⟩ : ∃ g1 : AG, g1 = up g 117 34 (n : Int) := ⟨_, rfl⟩
  have f1 : FR RKM g g1 := by rw [hg1]; exact Fr.up Fr.rf rfl
  have a34 : g1 117 34 = n := by rw [hg1, up_at, if_pos ⟨rfl, rfl⟩]
  have e1 := keep1 hn n 0 g1 (by omega) a34
  obtain ⟨g2, hg2⟩ : ∃ g2 : AG, g2 = K1 n 0 g1 := ⟨_, rfl⟩
  have f2 : FR RKM g1 g2 := by rw [hg2]; exact K1_fr
  rw [← hg2] at e1
  have e2 := keep2 hs (2 * s) 0 g2 (by omega) (by rw [f2 117 36 rfl, f1 117 36 rfl]; exact h36)
  obtain ⟨g3, hg3⟩ : ∃ g3 : AG, g3 = K2 134 141 (2 * s) 0 g2 := ⟨_, rfl⟩
  have f3 : FR [(134, 0)] g2 g3 := by rw [hg3]; exact K2_fr
  rw [← hg3] at e2
  have e3 := keep3 30 0 g3 (by omega) (fun j hj => by rw [f3 145 j rfl, f2 145 j rfl, f1 145 j rfl]; exact h145 j hj)
  obtain ⟨g4, hg4⟩ : ∃ g4 : AG, g4 = K2 144 145 30 0 g3 := ⟨_, rfl⟩
  have f4 : FR [(144, 0)] g3 g4 := by rw [hg4]; exact K2_fr
  rw [← hg4] at e3
  have e4 := keep4 60 0 g4 (by omega)
  obtain ⟨g5, hg5⟩ : ∃ g5 : AG, g5 = K2 142 143 60 0 g4 := ⟨_, rfl⟩
  have f5 : FR [(142, 0)] g4 g5 := by rw [hg5]; exact K2_fr
  rw [← hg5] at e4
  have up : ∀ l, l < n → g2 128 l = g 135 l ∧ g2 129 l = g 136 l ∧ g2 130 l = g 137 l ∧ g2 131 l = g 138 l ∧ g2 132 l = g 139 l ∧ g2 133 l = g 140 l := fun l hl => by
    rw [hg2]
    unfold K1
    rw [if_pos (by omega), if_pos (by omega), if_pos (by omega), if_pos (by omega), if_pos (by omega), if_pos (by omega), f1 (128 + 7) l rfl, f1 (129 + 7) l rfl, f1 (130 + 7) l rfl, f1 (131 + 7) l rfl, f1 (132 + 7) l rfl, f1 (133 + 7) l rfl]
    exact ⟨rfl, rfl, rfl, rfl, rfl, rfl⟩
  refine ⟨g5, ?_, f1.tr (f2.tr ((FR.mo f3 rfl).tr ((FR.mo f4 rfl).tr (FR.mo f5 rfl)))), by rw [f5 117 34 rfl, f4 117 34 rfl, f3 117 34 rfl, hg2]; exact a34, fun l hl => ?_, fun j => ?_, fun j hj => ?_, fun j hj => ?_⟩
  · unfold M_keeps
    rw [h35, sb, ← hg1]
    have e1' : M_keeps_b 1 0 g1 = M_keeps_b 2 0 g2 := e1
    have e2' : M_keeps_b 2 0 g2 = M_keeps_b 3 0 g3 := e2
    have e3' : M_keeps_b 3 0 g3 = M_keeps_b 4 0 g4 := e3
    have e4' : M_keeps_b 4 0 g4 = some (0, g5) := e4
    rw [e1', e2', e3', e4']
  · rw [f5 128 l rfl, f4 128 l rfl, f3 128 l rfl, f5 129 l rfl, f4 129 l rfl, f3 129 l rfl, f5 130 l rfl, f4 130 l rfl, f3 130 l rfl, f5 131 l rfl, f4 131 l rfl, f3 131 l rfl, f5 132 l rfl, f4 132 l rfl, f3 132 l rfl, f5 133 l rfl, f4 133 l rfl, f3 133 l rfl]
    exact up l hl
  · rw [f5 134 j rfl, f4 134 j rfl, hg3]
    unfold K2
    by_cases c : j < 2 * s
    · rw [if_pos (by omega), if_pos c, f2 141 j rfl, f1 141 j rfl]
    · rw [if_neg (by omega), if_neg c, hg2]
      unfold K1
      rw [if_neg (by omega), hg1, up_at, if_neg (fun q => absurd q.1 (by decide))]
  · rw [f5 144 j rfl, hg4]
    unfold K2
    rw [if_pos (by omega), f3 145 j rfl, f2 145 j rfl, f1 145 j rfl]
  · rw [hg5]
    unfold K2
    rw [if_pos (by omega), f4 143 j rfl, f3 143 j rfl, f2 143 j rfl, f1 143 j rfl]
abbrev RTO : Reg := [(2, 3), (2, 4), (2, 11), (17, 0), (18, 0), (19, 0), (20, 0), (21, 0), (22, 0), (23, 0), (24, 0), (25, 0), (26, 0)]
theorem Fr.copy {W : Nat → Nat → Bool} {g g' : AG} {ks sp kd dp n : Nat} (h1 : Fr W g g') (hw : ∀ i, W kd i = true) : Fr W g (copyG g' ks sp kd dp n) := by
  intro a b h
  unfold copyG
  rw [if_neg (fun q => by rw [q.1, hw] at h; cases h)]
  exact h1 a b h
theorem takeOver_s (g : AG) : ∃ g', Rules_takeOver g = some (0, g') ∧ FR RTO g g' ∧ g' 2 3 = g 3 3 ∧ g' 2 10 = g 3 10 ∧ (∀ j, j < 500 → g' 17 j = g 29 j ∧ g' 18 j = g 30 j) ∧ (∀ l, l < 16 → g' 19 l = g 31 l ∧ g' 20 l = g 32 l ∧ g' 21 l = g 33 l ∧ g' 22 l = g 34 l ∧ g' 23 l = g 35 l ∧ g' 24 l = g 36 l) ∧ ∀ i, i < 30 → g' 25 i = g 37 i ∧ g' 26 i = g 38 i := by
  have i0 : ix 0 = 0 := ixN 0 (by ((try clear i0); (try clear i500); (try clear i16); (try clear i30); omega))
  have i500 : ix 500 = 500 := ixN 500 (by ((try clear i0); (try clear i500); (try clear i16); (try clear i30); omega))
  have i16 : ix 16 = 16 := ixN 16 (by ((try clear i0); (try clear i500); (try clear i16); (try clear i30); omega))
  have i30 : ix 30 = 30 := ixN 30 (by ((try clear i0); (try clear i500); (try clear i16); (try clear i30); omega))
  unfold Rules_takeOver
  rw [i0, i500, i16, i30]
  simp only [sb]
  refine ⟨_, rfl, ?_, ?_, ?_, ?_, ?_, ?_⟩
  · exact Fr.copy (Fr.copy (Fr.copy (Fr.copy (Fr.copy (Fr.copy (Fr.copy (Fr.copy (Fr.copy (Fr.copy (Fr.up (Fr.up (Fr.up Fr.rf rfl) rfl) rfl) (fun _ => rfl)) (fun _ => rfl)) (fun _ => rfl)) (fun _ => rfl)) (fun _ => rfl)) (fun _ => rfl)) (fun _ => rfl)) (fun _ => rfl)) (fun _ => rfl)) (fun _ => rfl)
  · simp [copyG, up_at]
  · simp [copyG, up_at]
  · intro j hj; simp [copyG, up_at, hj]
  · intro l hl; simp [copyG, up_at, hl]
  · intro i hi; simp [copyG, up_at, hi]
