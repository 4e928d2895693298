/-! plain programs: could, whose -/
/-- the k-th place that is known of a boat: its home, then its logs -/
def plF (g : AG) (b k : Nat) : Nat := if k = 0 then (g 50 b).toNat else (g (53 + b) (k - 1)).toNat
def tmF (g : AG) (b k : Nat) : Int := if k = 0 then 0 else g (64 + b) (k - 1)
def btF (g : AG) (b p : Nat) (a c : Int) (k : Nat) : Bool :=
  let there := ldM g (g 51 b) (plF g b k) p (tmF g b k)
  let t := max there a
  if there = -1 then false else if c < t then false else if (k : Int) = g 74 b then true
  else if g (64 + b) k ≤ t then false
  else decide (¬ ldM g (g 51 b) p (g (53 + b) k).toNat t = -1 ∧ ldM g (g 51 b) p (g (53 + b) k).toNat t ≤ g (64 + b) k)
def chF (g : AG) (b p : Nat) (a c : Int) : Nat → Nat → Bool
  | 0, _ => false
  | n + 1, k => if btF g b p a c k = true then true else chF g b p a c n (k + 1)
theorem btF_fr {W : Reg} {g g' : AG} {b : Nat} (hb : b < 10) (f : FR W g g') (d : djR [(117, 11), (117, 12), (121, 0), (122, 0), (123, 0), (2, 4), (128, 0), (129, 0), (130, 0), (132, 0), (133, 0), (134, 0), (142, 0), (144, 0), (118, 0), (119, 0)] W = true) (d2 : djR ((50, 0) :: (51, 0) :: RLog) W = true) : btF g' b = btF g b := by
  have c := f.cg d2
  have c1 : g' 50 b = g 50 b := c 50 b rfl
  have c2 : g' 51 b = g 51 b := c 51 b rfl
  have c3 : g' 74 b = g 74 b := c 74 b rfl
  have up' : ∀ k i, inR RLog k i = true → inR ((50, 0) :: (51, 0) :: RLog) k i = true := by
    intro k i h
    show (inP (50, 0) k i || (inP (51, 0) k i || inR RLog k i)) = true
    rw [h]; simp
  have c4 : g' (53 + b) = g (53 + b) := funext fun i => c _ i (up' _ i (RLog_at b hb i).1)
  have c5 : g' (64 + b) = g (64 + b) := funext fun i => c _ i (up' _ i (RLog_at b hb i).2)
  funext p a c k
  unfold btF plF tmF
  rw [ldM_fr f d, c1, c2, c3, c4, c5]
theorem chF_fr {W : Reg} {g g' : AG} {b : Nat} (hb : b < 10) (f : FR W g g') (d : djR [(117, 11), (117, 12), (121, 0), (122, 0), (123, 0), (2, 4), (128, 0), (129, 0), (130, 0), (132, 0), (133, 0), (134, 0), (142, 0), (144, 0), (118, 0), (119, 0)] W = true) (d2 : djR ((50, 0) :: (51, 0) :: RLog) W = true) : chF g' b = chF g b := by
  have e := btF_fr hb f d d2
  funext p a c n
  induction n with
  | zero => rfl
  | succ n ih =>
    funext k
    unfold chF
    rw [e, ih]
def JL (g : AG) : Prop := JV g ∧ JBoat g ∧ JLog g
theorem JL.fr {W : Reg} {g g' : AG} (h : JL g) (f : FR W g g') (d : djR (RWay ++ (RRule ++ (RHour ++ (RStop ++ RWat)))) W = true) (d2 : djR RBoat W = true) (d3 : djR RLog W = true) : JL g' := ⟨h.1.fr f d, h.2.1.cg (f.cg d2), h.2.2.cg (f.cg d3)⟩
theorem JL.row {g : AG} (h : JL g) {b : Nat} (hb : (b : Int) < g 6 7) : b < 10 ∧ (∃ hm : Nat, g 50 b = hm ∧ hm ≤ 15) ∧ g 126 b = g 50 b ∧ g 127 b = g 51 b ∧ (0 ≤ g 51 b ∧ g 51 b ≤ 60) ∧ (∃ n : Nat, g 74 b = n ∧ n ≤ 10) ∧ g 155 b = g 74 b ∧ ∀ j : Nat, (j : Int) < g 74 b → (∃ q : Nat, g (53 + b) j = q ∧ q ≤ 15) ∧ (0 ≤ g (64 + b) j ∧ g (64 + b) j ≤ 20159) ∧ g 156 (10 * b + j) = g (53 + b) j ∧ g 157 (10 * b + j) = g (64 + b) j := by
  obtain ⟨V, ⟨⟨b1, b2, b3⟩, bv, bs⟩, l1, l2⟩ := h
  have hb10 : b < 10 := by omega
  have vb := bv b hb10
  have sb' := bs b hb
  have lb := l1 b hb10
  refine ⟨hb10, ?_, vb.2.2.1, vb.2.2.2, sb'.2.2.2, ?_, lb.1, fun j hj => ?_⟩
  · obtain ⟨q, hq⟩ := natOf sb'.2.2.1.1
    exact ⟨q, hq, by omega⟩
  · obtain ⟨q, hq⟩ := natOf lb.2.1
    exact ⟨q, hq, by omega⟩
  · have r := l2 b j hb10 hj
    obtain ⟨q, hq⟩ := natOf r.2.2.1.1
    exact ⟨⟨q, hq, by omega⟩, r.2.2.2, r.1, r.2.1⟩
theorem JL.place {g : AG} (h : JL g) {b k : Nat} (hb : (b : Int) < g 6 7) (hk : (k : Int) ≤ g 74 b) : plF g b k ≤ 15 ∧ (0 ≤ tmF g b k ∧ tmF g b k ≤ 20159) := by
  obtain ⟨hb10, ⟨hm, e1, e2⟩, _, _, _, ⟨n, e3, e4⟩, _, hj⟩ := h.row hb
  unfold plF tmF
  by_cases z : k = 0
  · rw [if_pos z, if_pos z, e1]; omega
  · rw [if_neg z, if_neg z]
    obtain ⟨⟨q, q1, q2⟩, r, _⟩ := hj (k - 1) (by omega)
    rw [q1]; omega
theorem WV_log : ∀ b : Nat, b < 10 → ∀ k, inR WV (53 + b) k = false ∧ inR WV (64 + b) k = false := by
  intro b hb k
  have : b = 0 ∨ b = 1 ∨ b = 2 ∨ b = 3 ∨ b = 4 ∨ b = 5 ∨ b = 6 ∨ b = 7 ∨ b = 8 ∨ b = 9 := by omega
  rcases this with e | e | e | e | e | e | e | e | e | e <;> subst e <;> exact ⟨rfl, rfl⟩
theorem X_placeOf_s {b k : Nat} {g : AG} (L : JL g) (hb : (b : Int) < g 6 7) (hk : (k : Int) ≤ g 74 b) : Boats_placeOf b ((k : Int) - 1) g = some ((plF g b k : Nat) : Int) := by
  obtain ⟨hb10, ⟨hm, e1, e2⟩, e3, e4, hr, ⟨n, e5, e6⟩, e7, hj⟩ := L.row hb
  unfold Boats_placeOf plF
  by_cases z : k = 0
  · subst z
    simp (disch := omega) only [nw_id, ix_id, sb, if_true, if_false, if_pos, if_neg, true_and, and_true, false_and, and_false, and_self]
    rw [Int.toNat_natCast, e1, Int.toNat_natCast]
  · obtain ⟨⟨q, q1, q2⟩, _, _⟩ := hj (k - 1) (by omega)
    simp (disch := omega) only [nw_id, ix_id, sb, if_true, if_false, if_pos, if_neg, true_and, and_true, false_and, and_false, and_self]
    rw [Int.toNat_natCast, show ((k : Int) - 1).toNat = k - 1 by omega, q1, Int.toNat_natCast]
theorem X_timeOf_s {b k : Nat} {g : AG} (L : JL g) (hb : (b : Int) < g 6 7) (hk : (k : Int) ≤ g 74 b) : Boats_timeOf b ((k : Int) - 1) g = some (tmF g b k) := by
  obtain ⟨hb10, ⟨hm, e1, e2⟩, e3, e4, hr, ⟨n, e5, e6⟩, e7, hj⟩ := L.row hb
  unfold Boats_timeOf tmF
  by_cases z : k = 0
  · subst z
    simp (disch := omega) only [nw_id, ix_id, sb, if_true, if_false, if_pos, if_neg, true_and, and_true, false_and, and_false, and_self]
  · simp (disch := omega) only [nw_id, ix_id, sb, if_true, if_false, if_pos, if_neg, true_and, and_true, false_and, and_false, and_self]
    rw [Int.toNat_natCast, show ((k : Int) - 1).toNat = k - 1 by omega]
theorem X_between_s {b p k : Nat} {a c : Int} {g : AG} (L : JL g) (hb : (b : Int) < g 6 7) (hp : p ≤ 15) (ha : 0 ≤ a ∧ a ≤ 20159) (hc : 0 ≤ c ∧ c ≤ 20159) (hk : (k : Int) ≤ g 74 b) : ∃ g', Boats_canBetween b ((k : Int) - 1) p a c g = some (if btF g b p a c k = true then 1 else 0, g') ∧ FR WV g g' := by
  have ePl := X_placeOf_s L hb hk
  have eTm := X_timeOf_s L hb hk
  obtain ⟨hb10, ⟨hm, e1, e2⟩, e3, e4, hr, ⟨n, e5, e6⟩, e7, hj⟩ := L.row hb
  have pl := L.place hb hk
  obtain ⟨g1, r1, f1⟩ := X_comesTo1 (a := plF g b k) (c := p) (ta := g 51 b) (t := tmF g b k) L.1 pl.1 hp hr (Or.inr pl.2)
  have lt := ldM_tm (g := g) (a := plF g b k) (c := p) (ta := g 51 b) (t := tmF g b k) L.1 pl.1 hp hr (Or.inr pl.2)
  have key : ∀ L0 : Int, TmOk L0 → Voyage_comesTo (g 51 b) (plF g b k) p (tmF g b k) 1 g = some (L0, g1) → ∃ g', Boats_canBetween b ((k : Int) - 1) p a c g = some (if (if L0 = -1 then false else if c < max L0 a then false else if (k : Int) = g 74 b then true else if g (64 + b) k ≤ max L0 a then false else decide (¬ ldM g (g 51 b) p (g (53 + b) k).toNat (max L0 a) = -1 ∧ ldM g (g 51 b) p (g (53 + b) k).toNat (max L0 a) ≤ g (64 + b) k)) = true then 1 else 0, g') ∧ FR WV g g' := by
    intro L0 lt0 hL
    clear r1 lt pl
    have k1 : ((k : Int) - 1) + 1 = k := by omega
    have hk11 : (k : Int) ≤ 10 := by omega
    clear e1 e2 e3 e4 e7
    obtain ⟨T, hT⟩ : ∃ T, T = max L0 a := ⟨_, rfl⟩
    have lt1 : L0 = -1 ∨ (0 ≤ L0 ∧ L0 ≤ 20159) := lt0
    clear lt0
    have hT1 : 0 ≤ T ∧ T ≤ 20159 := by omega
    rw [← hT]
    -- the numbers
    have m1 : nw L0 = L0 := by clear hT; exact nw_id (by omega) (by omega)
    have m2 : nw T = T := by clear m1 hT; exact nw_id (by omega) (by omega)
    have m3 : nw c = c := by clear m1 m2 hT; exact nw_id (by omega) (by omega)
    have m4 : 0 ≤ nw (b : Int) ∧ nw (b : Int) < 10 := by clear m1 m2 m3 hT; rw [nw_id (by omega) (by omega)]; omega
    have m5 : ix (b : Int) = b := by clear m1 m2 m3 m4 hT; rw [ix_id (by omega) (by omega), Int.toNat_natCast]
    have m6 : nw (k : Int) = k := by clear m1 m2 m3 m4 m5 hT; exact nw_id (by omega) (by omega)
    have m7 : nw (g 74 b) = g 74 b := by clear m1 m2 m3 m4 m5 m6 hT; exact nw_id (by omega) (by omega)
    have mm : mxI L0 a = T := by clear m1 m2 m3 m4 m5 m6 m7; rw [mxI_s (by omega) (by omega) (by omega) (by omega), ← hT]
    unfold Boats_canBetween
    by_cases last : (k : Int) = g 74 b
    · have p1 : ¬ (k : Int) < g 74 b := by rw [last]; exact Int.lt_irrefl _
      have p2 : T < 20160 := by clear m1 m2 m3 m4 m5 m6 m7 mm hT; omega
      have n2 : nw 20160 = 20160 := nw_id (by decide) (by decide)
      rw [if_pos m4, m5, k1]
      simp only [m6, m7]
      rw [if_neg p1, sb, nw_1, if_neg (by decide), sb]
      dsimp only
      rw [ePl, sb, eTm, sb, hL, sb]
      simp only [m1, m2, m3, n2, mm]
      by_cases d1 : L0 = -1
      · simp only [if_pos d1]
        exact ⟨g1, by simp, f1⟩
      · simp only [if_neg d1]
        by_cases d3 : c < T
        · simp only [if_pos d3]
          exact ⟨g1, by simp, f1⟩
        · simp only [if_neg d3, if_pos p2, if_pos last]
          exact ⟨g1, by simp, f1⟩
    · have p1 : (k : Int) < g 74 b := by clear m1 m2 m3 m4 m5 m6 m7 mm hT; omega
      obtain ⟨⟨q, q1, q2⟩, qt, _⟩ := hj k p1
      have m8 : 0 ≤ nw (k : Int) ∧ nw (k : Int) < 10 := by rw [m6]; clear m1 m2 m3 m4 m5 m6 m7 mm hT; omega
      have m9 : ix (k : Int) = k := by clear m1 m2 m3 m4 m5 m6 m7 m8 mm hT; rw [ix_id (by omega) (by omega), Int.toNat_natCast]
      have n2 : nw (g (64 + b) k) = g (64 + b) k := by clear m1 m2 m3 m4 m5 m6 m7 m8 m9 mm hT; exact nw_id (by omega) (by omega)
      rw [if_pos m4, m5, k1]
      simp only [m6, m7]
      rw [if_pos p1, sb, nw_0, if_pos rfl, if_pos (by rw [m6] at m8; exact m8), m9, sb]
      dsimp only
      rw [ePl, sb, eTm, sb, hL, sb]
      simp only [m1, m2, m3, n2, mm]
      by_cases d1 : L0 = -1
      · simp only [if_pos d1]
        exact ⟨g1, by simp, f1⟩
      · simp only [if_neg d1]
        by_cases d3 : c < T
        · simp only [if_pos d3]
          exact ⟨g1, by simp, f1⟩
        · simp only [if_neg d3, if_neg last]
          by_cases d4 : T < g (64 + b) k
          · have L1 := L.fr f1 rfl rfl rfl
            obtain ⟨g2, r2, f2⟩ := X_comesTo1 (a := p) (c := q) (ta := g 51 b) (t := T) (g := g1) L1.1 hp q2 hr (Or.inr hT1)
            have lt2 := ldM_tm (g := g) (a := p) (c := q) (ta := g 51 b) (t := T) L.1 hp q2 hr (Or.inr hT1)
            rw [ldM_fr f1 rfl] at r2
            have q3 : g1 51 b = g 51 b := f1 51 b rfl
            have q4 : g1 (53 + b) k = q := by rw [f1 (53 + b) k (WV_log b hb10 k).1]; exact q1
            rw [q1, Int.toNat_natCast]
            have d4' : ¬ g (64 + b) k ≤ T := by clear m1 m2 m3 m4 m5 m6 m7 m8 m9 n2 mm hT; omega
            simp only [if_pos d4, if_neg d4']
            rw [if_pos trivial, q3, q4, r2, sb, sb]
            dsimp only
            generalize ldM g (g 51 b) p q T = M at lt2 ⊢
            have lt3 : M = -1 ∨ (0 ≤ M ∧ M ≤ 20159) := lt2
            have n3 : nw M = M := by clear m1 m2 m3 m4 m5 m6 m7 m8 m9 n2 mm hT lt2 r2; exact nw_id (by omega) (by omega)
            simp only [n3, n2]
            refine ⟨g2, ?_, f1.tr f2⟩
            clear m1 m2 m3 m4 m5 m6 m7 m8 m9 n2 n3 mm hT lt2 r2
            by_cases d5 : M = -1
            · simp [d5]; (try omega)
            · by_cases d6 : g (64 + b) k < M
              · simp [d5, d6]; (try omega)
              · simp [d5, d6]; (try omega)
          · have d4' : g (64 + b) k ≤ T := by clear m1 m2 m3 m4 m5 m6 m7 m8 m9 n2 mm hT; omega
            simp only [if_neg d4, if_pos d4']
            exact ⟨g1, by simp, f1⟩
  exact key _ lt r1
theorem M_between_s {b p k : Nat} {a c : Int} {g : AG} (L : JL g) (hf : JFlag g) (hb : (b : Int) < g 6 7) (hp : p ≤ 15) (ha : 0 ≤ a ∧ a ≤ 20159) (hc : 0 ≤ c ∧ c ≤ 20159) (hk : (k : Int) ≤ g 74 b) : ∃ g', M_between b p a c ((k : Int) - 1) g = some (if btF g b p a c k = true then 1 else 0, g') ∧ FR WM g g' := by
  obtain ⟨hb10, ⟨hm, e1, e2⟩, e3, e4, hr, ⟨n, e5, e6⟩, e7, hj⟩ := L.row hb
  have pl := L.place hb hk
  obtain ⟨g1, r1, f1⟩ := M_led1 (b := b) (a := plF g b k) (c := p) (t := tmF g b k) (g := g) L.1 hf hb10 pl.1 hp (by rw [e4]; exact hr) (Or.inr pl.2)
  rw [e4] at r1
  have lt := ldM_tm (g := g) (a := plF g b k) (c := p) (ta := g 51 b) (t := tmF g b k) L.1 pl.1 hp hr (Or.inr pl.2)
  have k1 : ((k : Int) - 1) + 1 = k := by omega
  have m4 : 0 ≤ nw (b : Int) ∧ nw (b : Int) < 10 := by rw [nw_id (by omega) (by omega)]; omega
  have m5 : ix (b : Int) = b := by clear m4; rw [ix_id (by omega) (by omega), Int.toNat_natCast]
  -- the head of it
  have head : M_between b p a c ((k : Int) - 1) g = (M_led b (plF g b k : Nat) p (tmF g b k) g >>= fun r10 => (if nw r10.1 = (-1) then some (0, r10.2) else (some ((if nw r10.1 ≤ nw a then a else r10.1)) >>= fun t13 => if 0 ≤ nw (b : Int) ∧ nw (b : Int) < 10 then (some ((if nw (((k : Int) - 1) + 1) = nw (r10.2 155 (ix b)) then 1 else 0)) >>= fun t16 => (if nw c < nw t13 then some (0, r10.2) else (if nw t16 = 0 then if 0 ≤ nw (((10 * (b : Int)) + ((k : Int) - 1)) + 1) ∧ nw (((10 * (b : Int)) + ((k : Int) - 1)) + 1) < 100 then (if nw t13 < nw (r10.2 157 (ix (((10 * (b : Int)) + ((k : Int) - 1)) + 1))) then M_between_b b p ((k : Int) - 1) t13 t16 r10.2 else some (0, r10.2)) else none else M_between_b b p ((k : Int) - 1) t13 t16 r10.2))) else none))) := by
    unfold M_between plF tmF
    by_cases z : k = 0
    · subst z
      have z1 : ((0 : Nat) : Int) - 1 = -1 := by decide
      rw [z1, nw_m1, if_pos rfl, sb, if_pos rfl, if_pos m4, sb, if_pos rfl, if_pos rfl]
      dsimp only
      rw [m5, e3, e1, Int.toNat_natCast]
    · obtain ⟨⟨q, q1, q2⟩, qt, q3, q4⟩ := hj (k - 1) (by clear m4 m5; omega)
      have z1 : ¬ nw ((k : Int) - 1) = -1 := by clear m4 m5; rw [nw_id (by omega) (by omega)]; omega
      have z2 : 0 ≤ nw (10 * (b : Int) + ((k : Int) - 1)) ∧ nw (10 * (b : Int) + ((k : Int) - 1)) < 100 := by clear m4 m5 z1; rw [nw_id (by omega) (by omega)]; omega
      have z3 : ix (10 * (b : Int) + ((k : Int) - 1)) = 10 * b + (k - 1) := by clear m4 m5 z1 z2; rw [ix_id (by omega) (by omega)]; omega
      rw [if_neg z1, if_pos z2, sb, if_neg z1, if_pos z2, sb, z3, if_neg z, if_neg z]
      dsimp only
      rw [q3, q4, q1, Int.toNat_natCast]
  rw [head, r1, sb]
  dsimp only
  have h155 : g1 155 b = g 74 b := by rw [f1 155 b rfl, e7]
  simp only [sb, if_pos m4, m5, h155, k1]
  clear head r1
  have hk11 : (k : Int) ≤ 10 := by clear m4 m5; omega
  unfold btF
  dsimp only
  generalize ldM g (g 51 b) (plF g b k) p (tmF g b k) = L0 at lt ⊢
  have lt1 : L0 = -1 ∨ (0 ≤ L0 ∧ L0 ≤ 20159) := lt
  clear lt e1 e2 pl
  show ∃ g', _ = some (if (if L0 = -1 then false else if c < max L0 a then false else if (k : Int) = g 74 b then true else if g (64 + b) k ≤ max L0 a then false else decide (¬ ldM g (g 51 b) p (g (53 + b) k).toNat (max L0 a) = -1 ∧ ldM g (g 51 b) p (g (53 + b) k).toNat (max L0 a) ≤ g (64 + b) k)) = true then 1 else 0, g') ∧ _
  generalize hT : max L0 a = T
  have hT1 : 0 ≤ T ∧ T ≤ 20159 := by clear m4 m5; omega
  have hT2 : (if L0 ≤ a then a else L0) = T := by clear m4 m5; split <;> omega
  clear hT
  have m1 : nw L0 = L0 := by clear m4 m5 hT2; exact nw_id (by omega) (by omega)
  have m0 : nw a = a := by clear m4 m5 hT2 m1; exact nw_id (by omega) (by omega)
  have m2 : nw T = T := by clear m4 m5 hT2 m1 m0; exact nw_id (by omega) (by omega)
  have m3 : nw c = c := by clear m4 m5 hT2 m1 m0 m2; exact nw_id (by omega) (by omega)
  have m6 : nw (k : Int) = k := by clear m4 m5 hT2 m1 m0 m2 m3; exact nw_id (by omega) (by omega)
  have m7 : nw (g 74 b) = g 74 b := by clear m4 m5 hT2 m1 m0 m2 m3 m6; exact nw_id (by omega) (by omega)
  have z2 : (k : Int) < g 74 b → 0 ≤ nw (10 * (b : Int) + ((k : Int) - 1) + 1) ∧ nw (10 * (b : Int) + ((k : Int) - 1) + 1) < 100 := by clear m4 m5 hT2 m1 m0 m2 m3 m6 m7; intro h; rw [nw_id (by omega) (by omega)]; omega
  have z3 : ix (10 * (b : Int) + ((k : Int) - 1) + 1) = 10 * b + k := by clear m4 m5 hT2 m1 m0 m2 m3 m6 m7 z2; rw [ix_id (by omega) (by omega)]; omega
  simp only [m1, m0, hT2, sb, m2, m3, m6, m7]
  by_cases d1 : L0 = -1
  · simp only [if_pos d1]
    exact ⟨g1, by simp, f1⟩
  · simp only [if_neg d1]
    by_cases d3 : c < T
    · simp only [if_pos d3]
      exact ⟨g1, by simp, f1⟩
    · simp only [if_neg d3]
      by_cases last : (k : Int) = g 74 b
      · simp only [if_pos last]
        rw [nw_1, if_neg (by decide), M_between_b, nw_1, if_neg (by decide)]
        exact ⟨g1, by simp, f1⟩
      · have p1 : (k : Int) < g 74 b := by clear m4 m5 hT2 m1 m0 m2 m3 m6 m7 z2 z3; omega
        obtain ⟨⟨q, q1, q2⟩, qt, q3, q4⟩ := hj k p1
        have n2 : nw (g (64 + b) k) = g (64 + b) k := by clear m4 m5 hT2 m1 m0 m2 m3 m6 m7 z2 z3; exact nw_id (by omega) (by omega)
        have h157 : g1 157 (10 * b + k) = g (64 + b) k := by rw [f1 157 _ rfl, q4]
        have h156 : g1 156 (10 * b + k) = q := by rw [f1 156 _ rfl, q3, q1]
        simp only [if_neg last]
        rw [nw_0, if_pos rfl, if_pos (z2 p1), z3, h157]
        simp only [n2]
        by_cases d4 : T < g (64 + b) k
        · have d4' : ¬ g (64 + b) k ≤ T := by clear m4 m5 hT2 m1 m0 m2 m3 m6 m7 z2 z3 n2; omega
          obtain ⟨g2, r2, f2⟩ := M_led1 (b := b) (a := p) (c := q) (t := T) (g := g1) (L.1.fr f1 rfl) (by unfold JFlag; rw [f1 117 47 rfl]; exact hf) hb10 hp q2 (by rw [f1 127 b rfl, e4]; exact hr) (Or.inr hT1)
          have lt2 := ldM_tm (g := g) (a := p) (c := q) (ta := g 51 b) (t := T) L.1 hp q2 hr (Or.inr hT1)
          rw [ldM_fr f1 rfl, f1 127 b rfl, e4] at r2
          have h157' : g2 157 (10 * b + k) = g (64 + b) k := by rw [f2 157 _ rfl, h157]
          rw [q1, Int.toNat_natCast]
          simp only [if_pos d4, if_neg d4']
          rw [M_between_b, nw_0, if_pos rfl, if_pos (z2 p1), z3, h156, r2, sb]
          simp only [h157']
          generalize ldM g (g 51 b) p q T = M at lt2 ⊢
          have lt3 : M = -1 ∨ (0 ≤ M ∧ M ≤ 20159) := lt2
          have n3 : nw M = M := by clear m4 m5 hT2 m1 m0 m2 m3 m6 m7 z2 z3 n2 lt2 r2; exact nw_id (by omega) (by omega)
          simp only [n3, n2]
          refine ⟨g2, ?_, f1.tr f2⟩
          clear m4 m5 hT2 m1 m0 m2 m3 m6 m7 z2 z3 n2 n3 lt2 r2
          by_cases d5 : M = -1
          · simp only [if_pos d5, sb]
            simp [d5]
          · by_cases d6 : g (64 + b) k < M
            · simp only [if_neg d5, if_pos d6, sb]
              simp [d5]
              omega
            · simp only [if_neg d5, if_neg d6, sb]
              simp [d5]
              omega
        · have d4' : g (64 + b) k ≤ T := by clear m4 m5 hT2 m1 m0 m2 m3 m6 m7 z2 z3 n2; omega
          simp only [if_neg d4, if_pos d4']
          exact ⟨g1, by simp, f1⟩
theorem X_can_s {b p : Nat} {a c : Int} (hp : p ≤ 15) (ha : 0 ≤ a ∧ a ≤ 20159) (hc : 0 ≤ c ∧ c ≤ 20159) : ∀ (n k : Nat) (g : AG), JL g → (b : Int) < g 6 7 → ((k + n : Nat) : Int) = g 74 b + 1 → ∃ g', Boats_canHaveBeen_b b p a c ((k : Int) - 1) g = some (if chF g b p a c n k = true then 1 else 0, g') ∧ FR WV g g' := by
  intro n
  induction n with
  | zero =>
    intro k g L hb h
    obtain ⟨hb10, _, _, _, _, ⟨n, e5, e6⟩, _, _⟩ := L.row hb
    refine ⟨g, ?_, Fr.rf⟩
    rw [Boats_canHaveBeen_b]
    simp (disch := omega) only [nw_id, ix_id, sb, if_true, if_false, if_pos, if_neg, true_and, and_true, false_and, and_false, and_self, Int.toNat_natCast]
    rfl
  | succ n ih =>
    intro k g L hb h
    obtain ⟨hb10, _, _, _, _, ⟨n', e5, e6⟩, _, _⟩ := L.row hb
    obtain ⟨g1, e1, f1⟩ := X_between_s (k := k) L hb hp ha hc (by omega)
    obtain ⟨g2, e2, f2⟩ := ih (k + 1) g1 (L.fr f1 rfl rfl rfl) (by rw [f1 6 7 rfl]; exact hb) (by rw [f1 74 b rfl]; omega)
    rw [chF_fr hb10 f1 rfl rfl, show ((k + 1 : Nat) : Int) - 1 = (k : Int) - 1 + 1 by omega] at e2
    rw [Boats_canHaveBeen_b]
    unfold chF
    cases hbt : btF g b p a c k with
    | true =>
      rw [hbt] at e1
      refine ⟨g1, ?_, f1⟩
      simp (disch := omega) only [nw_id, ix_id, sb, if_true, if_false, if_pos, if_neg, true_and, and_true, false_and, and_false, and_self, Int.toNat_natCast, e1]
    | false =>
      rw [hbt] at e1
      refine ⟨g2, ?_, f1.tr f2⟩
      simp (disch := omega) only [nw_id, ix_id, sb, if_true, if_false, if_pos, if_neg, true_and, and_true, false_and, and_false, and_self, Int.toNat_natCast, e1, Bool.false_eq_true, e2]
theorem M_can_s {b p : Nat} {a c : Int} (hp : p ≤ 15) (ha : 0 ≤ a ∧ a ≤ 20159) (hc : 0 ≤ c ∧ c ≤ 20159) : ∀ (n k : Nat) (g : AG), JL g → JFlag g → (b : Int) < g 6 7 → ((k + n : Nat) : Int) = g 74 b + 1 → ∃ g', M_canHaveBeen_b b p a c ((k : Int) - 1) g = some (if chF g b p a c n k = true then 1 else 0, g') ∧ FR WM g g' := by
  intro n
  induction n with
  | zero =>
    intro k g L hf hb h
    obtain ⟨hb10, _, _, _, _, ⟨n, e5, e6⟩, e7, _⟩ := L.row hb
    refine ⟨g, ?_, Fr.rf⟩
    rw [M_canHaveBeen_b]
    simp (disch := omega) only [nw_id, ix_id, sb, if_true, if_false, if_pos, if_neg, true_and, and_true, false_and, and_false, and_self, Int.toNat_natCast]
    rfl
  | succ n ih =>
    intro k g L hf hb h
    obtain ⟨hb10, _, _, _, _, ⟨n', e5, e6⟩, e7, _⟩ := L.row hb
    obtain ⟨g1, e1, f1⟩ := M_between_s (k := k) L hf hb hp ha hc (by omega)
    obtain ⟨g2, e2, f2⟩ := ih (k + 1) g1 (L.fr f1 rfl rfl rfl) (by unfold JFlag; rw [f1 117 47 rfl]; exact hf) (by rw [f1 6 7 rfl]; exact hb) (by rw [f1 74 b rfl]; omega)
    rw [chF_fr hb10 f1 rfl rfl, show ((k + 1 : Nat) : Int) - 1 = (k : Int) - 1 + 1 by omega] at e2
    rw [M_canHaveBeen_b]
    unfold chF
    cases hbt : btF g b p a c k with
    | true =>
      rw [hbt] at e1
      refine ⟨g1, ?_, f1⟩
      simp (disch := omega) only [nw_id, ix_id, sb, if_true, if_false, if_pos, if_neg, true_and, and_true, false_and, and_false, and_self, Int.toNat_natCast, e1]
    | false =>
      rw [hbt] at e1
      refine ⟨g2, ?_, f1.tr f2⟩
      simp (disch := omega) only [nw_id, ix_id, sb, if_true, if_false, if_pos, if_neg, true_and, and_true, false_and, and_false, and_self, Int.toNat_natCast, e1, Bool.false_eq_true, e2]
