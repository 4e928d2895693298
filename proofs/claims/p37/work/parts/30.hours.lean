/-! plain programs: what is asked; the hours
-/
def fcDay (day water : Int) : Nat → Int := fun s => if s = 1 then day % 7 else if s = 2 then day / 7 else if s = 3 then water else 0
def fcHarm (day water be ag ta : Int) : Nat → Int := fun s => if s = 1 then day % 7 else if s = 2 then day / 7 else if s = 3 then water else if s = 4 then be else if s = 6 then ag else if s = 9 then ta else 0
def fcPrice (week be aw ag : Int) : Nat → Int := fun s => if s = 2 then week else if s = 4 then be else if s = 5 then aw else if s = 6 then ag else 0
def fcHold (week de sa ag : Int) : Nat → Int := fun s => if s = 2 then week else if s = 7 then de else if s = 8 then sa else if s = 6 then ag else 0
theorem M_forgets_b_s : ∀ (n k : Nat) (g : AG), n + k = 10 → M_forgets_b k g = some (0, fun a b => if a = 148 ∧ k ≤ b ∧ b < 10 then 0 else g a b) := by
  intro n
  induction n with
  | zero =>
    intro k g h
    rw [M_forgets_b]
    simp (disch := omega) only [nw_id, ix_id, sb, if_true, if_false, if_pos, if_neg, true_and, and_true, false_and, and_false, and_self]
  | succ n ih =>
    intro k g h
    rw [M_forgets_b]
    simp (disch := omega) only [nw_id, ix_id, sb, if_true, if_false, if_pos, if_neg, true_and, and_true, false_and, and_false, and_self, Int.toNat_natCast]
    have e := ih (k + 1) (up g 148 k 0) (by omega)
    rw [show ((k + 1 : Nat) : Int) = (k : Int) + 1 from rfl] at e
    rw [e]
    congr 2
    funext a b
    simp only [up_at]
    ((repeat' split) <;> first | rfl | omega)
theorem M_forgets_s (g : AG) : M_forgets g = some (0, fun a b => if a = 148 ∧ b < 10 then 0 else g a b) := by
  unfold M_forgets
  have e := M_forgets_b_s 10 0 g (by omega)
  rw [show ((0 : Nat) : Int) = (0 : Int) from rfl] at e
  rw [e]
  congr 2
  funext a b
  simp
theorem ix_lits : ix 0 = 0 ∧ ix 1 = 1 ∧ ix 2 = 2 ∧ ix 3 = 3 ∧ ix 4 = 4 ∧ ix 5 = 5 ∧ ix 6 = 6 ∧ ix 7 = 7 ∧ ix 8 = 8 ∧ ix 9 = 9 := by
  refine ⟨?_, ?_, ?_, ?_, ?_, ?_, ?_, ?_, ?_, ?_⟩ <;> (rw [ix_id (by decide) (by decide)]; rfl)
theorem M_locksLine_s {g : AG} {day : Int} (J : JRule g) (h0 : 0 ≤ day) (h1 : day < 14) : ∃ g', M_locksLine day g = some (srvG g (fcDay day (g 117 10)) 0 (g 2 3).toNat 0, g') ∧ FR [(147, 0), (148, 0)] g g' := by
  unfold M_locksLine
  rw [M_forgets_s]
  obtain ⟨i0, i1, i2, i3, _⟩ := ix_lits
  rw [i1, i2, i3]
  simp (disch := omega) only [nw_id, ix_id, sb, if_true, if_false, if_pos, if_neg, true_and, and_true, false_and, and_false, and_self, tmE, tdE, up_at, Nat.reduceEqDiff]
  have f : FR [(147, 0), (148, 0)] g (up (up (up (fun a b => if a = 148 ∧ b < 10 then 0 else g a b) 148 1 (day % 7)) 148 2 (day / 7)) 148 3 (g 117 10)) := by
    intro a b hab
    have n1 : a ≠ 148 := fun e => by subst e; revert hab; simp [inR, inP]
    simp only [up_at, n1, false_and, if_false]
  obtain ⟨g', e1, e2⟩ := M_serves_s (sort := 0) (by omega) (fc := fcDay day (g 117 10)) (J.cg (f.cg rfl)) (by
    intro k hk
    unfold fcDay
    simp only [up_at, true_and]
    ((repeat' split) <;> first | rfl | omega))
  refine ⟨g', ?_, f.tr (e2.mo rfl)⟩
  rw [e1]
  rfl
/-- the hours of the locks on a day, the water told -/
def hrA (g : AG) (w : Int) (d : Nat) : Int := if srvG g (fcDay d w) 0 (g 2 3).toNat 0 = -1 then 0 else g 129 (srvG g (fcDay d w) 0 (g 2 3).toNat 0).toNat
def hrB (g : AG) (w : Int) (d : Nat) : Int := if srvG g (fcDay d w) 0 (g 2 3).toNat 0 = -1 then 24 else g 130 (srvG g (fcDay d w) 0 (g 2 3).toNat 0).toNat
def RWat : Reg := [(1, 6), (117, 11)]
def JWat (g : AG) : Prop := g 117 10 = g 1 5 ∧ 0 ≤ g 1 5 ∧ g 1 5 ≤ 999
theorem JWat.cg {g g' : AG} (h : ∀ k i, inR RWat k i = true → g' k i = g k i) (q : JWat g) : JWat g' := by
  have q1 : JWat (rs (inR RWat) g) := q
  rw [← rs_eq h] at q1
  exact q1
def RHour : Reg := [(44, 0), (45, 0), (117, 11), (2, 4), (128, 0), (129, 0), (130, 0), (132, 0), (133, 0), (134, 0)]
def JHour (g : AG) : Prop := ∀ d : Nat, d < 14 → g 44 d = hrA g (g 117 10) d ∧ g 45 d = hrB g (g 117 10) d
theorem JHour.cg {g g' : AG} (h : ∀ k i, inR RHour k i = true → g' k i = g k i) (q : JHour g) : JHour g' := by
  have q1 : JHour (rs (inR RHour) g) := q
  rw [← rs_eq h] at q1
  exact q1
theorem hr_rng {g : AG} (J : JRule g) (w : Int) (d : Nat) : (0 ≤ hrA g w d ∧ hrA g w d ≤ 24) ∧ (0 ≤ hrB g w d ∧ hrB g w d ≤ 24) := by
  obtain ⟨⟨j1, j2, j3⟩, jr, jl, jh, jv, jc, jo, jt⟩ := J
  have h := srvF_rng (kd := g 128) (md := g 132) (en := g 133) (cd := g 134) (fc := fcDay d w) (sort := 0) (g 2 3).toNat 0
  unfold hrA hrB srvG
  generalize srvF (g 128) (g 132) (g 133) (g 134) (fcDay (↑d) w) 0 (g 2 3).toNat 0 = l at h ⊢
  by_cases e : l = -1
  · simp only [if_pos e]; omega
  · simp only [if_neg e]
    have h2 : 0 ≤ l ∧ l < g 2 3 ∧ g 128 l.toNat = 0 := by
      rcases h with h | ⟨a, b, c⟩
      · exact absurd h e
      · exact ⟨by omega, by omega, c⟩
    have := jh l.toNat (by omega) h2.2.2
    omega
theorem Rules_askDay_s {day w : Int} {g : AG} (h0 : 0 ≤ day) (h1 : day < 14) : ∃ g', Rules_askDay day w g = some (0, g') ∧ FR [(27, 0)] g g' ∧ (∀ s : Nat, 1 ≤ s → s < 10 → g' 27 (s - 1) = fcDay day w s) := by
  unfold Rules_askDay
  obtain ⟨i0, i1, i2, i3, _⟩ := ix_lits
  rw [i0, i1, i2]
  simp (disch := omega) only [nw_id, ix_id, sb, if_true, if_false, if_pos, if_neg, true_and, and_true, false_and, and_false, and_self, tmE, tdE]
  refine ⟨_, rfl, Fr.up (Fr.up (Fr.up (Fr.fill Fr.rf (fun _ => rfl)) rfl) rfl) rfl, ?_⟩
  intro s hs hs2
  unfold fcDay
  simp only [up_at, fill_at, true_and]
  ((repeat' split) <;> first | rfl | omega)
theorem learn_s {kd fr md en cd hA hB : Nat → Int} {w : Int} : ∀ (n k : Nat) (g : AG), n + k = 14 → g 1 5 = w → XRel g kd fr md en cd → (∀ l : Nat, (l : Int) < g 2 3 → kd l = 0 → hA l = g 23 l ∧ hB l = g 24 l) →
    ∃ g', Voyage_learnHours_b k g = some (0, g') ∧ FR [(27, 0), (28, 0), (44, 0), (45, 0)] g g' ∧ (∀ d : Nat, d < k → g' 44 d = g 44 d ∧ g' 45 d = g 45 d) ∧ (∀ d : Nat, k ≤ d → d < 14 → (g' 44 d = if srvF kd md en cd (fcDay d w) 0 (g 2 3).toNat 0 = -1 then 0 else hA (srvF kd md en cd (fcDay d w) 0 (g 2 3).toNat 0).toNat) ∧ (g' 45 d = if srvF kd md en cd (fcDay d w) 0 (g 2 3).toNat 0 = -1 then 24 else hB (srvF kd md en cd (fcDay d w) 0 (g 2 3).toNat 0).toNat)) := by
  intro n
  induction n with
  | zero =>
    intro k g h hw J hh
    rw [Voyage_learnHours_b]
    simp (disch := omega) only [nw_id, ix_id, sb, if_true, if_false, if_pos, if_neg, true_and, and_true, false_and, and_false, and_self]
    exact ⟨g, rfl, Fr.rf, fun d _ => ⟨rfl, rfl⟩, fun d h1 h2 => by omega⟩
  | succ n ih =>
    intro k g h hw J hh
    rw [Voyage_learnHours_b]
    obtain ⟨g1, e1, f1, a1⟩ := Rules_askDay_s (day := (k : Int)) (w := w) (g := g) (by omega) (by omega)
    obtain ⟨g2, e2, f2⟩ := X_serving_s (sort := 0) (x := 100) (by omega) (by omega) (J.fr f1 rfl) a1
    rw [f1 2 3 rfl] at e2
    rw [hw, e1]
    simp (disch := omega) only [nw_id, ix_id, sb, if_true, if_false, if_pos, if_neg, true_and, and_true, false_and, and_false, and_self, e2, Int.toNat_natCast]
    have hr := srvF_rng (kd := kd) (md := md) (en := en) (cd := cd) (fc := fcDay k w) (sort := 0) (g 2 3).toNat 0
    have J0 := J.1
    have fs : FR [(27, 0), (28, 0), (44, 0), (45, 0)] g g2 := (f1.mo rfl).tr (f2.mo rfl)
    have hd : ∀ (v : Int), srvF kd md en cd (fcDay k w) 0 (g 2 3).toNat 0 = v → ∃ gl, ((if nw v = -1 then some (0, g2) else if 0 ≤ nw v ∧ nw v < 16 then some (g2 23 (ix v), g2) else none) = some ((if v = -1 then 0 else hA v.toNat), g2)) ∧ (∀ g9 : AG, g9 24 = g2 24 → (if nw v = -1 then some (24, g9) else if 0 ≤ nw v ∧ nw v < 16 then some (g9 24 (ix v), g9) else none) = some ((if v = -1 then 24 else hB v.toNat), g9)) ∧ gl = v := by
      intro v hv
      rw [hv] at hr
      refine ⟨v, ?_, ?_, rfl⟩
      · rcases hr with hr | ⟨r1, r2, r3⟩
        · subst hr
          rw [nw_m1]; rfl
        · have q := hh v.toNat (by omega) r3
          have q2 : g2 23 = g 23 := fs.cell (fun _ => rfl)
          simp (disch := omega) only [nw_id, ix_id, sb, if_true, if_false, if_pos, if_neg, true_and, and_true, false_and, and_false, and_self, q2]
          rw [q.1]
      · intro g9 h9
        rcases hr with hr | ⟨r1, r2, r3⟩
        · subst hr
          rw [nw_m1]; rfl
        · have q := hh v.toNat (by omega) r3
          have q2 : g2 24 = g 24 := fs.cell (fun _ => rfl)
          simp (disch := omega) only [nw_id, ix_id, sb, if_true, if_false, if_pos, if_neg, true_and, and_true, false_and, and_false, and_self, h9, q2]
          rw [q.2]
    obtain ⟨_, d1, d2, _⟩ := hd _ rfl
    rw [d1, sb]
    dsimp only
    rw [d2 _ (funext fun i => by simp [up_at]), sb]
    dsimp only
    obtain ⟨g', e3, f3, p3, q3⟩ := ih (k + 1) (up (up g2 44 k (if srvF kd md en cd (fcDay k w) 0 (g 2 3).toNat 0 = -1 then 0 else hA (srvF kd md en cd (fcDay k w) 0 (g 2 3).toNat 0).toNat)) 45 k (if srvF kd md en cd (fcDay k w) 0 (g 2 3).toNat 0 = -1 then 24 else hB (srvF kd md en cd (fcDay k w) 0 (g 2 3).toNat 0).toNat)) (by omega) (by simp [up_at]; rw [fs 1 5 rfl, hw]) ((J.fr fs rfl).fr (W := [(44, 0), (45, 0)]) (Fr.up (Fr.up Fr.rf rfl) rfl) rfl) (by
      intro l hl hk
      simp only [up_at, Nat.reduceEqDiff, false_and, if_false] at hl ⊢
      rw [fs 2 3 rfl] at hl
      rw [fs 23 l rfl, fs 24 l rfl]
      exact hh l hl hk)
    rw [show ((k + 1 : Nat) : Int) = (k : Int) + 1 from rfl] at e3
    refine ⟨g', e3, fs.tr ((Fr.up (Fr.up Fr.rf rfl) rfl).tr f3), ?_, ?_⟩
    · intro d hd
      have p := p3 d (by omega)
      have fs2 : FR [(27, 0), (28, 0)] g g2 := (f1.mo rfl).tr (f2.mo rfl)
      rw [p.1, p.2]
      simp only [up_at, Nat.reduceEqDiff, false_and, true_and, if_false]
      rw [if_neg (by omega), if_neg (by omega), fs2 44 d rfl, fs2 45 d rfl]
      exact ⟨rfl, rfl⟩
    · intro d hd1 hd2
      by_cases e : d = k
      · subst e
        have p := p3 d (by omega)
        rw [p.1, p.2]
        simp only [up_at, Nat.reduceEqDiff, false_and, true_and, if_false, if_true]
      · have q := q3 d (by omega) hd2
        simp only [up_at, Nat.reduceEqDiff, false_and, if_false] at q
        rw [fs 2 3 rfl] at q
        exact q
