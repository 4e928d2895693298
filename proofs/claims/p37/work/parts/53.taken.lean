/-! plain programs: calls taken by two vans -/
abbrev TS : Type := Nat × Nat × Int × Int × Int × Int × Int
def arF (rd mi : Nat → Int) (pt : Nat → Nat) (s : TS) (v i : Nat) : Int := max (mi i) (if v = 0 then s.2.2.1 else s.2.2.2.1) + dvF rd (if v = 0 then s.1 else s.2.1) (pt i)
def vnF (rd mi : Nat → Int) (pt : Nat → Nat) (s : TS) (i : Nat) : Nat := if arF rd mi pt s 1 i < arF rd mi pt s 0 i then 1 else 0
def tsF (rd mi wk : Nat → Int) (pt : Nat → Nat) (s : TS) (i : Nat) : TS :=
  let v := vnF rd mi pt s i
  let t := arF rd mi pt s v i
  (if v = 0 then pt i else s.1, if v = 0 then s.2.1 else pt i, if v = 0 then t + wk i else s.2.2.1, if v = 0 then s.2.2.2.1 else t + wk i, s.2.2.2.2.1 + (t - mi i), max s.2.2.2.2.2.1 (t - mi i), max s.2.2.2.2.2.2 (t + wk i))
def CaOk (rd mi wk : Nat → Int) (pt : Nat → Nat) (N : Nat) : Prop := (∀ i, i < 15 → 1 ≤ rd i ∧ rd i ≤ 99) ∧ N ≤ 12 ∧ ∀ i, i < N → (0 ≤ mi i ∧ mi i ≤ 9999) ∧ (1 ≤ wk i ∧ wk i ≤ 300) ∧ pt i ≤ 15
def TsOk (s : TS) (i : Nat) : Prop := s.1 ≤ 15 ∧ s.2.1 ≤ 15 ∧ (0 ≤ s.2.2.1 ∧ s.2.2.1 ≤ 10000 + 1785 * i) ∧ (0 ≤ s.2.2.2.1 ∧ s.2.2.2.1 ≤ 10000 + 1785 * i) ∧ (0 ≤ s.2.2.2.2.1 ∧ s.2.2.2.2.1 ≤ 40000 * i) ∧ (0 ≤ s.2.2.2.2.2.1 ∧ s.2.2.2.2.2.1 ≤ 40000) ∧ (0 ≤ s.2.2.2.2.2.2 ∧ s.2.2.2.2.2.2 ≤ 40000)
theorem ar_rng {rd mi wk : Nat → Int} {pt : Nat → Nat} {N : Nat} (C : CaOk rd mi wk pt N) {s : TS} {i v : Nat} (hi : i < N) (h : TsOk s i) : mi i ≤ arF rd mi pt s v i ∧ 0 ≤ arF rd mi pt s v i ∧ arF rd mi pt s v i ≤ 11485 + 1785 * i := by
  obtain ⟨h1, h2, h3, h4, _⟩ := h
  have c := C.2.2 i hi
  unfold arF
  by_cases z : v = 0
  · rw [if_pos z, if_pos z]
    have d := dv_rng C.1 h1 c.2.2
    omega
  · rw [if_neg z, if_neg z]
    have d := dv_rng C.1 h2 c.2.2
    omega
theorem ts_ok {rd mi wk : Nat → Int} {pt : Nat → Nat} {N : Nat} (C : CaOk rd mi wk pt N) {s : TS} {i : Nat} (hi : i < N) (h : TsOk s i) : TsOk (tsF rd mi wk pt s i) (i + 1) := by
  have a := ar_rng C (v := vnF rd mi pt s i) hi h
  have c := C.2.2 i hi
  have hN := C.2.1
  obtain ⟨h1, h2, h3, h4, h5, h6, h7⟩ := h
  unfold tsF TsOk
  dsimp only
  generalize arF rd mi pt s (vnF rd mi pt s i) i = t at a ⊢
  generalize vnF rd mi pt s i = v
  by_cases z : v = 0
  · simp only [if_pos z]
    refine ⟨by omega, by omega, ⟨by omega, by omega⟩, ⟨by omega, by omega⟩, ⟨by omega, by omega⟩, ⟨by omega, by omega⟩, ⟨by omega, by omega⟩⟩
  · simp only [if_neg z]
    refine ⟨by omega, by omega, ⟨by omega, by omega⟩, ⟨by omega, by omega⟩, ⟨by omega, by omega⟩, ⟨by omega, by omega⟩, ⟨by omega, by omega⟩⟩
def XT (g : AG) (rd mi wk : Nat → Int) (pt : Nat → Nat) (N : Nat) : Prop := (∀ i : Nat, i ≤ 15 → g 108 i = sm rd i) ∧ g 11 5 = N ∧ ∀ i, i < N → g 109 i = mi i ∧ g 110 i = pt i ∧ g 111 i = wk i
def XS (g : AG) (s : TS) : Prop := g 113 0 = s.1 ∧ g 113 1 = s.2.1 ∧ g 114 0 = s.2.2.1 ∧ g 114 1 = s.2.2.2.1 ∧ g 11 12 = s.2.2.2.2.1 ∧ g 11 13 = s.2.2.2.2.2.1 ∧ g 11 14 = s.2.2.2.2.2.2
theorem X_comesAt_s {g : AG} {rd mi wk : Nat → Int} {pt : Nat → Nat} {N : Nat} (C : CaOk rd mi wk pt N) (X : XT g rd mi wk pt N) {s : TS} (S : XS g s) {i v : Nat} (hi : i < N) (hv : v < 2) (h : TsOk s i) : Vans_comesAt v i g = some (arF rd mi pt s v i) := by
  obtain ⟨x1, x2, x3⟩ := X
  obtain ⟨y1, y2, y3⟩ := x3 i hi
  have c := C.2.2 i hi
  have hN := C.2.1
  obtain ⟨h1, h2, h3, h4, _⟩ := h
  obtain ⟨s1, s2, s3, s4, _⟩ := S
  have c1 : 0 ≤ nw (i : Int) ∧ nw (i : Int) < 12 := by rw [nw_id (by omega) (by omega)]; omega
  have c2 : 0 ≤ nw (v : Int) ∧ nw (v : Int) < 2 := by clear c1; rw [nw_id (by omega) (by omega)]; omega
  have c3 : ix (i : Int) = i := by clear c1 c2; rw [ix_id (by omega) (by omega), Int.toNat_natCast]
  have c4 : ix (v : Int) = v := by clear c1 c2 c3; rw [ix_id (by omega) (by omega), Int.toNat_natCast]
  unfold Vans_comesAt arF
  rw [if_pos c1, if_pos c2, c3, c4, y1, y2]
  clear c1 c2 c3 c4
  have hvv : v = 0 ∨ v = 1 := by omega
  rcases hvv with e | e
  · subst e
    rw [s1, s3, minutes_s h1 c.2.2 C.1 x1, sb, mxI_s (by omega) (by omega) (by omega) (by omega)]
    rfl
  · subst e
    rw [s2, s4, minutes_s h2 c.2.2 C.1 x1, sb, mxI_s (by omega) (by omega) (by omega) (by omega)]
    rfl
theorem X_take_s {rd mi wk : Nat → Int} {pt : Nat → Nat} {N : Nat} (C : CaOk rd mi wk pt N) {st : Nat → TS} (hst : ∀ i, i < N → st (i + 1) = tsF rd mi wk pt (st i) i) : ∀ (n k : Nat) (g : AG), k + n = N → XT g rd mi wk pt N → XS g (st k) → TsOk (st k) k → ∃ g', Vans_takeCalls_b k g = some (0, g') ∧ FR [(11, 13), (11, 14), (11, 15), (112, 0), (113, 0), (114, 0)] g g' ∧ XS g' (st N) ∧ (∀ i, i < k → g' 112 i = g 112 i) ∧ (∀ i, k ≤ i → i < N → g' 112 i = (vnF rd mi pt (st i) i : Nat)) := by
  intro n
  induction n with
  | zero =>
    intro k g h X S T
    have hN := C.2.1
    refine ⟨g, ?_, Fr.rf, by rw [show N = k by omega]; exact S, fun i _ => rfl, fun i h1 h2 => by omega⟩
    rw [Vans_takeCalls_b, if_pos (by rw [X.2.1, nw_id (by omega) (by omega), nw_id (by omega) (by omega)]; omega)]
  | succ n ih =>
    intro k g h X S T
    have hN := C.2.1
    have hk : k < N := by omega
    have a1 := X_comesAt_s C X S hk (v := 1) (by omega) T
    have a0 := X_comesAt_s C X S hk (v := 0) (by omega) T
    have r1 := ar_rng C (v := 1) hk T
    have r0 := ar_rng C (v := 0) hk T
    have T2 := ts_ok C hk T
    rw [← hst k hk] at T2
    have hs := hst k hk
    obtain ⟨x1, x2, x3⟩ := X
    obtain ⟨y1, y2, y3⟩ := x3 k hk
    have ck := C.2.2 k hk
    have S0 := S
    obtain ⟨s1, s2, s3, s4, s5, s6, s7⟩ := S
    obtain ⟨t1, t2, t3, t4, t5, t6, t7⟩ := T
    have c0 : ¬ nw (g 11 5) ≤ nw (k : Int) := by rw [x2, nw_id (by omega) (by omega), nw_id (by omega) (by omega)]; omega
    have c1 : 0 ≤ nw (k : Int) ∧ nw (k : Int) < 12 := by clear c0; rw [nw_id (by omega) (by omega)]; omega
    have c3 : ix (k : Int) = k := by clear c0 c1; rw [ix_id (by omega) (by omega), Int.toNat_natCast]
    have n1 : nw (arF rd mi pt (st k) 1 k) = arF rd mi pt (st k) 1 k := by clear c0 c1 c3; exact nw_id (by omega) (by omega)
    have n0 : nw (arF rd mi pt (st k) 0 k) = arF rd mi pt (st k) 0 k := by clear c0 c1 c3 n1; exact nw_id (by omega) (by omega)
    have vE : (if nw (arF rd mi pt (st k) 0 k) ≤ nw (arF rd mi pt (st k) 1 k) then (0 : Int) else 1) = ((vnF rd mi pt (st k) k : Nat) : Int) := by
      rw [n1, n0]
      clear c0 c1 c3 n1 n0
      unfold vnF
      split <;> split <;> omega
    have v2 : vnF rd mi pt (st k) k < 2 := by unfold vnF; split <;> omega
    have av := X_comesAt_s C ⟨x1, x2, x3⟩ S0 hk v2 ⟨t1, t2, t3, t4, t5, t6, t7⟩
    have rv := ar_rng C (v := vnF rd mi pt (st k) k) hk ⟨t1, t2, t3, t4, t5, t6, t7⟩
    have d1 : 0 ≤ nw ((vnF rd mi pt (st k) k : Nat) : Int) ∧ nw ((vnF rd mi pt (st k) k : Nat) : Int) < 2 := by clear c0 c1 c3 n1 n0 vE; rw [nw_id (by omega) (by omega)]; omega
    have d2 : ix ((vnF rd mi pt (st k) k : Nat) : Int) = vnF rd mi pt (st k) k := by clear c0 c1 c3 n1 n0 vE d1; rw [ix_id (by omega) (by omega), Int.toNat_natCast]
    have aX1 : Vans_comesAt 1 k g = some (arF rd mi pt (st k) 1 k) := a1
    have aX0 : Vans_comesAt 0 k g = some (arF rd mi pt (st k) 0 k) := a0
    -- the next state
    obtain ⟨gn, hgn⟩ : ∃ gn : AG, gn = up (up (up (up (up (up g 112 k (vnF rd mi pt (st k) k : Nat)) 113 (vnF rd mi pt (st k) k) (pt k)) 114 (vnF rd mi pt (st k) k) (arF rd mi pt (st k) (vnF rd mi pt (st k) k) k + wk k)) 11 12 ((st k).2.2.2.2.1 + (arF rd mi pt (st k) (vnF rd mi pt (st k) k) k - mi k))) 11 13 (max (st k).2.2.2.2.2.1 (arF rd mi pt (st k) (vnF rd mi pt (st k) k) k - mi k))) 11 14 (max (st k).2.2.2.2.2.2 (arF rd mi pt (st k) (vnF rd mi pt (st k) k) k + wk k)) := ⟨_, rfl⟩
    have fn : FR [(11, 13), (11, 14), (11, 15), (112, 0), (113, 0), (114, 0)] g gn := by
      rw [hgn]
      refine Fr.up (Fr.up (Fr.up (Fr.up (Fr.up (Fr.up Fr.rf ?_) ?_) ?_) ?_) ?_) ?_ <;> rfl
    have Xn : XT gn rd mi wk pt N := ⟨fun i hi => by rw [fn 108 i rfl]; exact x1 i hi, by rw [fn 11 5 rfl]; exact x2, fun i hi => by rw [fn 109 i rfl, fn 110 i rfl, fn 111 i rfl]; exact x3 i hi⟩
    have Sn : XS gn (st (k + 1)) := by
      rw [hs, hgn]
      clear vE av rv d1 d2 a1 a0 aX1 aX0 c0 c1 c3 n1 n0 ih T2 fn Xn hgn
      unfold tsF XS
      dsimp only
      have hvv : vnF rd mi pt (st k) k = 0 ∨ vnF rd mi pt (st k) k = 1 := by omega
      rcases hvv with e | e <;> rw [e] <;> simp [up_at, s1, s2, s3, s4]
    obtain ⟨g2, e2, f2, S2, p2, q2⟩ := ih (k + 1) gn (by clear c0 c1 c3 n1 n0 vE d1; omega) Xn Sn T2
    rw [show ((k + 1 : Nat) : Int) = (k : Int) + 1 from rfl] at e2
    refine ⟨g2, ?_, fn.tr f2, S2, ?_, ?_⟩
    · rw [← e2, Vans_takeCalls_b, if_neg c0, aX1, sb, aX0, sb, vE, sb, av, sb, if_pos c1, c3, sb, if_pos d1, d2]
      have m1 : ∀ (G : AG), G 11 13 = (st k).2.2.2.2.2.1 → mxI (G 11 13) (arF rd mi pt (st k) (vnF rd mi pt (st k) k) k - mi k) = max (st k).2.2.2.2.2.1 (arF rd mi pt (st k) (vnF rd mi pt (st k) k) k - mi k) := by
        intro G hG
        rw [hG]
        clear c0 c1 c3 n1 n0 vE d1 d2
        exact mxI_s (by omega) (by omega) (by omega) (by omega)
      have m2 : ∀ (G : AG) (y : Int), y = arF rd mi pt (st k) (vnF rd mi pt (st k) k) k + wk k → G 11 14 = (st k).2.2.2.2.2.2 → mxI (G 11 14) y = max (st k).2.2.2.2.2.2 (arF rd mi pt (st k) (vnF rd mi pt (st k) k) k + wk k) := by
        intro G y hy hG
        rw [hG, hy]
        clear c0 c1 c3 n1 n0 vE d1 d2
        exact mxI_s (by omega) (by omega) (by omega) (by omega)
      clear c0 c1 c3 n1 n0 vE d1 d2 av rv a1 a0 aX1 aX0 e2 ih
      rw [sb, sb, sb, sb, sb]
      rw [hgn]
      congr 1
      generalize arF rd mi pt (st k) (vnF rd mi pt (st k) k) k = t at m1 m2 ⊢
      generalize vnF rd mi pt (st k) k = v at *
      have z1 : (up g 112 k (v : Int)) 110 k = pt k := by rw [up_at, if_neg (by omega)]; exact y2
      have z2 : (up (up g 112 k (v : Int)) 113 v (pt k)) 111 k = wk k := by rw [up_at, if_neg (by omega), up_at, if_neg (by omega)]; exact y3
      rw [z1, z2]
      have z3 : (up (up (up g 112 k (v : Int)) 113 v (pt k)) 114 v (t + wk k)) 11 12 = (st k).2.2.2.2.1 := by rw [up_at, if_neg (by omega), up_at, if_neg (by omega), up_at, if_neg (by omega)]; exact s5
      have z4 : (up (up (up g 112 k (v : Int)) 113 v (pt k)) 114 v (t + wk k)) 109 k = mi k := by rw [up_at, if_neg (by omega), up_at, if_neg (by omega), up_at, if_neg (by omega)]; exact y1
      rw [z3, z4]
      have z5 : (up (up (up (up g 112 k (v : Int)) 113 v (pt k)) 114 v (t + wk k)) 11 12 ((st k).2.2.2.2.1 + (t - mi k))) 109 k = mi k := by rw [up_at, if_neg (by omega)]; exact z4
      rw [z5, m1 _ (by rw [up_at, if_neg (by omega), up_at, if_neg (by omega), up_at, if_neg (by omega), up_at, if_neg (by omega)]; exact s6)]
      rw [m2 _ _ (by rw [up_at, if_neg (by omega), up_at, if_neg (by omega), up_at, if_pos ⟨rfl, rfl⟩]) (by rw [up_at, if_neg (by omega), up_at, if_neg (by omega), up_at, if_neg (by omega), up_at, if_neg (by omega), up_at, if_neg (by omega)]; exact s7)]
    · intro i hi
      rw [p2 i (by clear c0 c1 c3 n1 n0 vE d1; omega), hgn]
      clear c0 c1 c3 n1 n0 vE d1 d2
      simp only [up_at, Nat.reduceEqDiff, false_and, if_false, true_and]
      rw [if_neg (by omega)]
    · intro i h1 h2
      by_cases e : i = k
      · subst e
        rw [p2 i (by clear c0 c1 c3 n1 n0 vE d1; omega), hgn]
        simp only [up_at, Nat.reduceEqDiff, false_and, if_false, and_self, if_true]
      · exact q2 i (by clear c0 c1 c3 n1 n0 vE d1; omega) h2
