/-! plain programs: the class goes along the canal -/
abbrev WXp : Reg := [(47, 0)]
def tuX (g : AG) (i : Nat) : Bool := tb (g 2 10) i || tb (g 2 10) (15 + i)
/-- what the walk of the class rests on -/
def XI (g : AG) (ok : TOK) (tu : Nat → Bool) (mi lk : Nat → Int) (la : Int) : Prop := (∀ (i : Nat) (kind : Int), i < 15 → 0 ≤ kind → kind ≤ 3 → XDay g i kind (ok i kind)) ∧ (∀ i : Nat, i < 15 → tuX g i = tu i) ∧ (∀ i : Nat, i < 15 → g 13 i = mi i ∧ g 14 i = lk i ∧ (0 ≤ mi i ∧ mi i ≤ 9) ∧ (0 ≤ lk i ∧ lk i ≤ 9)) ∧ g 5 6 = la ∧ (0 ≤ la ∧ la ≤ 1000)
theorem XI.fr {W : Reg} {g g' : AG} {ok : TOK} {tu : Nat → Bool} {mi lk : Nat → Int} {la : Int} (h : XI g ok tu mi lk la) (f : FR W g g') (d : djR [(1, 0), (2, 11), (5, 7), (5, 8), (13, 0), (14, 0), (16, 0), (25, 0), (26, 0), (44, 0), (45, 0)] W = true) : XI g' ok tu mi lk la := by
  obtain ⟨h1, h2, h3, h4, h5⟩ := h
  have c := f.cg d
  have c0 : g' 2 10 = g 2 10 := c 2 10 rfl
  have c1 : g' 5 6 = g 5 6 := c 5 6 rfl
  have c2 : g' 5 7 = g 5 7 := c 5 7 rfl
  have c3 : g' 13 = g 13 := funext fun i => c 13 i rfl
  have c4 : g' 14 = g 14 := funext fun i => c 14 i rfl
  have c5 : g' 16 = g 16 := funext fun i => c 16 i rfl
  have c6 : g' 25 = g 25 := funext fun i => c 25 i rfl
  have c7 : g' 26 = g 26 := funext fun i => c 26 i rfl
  have c8 : g' 44 = g 44 := funext fun i => c 44 i rfl
  have c9 : g' 45 = g 45 := funext fun i => c 45 i rfl
  refine ⟨fun i kind hi k0 k1 => ?_, fun i hi => ?_, fun i hi => ?_, by rw [c1]; exact h4, h5⟩
  · have q := h1 i kind hi k0 k1
    unfold XDay Voyage_firstHour Voyage_hourBehind Voyage_isStopped at q ⊢
    rw [c2, c5, c6, c7, c8, c9]
    exact q
  · have q := h2 i hi
    unfold tuX at q ⊢
    rw [c0]; exact q
  · rw [c3, c4]; exact h3 i hi
/-- how often a day stands in a list -/
def ctF (d : Int) : List Int → Int
  | [] => 0
  | e :: ds => (if e = d then 1 else 0) + ctF d ds
def CtR (g g' : AG) (ds ds' : List Int) : Prop := ∀ d : Nat, d < 14 → g' 47 d + ctF d ds = g 47 d + ctF d ds'
theorem CtR.rf {g : AG} {ds : List Int} : CtR g g ds ds := fun _ _ => rfl
theorem CtR.tr {g g1 g2 : AG} {d1 d2 d3 : List Int} (h1 : CtR g g1 d1 d2) (h2 : CtR g1 g2 d2 d3) : CtR g g2 d1 d3 := fun d hd => by have := h1 d hd; have := h2 d hd; omega
section LEDX
variable {ok : TOK} {tu : Nat → Bool} {mi lk : Nat → Int} {la : Int}
theorem hasT {g : AG} {k : Nat} (hk : k < 32) : (nw (Rules_hasTunnel_2 k g) = 0) = (tb (g 2 10) k = false) := by
  unfold Rules_hasTunnel_2
  rw [bit_q _ k hk]
  cases tb (g 2 10) k with
  | true => simp [nw_1]
  | false => simp [nw_0]
theorem isT {g : AG} {i : Nat} (hi : i < 15) : (nw (Rules_isTunnel i g) = 0) = (tuX g i = false) := by
  unfold Rules_isTunnel tuX
  have a := hasT (g := g) (k := i) (by omega)
  have b := hasT (g := g) (k := 15 + i) (by omega)
  rw [show (15 : Int) + (i : Int) = ((15 + i : Nat) : Int) by omega]
  cases h1 : tb (g 2 10) i with
  | true =>
    rw [h1] at a
    rw [if_neg (by rw [a]; simp)]
    simp [nw_1]
  | false =>
    rw [h1] at a
    rw [if_pos (by rw [a])]
    cases h2 : tb (g 2 10) (15 + i) with
    | true =>
      rw [h2] at b
      rw [if_neg (by rw [b]; simp)]
      simp [nw_1]
    | false =>
      rw [h2] at b
      rw [if_pos (by rw [b])]
      simp [nw_0]
theorem X_lk_s {i : Nat} (hi : i < 15) {x4 : Int} : ∀ (n k : Nat) (t : Int) (ds : List Int) (g : AG), XI g ok tu mi lk la → TmOk t → ((k + n : Nat) : Int) = lk i → ∃ g', Voyage_pass_b i x4 3 t k g = some ((lkF ok i la n (t, ds)).1, g') ∧ FR WXp g g' ∧ CtR g g' ds (lkF ok i la n (t, ds)).2 := by
  intro n
  induction n with
  | zero =>
    intro k t ds g X ht h
    obtain ⟨h1, h2, h3, h4, h5⟩ := X
    have r := h3 i hi
    refine ⟨g, ?_, Fr.rf, CtR.rf⟩
    rw [Voyage_pass_b]
    simp (disch := omega) only [nw_id, ix_id, sb, if_true, if_false, if_pos, if_neg, true_and, and_true, false_and, and_false, and_self, Int.toNat_natCast]
    rfl
  | succ n ih =>
    intro k t ds g X ht h
    have X0 := X
    obtain ⟨h1, h2, h3, h4, h5⟩ := X
    have r := h3 i hi
    have e1 := X_step_s (i := i) (kind := 1) (m := t) (lasts := la) (g := g) (ok := ok) (by decide) (by unfold TmOk at ht; omega) h5 (h1 i 1 hi (by decide) (by decide))
    have rg := stF_rng (ok := ok) (i := i) (sort := 1) (t := t) (lasts := la) (by unfold TmOk at ht; omega) h5.1
    have tm := stF_tm (ok := ok) (i := i) (sort := 1) ht h5.1
    unfold lkF
    dsimp only
    generalize stF ok i 1 t la = v at e1 rg tm ⊢
    rw [Voyage_pass_b]
    by_cases ev : v = -1
    · subst ev
      rw [if_neg (by simp)] at e1
      rw [if_pos rfl]
      obtain ⟨g2, e2, f2, q2⟩ := ih (k + 1) (-1) ds g X0 (Or.inl rfl) (by omega)
      rw [show ((k + 1 : Nat) : Int) = (k : Int) + 1 from rfl] at e2
      refine ⟨g2, ?_, f2, q2⟩
      clear rg tm
      simp (disch := omega) only [nw_id, ix_id, sb, if_true, if_false, if_pos, if_neg, true_and, and_true, false_and, and_false, and_self, Int.toNat_natCast, h4, e1]
      exact e2
    · rw [if_pos ⟨rfl, ev⟩] at e1
      rw [if_neg ev]
      have rg2 : 0 ≤ v ∧ v ≤ 20159 ∧ 0 ≤ v - la ∧ v - la < 20160 := by omega
      clear rg
      have f1 : FR WXp g (up g 47 ((v - la) / 1440).toNat (g 47 ((v - la) / 1440).toNat + 1)) := Fr.up Fr.rf rfl
      obtain ⟨g2, e2, f2, q2⟩ := ih (k + 1) v ((v - la) / 1440 :: ds) _ (X0.fr f1 rfl) tm (by omega)
      rw [show ((k + 1 : Nat) : Int) = (k : Int) + 1 from rfl] at e2
      refine ⟨g2, ?_, f1.tr f2, CtR.tr ?_ q2⟩
      · simp (disch := omega) only [nw_id, ix_id, sb, if_true, if_false, if_pos, if_neg, true_and, and_true, false_and, and_false, and_self, Int.toNat_natCast, h4, e1]
        exact e2
      · intro d hd
        simp only [up_at, ctF, true_and]
        by_cases q : d = ((v - la) / 1440).toNat
        · rw [if_pos q, if_pos (by omega), ← q]; omega
        · rw [if_neg q, if_neg (by omega)]; omega
theorem X_mi_s {i : Nat} (hi : i < 15) : ∀ (n k : Nat) (t : Int) (g : AG), XI g ok tu mi lk la → TmOk t → ((k + n : Nat) : Int) = mi i → Voyage_pass_b i (mi i) 1 t k g = Voyage_pass_b i (mi i) 3 (miF ok i n t) 0 g := by
  intro n
  induction n with
  | zero =>
    intro k t g X ht h
    obtain ⟨h1, h2, h3, h4, h5⟩ := X
    have r := h3 i hi
    rw [Voyage_pass_b]
    simp (disch := omega) only [nw_id, ix_id, sb, if_true, if_false, if_pos, if_neg, true_and, and_true, false_and, and_false, and_self]
    rw [Voyage_pass_b, if_neg (by decide), if_pos rfl]
    rfl
  | succ n ih =>
    intro k t g X ht h
    have X0 := X
    obtain ⟨h1, h2, h3, h4, h5⟩ := X
    have r := h3 i hi
    have e1 := X_step_s (i := i) (kind := 0) (m := t) (lasts := 20) (g := g) (ok := ok) (by decide) (by unfold TmOk at ht; omega) (by decide) (h1 i 0 hi (by decide) (by decide))
    rw [if_neg (by simp)] at e1
    have e2 := ih (k + 1) (stF ok i 0 t 20) g X0 (stF_tm ht (by decide)) (by omega)
    rw [show ((k + 1 : Nat) : Int) = (k : Int) + 1 from rfl] at e2
    rw [Voyage_pass_b]
    simp (disch := omega) only [nw_id, ix_id, sb, if_true, if_false, if_pos, if_neg, true_and, and_true, false_and, and_false, and_self, e1]
    exact e2
theorem X_pass_s {i : Nat} (hi : i < 15) {u t : Int} (hu : u = 0 ∨ u = 1) (ds : List Int) {g : AG} (X : XI g ok tu mi lk la) (ht : TmOk t) : ∃ g', Voyage_pass i u t g = some ((thF ok tu mi lk la i (decide (u = 1)) (t, ds)).1, g') ∧ FR WXp g g' ∧ CtR g g' ds (thF ok tu mi lk la i (decide (u = 1)) (t, ds)).2 := by
  have X0 := X
  obtain ⟨h1, h2, h3, h4, h5⟩ := X
  have r := h3 i hi
  have c1 : 0 ≤ nw (i : Int) ∧ nw (i : Int) < 15 := by rw [nw_id (by omega) (by omega)]; omega
  have c3 : ix (i : Int) = i := by clear c1; rw [ix_id (by omega) (by omega), Int.toNat_natCast]
  have c5 : nw (mi i) = mi i := by clear c1 c3; exact nw_id (by omega) (by omega)
  unfold Voyage_pass thF enF
  have hT := isT (g := g) hi
  rw [h2 i hi] at hT
  rw [if_pos c1, c3, r.1]
  dsimp only
  cases htu : tu i with
  | true =>
    rw [htu] at hT
    rw [if_neg (by rw [hT]; simp), if_pos rfl, c5]
    by_cases m0 : mi i ≤ 0
    · rw [if_pos m0, sb, if_neg (show ¬ 0 < mi i by clear c1 c3 c5; omega)]
      exact X_lk_s hi (lk i).toNat 0 t ds g X0 ht (by clear c1 c3 c5; omega)
    · have hs : (if nw u = 0 then (3 : Int) else 2) = (if decide (u = 1) = true then 2 else 3) := by
        clear c1 c3 c5
        rcases hu with e | e
        · subst e; rw [nw_0]; rfl
        · subst e; rw [nw_1]; rfl
      have sr : 0 ≤ (if decide (u = 1) = true then (2 : Int) else 3) ∧ (if decide (u = 1) = true then (2 : Int) else 3) ≤ 3 ∧ ¬ (if decide (u = 1) = true then (2 : Int) else 3) = 1 := by split <;> decide
      have e1 := X_step_s (i := i) (kind := if decide (u = 1) = true then 2 else 3) (m := t) (lasts := 20 * mi i) (g := g) (ok := ok) ⟨sr.1, sr.2.1⟩ (by clear c1 c3 c5; unfold TmOk at ht; omega) (by clear c1 c3 c5; omega) (h1 i _ hi sr.1 sr.2.1)
      generalize (if decide (u = 1) = true then (2 : Int) else 3) = kd at sr hs e1 ⊢
      rw [if_neg (fun q => sr.2.2 q.1)] at e1
      rw [if_neg m0, sb, hs, e1, sb, sb, if_pos (show 0 < mi i by clear c1 c3 c5; omega)]
      exact X_lk_s hi (lk i).toNat 0 _ ds g X0 (stF_tm ht (by clear c1 c3 c5; omega)) (by clear c1 c3 c5; omega)
  | false =>
    rw [htu] at hT
    rw [if_pos (by rw [hT]), if_neg (by simp)]
    have e1 := X_mi_s hi (mi i).toNat 0 t g X0 ht (by clear c1 c3 c5; omega)
    obtain ⟨g', e2, f2, q2⟩ := X_lk_s hi (x4 := mi i) (lk i).toNat 0 (miF ok i (mi i).toNat t) ds g X0 (miF_tm _ _ ht) (by clear c1 c3 c5; omega)
    refine ⟨g', ?_, f2, q2⟩
    rw [← e2]
    exact e1
theorem lkF_fst {i : Nat} : ∀ (m : Nat) (x : Int) (d1 d2 : List Int), (lkF ok i la m (x, d1)).1 = (lkF ok i la m (x, d2)).1
  | 0, _, _, _ => rfl
  | m + 1, x, d1, d2 => by
    unfold lkF
    dsimp only
    split
    · exact lkF_fst m _ _ _
    · exact lkF_fst m _ _ _
theorem thF_tm {i : Nat} (hi : i < 15) {up : Bool} {t : Int} {ds : List Int} {g : AG} (X : XI g ok tu mi lk la) (ht : TmOk t) : TmOk (thF ok tu mi lk la i up (t, ds)).1 := by
  obtain ⟨h1, h2, h3, h4, h5⟩ := X
  have r := h3 i hi
  have q := thF_ok (ok := ok) (tu := tu) (mi := mi) (lk := lk) (lasts := la) (i := i) (up := up) (p := (t, [])) h5.1 r.2.2.1.1 r.2.2.2 ht (by intro d hd; cases hd)
  have e : (thF ok tu mi lk la i up (t, ds)).1 = (thF ok tu mi lk la i up (t, [])).1 := lkF_fst _ _ _ _
  rw [e]
  exact q.1
theorem X_dn_s {x2 : Int} {c : Nat} : ∀ (n a : Nat) (t : Int) (ds : List Int) (g : AG), XI g ok tu mi lk la → TmOk t → n = a - c → a ≤ 15 → c ≤ 15 → ∃ g', Voyage_comesTo_b x2 c 2 t a g = some ((dnF ok tu mi lk la n a (t, ds)).1, g') ∧ FR WXp g g' ∧ CtR g g' ds (dnF ok tu mi lk la n a (t, ds)).2 := by
  intro n
  induction n with
  | zero =>
    intro a t ds g X ht hn ha hc
    refine ⟨g, ?_, Fr.rf, CtR.rf⟩
    rw [Voyage_comesTo_b]
    simp (disch := omega) only [nw_id, ix_id, sb, if_true, if_false, if_pos, if_neg, true_and, and_true, false_and, and_false, and_self]
    rfl
  | succ n ih =>
    intro a t ds g X ht hn ha hc
    obtain ⟨g1, e1, f1, q1⟩ := X_pass_s (i := a - 1) (by omega) (u := 0) (Or.inl rfl) ds X ht
    obtain ⟨g2, e2, f2, q2⟩ := ih (a - 1) (thF ok tu mi lk la (a - 1) false (t, ds)).1 (thF ok tu mi lk la (a - 1) false (t, ds)).2 g1 (X.fr f1 rfl) (thF_tm (by omega) X ht) (by omega) (by omega) hc
    have na : ((a - 1 : Nat) : Int) = (a : Int) - 1 := by omega
    have na2 : ((a - 1 : Nat) : Int) = (a : Int) + -1 := by omega
    rw [na] at e1
    rw [na2] at e2
    refine ⟨g2, ?_, f1.tr f2, CtR.tr q1 q2⟩
    rw [Voyage_comesTo_b]
    simp (disch := omega) only [nw_id, ix_id, sb, if_true, if_false, if_pos, if_neg, true_and, and_true, false_and, and_false, and_self]
    rw [e1, sb]
    exact e2
theorem X_up_s {x2 c : Nat} (hx : x2 ≤ 15) : ∀ (n a : Nat) (t : Int) (ds : List Int) (g : AG), XI g ok tu mi lk la → TmOk t → n = c - a → a ≤ 15 → c ≤ 15 → ∃ g', Voyage_comesTo_b x2 c 1 t a g = some ((dnF ok tu mi lk la (x2 - c) x2 (upF ok tu mi lk la n a (t, ds))).1, g') ∧ FR WXp g g' ∧ CtR g g' ds (dnF ok tu mi lk la (x2 - c) x2 (upF ok tu mi lk la n a (t, ds))).2 := by
  intro n
  induction n with
  | zero =>
    intro a t ds g X ht hn ha hc
    rw [Voyage_comesTo_b]
    simp (disch := omega) only [nw_id, ix_id, sb, if_true, if_false, if_pos, if_neg, true_and, and_true, false_and, and_false, and_self]
    exact X_dn_s (x2 := x2) (c := c) (x2 - c) x2 t ds g X ht rfl hx hc
  | succ n ih =>
    intro a t ds g X ht hn ha hc
    obtain ⟨g1, e1, f1, q1⟩ := X_pass_s (i := a) (by omega) (u := 1) (Or.inr rfl) ds X ht
    obtain ⟨g2, e2, f2, q2⟩ := ih (a + 1) (thF ok tu mi lk la a true (t, ds)).1 (thF ok tu mi lk la a true (t, ds)).2 g1 (X.fr f1 rfl) (thF_tm (by omega) X ht) (by omega) (by omega) hc
    rw [show ((a + 1 : Nat) : Int) = (a : Int) + 1 from rfl] at e2
    refine ⟨g2, ?_, f1.tr f2, CtR.tr q1 q2⟩
    rw [Voyage_comesTo_b]
    simp (disch := omega) only [nw_id, ix_id, sb, if_true, if_false, if_pos, if_neg, true_and, and_true, false_and, and_false, and_self]
    rw [e1, sb]
    exact e2
end LEDX
