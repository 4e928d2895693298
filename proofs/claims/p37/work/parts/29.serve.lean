/-! plain programs: the rules that stand; the line that serves; the hours of the locks -/
def srvF (kd md en cd fc : Nat → Int) (sort : Int) : Nat → Nat → Int
  | 0, _ => -1
  | n + 1, l => if kd l = sort ∧ (en l = md l ∨ evl cd fc (en l - md l).toNat (md l).toNat [] = some [1]) then (l : Int) else srvF kd md en cd fc sort n (l + 1)
theorem srvF_fc {kd md en cd fc fc' : Nat → Int} {sort : Int} (h : ∀ k, k < 10 → fc k = fc' k) : ∀ (n l : Nat), srvF kd md en cd fc sort n l = srvF kd md en cd fc' sort n l
  | 0, _ => rfl
  | n + 1, l => by
    unfold srvF
    rw [evl_fc h, srvF_fc h n (l + 1)]
theorem srvF_rng {kd md en cd fc : Nat → Int} {sort : Int} : ∀ (n l : Nat), srvF kd md en cd fc sort n l = -1 ∨ ((l : Int) ≤ srvF kd md en cd fc sort n l ∧ srvF kd md en cd fc sort n l < (l + n : Nat) ∧ kd (srvF kd md en cd fc sort n l).toNat = sort)
  | 0, _ => Or.inl rfl
  | n + 1, l => by
    unfold srvF
    by_cases e : kd l = sort ∧ (en l = md l ∨ evl cd fc (en l - md l).toNat (md l).toNat [] = some [1])
    · rw [if_pos e]
      exact Or.inr ⟨Int.le_refl _, by omega, by simp; exact e.1⟩
    · rw [if_neg e]
      rcases srvF_rng (kd := kd) (md := md) (en := en) (cd := cd) (fc := fc) (sort := sort) n (l + 1) with h | ⟨h1, h2, h3⟩
      · exact Or.inl h
      · exact Or.inr ⟨by omega, by omega, h3⟩
def RRule : Reg := [(2, 3), (2, 4), (2, 11), (17, 0), (18, 0), (19, 0), (20, 0), (21, 0), (22, 0), (23, 0), (24, 0), (25, 0), (26, 0), (117, 35), (128, 0), (129, 0), (130, 0), (131, 0), (132, 0), (133, 0), (134, 0), (142, 0), (144, 0)]
def JRuL (g : AG) : Prop := ∀ l : Nat, (l : Int) < g 2 3 → g 19 l = g 128 l + 100 ∧ (0 ≤ g 128 l ∧ g 128 l ≤ 4) ∧ (g 131 l = g 20 l ∧ g 132 l = g 21 l ∧ g 133 l = g 22 l) ∧ (0 ≤ g 20 l ∧ g 20 l ≤ g 21 l ∧ g 21 l ≤ g 22 l ∧ g 22 l ≤ 500)
def JRuH (g : AG) : Prop := ∀ l : Nat, (l : Int) < g 2 3 → g 128 l = 0 → g 129 l = g 23 l ∧ g 130 l = g 24 l ∧ (0 ≤ g 23 l ∧ g 23 l ≤ 24) ∧ (0 ≤ g 24 l ∧ g 24 l ≤ 24)
def JRuV (g : AG) : Prop := ∀ l : Nat, (l : Int) < g 2 3 → 2 ≤ g 128 l → ∀ fc : Nat → Int, ∃ v, evl (g 134) fc (g 21 l - g 20 l).toNat (g 20 l).toNat [] = some [v]
def JRuC (g : AG) : Prop := ∀ l : Nat, (l : Int) < g 2 3 → g 21 l < g 22 l → ∀ fc : Nat → Int, ∃ v, evl (g 134) fc (g 22 l - g 21 l).toNat (g 21 l).toNat [] = some [v] ∧ (v = 0 ∨ v = 1)
def JRuO (g : AG) : Prop := ∀ l : Nat, (l : Int) < g 2 3 → ∀ j : Nat, g 20 l ≤ j → (j : Int) < g 22 l → opR (g 134 (2 * j)) (g 134 (2 * j + 1)) (g 17 j) (g 18 j)
def tnOk (h a b t1 t2 : Int) (q : Bool) : Prop := (h = if q = true then 1 else 0) ∧ (q = true → a = t1 ∧ b = t2) ∧ (q = false → t1 = 0 ∧ t2 = 0) ∧ (0 ≤ t1 ∧ t1 ≤ 24) ∧ (0 ≤ t2 ∧ t2 ≤ 24)
def JRuT (g : AG) : Prop := ∀ i : Nat, i < 15 → tnOk (g 144 (2 * i)) (g 142 (2 * (2 * i))) (g 142 (2 * (2 * i) + 1)) (g 25 i) (g 26 i) (tb (g 2 10) i) ∧ tnOk (g 144 (2 * i + 1)) (g 142 (2 * (2 * i + 1))) (g 142 (2 * (2 * i + 1) + 1)) (g 25 (15 + i)) (g 26 (15 + i)) (tb (g 2 10) (15 + i))
def JRule (g : AG) : Prop := (g 117 34 = g 2 3 ∧ 0 ≤ g 2 3 ∧ g 2 3 ≤ 16) ∧ (∀ k, k < 1020 → I32 (g 134 k)) ∧ JRuL g ∧ JRuH g ∧ JRuV g ∧ JRuC g ∧ JRuO g ∧ JRuT g
theorem JRule.cg {g g' : AG} (h : ∀ k i, inR RRule k i = true → g' k i = g k i) (q : JRule g) : JRule g' := by
  have q1 : JRule (rs (inR RRule) g) := q
  rw [← rs_eq h] at q1
  exact q1
theorem M_comesTo_s {g : AG} {a b v : Int} {fc : Nat → Int} (h0 : 0 ≤ a) (h1 : a ≤ b) (h2 : b ≤ 500) (hr : ∀ k, k < 1020 → I32 (g 134 k)) (ho : ∀ j : Nat, a ≤ j → (j : Int) < b → ∃ w c, opR (g 134 (2 * j)) (g 134 (2 * j + 1)) w c) (hf : ∀ k, k < 10 → g 148 k = fc k) (he : evl (g 134) fc (b - a).toNat a.toNat [] = some [v]) :
    ∃ g', M_comesTo a b g = some (v, g') ∧ FR [(147, 0)] g g' := by
  obtain ⟨i, rfl⟩ := natOf h0
  obtain ⟨n, hn⟩ : ∃ n : Nat, b = ((i + n : Nat) : Int) := ⟨(b - i).toNat, by omega⟩
  subst hn
  rw [show (((i + n : Nat) : Int) - (i : Int)).toNat = n by omega, show ((i : Int)).toNat = i by simp, ← evl_fc hf] at he
  unfold M_comesTo
  refine M_comesTo_b_s n i [] g v (by omega) hr ?_ ?_ (by simp) trivial he
  · intro j j1 j2
    obtain ⟨w, c, h⟩ := ho j (by omega) (by omega)
    exact (opR_s h).1
  · intro j j1 j2 e
    obtain ⟨w, c, h⟩ := ho j (by omega) (by omega)
    unfold opR at h
    omega
theorem Rules_run_s {g : AG} {cd fc : Nat → Int} {a b v : Int} (h0 : 0 ≤ a) (h1 : a ≤ b) (h2 : b ≤ 500) (ho : ∀ j : Nat, a ≤ j → (j : Int) < b → opR (cd (2 * j)) (cd (2 * j + 1)) (g 17 j) (g 18 j)) (hf : ∀ s : Nat, 1 ≤ s → s < 10 → g 27 (s - 1) = fc s) (he : evl cd fc (b - a).toNat a.toNat [] = some [v]) :
    ∃ g', Rules_run a b g = some (v, g') ∧ FR [(28, 0)] g g' := by
  obtain ⟨i, rfl⟩ := natOf h0
  obtain ⟨n, hn⟩ : ∃ n : Nat, b = ((i + n : Nat) : Int) := ⟨(b - i).toNat, by omega⟩
  subst hn
  rw [show (((i + n : Nat) : Int) - (i : Int)).toNat = n by omega, show ((i : Int)).toNat = i by simp] at he
  unfold Rules_run
  exact Rules_run_b_s n i [] 0 g v (by omega) (fun j j1 j2 => ho j (by omega) (by omega)) hf (by simp) trivial he
abbrev srvG (g : AG) (fc : Nat → Int) (sort : Int) (n l : Nat) : Int := srvF (g 128) (g 132) (g 133) (g 134) fc sort n l
theorem M_serves_b_s {sort : Int} (hs : 0 ≤ sort ∧ sort ≤ 4) {fc : Nat → Int} : ∀ (n l : Nat) (g : AG), JRule g → (∀ k, k < 10 → g 148 k = fc k) → ((l + n : Nat) : Int) = g 2 3 → ∃ g', M_serves_b sort 1 l g = some (srvG g fc sort n l, g') ∧ FR [(147, 0)] g g' := by
  intro n
  induction n with
  | zero =>
    intro l g J hf hn
    obtain ⟨⟨j1, j2, j3⟩, _⟩ := J
    rw [M_serves_b]
    simp (disch := omega) only [nw_id, ix_id, sb, if_true, if_false, if_pos, if_neg, true_and, and_true, false_and, and_false, and_self, j1]
    exact ⟨g, rfl, Fr.rf⟩
  | succ n ih =>
    intro l g J hf hn
    have J0 := J
    obtain ⟨⟨j1, j2, j3⟩, jr, jl, jh, jv, jc, jo, jt⟩ := J
    obtain ⟨l1, l2, l3, l4⟩ := jl l (by omega)
    have hll : l < 16 := by omega
    rw [M_serves_b]
    simp (disch := omega) only [nw_id, ix_id, sb, if_true, if_false, if_pos, if_neg, true_and, and_true, false_and, and_false, and_self, j1, Int.toNat_natCast]
    have next : ∀ g1, FR [(147, 0)] g g1 → ¬ (g 128 l = sort ∧ (g 133 l = g 132 l ∨ evl (g 134) fc (g 133 l - g 132 l).toNat (g 132 l).toNat [] = some [1])) → ∃ g', M_serves_b sort 2 l g1 = some (srvG g fc sort (n + 1) l, g') ∧ FR [(147, 0)] g g' := by
      intro g1 h1 hno
      obtain ⟨g', e1, e2⟩ := ih (l + 1) g1 (J0.cg (h1.cg rfl)) (by intro k hk; rw [h1 148 k rfl]; exact hf k hk) (by rw [h1 2 3 rfl]; omega)
      refine ⟨g', ?_, h1.tr e2⟩
      rw [M_serves_b.eq_1 _ 2, if_neg (by decide), if_pos rfl]
      have c1 : g1 128 = g 128 := h1.cell (fun _ => rfl)
      have c2 : g1 132 = g 132 := h1.cell (fun _ => rfl)
      have c3 : g1 133 = g 133 := h1.cell (fun _ => rfl)
      have c4 : g1 134 = g 134 := h1.cell (fun _ => rfl)
      have e3 : srvG g fc sort (n + 1) l = srvG g1 fc sort n (l + 1) := by
        show srvF _ _ _ _ _ _ (n + 1) l = srvF _ _ _ _ _ _ n (l + 1)
        rw [srvF, if_neg hno, c1, c2, c3, c4]
      rw [e3, ← e1]
      rfl
    by_cases c1 : g 128 l = sort
    · simp (disch := omega) only [nw_id, ix_id, sb, if_true, if_false, if_pos, if_neg, true_and, and_true, false_and, and_false, and_self, c1]
      by_cases c2 : g 133 l = g 132 l
      · simp (disch := omega) only [nw_id, ix_id, sb, if_true, if_false, if_pos, if_neg, true_and, and_true, false_and, and_false, and_self]
        refine ⟨g, ?_, Fr.rf⟩
        show _ = some (srvF _ _ _ _ _ _ (n + 1) l, g)
        rw [srvF, if_pos ⟨c1, Or.inl c2⟩]
      · simp (disch := omega) only [nw_id, ix_id, sb, if_true, if_false, if_pos, if_neg, true_and, and_true, false_and, and_false, and_self]
        obtain ⟨v, v1, v2⟩ := jc l (by omega) (by omega) fc
        rw [← l3.2.1, ← l3.2.2] at v1
        obtain ⟨g1, e1, e2⟩ := M_comesTo_s (g := g) (fc := fc) (a := g 132 l) (b := g 133 l) (by omega) (by omega) (by omega) jr (fun j a1 a2 => ⟨_, _, jo l (by omega) j (by omega) (by omega)⟩) hf v1
        rw [e1]
        simp (disch := omega) only [nw_id, ix_id, sb, if_true, if_false, if_pos, if_neg, true_and, and_true, false_and, and_false, and_self]
        by_cases c3 : v = 1
        · subst c3
          simp (disch := omega) only [nw_id, ix_id, sb, if_true, if_false, if_pos, if_neg, true_and, and_true, false_and, and_false, and_self]
          refine ⟨g1, ?_, e2⟩
          show _ = some (srvF _ _ _ _ _ _ (n + 1) l, g1)
          rw [srvF, if_pos ⟨c1, Or.inr v1⟩]
        · have c4 : v = 0 := by omega
          subst c4
          simp (disch := omega) only [nw_id, ix_id, sb, if_true, if_false, if_pos, if_neg, true_and, and_true, false_and, and_false, and_self]
          refine next g1 e2 (fun q => ?_)
          rcases q.2 with q | q
          · exact c2 q
          · rw [v1] at q
            cases q
    · simp (disch := omega) only [nw_id, ix_id, sb, if_true, if_false, if_pos, if_neg, true_and, and_true, false_and, and_false, and_self]
      exact next g Fr.rf (fun q => c1 q.1)
def XRel (g : AG) (kd fr md en cd : Nat → Int) : Prop := (0 ≤ g 2 3 ∧ g 2 3 ≤ 16) ∧ (∀ l : Nat, (l : Int) < g 2 3 → g 19 l = kd l + 100 ∧ (0 ≤ kd l ∧ kd l ≤ 4) ∧ (g 20 l = fr l ∧ g 21 l = md l ∧ g 22 l = en l) ∧ (0 ≤ g 20 l ∧ g 20 l ≤ g 21 l ∧ g 21 l ≤ g 22 l ∧ g 22 l ≤ 500)) ∧
  (∀ l : Nat, (l : Int) < g 2 3 → 2 ≤ kd l → ∀ fc : Nat → Int, ∃ v, evl cd fc (g 21 l - g 20 l).toNat (g 20 l).toNat [] = some [v]) ∧
  (∀ l : Nat, (l : Int) < g 2 3 → g 21 l < g 22 l → ∀ fc : Nat → Int, ∃ v, evl cd fc (g 22 l - g 21 l).toNat (g 21 l).toNat [] = some [v] ∧ (v = 0 ∨ v = 1)) ∧
  (∀ l : Nat, (l : Int) < g 2 3 → ∀ j : Nat, g 20 l ≤ j → (j : Int) < g 22 l → opR (cd (2 * j)) (cd (2 * j + 1)) (g 17 j) (g 18 j))
theorem JRule.xrel {g : AG} (J : JRule g) : XRel g (g 128) (g 131) (g 132) (g 133) (g 134) := by
  obtain ⟨⟨j1, j2, j3⟩, jr, jl, jh, jv, jc, jo, jt⟩ := J
  refine ⟨⟨j2, j3⟩, fun l hl => ?_, jv, jc, jo⟩
  obtain ⟨l1, l2, l3, l4⟩ := jl l hl
  exact ⟨l1, l2, ⟨l3.1.symm, l3.2.1.symm, l3.2.2.symm⟩, l4⟩
theorem XRel.fr {W : Reg} {g g' : AG} {kd fr md en cd : Nat → Int} (h : XRel g kd fr md en cd) (f : FR W g g') (d : djR [(2, 4), (17, 0), (18, 0), (19, 0), (20, 0), (21, 0), (22, 0)] W = true) : XRel g' kd fr md en cd := by
  have c := f.cg d
  have c0 : g' 2 3 = g 2 3 := c 2 3 rfl
  have c1 : g' 17 = g 17 := funext fun i => c 17 i rfl
  have c2 : g' 18 = g 18 := funext fun i => c 18 i rfl
  have c3 : g' 19 = g 19 := funext fun i => c 19 i rfl
  have c4 : g' 20 = g 20 := funext fun i => c 20 i rfl
  have c5 : g' 21 = g 21 := funext fun i => c 21 i rfl
  have c6 : g' 22 = g 22 := funext fun i => c 22 i rfl
  unfold XRel
  rw [c0, c1, c2, c3, c4, c5, c6]
  exact h
theorem X_serving_b_s {sort : Int} (hs : 0 ≤ sort ∧ sort ≤ 4) {fc kd fr md en cd : Nat → Int} : ∀ (n l : Nat) (g : AG), XRel g kd fr md en cd → (∀ s : Nat, 1 ≤ s → s < 10 → g 27 (s - 1) = fc s) → ((l + n : Nat) : Int) = g 2 3 → ∃ g', Rules_serving_b (sort + 100) 1 l g = some (srvF kd md en cd fc sort n l, g') ∧ FR [(28, 0)] g g' := by
  intro n
  induction n with
  | zero =>
    intro l g J hf hn
    obtain ⟨⟨j2, j3⟩, _⟩ := J
    rw [Rules_serving_b]
    simp (disch := omega) only [nw_id, ix_id, sb, if_true, if_false, if_pos, if_neg, true_and, and_true, false_and, and_false, and_self]
    exact ⟨g, rfl, Fr.rf⟩
  | succ n ih =>
    intro l g J hf hn
    have J0 := J
    obtain ⟨⟨j2, j3⟩, jl, jv, jc, jo⟩ := J
    obtain ⟨l1, l2, l3, l4⟩ := jl l (by omega)
    have hll : l < 16 := by omega
    rw [Rules_serving_b]
    simp (disch := omega) only [nw_id, ix_id, sb, if_true, if_false, if_pos, if_neg, true_and, and_true, false_and, and_false, and_self, Int.toNat_natCast]
    have next : ∀ g1, FR [(28, 0)] g g1 → ¬ (kd l = sort ∧ (en l = md l ∨ evl cd fc (en l - md l).toNat (md l).toNat [] = some [1])) → ∃ g', Rules_serving_b (sort + 100) 2 l g1 = some (srvF kd md en cd fc sort (n + 1) l, g') ∧ FR [(28, 0)] g g' := by
      intro g1 h1 hno
      obtain ⟨g', e1, e2⟩ := ih (l + 1) g1 (J0.fr h1 rfl) (by intro k hk hk2; rw [h1 27 (k - 1) rfl]; exact hf k hk hk2) (by rw [h1 2 3 rfl]; omega)
      refine ⟨g', ?_, h1.tr e2⟩
      rw [Rules_serving_b.eq_1 _ 2, if_neg (by decide), if_pos rfl, srvF, if_neg hno, ← e1]
      rfl
    by_cases c1 : kd l = sort
    · simp (disch := omega) only [nw_id, ix_id, sb, if_true, if_false, if_pos, if_neg, true_and, and_true, false_and, and_false, and_self]
      by_cases c2 : en l = md l
      · simp (disch := omega) only [nw_id, ix_id, sb, if_true, if_false, if_pos, if_neg, true_and, and_true, false_and, and_false, and_self]
        refine ⟨g, ?_, Fr.rf⟩
        rw [srvF, if_pos ⟨c1, Or.inl c2⟩]
      · simp (disch := omega) only [nw_id, ix_id, sb, if_true, if_false, if_pos, if_neg, true_and, and_true, false_and, and_false, and_self]
        obtain ⟨v, v1, v2⟩ := jc l (by omega) (by omega) fc
        obtain ⟨g1, e1, e2⟩ := Rules_run_s (g := g) (cd := cd) (fc := fc) (a := g 21 l) (b := g 22 l) (by omega) (by omega) (by omega) (fun j a1 a2 => jo l (by omega) j (by omega) (by omega)) hf v1
        rw [l3.2.1, l3.2.2] at v1
        rw [e1]
        simp (disch := omega) only [nw_id, ix_id, sb, if_true, if_false, if_pos, if_neg, true_and, and_true, false_and, and_false, and_self]
        by_cases c3 : v = 0
        · subst c3
          simp (disch := omega) only [nw_id, ix_id, sb, if_true, if_false, if_pos, if_neg, true_and, and_true, false_and, and_false, and_self]
          refine next g1 e2 (fun q => ?_)
          rcases q.2 with q | q
          · exact c2 q
          · rw [v1] at q
            cases q
        · have c4 : v = 1 := by omega
          subst c4
          simp (disch := omega) only [nw_id, ix_id, sb, if_true, if_false, if_pos, if_neg, true_and, and_true, false_and, and_false, and_self]
          refine ⟨g1, ?_, e2⟩
          rw [srvF, if_pos ⟨c1, Or.inr v1⟩]
    · simp (disch := omega) only [nw_id, ix_id, sb, if_true, if_false, if_pos, if_neg, true_and, and_true, false_and, and_false, and_self]
      exact next g Fr.rf (fun q => c1 q.1)
theorem X_serving_s {sort x : Int} (hs : 0 ≤ sort ∧ sort ≤ 4) (hx : x = sort + 100) {fc kd fr md en cd : Nat → Int} {g : AG} (J : XRel g kd fr md en cd) (hf : ∀ s : Nat, 1 ≤ s → s < 10 → g 27 (s - 1) = fc s) : ∃ g', Rules_serving x g = some (srvF kd md en cd fc sort (g 2 3).toNat 0, g') ∧ FR [(28, 0)] g g' := by
  subst hx
  have := J.1
  exact X_serving_b_s hs (g 2 3).toNat 0 g J hf (by omega)
theorem M_serves_s {sort : Int} (hs : 0 ≤ sort ∧ sort ≤ 4) {fc : Nat → Int} {g : AG} (J : JRule g) (hf : ∀ k, k < 10 → g 148 k = fc k) : ∃ g', M_serves sort g = some (srvG g fc sort (g 2 3).toNat 0, g') ∧ FR [(147, 0)] g g' := by
  have := J.1
  exact M_serves_b_s hs (g 2 3).toNat 0 g J hf (by omega)
theorem XRel.val {g : AG} {kd fr md en cd fc : Nat → Int} (J : XRel g kd fr md en cd) (hf : ∀ s : Nat, 1 ≤ s → s < 10 → g 27 (s - 1) = fc s) {l : Nat} (hl : (l : Int) < g 2 3) (hk : 2 ≤ kd l) : ∃ v g', Rules_valueOf l g = some (v, g') ∧ FR [(28, 0)] g g' ∧ evl cd fc (md l - fr l).toNat (fr l).toNat [] = some [v] := by
  obtain ⟨⟨j2, j3⟩, jl, jv, jc, jo⟩ := J
  obtain ⟨l1, l2, l3, l4⟩ := jl l (by omega)
  obtain ⟨v, v1⟩ := jv l hl hk fc
  obtain ⟨g1, e1, e2⟩ := Rules_run_s (g := g) (cd := cd) (fc := fc) (a := g 20 l) (b := g 21 l) (by omega) (by omega) (by omega) (fun j a1 a2 => jo l (by omega) j (by omega) (by omega)) hf v1
  refine ⟨v, g1, ?_, e2, by rw [← l3.1, ← l3.2.1]; exact v1⟩
  unfold Rules_valueOf
  simp (disch := omega) only [nw_id, ix_id, sb, if_true, if_false, if_pos, if_neg, true_and, and_true, false_and, and_false, and_self, within0, Int.toNat_natCast, e1]
theorem JRule.val {g : AG} {fc : Nat → Int} (J : JRule g) (hf : ∀ k, k < 10 → g 148 k = fc k) {l : Nat} (hl : (l : Int) < g 2 3) (hk : 2 ≤ g 128 l) : ∃ v g', M_comesTo (g 131 l) (g 132 l) g = some (v, g') ∧ FR [(147, 0)] g g' ∧ evl (g 134) fc (g 132 l - g 131 l).toNat (g 131 l).toNat [] = some [v] := by
  obtain ⟨⟨j1, j2, j3⟩, jr, jl, jh, jv, jc, jo, jt⟩ := J
  obtain ⟨l1, l2, l3, l4⟩ := jl l (by omega)
  obtain ⟨v, v1⟩ := jv l hl hk fc
  rw [← l3.1, ← l3.2.1] at v1
  obtain ⟨g1, e1, e2⟩ := M_comesTo_s (g := g) (fc := fc) (a := g 131 l) (b := g 132 l) (by omega) (by omega) (by omega) jr (fun j a1 a2 => ⟨_, _, jo l (by omega) j (by omega) (by omega)⟩) hf v1
  exact ⟨v, g1, e1, e2, v1⟩
