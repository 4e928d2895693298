/-! plain programs: comes, harm, enough, maybe -/
abbrev WV : Reg := [(5, 7), (5, 8), (47, 0)]
abbrev WA : Reg := [(5, 7), (5, 8), (46, 0), (47, 0)]
def JFlag (g : AG) : Prop := g 117 47 = 0
/-- the canal as the reference has it -/
def ldM (g : AG) (ta : Int) (a c : Nat) (t : Int) : Int := (ledF (okM g (stpM g)) (tuM g) (g 118) (g 119) (laF ta) a c (t, [])).1
theorem ldM_fr {W : Reg} {g g' : AG} (f : FR W g g') (d : djR [(117, 11), (117, 12), (121, 0), (122, 0), (123, 0), (2, 4), (128, 0), (129, 0), (130, 0), (132, 0), (133, 0), (134, 0), (142, 0), (144, 0), (118, 0), (119, 0)] W = true) : ldM g' = ldM g := by
  have c := f.cg d
  have c0 : g' 117 10 = g 117 10 := c 117 10 rfl
  have c1 : g' 2 3 = g 2 3 := c 2 3 rfl
  have c2 : g' 128 = g 128 := funext fun i => c 128 i rfl
  have c3 : g' 129 = g 129 := funext fun i => c 129 i rfl
  have c4 : g' 130 = g 130 := funext fun i => c 130 i rfl
  have c5 : g' 132 = g 132 := funext fun i => c 132 i rfl
  have c6 : g' 133 = g 133 := funext fun i => c 133 i rfl
  have c7 : g' 134 = g 134 := funext fun i => c 134 i rfl
  have c8 : g' 142 = g 142 := funext fun i => c 142 i rfl
  have c9 : g' 144 = g 144 := funext fun i => c 144 i rfl
  have d0 : g' 117 11 = g 117 11 := c 117 11 rfl
  have d1 : g' 121 = g 121 := funext fun i => c 121 i rfl
  have d2 : g' 122 = g 122 := funext fun i => c 122 i rfl
  have d3 : g' 123 = g 123 := funext fun i => c 123 i rfl
  have d4 : g' 118 = g 118 := funext fun i => c 118 i rfl
  have d5 : g' 119 = g 119 := funext fun i => c 119 i rfl
  have s1 : stpM g' = stpM g := by funext i d; unfold stpM; rw [d0, d1, d2, d3]
  have s2 : okM g' (stpM g) = okM g (stpM g) := by
    funext i sort t
    unfold okM okS hrA hrB srvG
    simp only [c0, c1, c2, c3, c4, c5, c6, c7, c8, c9]
  have s3 : tuM g' = tuM g := by funext i; unfold tuM; rw [c9]
  funext ta a c t
  unfold ldM
  rw [s1, s2, s3, d4, d5]
/-- what stands, for the voyage -/
def JV (g : AG) : Prop := JWay g ∧ JRule g ∧ JHour g ∧ JStop g ∧ JWat g
theorem JV.fr {W : Reg} {g g' : AG} (h : JV g) (f : FR W g g') (d : djR (RWay ++ (RRule ++ (RHour ++ (RStop ++ RWat)))) W = true) : JV g' := by
  have q := f.cg d
  have ap : ∀ (A B : Reg) (k i : Nat), inR (A ++ B) k i = (inR A k i || inR B k i) := by
    intro A
    induction A with
    | nil => intro B k i; simp [inR]
    | cons p A ih => intro B k i; simp [inR, ih, Bool.or_assoc]
  obtain ⟨h1, h2, h3, h4, h5⟩ := h
  refine ⟨h1.cg (fun k i z => q k i ?_), h2.cg (fun k i z => q k i ?_), h3.cg (fun k i z => q k i ?_), h4.cg (fun k i z => q k i ?_), h5.cg (fun k i z => q k i ?_)⟩ <;> simp [ap, z]
theorem MI.of {g : AG} {b : Nat} (V : JV g) (hb : b < 10) (ht : 0 ≤ g 127 b ∧ g 127 b ≤ 60) (hf : g 117 47 = 0 ∨ g 117 47 = 1) : MI g b (okM g (stpM g)) (tuM g) (g 118) (g 119) (hwF g b) (g 127 b) := by
  obtain ⟨h1, h2, h3, h4, h5⟩ := V
  refine ⟨h2, h4.2.1, rfl, rfl, rfl, rfl, rfl, rfl, ht, hb, fun i hi => ?_, hf⟩
  have := h1 i hi
  omega
theorem XI.of {g : AG} {la : Int} (V : JV g) (h5 : g 5 7 = 0 ∨ g 5 7 = 1) (h6 : g 5 6 = la) (hl : 0 ≤ la ∧ la ≤ 1000) : XI g (okM g (sdX g)) (tuM g) (g 118) (g 119) la := by
  obtain ⟨v1, v2, v3, v4, v5⟩ := V
  refine ⟨fun i kind hi k0 k1 => XDay_of hi ⟨k0, k1⟩ v2 v3 v4 h5, fun i hi => ?_, fun i hi => ?_, h6, hl⟩
  · have q := v2.2.2.2.2.2.2.2 i hi
    unfold tuX tuM
    have a := q.1.1
    have b := q.2.1
    rw [a, b]
    cases tb (g 2 10) i <;> cases tb (g 2 10) (15 + i) <;> simp
  · have := v1 i hi
    omega
theorem setOut_s {ta hd : Int} {g : AG} (ht : 0 ≤ ta ∧ ta ≤ 60) (hh : hd = 0 ∨ hd = 1) : ∃ g', Voyage_setOut ta hd g = some (0, g') ∧ FR [(5, 7), (5, 8), (47, 0)] g g' ∧ g' 5 6 = laF ta ∧ g' 5 7 = hd ∧ (∀ d : Nat, d < 14 → g' 47 d = 0) := by
  unfold Voyage_setOut laF
  simp (disch := omega) only [nw_id, ix_id, sb, if_true, if_false, if_pos, if_neg, true_and, and_true, false_and, and_false, and_self, tdE]
  refine ⟨_, rfl, Fr.fill (Fr.up (Fr.up Fr.rf rfl) rfl) (fun _ => rfl), ?_, ?_, ?_⟩
  · simp [up_at, fill_at]
  · simp [up_at, fill_at]
  · intro d hd
    simp [fill_at, hd]
theorem X_comesTo_s {a c : Nat} {ta t hd : Int} {g : AG} (V : JV g) (ha : a ≤ 15) (hc : c ≤ 15) (ht : 0 ≤ ta ∧ ta ≤ 60) (hh : hd = 0 ∨ hd = 1) (htm : TmOk t) : ∃ g', Voyage_comesTo ta a c t hd g = some ((ledF (okM g (if hd = 1 then stpM g else fun _ _ => false)) (tuM g) (g 118) (g 119) (laF ta) a c (t, [])).1, g') ∧ FR WV g g' ∧ (∀ d : Nat, d < 14 → g' 47 d = ctF d (ledF (okM g (if hd = 1 then stpM g else fun _ _ => false)) (tuM g) (g 118) (g 119) (laF ta) a c (t, [])).2) := by
  obtain ⟨g1, e1, f1, a1, a2, a3⟩ := setOut_s (g := g) ht hh
  have V1 : JV g1 := V.fr f1 rfl
  have X := XI.of (g := g1) (la := laF ta) V1 (by rw [a2]; exact hh) a1 (by unfold laF; omega)
  have k1 : sdX g1 = (if hd = 1 then stpM g else fun _ _ => false) := by
    unfold sdX
    rw [a2, stpM_fr f1 rfl]
  have k2 : okM g1 (sdX g1) = okM g (if hd = 1 then stpM g else fun _ _ => false) := by rw [k1, okM_fr f1 rfl]
  have k3 : tuM g1 = tuM g := by funext i; unfold tuM; rw [f1.cell (k := 144) (fun _ => rfl)]
  have k4 : g1 118 = g 118 := f1.cell (fun _ => rfl)
  have k5 : g1 119 = g 119 := f1.cell (fun _ => rfl)
  rw [k2, k3, k4, k5] at X
  obtain ⟨g2, e2, f2, q2⟩ := X_up_s (x2 := a) (c := c) ha (c - a) a t [] g1 X htm rfl ha hc
  refine ⟨g2, ?_, (f1.mo rfl).tr (f2.mo rfl), ?_⟩
  · unfold Voyage_comesTo
    rw [e1, sb, e2]
    rfl
  · intro d hd
    have := q2 d hd
    have := a3 d hd
    unfold ledF
    simp only [ctF] at *
    omega
theorem X_comesTo1 {a c : Nat} {ta t : Int} {g : AG} (V : JV g) (ha : a ≤ 15) (hc : c ≤ 15) (ht : 0 ≤ ta ∧ ta ≤ 60) (htm : TmOk t) : ∃ g', Voyage_comesTo ta a c t 1 g = some (ldM g ta a c t, g') ∧ FR WV g g' := by
  obtain ⟨g', e, f, _⟩ := X_comesTo_s (a := a) (c := c) (hd := 1) V ha hc ht (Or.inr rfl) htm
  exact ⟨g', e, f⟩
theorem ldM_tm {a c : Nat} {ta t : Int} {g : AG} (V : JV g) (ha : a ≤ 15) (hc : c ≤ 15) (ht : 0 ≤ ta ∧ ta ≤ 60) (htm : TmOk t) : TmOk (ldM g ta a c t) := by
  have v1 := V.1
  exact (ledF_ok (ok := okM g (stpM g)) (tu := tuM g) (mi := g 118) (lk := g 119) (lasts := laF ta) (by unfold laF; omega) (fun i hi => (v1 i hi).2.2.2.1) (fun i hi => ⟨(v1 i hi).2.2.2.2.2.1, (v1 i hi).2.2.2.2.2.2.1⟩) (p := (t, [])) ha hc htm (by intro d hd; cases hd)).1
theorem M_led1 {b a c : Nat} {t : Int} {g : AG} (V : JV g) (hf : JFlag g) (hb : b < 10) (ha : a ≤ 15) (hc : c ≤ 15) (ht : 0 ≤ g 127 b ∧ g 127 b ≤ 60) (htm : TmOk t) : ∃ g', M_led b a c t g = some (ldM g (g 127 b) a c t, g') ∧ FR [(147, 0), (148, 0), (117, 49)] g g' := by
  obtain ⟨g', e, f, _⟩ := M_led_s ha hc htm [] (MI.of V hb ht (Or.inl hf))
  exact ⟨g', e, f⟩
def JBoS (g : AG) : Prop := ∀ b : Nat, (b : Int) < g 6 7 → (2 ≤ g 48 b ∧ g 48 b ≤ 12) ∧ (0 ≤ g 49 b ∧ g 49 b ≤ 99) ∧ (0 ≤ g 50 b ∧ g 50 b ≤ 15) ∧ (0 ≤ g 51 b ∧ g 51 b ≤ 60)
theorem JBoat.parts {g : AG} (h : JBoat g) : JBoR g ∧ JBoV g ∧ JBoS g := ⟨h.1, h.2.1, h.2.2⟩
theorem sm_comes {x1 x2 x3 x4 : Int} {g : AG} (h1 : I32 x1) (h2 : I32 x2) (h3 : I32 x3) (h4 : I32 x4) (V : JV g) (B : JBoat g) (hf : JFlag g) :
    ∃ r1 r2, X_comes x1 x2 x3 x4 g = some r1 ∧ M_comes x1 x2 x3 x4 r1.2 = some r2 ∧ nw r1.1 = nw r2.1 ∧ FR [(5, 7), (5, 8), (47, 0), (147, 0), (148, 0), (117, 49)] g r2.2 := by
  unfold I32 at *
  obtain ⟨⟨b1, b2, b3⟩, bv, bs⟩ := B
  by_cases h : 0 ≤ x1 ∧ x1 < g 6 7 ∧ 0 ≤ x2 ∧ x2 ≤ 15 ∧ 0 ≤ x3 ∧ x3 ≤ 15 ∧ 0 ≤ x4 ∧ x4 ≤ 20159
  · obtain ⟨b, rfl⟩ := natOf h.1
    obtain ⟨a, rfl⟩ := natOf h.2.2.1
    obtain ⟨c, rfl⟩ := natOf h.2.2.2.2.1
    have vb := bv b (by omega)
    have sbb := bs b (by omega)
    have tm : TmOk x4 := Or.inr (by omega)
    obtain ⟨g1, e1, f1⟩ := X_comesTo1 (a := a) (c := c) (ta := g 51 b) (t := x4) V (by omega) (by omega) (by omega) tm
    have eX : X_comes b a c x4 g = some (ldM g (g 51 b) a c x4, g1) := by
      unfold X_comes
      simp (disch := omega) only [nw_id, ix_id, sb, if_true, if_false, if_pos, if_neg, true_and, and_true, false_and, and_false, and_self, X_isWay0, Int.toNat_natCast, e1]
    obtain ⟨g2, e2, f2⟩ := M_led1 (b := b) (a := a) (c := c) (t := x4) (g := g1) (V.fr f1 rfl) (by unfold JFlag; rw [f1 117 47 rfl]; exact hf) (by omega) (by omega) (by omega) (by rw [f1 127 b rfl]; omega) tm
    rw [ldM_fr f1 rfl, f1 127 b rfl, vb.2.2.2] at e2
    have q1 : g1 117 12 = g 117 12 := f1 117 12 rfl
    have eM : M_comes b a c x4 g1 = some (ldM g (g 51 b) a c x4, g2) := by
      unfold M_comes
      simp (disch := omega) only [nw_id, ix_id, sb, if_true, if_false, if_pos, if_neg, true_and, and_true, false_and, and_false, and_self, M_isBoat0, isPoint0, isTime0, e2]
    exact ⟨_, _, eX, eM, rfl, (f1.mo rfl).tr (f2.mo rfl)⟩
  · have eX : X_comes x1 x2 x3 x4 g = some (-1, g) := by
      unfold X_comes
      simp (disch := omega) only [nw_id, ix_id, sb, if_true, if_false, if_pos, if_neg, true_and, and_true, false_and, and_false, and_self, X_isWay0]
    have eM : M_comes x1 x2 x3 x4 g = some (-1, g) := by
      unfold M_comes
      revert h
      simp (disch := omega) only [nw_id, ix_id, M_isBoat0, isPoint0, isTime0]
      intro h
      by_cases c1 : x1 < 0 ∨ g 117 12 - 1 < x1
      · rw [if_pos c1]; rfl
      · rw [if_neg c1]
        by_cases c2 : x2 < 0 ∨ 15 < x2
        · rw [if_pos c2]; rfl
        · rw [if_neg c2]
          by_cases c3 : x3 < 0 ∨ 15 < x3
          · rw [if_pos c3]; rfl
          · rw [if_neg c3, if_pos (by omega)]; rfl
    exact ⟨_, _, eX, eM, rfl, Fr.rf⟩
