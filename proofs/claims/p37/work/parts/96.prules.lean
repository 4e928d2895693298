/-! plain programs: rules, both sides -/
def JVal (g : AG) : Prop := 0 ≤ g 117 41 ∧ g 117 41 ≤ 9999
theorem POk_xrel {tp : Nat → Int} {L T k s n : Nat} {rX rM gT : AG} (R : PRel tp L T k s rX rM) (hn : n ≤ 16) (LN : ∀ l, l < n → LnR s rX rM l) (t23 : gT 2 3 = n) (t17 : ∀ j, j < 500 → gT 17 j = rX 29 j ∧ gT 18 j = rX 30 j) (t19 : ∀ l, l < 16 → gT 19 l = rX 31 l ∧ gT 20 l = rX 32 l ∧ gT 21 l = rX 33 l ∧ gT 22 l = rX 34 l) : XRel gT (rM 135) (rM 138) (rM 139) (rM 140) (rM 141) := by
  have s5 : s ≤ 500 := R.2.2.2.2.2.2.2.2.2.1
  have op := R.2.2.2.2.2.2.2.2.2.2.1
  refine ⟨by omega, fun l hl => ?_, fun l hl h2 fc => ?_, fun l hl h2 fc => ?_, fun l hl j h1 h2 => ?_⟩
  · obtain ⟨h1, h2, h3, ⟨a, b, c, e1, e2, e3, l1, l2, l3, v1, v2⟩, h5⟩ := LN l (by omega)
    have t := t19 l (by omega)
    refine ⟨by rw [t.1]; exact h1, h2, ⟨by rw [t.2.1]; exact h3.1.symm, by rw [t.2.2.1]; exact h3.2.1.symm, by rw [t.2.2.2]; exact h3.2.2.symm⟩, ?_⟩
    rw [t.2.1, t.2.2.1, t.2.2.2, e1, e2, e3]
    omega
  · obtain ⟨h1, h2', h3, ⟨a, b, c, e1, e2, e3, l1, l2, l3, v1, v2⟩, h5⟩ := LN l (by omega)
    have t := t19 l (by omega)
    rw [t.2.1, t.2.2.1, e1, e2, show ((b : Int) - (a : Int)).toNat = b - a by omega, Int.toNat_natCast]
    exact v1 h2 fc [] (by simp)
  · obtain ⟨h1, h2', h3, ⟨a, b, c, e1, e2, e3, l1, l2, l3, v1, v2⟩, h5⟩ := LN l (by omega)
    have t := t19 l (by omega)
    rw [t.2.2.1, t.2.2.2, e2, e3] at h2
    rw [t.2.2.1, t.2.2.2, e2, e3, show ((c : Int) - (b : Int)).toNat = c - b by omega, Int.toNat_natCast]
    exact v2 (by omega) fc [] (by simp)
  · obtain ⟨h1', h2', h3, ⟨a, b, c, e1, e2, e3, l1, l2, l3, v1, v2⟩, h5⟩ := LN l (by omega)
    have t := t19 l (by omega)
    rw [t.2.2.2, e3] at h2
    have tj := t17 j (by omega)
    rw [tj.1, tj.2]
    exact op j (by omega)
abbrev RRX : Reg := [(4, 3), (4, 6), (4, 7), (4, 8), (4, 9), (3, 3), (3, 4), (3, 11), (29, 0), (30, 0), (31, 0), (32, 0), (33, 0), (34, 0), (35, 0), (36, 0), (37, 0), (38, 0), (42, 0), (43, 0), (2, 3), (2, 4), (2, 11), (17, 0), (18, 0), (19, 0), (20, 0), (21, 0), (22, 0), (23, 0), (24, 0), (25, 0), (26, 0), (27, 0), (28, 0), (44, 0), (45, 0)]
abbrev RRM : Reg := [(117, 36), (117, 39), (117, 40), (117, 41), (117, 42), (117, 43), (117, 44), (117, 37), (117, 46), (135, 0), (136, 0), (137, 0), (138, 0), (139, 0), (140, 0), (141, 0), (143, 0), (145, 0), (117, 38), (117, 45), (117, 47), (117, 35), (128, 0), (129, 0), (130, 0), (131, 0), (132, 0), (133, 0), (134, 0), (142, 0), (144, 0)]
abbrev RRules : Reg := [(4, 3), (4, 6), (4, 7), (4, 8), (4, 9), (3, 3), (3, 4), (3, 11), (29, 0), (30, 0), (31, 0), (32, 0), (33, 0), (34, 0), (35, 0), (36, 0), (37, 0), (38, 0), (42, 0), (43, 0), (2, 3), (2, 4), (2, 11), (17, 0), (18, 0), (19, 0), (20, 0), (21, 0), (22, 0), (23, 0), (24, 0), (25, 0), (26, 0), (27, 0), (28, 0), (44, 0), (45, 0), (117, 36), (117, 39), (117, 40), (117, 41), (117, 42), (117, 43), (117, 44), (117, 37), (117, 46), (135, 0), (136, 0), (137, 0), (138, 0), (139, 0), (140, 0), (141, 0), (143, 0), (145, 0), (117, 38), (117, 45), (117, 47), (117, 35), (128, 0), (129, 0), (130, 0), (131, 0), (132, 0), (133, 0), (134, 0), (142, 0), (144, 0)]
/-- the class alone, its rules read -/
theorem X_rules_s {g : AG} (qT : JTape g) (qV : JVal g) : ∃ (T : Nat) (rX rM : AG), TkOk (g 41) (g 4 2).toNat T ∧ FR RPA g rX ∧ Parser_read g = some (if rX 4 7 = 0 then rX 3 3 else -1, up rX 4 2 0) ∧ ((rX 4 7 = 0 ∧ POk (g 41) (g 4 2).toNat T rX rM ∧ ∃ n gT gL, rX 3 3 = ((n : Nat) : Int) ∧ n ≤ 16 ∧ X_rules g = some ((n : Int), gL) ∧ FR RTO (up rX 4 2 0) gT ∧ FR [(27, 0), (28, 0), (44, 0), (45, 0)] gT gL ∧ gT 2 3 = n ∧ gT 2 10 = rX 3 10 ∧ (∀ j, j < 500 → gT 17 j = rX 29 j ∧ gT 18 j = rX 30 j) ∧ (∀ l, l < 16 → gT 19 l = rX 31 l ∧ gT 20 l = rX 32 l ∧ gT 21 l = rX 33 l ∧ gT 22 l = rX 34 l ∧ gT 23 l = rX 35 l ∧ gT 24 l = rX 36 l) ∧ (∀ i, i < 30 → gT 25 i = rX 37 i ∧ gT 26 i = rX 38 i) ∧ ∀ d : Nat, d < 14 → (gL 44 d = if srvF (rM 135) (rM 139) (rM 140) (rM 141) (fcDay d (g 1 5)) 0 n 0 = -1 then 0 else gT 23 (srvF (rM 135) (rM 139) (rM 140) (rM 141) (fcDay d (g 1 5)) 0 n 0).toNat) ∧ (gL 45 d = if srvF (rM 135) (rM 139) (rM 140) (rM 141) (fcDay d (g 1 5)) 0 n 0 = -1 then 24 else gT 24 (srvF (rM 135) (rM 139) (rM 140) (rM 141) (fcDay d (g 1 5)) 0 n 0).toNat)) ∨ (rX 4 7 ≠ 0 ∧ X_rules g = some (-1, up rX 4 2 0))) := by
  obtain ⟨⟨q1, q2, q3⟩, q4⟩ := qT
  obtain ⟨L, hL⟩ := natOf q2
  have eL : (g 4 2).toNat = L := by omega
  rw [eL]
  have O : TpOk (g 41) L := ⟨by omega, fun k hk => (q4 k (by omega)).2⟩
  obtain ⟨T, rX, rM, b, OT, e1, e2, er, f1, f2⟩ := parse_rel O (gX := g) (gM := g) ⟨hL, fun k _ => rfl⟩ ⟨by rw [q1]; exact hL, fun k hk => (q4 k (by omega)).1⟩ qV
  refine ⟨T, rX, rM, OT, f1, e1, ?_⟩
  have u2 : ∀ a b, ¬ (a = 4 ∧ b = 2) → (up rX 4 2 0) a b = rX a b := fun a b h => by rw [up_at, if_neg h]
  rcases er with ⟨_, P⟩ | ⟨_, w, p, F, _⟩
  · have P0 := P
    obtain ⟨k, s, n, R, hn, h33, h35, LN, TN⟩ := P
    have r7 : rX 4 7 = 0 := R.2.2.1
    obtain ⟨gT, t1, fT, t23, t210, t17, t19, t25⟩ := takeOver_s (up rX 4 2 0)
    rw [u2 3 3 (by omega)] at t23
    rw [u2 3 10 (by omega)] at t210
    have t17' : ∀ j, j < 500 → gT 17 j = rX 29 j ∧ gT 18 j = rX 30 j := fun j hj => by
      have := t17 j hj
      rw [u2 29 j (by omega), u2 30 j (by omega)] at this
      exact this
    have t19' : ∀ l, l < 16 → gT 19 l = rX 31 l ∧ gT 20 l = rX 32 l ∧ gT 21 l = rX 33 l ∧ gT 22 l = rX 34 l ∧ gT 23 l = rX 35 l ∧ gT 24 l = rX 36 l := fun l hl => by
      have := t19 l hl
      rw [u2 31 l (by omega), u2 32 l (by omega), u2 33 l (by omega), u2 34 l (by omega), u2 35 l (by omega), u2 36 l (by omega)] at this
      exact this
    have t25' : ∀ i, i < 30 → gT 25 i = rX 37 i ∧ gT 26 i = rX 38 i := fun i hi => by
      have := t25 i hi
      rw [u2 37 i (by omega), u2 38 i (by omega)] at this
      exact this
    have t23' : gT 2 3 = n := t23.trans h33
    have X := POk_xrel R hn LN t23' t17' (fun l hl => ⟨(t19' l hl).1, (t19' l hl).2.1, (t19' l hl).2.2.1, (t19' l hl).2.2.2.1⟩)
    have w15 : gT 1 5 = g 1 5 := by rw [fT 1 5 rfl, u2 1 5 (by omega), f1 1 5 rfl]
    obtain ⟨gL, l1, fL, _, l3⟩ := learn_s (hA := gT 23) (hB := gT 24) 14 0 gT (by omega) w15 X (fun l _ _ => ⟨rfl, rfl⟩)
    have nt : (gT 2 3).toNat = n := by omega
    rw [nt] at l3
    refine Or.inl ⟨r7, P0, n, gT, gL, h33, hn, ?_, fT, fL, t23', t210, t17', t19', t25', fun d hd => l3 d (Nat.zero_le d) hd⟩
    unfold X_rules
    rw [e1, if_pos r7, sb, h33, nwN n (by omega), if_neg (by omega), t1, sb]
    unfold Voyage_learnHours
    have l1' : Voyage_learnHours_b 0 gT = some (0, gL) := l1
    rw [l1', sb]
  · have w1 := F.2.2.1
    have w2 := F.2.2.2.2.2.1
    have r7 : rX 4 7 ≠ 0 := by omega
    refine Or.inr ⟨r7, ?_⟩
    unfold X_rules
    rw [e1, if_neg r7, sb, nw_m1, if_pos rfl]
theorem sm_rules {g : AG} (qT : JTape g) (qR : JRule g) (qH : JHour g) (qW : JWat g) (qV : JVal g) : ∃ r1 r2, X_rules g = some r1 ∧ M_rules r1.2 = some r2 ∧ nw r1.1 = nw r2.1 ∧ JTape r2.2 ∧ JRule r2.2 ∧ JHour r2.2 ∧ JFault r2.2 ∧ JVal r2.2 ∧ FR RRules g r2.2 := by
  obtain ⟨T, rX, rM, OT, f1, e1, er⟩ := X_rules_s qT qV
  have qT0 := qT
  obtain ⟨⟨q1, q2, q3⟩, q4⟩ := qT
  obtain ⟨L, hL⟩ := natOf q2
  have eL : (g 4 2).toNat = L := by omega
  rw [eL] at OT er
  have O : TpOk (g 41) L := ⟨by omega, fun k hk => (q4 k (by omega)).2⟩
  have fU : FR RRX g (up rX 4 2 0) := Fr.up (FR.mo f1 rfl) rfl
  -- the reference, over what the class left
  have second : ∀ gL : AG, FR RRX g gL → ∃ (T' : Nat) (rM' : AG) (b : Int), M_rules gL = M_rules_b 3 b rM' ∧ ((b = 1 ∧ POk (g 41) L T' rX rM') ∨ (b = 0 ∧ PFail (g 41) L T' rX rM')) ∧ FR RQM gL rM' := by
    intro gL fL
    obtain ⟨T', rX', rM', b, OT', e1', e2', er', f1', f2'⟩ := parse_rel O (gX := g) (gM := gL) ⟨hL, fun k _ => rfl⟩ ⟨by rw [fL 117 37 rfl, q1]; exact hL, fun k hk => by rw [fL 146 k rfl]; exact (q4 k (by omega)).1⟩ (by rw [fL 117 41 rfl]; exact qV)
    have eX : rX' = rX := by
      have h := e1'.symm.trans e1
      have h2 : up rX' 4 2 0 = up rX 4 2 0 := congrArg Prod.snd (Option.some.inj h)
      funext a b
      by_cases c : a = 4 ∧ b = 2
      · rw [c.1, c.2, f1' 4 2 rfl, f1 4 2 rfl]
      · have h3 : (up rX' 4 2 0) a b = (up rX 4 2 0) a b := by rw [h2]
        rw [up_at, up_at, if_neg c, if_neg c] at h3
        exact h3
    rw [eX] at er'
    exact ⟨T', rM', b, e2', er', f2'⟩
  rcases er with ⟨r7, P, n, gT, gL, h33, hn, eX, fT, fL, t23, t210, t17, t19, t25, th⟩ | ⟨r7, eX⟩
  · have fgL : FR RRX g gL := fU.tr ((FR.mo fT rfl).tr (FR.mo fL rfl))
    obtain ⟨T', rM', b, e2, er', f2⟩ := second gL fgL
    rcases er' with ⟨hb, k', s', n', R', hn', h33', h35', LN', TN'⟩ | ⟨_, w, p, F, _⟩
    · subst hb
      have en : n' = n := by omega
      subst en
      obtain ⟨g7, hg7⟩ : ∃ g7 : AG, g7 = up (up (up rM' 117 37 0) 117 44 (rM' 117 42)) 117 46 (-1) := ⟨_, rfl⟩
      have f7 : FR [(117, 38), (117, 45), (117, 47)] rM' g7 := by rw [hg7]; exact Fr.up (Fr.up (Fr.up Fr.rf rfl) rfl) rfl
      have s5 : s' ≤ 500 := R'.2.2.2.2.2.2.2.2.2.1
      obtain ⟨gF, k1, kf, k34, kl, k134, k144, k142⟩ := keeps_s (g := g7) (n := n') (s := s') hn' s5 (by rw [f7 117 35 rfl]; exact h35') (by rw [f7 117 36 rfl]; exact R'.2.2.2.2.2.2.2.1) (fun j hj => by
        have t := TN' (j / 2) (by omega) (j % 2) (by omega)
        rw [show 2 * (j / 2) + j % 2 = j by omega] at t
        rw [f7 145 j rfl, t.1]
        by_cases c : tb (rX 3 10) (15 * (j % 2) + j / 2) = true
        · rw [if_pos c]; exact Or.inr rfl
        · rw [if_neg c]; exact Or.inl rfl)
      have fF : FR RRM gL gF := (FR.mo f2 rfl).tr ((FR.mo f7 rfl).tr (FR.mo kf rfl))
      have fgF : FR RRules g gF := (FR.mo fgL rfl).tr (FR.mo fF rfl)
      have c2 : gF 2 3 = n' := by rw [fF 2 3 rfl, fL 2 3 rfl]; exact t23
      have cX : ∀ a l, a = 17 ∨ a = 18 ∨ a = 19 ∨ a = 20 ∨ a = 21 ∨ a = 22 ∨ a = 23 ∨ a = 24 ∨ a = 25 ∨ a = 26 → gF a l = gT a l := fun a l ha => by
        rcases ha with rfl | rfl | rfl | rfl | rfl | rfl | rfl | rfl | rfl | rfl <;> rw [fF _ l rfl, fL _ l rfl]
      have c310 : gF 2 10 = rX 3 10 := by rw [fF 2 10 rfl, fL 2 10 rfl]; exact t210
      have k134' : ∀ j, j < 2 * s' → gF 134 j = rM' 141 j := fun j hj => by rw [k134 j, if_pos hj, f7 141 j rfl]
      have op := R'.2.2.2.2.2.2.2.2.2.2.1
      have jl : JRuL gF := fun l hl => by
        obtain ⟨h1, h2, h3, ⟨a, b, c, e1, e2, e3, l1, l2, l3, v1, v2⟩, h5⟩ := LN' l (by omega)
        have t := t19 l (by omega)
        have kk := kl l (by omega)
        rw [cX 19 l (by omega), cX 20 l (by omega), cX 21 l (by omega), cX 22 l (by omega), kk.1, kk.2.2.2.1, kk.2.2.2.2.1, kk.2.2.2.2.2, f7 135 l rfl, f7 138 l rfl, f7 139 l rfl, f7 140 l rfl, t.1, t.2.1, t.2.2.1, t.2.2.2.1]
        exact ⟨h1, h2, h3, by omega⟩
      have jh : JRuH gF := fun l hl h0 => by
        obtain ⟨h1, h2, h3, _, h5⟩ := LN' l (by omega)
        have t := t19 l (by omega)
        have kk := kl l (by omega)
        rw [kk.1, f7 135 l rfl] at h0
        rw [kk.2.1, kk.2.2.1, f7 136 l rfl, f7 137 l rfl, cX 23 l (by omega), cX 24 l (by omega), t.2.2.2.2.1, t.2.2.2.2.2]
        exact h5 h0
      have hrule : JRule gF := by
        refine ⟨⟨by rw [c2]; exact k34, by omega, by omega⟩, fun j hj => ?_, jl, jh, fun l hl h2 fc => ?_, fun l hl h2 fc => ?_, fun l hl j h1 h2 => ?_, fun i hi => ?_⟩
        · rw [k134 j]
          by_cases c : j < 2 * s'
          · rw [if_pos c, f7 141 j rfl]; exact R'.2.2.2.2.2.2.2.2.2.2.2.1 j c
          · rw [if_neg c, f7 134 j rfl, f2 134 j rfl, fgL 134 j rfl]; exact qR.2.1 j hj
        · obtain ⟨h1, h2', h3, ⟨a, b, c, e1, e2, e3, l1, l2, l3, v1, v2⟩, h5⟩ := LN' l (by omega)
          have t := t19 l (by omega)
          have kk := kl l (by omega)
          rw [kk.1, f7 135 l rfl] at h2
          rw [cX 20 l (by omega), cX 21 l (by omega), t.2.1, t.2.2.1, e1, e2, show ((b : Int) - (a : Int)).toNat = b - a by omega, Int.toNat_natCast]
          have q := (v1 h2).cd (cd' := gF 134) l1 (fun j hj => k134' j (by omega))
          exact q fc [] (by simp)
        · obtain ⟨h1, h2', h3, ⟨a, b, c, e1, e2, e3, l1, l2, l3, v1, v2⟩, h5⟩ := LN' l (by omega)
          have t := t19 l (by omega)
          rw [cX 21 l (by omega), cX 22 l (by omega), t.2.2.1, t.2.2.2.1, e2, e3] at h2
          rw [cX 21 l (by omega), cX 22 l (by omega), t.2.2.1, t.2.2.2.1, e2, e3, show ((c : Int) - (b : Int)).toNat = c - b by omega, Int.toNat_natCast]
          have q := (v2 (by omega)).cd (cd' := gF 134) l2 (fun j hj => k134' j (by omega))
          exact q fc [] (by simp)
        · obtain ⟨h1', h2', h3, ⟨a, b, c, e1, e2, e3, l1, l2, l3, v1, v2⟩, h5⟩ := LN' l (by omega)
          have t := t19 l (by omega)
          rw [cX 22 l (by omega), t.2.2.2.1, e3] at h2
          have tj := t17 j (by omega)
          rw [cX 17 j (by omega), cX 18 j (by omega), tj.1, tj.2, k134' (2 * j) (by omega), k134' (2 * j + 1) (by omega)]
          exact op j (by omega)
        · have a := TN' i hi 0 (by omega)
          have b := TN' i hi 1 (by omega)
          have ti := t25 i (by omega)
          have ti2 := t25 (15 + i) (by omega)
          rw [show 2 * i + 0 = 2 * i by omega, show 15 * 0 + i = i by omega] at a
          rw [show 15 * 1 + i = 15 + i by omega] at b
          rw [k144 (2 * i) (by omega), k144 (2 * i + 1) (by omega), k142 (2 * (2 * i)) (by omega), k142 (2 * (2 * i) + 1) (by omega), k142 (2 * (2 * i + 1)) (by omega), k142 (2 * (2 * i + 1) + 1) (by omega), f7 145 _ rfl, f7 145 _ rfl, f7 143 _ rfl, f7 143 _ rfl, f7 143 _ rfl, f7 143 _ rfl, cX 25 i (by omega), cX 26 i (by omega), cX 25 (15 + i) (by omega), cX 26 (15 + i) (by omega), ti.1, ti.2, ti2.1, ti2.2, c310]
          exact ⟨a, b⟩
      have c42 : gF 4 2 = 0 := by rw [fF 4 2 rfl, fL 4 2 rfl, fT 4 2 rfl, up_at, if_pos ⟨rfl, rfl⟩]
      have jt : JTape gF := by
        refine ⟨⟨?_, by omega, by omega⟩, fun k hk => by omega⟩
        rw [c42, kf 117 37 rfl, hg7, up_at, if_neg (by omega), up_at, if_neg (by omega), up_at, if_pos ⟨rfl, rfl⟩]
      have jhr : JHour gF := by
        intro d hd
        obtain ⟨k, s, n2, R, hn2, h332, h352, LN, TN⟩ := P
        have en2 : n2 = n' := by omega
        subst en2
        have s5' : s ≤ 500 := R.2.2.2.2.2.2.2.2.2.1
        have tt := th d hd
        have w10 : gF 117 10 = g 1 5 := by rw [fF 117 10 rfl, fgL 117 10 rfl]; exact qW.1
        have es : srvF (rM 135) (rM 139) (rM 140) (rM 141) (fcDay d (g 1 5)) 0 n2 0 = srvG gF (fcDay d (gF 117 10)) 0 (gF 2 3).toNat 0 := by
          rw [w10, c2, Int.toNat_natCast]
          refine srvF_cg n2 0 (fun j _ hj => ?_)
          obtain ⟨h1, h2, h3, ⟨a, b, c, e1, e2, e3, l1, l2, l3, v1, v2⟩, h5⟩ := LN j (by omega)
          obtain ⟨h1', h2', h3', ⟨a', b', c', e1', e2', e3', l1', l2', l3', v1', v2'⟩, h5'⟩ := LN' j (by omega)
          have kk := kl j (by omega)
          have eb : b' = b := by omega
          have ec : c' = c := by omega
          refine ⟨?_, ?_, ?_, ?_⟩
          · rw [kk.1, f7 135 j rfl]; omega
          · rw [kk.2.2.2.2.1, f7 139 j rfl, h3.2.1, h3'.2.1]
          · rw [kk.2.2.2.2.2, f7 140 j rfl, h3.2.2, h3'.2.2]
          · rw [h3.2.1, h3.2.2, e2, e3, show ((c : Int) - (b : Int)).toNat = c - b by omega, Int.toNat_natCast]
            refine evl_op (w := rX 29) (c := rX 30) (c - b) b [] (fun i i1 i2 => ⟨R.2.2.2.2.2.2.2.2.2.2.1 i (by omega), ?_⟩)
            rw [k134' (2 * i) (by omega), k134' (2 * i + 1) (by omega)]
            exact op i (by omega)
        have rg := srvF_rng (kd := gF 128) (md := gF 132) (en := gF 133) (cd := gF 134) (fc := fcDay d (gF 117 10)) (sort := 0) (gF 2 3).toNat 0
        rw [es] at tt
        unfold hrA hrB
        rw [fF 44 d rfl, fF 45 d rfl, tt.1, tt.2]
        have rg2 : srvG gF (fcDay d (gF 117 10)) 0 (gF 2 3).toNat 0 = -1 ∨ (((0 : Nat) : Int) ≤ srvG gF (fcDay d (gF 117 10)) 0 (gF 2 3).toNat 0 ∧ srvG gF (fcDay d (gF 117 10)) 0 (gF 2 3).toNat 0 < ((0 + (gF 2 3).toNat : Nat) : Int) ∧ gF 128 (srvG gF (fcDay d (gF 117 10)) 0 (gF 2 3).toNat 0).toNat = 0) := rg
        generalize srvG gF (fcDay d (gF 117 10)) 0 (gF 2 3).toNat 0 = v at rg2 ⊢
        rcases rg2 with r | ⟨r1, r2, r3⟩
        · rw [if_pos r, if_pos r, if_pos r, if_pos r]
          exact ⟨rfl, rfl⟩
        · have vn : ¬ v = -1 := by omega
          have hh := jh v.toNat (by omega) r3
          rw [if_neg vn, if_neg vn, if_neg vn, if_neg vn, hh.1, hh.2.1, cX 23 _ (by omega), cX 24 _ (by omega)]
          exact ⟨rfl, rfl⟩
      have jf : JFault gF := by
        refine ⟨?_, ?_⟩
        · rw [kf 117 44 rfl, hg7, up_at, if_neg (by omega), up_at, if_pos ⟨rfl, rfl⟩, R'.2.2.2.2.2.2.2.2.2.2.2.2.2, fF 4 7 rfl, fL 4 7 rfl, fT 4 7 rfl, up_at, if_neg (by omega), r7]
        · rw [kf 117 46 rfl, hg7, up_at, if_pos ⟨rfl, rfl⟩, fF 4 8 rfl, fL 4 8 rfl, fT 4 8 rfl, up_at, if_neg (by omega), R'.2.2.2.2.2.2.2.2.2.2.2.2.1]
      have jv : JVal gF := by
        unfold JVal
        rw [kf 117 41 rfl, f7 117 41 rfl]
        exact R'.2.2.2.2.2.2.1
      refine ⟨((n' : Int), gL), ((n' : Int), gF), eX, ?_, rfl, jt, hrule, jhr, jf, jv, fgF⟩
      have u1 : (up rM' 117 37 0) 117 42 = rM' 117 42 := by rw [up_at, if_neg (by omega)]
      rw [e2, M_rules_b.eq_1 3, if_neg (by decide), if_neg (by decide), if_pos rfl, sb, u1, sb, nw_1, if_neg (by decide), sb, sb, ← hg7, if_neg (by decide), k1, sb]
      dsimp only
      rw [k34]
    · exfalso
      have w1 := F.2.2.1
      have w2 := F.2.2.2.2.2.1
      omega
  · obtain ⟨T', rM', b, e2, er', f2⟩ := second _ fU
    rcases er' with ⟨_, k', s', n', R', _⟩ | ⟨hb, w, p, F, b4, b5, b6⟩
    · exact absurd R'.2.2.1 r7
    · subst hb
      obtain ⟨g7, hg7⟩ : ∃ g7 : AG, g7 = up (up (up rM' 117 37 0) 117 44 (rM' 117 42)) 117 46 (rM' 117 43) := ⟨_, rfl⟩
      have f7 : FR [(117, 38), (117, 45), (117, 47)] rM' g7 := by rw [hg7]; exact Fr.up (Fr.up (Fr.up Fr.rf rfl) rfl) rfl
      have fF : FR [(117, 36), (117, 39), (117, 40), (117, 41), (117, 42), (117, 43), (117, 44), (117, 37), (117, 46), (135, 0), (136, 0), (137, 0), (138, 0), (139, 0), (140, 0), (141, 0), (143, 0), (145, 0), (117, 38), (117, 45), (117, 47)] (up rX 4 2 0) g7 := (FR.mo f2 rfl).tr (FR.mo f7 rfl)
      have fU2 : FR [(4, 3), (4, 6), (4, 7), (4, 8), (4, 9), (3, 3), (3, 4), (3, 11), (29, 0), (30, 0), (31, 0), (32, 0), (33, 0), (34, 0), (35, 0), (36, 0), (37, 0), (38, 0), (42, 0), (43, 0)] g (up rX 4 2 0) := Fr.up (FR.mo f1 rfl) rfl
      have c42 : g7 4 2 = 0 := by rw [fF 4 2 rfl, up_at, if_pos ⟨rfl, rfl⟩]
      have c47 : g7 4 7 = w := by rw [fF 4 7 rfl, up_at, if_neg (by omega)]; exact F.2.2.1
      have c48 : g7 4 8 = p := by rw [fF 4 8 rfl, up_at, if_neg (by omega)]; exact F.2.2.2.1
      have jt : JTape g7 := by
        refine ⟨⟨?_, by omega, by omega⟩, fun k hk => by omega⟩
        rw [c42, hg7, up_at, if_neg (by omega), up_at, if_neg (by omega), up_at, if_pos ⟨rfl, rfl⟩]
      have jf : JFault g7 := by
        refine ⟨?_, ?_⟩
        · rw [c47, hg7, up_at, if_neg (by omega), up_at, if_pos ⟨rfl, rfl⟩]; exact b4
        · rw [c48, hg7, up_at, if_pos ⟨rfl, rfl⟩]; exact b5
      have jv : JVal g7 := by
        unfold JVal
        rw [f7 117 41 rfl]
        exact b6
      refine ⟨(-1, up rX 4 2 0), (-1, g7), eX, ?_, rfl, jt, (qR.cg (fU2.cg rfl)).cg (fF.cg rfl), (qH.cg (fU2.cg rfl)).cg (fF.cg rfl), jf, jv, (FR.mo fU rfl).tr (FR.mo fF rfl)⟩
      have u1 : (up rM' 117 37 0) 117 42 = rM' 117 42 := by rw [up_at, if_neg (by omega)]
      have u3 : (up (up rM' 117 37 0) 117 44 (rM' 117 42)) 117 43 = rM' 117 43 := by rw [up_at, if_neg (by omega), up_at, if_neg (by omega)]
      rw [e2, M_rules_b.eq_1 3, if_neg (by decide), if_neg (by decide), if_pos rfl, sb, u1, sb, nw_0, if_pos rfl, u3, sb, sb, ← hg7, if_pos rfl]
