/-! plain programs: all lines, both sides -/
abbrev RQM : Reg := [(117, 36), (117, 39), (117, 40), (117, 41), (117, 42), (117, 43), (117, 44), (117, 37), (117, 46), (135, 0), (136, 0), (137, 0), (138, 0), (139, 0), (140, 0), (141, 0), (143, 0), (145, 0)]
def POk (tp : Nat → Int) (L T : Nat) (rX rM : AG) : Prop := ∃ k s n : Nat, PRel tp L T k s rX rM ∧ n ≤ 16 ∧ rX 3 3 = n ∧ rM 117 35 = n ∧ (∀ l, l < n → LnR s rX rM l) ∧ TnR rX rM
theorem lines_rel {tp : Nat → Int} {L T : Nat} (O : TkOk tp L T) : ∀ (N k s n : Nat) (gX gM : AG), T - k = N → PRel tp L T k s gX gM → s ≤ k → n ≤ 16 → gX 3 3 = n → gM 117 35 = n → (∀ l, l < n → LnR s gX gM l) → TnR gX gM → ∃ (rX rM : AG) (b i : Int), Parser_read_b 1 n gX = Parser_read_b 2 i rX ∧ M_rules_b 2 1 gM = M_rules_b 3 b rM ∧ ((b = 1 ∧ POk tp L T rX rM) ∨ (b = 0 ∧ PFail tp L T rX rM)) ∧ FR RLX gX rX ∧ FR RQM gM rM := by
  intro N
  induction N using Nat.strongRecOn with
  | ind N ih =>
  intro k s n gX gM hN R hs hn h33 h35 LN TN
  have hT := O.T500
  obtain ⟨x, m, v, tk, hxx, hm, nx, nm, hv, z1, z2, pl⟩ := R.see O
  have a2 := R.2.1
  have a3 := R.2.2.1
  have a9 := R.2.2.2.2.2.2.2.2.1
  have kT : x ≠ 0 → k < T := fun h => Nat.lt_of_le_of_ne a9 (fun q => h (z2 q))
  have m0 : x = 0 ↔ m = 0 := tk_0 tk
  have nk : nw (k : Int) = k := nwN k (by ((try clear nk); (try clear ik); (try clear nn); (try clear tokn); (try clear ex); (try clear mh); omega))
  have ik : ix (k : Int) = k := ixN k (by ((try clear nk); (try clear ik); (try clear nn); (try clear tokn); (try clear ex); (try clear mh); omega))
  have n16 : ¬ (16 : Int) < (n : Int) := by ((try clear nk); (try clear ik); (try clear nn); (try clear tokn); (try clear ex); (try clear mh); omega)
  have nn : nw (n : Int) = n := nwN n (by ((try clear nk); (try clear ik); (try clear nn); (try clear tokn); (try clear ex); (try clear mh); omega))
  have tokn : 0 ≤ nw (gX 4 6) ∧ nw (gX 4 6) < 501 := by rw [a2, nk]; ((try clear nk); (try clear ik); (try clear nn); (try clear tokn); (try clear ex); (try clear mh); omega)
  have ex : gX 42 (ix (gX 4 6)) = x := by rw [a2, ik]; exact hxx
  have xh : Parser_read_b 1 n gX = (if x = 0 then Parser_read_b 2 n gX else (Parser_readLine gX >>= fun r5 => Parser_read_b 1 ((n : Int) + 1) r5.2)) := by
    rw [Parser_read_b.eq_1 1, if_pos rfl, nn, if_neg n16, a3, nw_0, if_pos rfl, if_pos tokn, ex, nx]
  have mh : M_rules_b 2 1 gM = (if m = 0 then M_rules_b 3 1 gM else (M_aLine gM >>= fun r3 => (some (if nw r3.1 = 0 then 0 else 1) >>= fun t5 => (some (up r3.2 117 35 (r3.2 117 35 + t5)) >>= fun g7 => M_rules_b 2 r3.1 g7)))) := by
    rw [M_rules_b.eq_1 2, if_neg (by decide), if_pos rfl, nw_1, if_neg (by decide), hm, nm]
  rw [xh, mh]
  by_cases c : x = 0
  · rw [if_pos c, if_pos (m0.mp c)]
    exact ⟨gX, gM, 1, n, rfl, rfl, Or.inl ⟨rfl, k, s, n, R, hn, h33, h35, LN, TN⟩, Fr.rf, Fr.rf⟩
  · rw [if_neg c, if_neg (fun q => c (m0.mpr q))]
    obtain ⟨rX1, rM1, u1, u2, ur, f1, f2⟩ := line_rel O R hs hn h33 h35 LN TN
    rw [u1, u2, sb, sb]
    have c35 : rM1.2 117 35 = n := by rw [f2 117 35 rfl]; exact h35
    rcases ur with ⟨ok, n16', k', s', R', sk, kk, h33', LN', TN'⟩ | ⟨bad0, w, p, F, b4, b5⟩
    · obtain ⟨m7, hm7⟩ : ∃ m7 : AG, m7 = up rM1.2 117 35 (rM1.2 117 35 + 1) := ⟨_, rfl⟩
      have f7 : FR [(117, 36)] rM1.2 m7 := by rw [hm7]; exact Fr.up Fr.rf rfl
      have b9 := R'.2.2.2.2.2.2.2.2.1
      obtain ⟨rX, rM, b, i, e1, e2, er, g1, g2⟩ := ih (T - k') (by ((try clear nk); (try clear ik); (try clear nn); (try clear tokn); (try clear ex); (try clear mh); omega)) k' s' (n + 1) rX1 m7 rfl (R'.frm f7 rfl) sk (by ((try clear nk); (try clear ik); (try clear nn); (try clear tokn); (try clear ex); (try clear mh); omega)) h33' (by rw [hm7, up_at, if_pos ⟨rfl, rfl⟩, c35]; rfl) (fun l hl => (LN' l hl).tr (Nat.le_refl s') rfl rfl rfl rfl rfl rfl (f7 135 l rfl) (f7 136 l rfl) (f7 137 l rfl) (f7 138 l rfl) (f7 139 l rfl) (f7 140 l rfl) (fun j _ => f7 141 j rfl)) (TN'.fr (Fr.rf (W := inR [(1, 0)])) rfl f7 rfl)
      refine ⟨rX, rM, b, i, e1, ?_, er, f1.tr g1, (FR.mo f2 rfl).tr ((FR.mo f7 rfl).tr g2)⟩
      rw [ok, nw_1, if_neg (by decide), sb, sb, ← hm7]
      exact e2
    · obtain ⟨m7, hm7⟩ : ∃ m7 : AG, m7 = up rM1.2 117 35 (rM1.2 117 35 + 0) := ⟨_, rfl⟩
      have f7 : FR [(117, 36)] rM1.2 m7 := by rw [hm7]; exact Fr.up Fr.rf rfl
      refine ⟨rX1, m7, 0, (n : Int) + 1, ?_, ?_, Or.inr ⟨rfl, w, p, F, by rw [f7 117 42 rfl]; exact b4, by rw [f7 117 43 rfl, f7 117 41 rfl]; exact b5⟩, f1, (FR.mo f2 rfl).tr (FR.mo f7 rfl)⟩
      · show Parser_read_b 1 ((n : Int) + 1) rX1 = _
        rw [Parser_read_b.eq_1 1, if_pos rfl, if_neg F.nw7]
        by_cases y : 16 < nw ((n : Int) + 1)
        · rw [if_pos y]
        · rw [if_neg y]
      · rw [bad0, nw_0, if_pos rfl, sb, sb, ← hm7, M_rules_b.eq_1 2, if_neg (by decide), if_pos rfl, nw_0, if_pos rfl]
theorem M_clear_s : ∀ (n k : Nat) (g : AG), k + n = 30 → ∃ g', M_rules_b 1 k g = M_rules_b 1 30 g' ∧ FR [(145, 0)] g g' ∧ (∀ j, k ≤ j → j < 30 → g' 145 j = 0) ∧ ∀ j, j < k → g' 145 j = g 145 j := by
  intro n
  induction n with
  | zero =>
    intro k g h
    have e : k = 30 := by omega
    subst e
    exact ⟨g, rfl, Fr.rf, fun j h1 h2 => by omega, fun j _ => rfl⟩
  | succ n ih =>
    intro k g h
    obtain ⟨g', e, f, r1, r2⟩ := ih (k + 1) (up g 145 k 0) (by omega)
    refine ⟨g', ?_, (Fr.up Fr.rf rfl).tr f, fun j h1 h2 => ?_, fun j h1 => ?_⟩
    · rw [M_rules_b.eq_1 1, if_pos rfl, nwN k (by omega), if_neg (by omega), if_pos (by omega), ixN k (by omega), sb]
      exact e
    · by_cases y : j = k
      · rw [y, r2 k (by omega), up_at, if_pos ⟨rfl, rfl⟩]
      · exact r1 j (by omega) h2
    · rw [r2 j (by omega), up_at, if_neg (fun q => by omega)]
abbrev RPA : Reg := [(4, 6), (4, 7), (4, 8), (4, 9), (3, 3), (3, 4), (3, 11), (29, 0), (30, 0), (31, 0), (32, 0), (33, 0), (34, 0), (35, 0), (36, 0), (37, 0), (38, 0), (42, 0), (43, 0)]
theorem parse_rel {tp : Nat → Int} {L : Nat} (O : TpOk tp L) {gX gM : AG} (TX : TapX gX tp L) (TM : TapM gM tp L) (hv : 0 ≤ gM 117 41 ∧ gM 117 41 ≤ 9999) : ∃ (T : Nat) (rX rM : AG) (b : Int), TkOk tp L T ∧ Parser_read gX = some (if rX 4 7 = 0 then rX 3 3 else -1, up rX 4 2 0) ∧ M_rules gM = M_rules_b 3 b rM ∧ ((b = 1 ∧ POk tp L T rX rM) ∨ (b = 0 ∧ PFail tp L T rX rM)) ∧ FR RPA gX rX ∧ FR RQM gM rM := by
  -- the class: its tokens
  obtain ⟨g5, hg5⟩ : ∃ g5 : AG, g5 = up (up (up gX 4 7 0) 4 8 (-1)) 4 6 0 := ⟨_, rfl⟩
  obtain ⟨g7, hg7⟩ : ∃ g7 : AG, g7 = fillG (fillG (up (up (up g5 3 2 0) 3 3 0) 3 10 0) 37 30 0) 38 30 0 := ⟨_, rfl⟩
  have f5 : FR RPA gX g5 := by rw [hg5]; exact Fr.up (Fr.up (Fr.up Fr.rf rfl) rfl) rfl
  have f7 : FR [(3, 3), (3, 4), (3, 11), (37, 0), (38, 0)] g5 g7 := by
    rw [hg7]
    exact Fr.fill (Fr.fill (Fr.up (Fr.up (Fr.up Fr.rf rfl) rfl) rfl) (fun _ => rfl)) (fun _ => rfl)
  have clr : Rules_clear g5 = some (0, g7) := by
    unfold Rules_clear
    rw [sb, sb, sb, sb, sb, hg7]
  have fX7 : FR RPA gX g7 := f5.tr (FR.mo f7 rfl)
  obtain ⟨g9, T, e9, f9, tL, c5, cT, cK, ck⟩ := X_scan_s O (g := g7) ⟨by rw [fX7 4 2 rfl]; exact TX.1, fun k hk => by rw [fX7 41 k rfl]; exact TX.2 k hk⟩
  have OT : TkOk tp L T := ⟨O, tL, cT, cK⟩
  have fX9 : FR RPA gX g9 := fX7.tr (FR.mo f9 rfl)
  have x6 : g9 4 6 = 0 := by rw [f9 4 6 rfl, f7 4 6 rfl, hg5, up_at, if_pos ⟨rfl, rfl⟩]
  have x7 : g9 4 7 = 0 := by rw [f9 4 7 rfl, f7 4 7 rfl, hg5, up_at, if_neg (by ((try clear n7); omega)), up_at, if_neg (by ((try clear n7); omega)), up_at, if_pos ⟨rfl, rfl⟩]
  have x8 : g9 4 8 = -1 := by rw [f9 4 8 rfl, f7 4 8 rfl, hg5, up_at, if_neg (by ((try clear n7); omega)), up_at, if_pos ⟨rfl, rfl⟩]
  have x2 : g9 3 2 = 0 := by rw [f9 3 2 rfl, hg7]; simp [up_at, fill_at]
  have x3 : g9 3 3 = 0 := by rw [f9 3 3 rfl, hg7]; simp [up_at, fill_at]
  have x10 : g9 3 10 = 0 := by rw [f9 3 10 rfl, hg7]; simp [up_at, fill_at]
  have x37 : ∀ j, j < 30 → g9 37 j = 0 ∧ g9 38 j = 0 := fun j hj => by
    refine ⟨?_, ?_⟩
    · rw [f9 37 j rfl, hg7]; simp [fill_at, hj]
    · rw [f9 38 j rfl, hg7]; simp [fill_at, hj]
  -- the reference
  obtain ⟨m7, hm7⟩ : ∃ m7 : AG, m7 = up (up (up (up gM 117 42 0) 117 38 0) 117 35 0) 117 36 0 := ⟨_, rfl⟩
  have fm7 : FR RQM gM m7 := by rw [hm7]; exact Fr.up (Fr.up (Fr.up (Fr.up Fr.rf rfl) rfl) rfl) rfl
  obtain ⟨m8, e8, fm8, z1, z2⟩ := M_clear_s 30 0 m7 (by ((try clear n7); omega))
  have fM8 : FR RQM gM m8 := fm7.tr (FR.mo fm8 rfl)
  have y38 : m8 117 38 = ((0 : Nat) : Int) := by rw [fm8 117 38 rfl, hm7, up_at, if_neg (by ((try clear n7); omega)), up_at, if_neg (by ((try clear n7); omega)), up_at, if_pos ⟨rfl, rfl⟩]; rfl
  have y41 : m8 117 41 = gM 117 41 := by rw [fm8 117 41 rfl, hm7, up_at, if_neg (by ((try clear n7); omega)), up_at, if_neg (by ((try clear n7); omega)), up_at, if_neg (by ((try clear n7); omega)), up_at, if_neg (by ((try clear n7); omega))]
  have y36 : m8 117 36 = 0 := by rw [fm8 117 36 rfl, hm7, up_at, if_pos ⟨rfl, rfl⟩]
  have y35 : m8 117 35 = 0 := by rw [fm8 117 35 rfl, hm7, up_at, if_neg (by ((try clear n7); omega)), up_at, if_pos ⟨rfl, rfl⟩]
  obtain ⟨m9, em9, at9, fm9, v9⟩ := M_next0_s O (p := 0) (g := m8) ⟨by rw [fM8 117 37 rfl]; exact TM.1, fun k hk => by rw [fM8 146 k rfl]; exact TM.2 k hk⟩ (by ((try clear n7); omega)) y38 (by rw [y41]; exact hv)
  have fM9 : FR RQM gM m9 := fM8.tr (FR.mo fm9 rfl)
  have R : PRel tp L T 0 0 g9 m9 := ⟨⟨c5, ck⟩, x6, x7, x2, ⟨by rw [fM9 117 37 rfl]; exact TM.1, fun k hk => by rw [fM9 146 k rfl]; exact TM.2 k hk⟩, at9, v9, by rw [fm9 117 36 rfl]; exact y36, Nat.zero_le _, by ((try clear n7); omega), fun j hj => by ((try clear n7); omega), fun j hj => by ((try clear n7); omega), x8, by rw [fm9 117 42 rfl, fm8 117 42 rfl, hm7, up_at, if_neg (by ((try clear n7); omega)), up_at, if_neg (by ((try clear n7); omega)), up_at, if_neg (by ((try clear n7); omega)), up_at, if_pos ⟨rfl, rfl⟩]⟩
  have TN : TnR g9 m9 := by
    intro i hi u hu
    have c1 : m9 145 (2 * i + u) = 0 := by rw [fm9 145 _ rfl]; exact z1 _ (Nat.zero_le _) (by ((try clear n7); omega))
    have c2 := x37 (15 * u + i) (by ((try clear n7); omega))
    rw [c1, c2.1, c2.2, x10, tb_0]
    exact ⟨rfl, fun h => absurd h (by decide), fun _ => ⟨rfl, rfl⟩, by ((try clear n7); omega), by ((try clear n7); omega)⟩
  obtain ⟨rX, rM, b, i, e1, e2, er, g1, g2⟩ := lines_rel OT (T - 0) 0 0 0 g9 m9 rfl R (Nat.le_refl 0) (by ((try clear n7); omega)) x3 (by rw [fm9 117 35 rfl]; exact y35) (fun l hl => by ((try clear n7); omega)) TN
  refine ⟨T, rX, rM, b, OT, ?_, ?_, er, fX9.tr (FR.mo g1 rfl), fM9.tr g2⟩
  · have e1' : Parser_read_b 1 0 g9 = Parser_read_b 2 i rX := e1
    have d : Parser_read gX = Parser_read_b 2 i rX := by
      unfold Parser_read
      rw [sb, sb, sb, ← hg5, clr, sb, e9, sb]
      exact e1'
    have u7 : (up rX 4 2 0) 4 7 = rX 4 7 := by rw [up_at, if_neg (by ((try clear n7); omega))]
    have u3 : (up rX 4 2 0) 3 3 = rX 3 3 := by rw [up_at, if_neg (by ((try clear n7); omega))]
    have n7 : (nw (rX 4 7) = 0) = (rX 4 7 = 0) := by
      rcases er with ⟨_, k, s, n, R', _⟩ | ⟨_, w, p, F, _⟩
      · rw [R'.2.2.1, nw_0]
      · have w1 := F.2.2.1
        have w2 := F.2.2.2.2.2.1
        have w3 := F.2.2.2.2.2.2.1
        rw [w1, nw_id (by ((try clear n7); omega)) (by ((try clear n7); omega))]
    rw [d, Parser_read_b.eq_1 2, if_neg (by decide), if_pos rfl, sb, u7, u3, sb]
    by_cases y : rX 4 7 = 0
    · rw [if_pos y, if_pos (by rw [n7]; exact y)]
    · rw [if_neg y, if_neg (by rw [n7]; exact y)]
  · unfold M_rules
    rw [sb, sb, sb, sb, ← hm7]
    have e8' : M_rules_b 1 0 m7 = M_rules_b 1 30 m8 := e8
    rw [e8', M_rules_b.eq_1 1, if_pos rfl, nw_id (a := 30) (by decide) (by decide), if_pos (Int.le_refl _), em9, sb]
    exact e2
