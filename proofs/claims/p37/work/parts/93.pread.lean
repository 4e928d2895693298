/-! plain programs: a line, both sides -/
def LnR (s : Nat) (gX gM : AG) (l : Nat) : Prop := gX 31 l = gM 135 l + 100 ∧ (0 ≤ gM 135 l ∧ gM 135 l ≤ 4) ∧ (gM 138 l = gX 32 l ∧ gM 139 l = gX 33 l ∧ gM 140 l = gX 34 l) ∧ (∃ a b c : Nat, gX 32 l = a ∧ gX 33 l = b ∧ gX 34 l = c ∧ a ≤ b ∧ b ≤ c ∧ c ≤ s ∧ (2 ≤ gM 135 l → EvN 3 (gM 141) a b) ∧ (b < c → EvB 22 (gM 141) b c)) ∧ (gM 135 l = 0 → gM 136 l = gX 35 l ∧ gM 137 l = gX 36 l ∧ (0 ≤ gX 35 l ∧ gX 35 l ≤ 24) ∧ (0 ≤ gX 36 l ∧ gX 36 l ≤ 24))
theorem LnR.tr {s s' l : Nat} {gX gM gX' gM' : AG} (h : LnR s gX gM l) (hs : s ≤ s') (x1 : gX' 31 l = gX 31 l) (x2 : gX' 32 l = gX 32 l) (x3 : gX' 33 l = gX 33 l) (x4 : gX' 34 l = gX 34 l) (x5 : gX' 35 l = gX 35 l) (x6 : gX' 36 l = gX 36 l) (m5 : gM' 135 l = gM 135 l) (m6 : gM' 136 l = gM 136 l) (m7 : gM' 137 l = gM 137 l) (m8 : gM' 138 l = gM 138 l) (m9 : gM' 139 l = gM 139 l) (m0 : gM' 140 l = gM 140 l) (lo : ∀ j, j < 2 * s → gM' 141 j = gM 141 j) : LnR s' gX' gM' l := by
  obtain ⟨h1, h2, h3, ⟨a, b, c, e1, e2, e3, l1, l2, l3, v1, v2⟩, h5⟩ := h
  unfold LnR
  rw [x1, x2, x3, x4, x5, x6, m5, m6, m7, m8, m9, m0]
  exact ⟨h1, h2, h3, ⟨a, b, c, e1, e2, e3, l1, l2, by omega, fun q => (v1 q).cd l1 (fun j hj => lo j (by omega)), fun q => (v2 q).cd l2 (fun j hj => lo j (by omega))⟩, h5⟩
abbrev RLX : Reg := [(4, 7), (4, 8), (4, 9), (3, 3), (3, 4), (3, 11), (29, 0), (30, 0), (31, 0), (32, 0), (33, 0), (34, 0), (35, 0), (36, 0), (37, 0), (38, 0)]
abbrev RLN : Reg := [(117, 39), (117, 40), (117, 41), (117, 42), (117, 43), (117, 44), (117, 37), (117, 46), (135, 0), (136, 0), (137, 0), (138, 0), (139, 0), (140, 0), (141, 0), (143, 0), (145, 0)]
def LOut (tp : Nat → Int) (L T k n : Nat) (gX gM rX : AG) (rM : Int × AG) : Prop := ((rM.1 = 1 ∧ n < 16 ∧ ∃ k' s', PRel tp L T k' s' rX rM.2 ∧ s' ≤ k' ∧ k < k' ∧ rX 3 3 = ((n + 1 : Nat) : Int) ∧ (∀ l, l < n + 1 → LnR s' rX rM.2 l) ∧ TnR rX rM.2) ∨ (rM.1 = 0 ∧ PFail tp L T rX rM.2)) ∧ FR RLX gX rX ∧ FR RLN gM rM.2
theorem line_end {tp : Nat → Int} {L T : Nat} (O : TkOk tp L T) {k k2 s2 n : Nat} {gX gM g1 m1 : AG} (R : PRel tp L T k2 s2 g1 m1) (hs : s2 ≤ k2) (hk : k ≤ k2) (fx : FR RLX gX g1) (fm : FR RLN gM m1) (h45 : m1 117 45 = 0) (hn : n < 16) (h33 : g1 3 3 = n) {x : Int} (hx : x ≠ 101) (LN : ∀ l, l < n → LnR s2 g1 m1 l) (TN : TnR g1 m1) {s : Nat} (q1 : g1 31 n = m1 135 n + 100) (q2 : 0 ≤ m1 135 n ∧ m1 135 n ≤ 4) (q3 : m1 138 n = s) (q4 : g1 32 n = s) (hss : s ≤ s2) (ev : 2 ≤ m1 135 n → EvN 3 (m1 141) s s2) (hh : m1 135 n = 0 → m1 136 n = g1 35 n ∧ m1 137 n = g1 36 n ∧ (0 ≤ g1 35 n ∧ g1 35 n ≤ 24) ∧ (0 ≤ g1 36 n ∧ g1 36 n ≤ 24)) : ∃ rX rM, tlX x n g1 = some (0, rX) ∧ M_aLine_b n 1 m1 = some rM ∧ LOut tp L T k n gX gM rX rM := by
  obtain ⟨rX, rM, u1, u2, ur, f1, f2⟩ := when_rel O R hs h45 hn h33 hx
  refine ⟨rX, rM, u1, u2, ?_, fx.tr (FR.mo f1 rfl), fm.tr (FR.mo f2 rfl)⟩
  rcases ur with ⟨ok, k', s', R', r1, r2, r3, ⟨p1, p2, p3, p4⟩, r5, r6, r7, r8⟩ | bad
  · refine Or.inl ⟨ok, hn, k', s', R', r2, by omega, r7, fun l hl => ?_, TN.fr f1 rfl f2 rfl⟩
    by_cases e : l = n
    · subst e
      have c5 : rM.2 135 l = m1 135 l := f2 135 l rfl
      unfold LnR
      rw [c5, f1 31 l rfl, f1 32 l rfl, f1 35 l rfl, f1 36 l rfl, f2 136 l rfl, f2 137 l rfl, f2 138 l rfl, p1, p2, p3, p4, q3, q4]
      exact ⟨q1, q2, ⟨rfl, rfl, rfl⟩, ⟨s, s2, s', rfl, rfl, rfl, hss, r1, Nat.le_refl _, fun q => (ev q).cd hss r6, r5⟩, hh⟩
    · have r8l := r8 l e
      exact (LN l (by omega)).tr r1 (f1 31 l rfl) (f1 32 l rfl) r8l.1 r8l.2.1 (f1 35 l rfl) (f1 36 l rfl) (f2 135 l rfl) (f2 136 l rfl) (f2 137 l rfl) (f2 138 l rfl) r8l.2.2.1 r8l.2.2.2 r6
  · exact Or.inr bad
theorem line_rel {tp : Nat → Int} {L T : Nat} (O : TkOk tp L T) {k s n : Nat} {gX gM : AG} (R : PRel tp L T k s gX gM) (hs : s ≤ k) (hn : n ≤ 16) (h33 : gX 3 3 = n) (h35 : gM 117 35 = n) (LN : ∀ l, l < n → LnR s gX gM l) (TN : TnR gX gM) : ∃ rX rM, Parser_readLine gX = some (0, rX) ∧ M_aLine gM = some rM ∧ LOut tp L T k n gX gM rX rM := by
  have hT := O.T500
  obtain ⟨x, m, v, tk, hxx, hm, nx, nm, hv, z1, z2, pl⟩ := R.see O
  have a2 := R.2.1
  have a3 := R.2.2.1
  have a9 := R.2.2.2.2.2.2.2.2.1
  have rg := tk_rng tk
  have kT : x ≠ 0 → k < T := fun h => Nat.lt_of_le_of_ne a9 (fun q => h (z2 q))
  have lin := tk_lin tk
  have nk : nw (k : Int) = k := nwN k (by ((try clear nk); (try clear ik); (try clear nn); (try clear inn); (try clear wX); (try clear wM); (try clear tokn); (try clear ex); (try clear mh); (try clear nm20); (try clear et); (try clear hM); omega))
  have ik : ix (k : Int) = k := ixN k (by ((try clear nk); (try clear ik); (try clear nn); (try clear inn); (try clear wX); (try clear wM); (try clear tokn); (try clear ex); (try clear mh); (try clear nm20); (try clear et); (try clear hM); omega))
  have nn : nw (n : Int) = n := nwN n (by ((try clear nk); (try clear ik); (try clear nn); (try clear inn); (try clear wX); (try clear wM); (try clear tokn); (try clear ex); (try clear mh); (try clear nm20); (try clear et); (try clear hM); omega))
  have inn : ix (n : Int) = n := ixN n (by ((try clear nk); (try clear ik); (try clear nn); (try clear inn); (try clear wX); (try clear wM); (try clear tokn); (try clear ex); (try clear mh); (try clear nm20); (try clear et); (try clear hM); omega))
  have wX : (nw (X_within x 100 104) = 0) = (x < 100 ∨ 104 < x) := within0 (by ((try clear nk); (try clear ik); (try clear nn); (try clear inn); (try clear wX); (try clear wM); (try clear tokn); (try clear ex); (try clear mh); (try clear nm20); (try clear et); (try clear hM); omega)) (by ((try clear nk); (try clear ik); (try clear nn); (try clear inn); (try clear wX); (try clear wM); (try clear tokn); (try clear ex); (try clear mh); (try clear nm20); (try clear et); (try clear hM); omega)) (by decide) (by decide) (by decide) (by decide)
  have wM : (nw (M_isIn m 20 24) = 0) = (m < 20 ∨ 24 < m) := isIn0 (by ((try clear nk); (try clear ik); (try clear nn); (try clear inn); (try clear wX); (try clear wM); (try clear tokn); (try clear ex); (try clear mh); (try clear nm20); (try clear et); (try clear hM); omega)) (by ((try clear nk); (try clear ik); (try clear nn); (try clear inn); (try clear wX); (try clear wM); (try clear tokn); (try clear ex); (try clear mh); (try clear nm20); (try clear et); (try clear hM); omega)) (by decide) (by decide) (by decide) (by decide)
  have tokn : 0 ≤ nw (gX 4 6) ∧ nw (gX 4 6) < 501 := by rw [a2, nk]; ((try clear nk); (try clear ik); (try clear nn); (try clear inn); (try clear wX); (try clear wM); (try clear tokn); (try clear ex); (try clear mh); (try clear nm20); (try clear et); (try clear hM); omega)
  have ex : gX 42 (ix (gX 4 6)) = x := by rw [a2, ik]; exact hxx
  by_cases c : 100 ≤ x ∧ x ≤ 104
  · have cm := lin.mp c
    have mv := tk_lin2 tk cm
    by_cases c16 : n = 16
    · obtain ⟨e1, e2, B⟩ := (Acc.start (E := EvT) R trivial).bad O (w := 3) (by ((try clear nk); (try clear ik); (try clear nn); (try clear inn); (try clear wX); (try clear wM); (try clear tokn); (try clear ex); (try clear mh); (try clear nm20); (try clear et); (try clear hM); omega)) (by ((try clear nk); (try clear ik); (try clear nn); (try clear inn); (try clear wX); (try clear wM); (try clear tokn); (try clear ex); (try clear mh); (try clear nm20); (try clear et); (try clear hM); omega))
      refine ⟨_, (0, badM gM 3), ?_, ?_, Or.inr ⟨rfl, B.2.2.2⟩, FR.mo B.2.1 rfl, FR.mo B.2.2.1 rfl⟩
      · unfold Parser_readLine
        rw [if_pos tokn, ex, if_neg (by rw [wX]; ((try clear nk); (try clear ik); (try clear nn); (try clear inn); (try clear wX); (try clear wM); (try clear tokn); (try clear ex); (try clear mh); (try clear nm20); (try clear et); (try clear hM); omega)), h33, nn, if_neg (by ((try clear nk); (try clear ik); (try clear nn); (try clear inn); (try clear wX); (try clear wM); (try clear tokn); (try clear ex); (try clear mh); (try clear nm20); (try clear et); (try clear hM); omega)), e1, sb]
      · unfold M_aLine
        rw [hm, if_neg (by rw [wM]; ((try clear nk); (try clear ik); (try clear nn); (try clear inn); (try clear wX); (try clear wM); (try clear tokn); (try clear ex); (try clear mh); (try clear nm20); (try clear et); (try clear hM); omega)), h35, nn, if_pos (by ((try clear nk); (try clear ik); (try clear nn); (try clear inn); (try clear wX); (try clear wM); (try clear tokn); (try clear ex); (try clear mh); (try clear nm20); (try clear et); (try clear hM); omega)), e2, sb, if_pos (Or.inl rfl)]
    · have n16 : n < 16 := by ((try clear nk); (try clear ik); (try clear nn); (try clear inn); (try clear wX); (try clear wM); (try clear tokn); (try clear ex); (try clear mh); (try clear nm20); (try clear et); (try clear hM); omega)
      have hk : k < T := kT (by ((try clear nk); (try clear ik); (try clear nn); (try clear inn); (try clear wX); (try clear wM); (try clear tokn); (try clear ex); (try clear mh); (try clear nm20); (try clear et); (try clear hM); omega))
      obtain ⟨mA, e1, e2, R1, f1⟩ := (R.dep 0).nx O hk
      have a4 := R.2.2.2.1
      obtain ⟨gA, hgA⟩ : ∃ gA : AG, gA = up gX 4 6 ((k : Int) + 1) := ⟨_, rfl⟩
      rw [← hgA] at e1 R1
      have fA : FR RLX gX gA := by rw [hgA]; exact Fr.up Fr.rf rfl
      obtain ⟨g9, hg9⟩ : ∃ g9 : AG, g9 = up (up gA 31 n x) 32 n (s : Int) := ⟨_, rfl⟩
      have f9 : FR [(31, 0), (32, 0)] gA g9 := by rw [hg9]; exact Fr.up (Fr.up Fr.rf rfl) rfl
      have u9 : (up gA 31 n x) 3 2 = s := by rw [up_at, if_neg (fun q => absurd q.1 (by decide))]; exact R1.2.2.2.1
      have fmA : FR RLN gM mA := (Fr.up (W := inR RLN) Fr.rf rfl).tr (FR.mo f1 rfl)
      have m36 : mA 117 36 = s := R1.2.2.2.2.2.2.2.1
      obtain ⟨m8, hm8⟩ : ∃ m8 : AG, m8 = up mA 135 n (m - 20) := ⟨_, rfl⟩
      obtain ⟨m10, hm10⟩ : ∃ m10 : AG, m10 = up m8 138 n (s : Int) := ⟨_, rfl⟩
      obtain ⟨m12, hm12⟩ : ∃ m12 : AG, m12 = up m10 139 n (s : Int) := ⟨_, rfl⟩
      obtain ⟨m14, hm14⟩ : ∃ m14 : AG, m14 = up m12 140 n (s : Int) := ⟨_, rfl⟩
      have v8 : m8 117 36 = s := by rw [hm8, up_at, if_neg (fun q => absurd q.1 (by decide))]; exact m36
      have v10 : m10 117 36 = s := by rw [hm10, up_at, if_neg (fun q => absurd q.1 (by decide))]; exact v8
      have v12 : m12 117 36 = s := by rw [hm12, up_at, if_neg (fun q => absurd q.1 (by decide))]; exact v10
      have f14 : FR [(135, 0), (138, 0), (139, 0), (140, 0)] mA m14 := by
        rw [hm14, hm12, hm10, hm8]
        exact Fr.up (Fr.up (Fr.up (Fr.up Fr.rf rfl) rfl) rfl) rfl
      have R9 : PRel tp L T (k + 1) s g9 m14 := (R1.frx f9 rfl).frm f14 rfl
      have fX9 : FR RLX gX g9 := fA.tr (FR.mo f9 rfl)
      have fM14 : FR RLN gM m14 := fmA.tr (FR.mo f14 rfl)
      have d45 : m14 117 45 = 0 := by rw [f14 117 45 rfl, f1 117 45 rfl, up_at, if_pos ⟨rfl, rfl⟩]
      have c35 : m14 117 35 = n := by rw [fM14 117 35 rfl]; exact h35
      have b33 : g9 3 3 = n := by rw [f9 3 3 rfl, hgA, up_at, if_neg (by ((try clear nk); (try clear ik); (try clear nn); (try clear inn); (try clear wX); (try clear wM); (try clear tokn); (try clear ex); (try clear mh); (try clear nm20); (try clear et); (try clear hM); omega))]; exact h33
      have x31 : g9 31 n = x := by rw [hg9, up_at, if_neg (fun q => absurd q.1 (by decide)), up_at, if_pos ⟨rfl, rfl⟩]
      have x32 : g9 32 n = s := by rw [hg9, up_at, if_pos ⟨rfl, rfl⟩]
      have y135 : m14 135 n = m - 20 := by rw [hm14, up_at, if_neg (fun q => absurd q.1 (by decide)), hm12, up_at, if_neg (fun q => absurd q.1 (by decide)), hm10, up_at, if_neg (fun q => absurd q.1 (by decide)), hm8, up_at, if_pos ⟨rfl, rfl⟩]
      have y138 : m14 138 n = s := by rw [hm14, up_at, if_neg (fun q => absurd q.1 (by decide)), hm12, up_at, if_neg (fun q => absurd q.1 (by decide)), hm10, up_at, if_pos ⟨rfl, rfl⟩]
      have y139 : m14 139 n = s := by rw [hm14, up_at, if_neg (fun q => absurd q.1 (by decide)), hm12, up_at, if_pos ⟨rfl, rfl⟩]
      have y140 : m14 140 n = s := by rw [hm14, up_at, if_pos ⟨rfl, rfl⟩]
      have z135 : ∀ l, l ≠ n → m14 135 l = gM 135 l ∧ m14 138 l = gM 138 l ∧ m14 139 l = gM 139 l ∧ m14 140 l = gM 140 l := fun l hl => by
        refine ⟨?_, ?_, ?_, ?_⟩
        · rw [hm14, up_at, if_neg (fun q => hl q.2), hm12, up_at, if_neg (fun q => hl q.2), hm10, up_at, if_neg (fun q => hl q.2), hm8, up_at, if_neg (fun q => hl q.2), f1 135 l rfl, up_at, if_neg (fun q => absurd q.1 (by decide))]
        · rw [hm14, up_at, if_neg (fun q => hl q.2), hm12, up_at, if_neg (fun q => hl q.2), hm10, up_at, if_neg (fun q => hl q.2), hm8, up_at, if_neg (fun q => hl q.2), f1 138 l rfl, up_at, if_neg (fun q => absurd q.1 (by decide))]
        · rw [hm14, up_at, if_neg (fun q => hl q.2), hm12, up_at, if_neg (fun q => hl q.2), hm10, up_at, if_neg (fun q => hl q.2), hm8, up_at, if_neg (fun q => hl q.2), f1 139 l rfl, up_at, if_neg (fun q => absurd q.1 (by decide))]
        · rw [hm14, up_at, if_neg (fun q => hl q.2), hm12, up_at, if_neg (fun q => hl q.2), hm10, up_at, if_neg (fun q => hl q.2), hm8, up_at, if_neg (fun q => hl q.2), f1 140 l rfl, up_at, if_neg (fun q => absurd q.1 (by decide))]
      have w31 : ∀ l, l ≠ n → g9 31 l = gX 31 l ∧ g9 32 l = gX 32 l := fun l hl => by
        refine ⟨?_, ?_⟩
        · rw [hg9, up_at, if_neg (fun q => hl q.2), up_at, if_neg (fun q => hl q.2), hgA, up_at, if_neg (fun q => absurd q.1 (by decide))]
        · rw [hg9, up_at, if_neg (fun q => hl q.2), up_at, if_neg (fun q => hl q.2), hgA, up_at, if_neg (fun q => absurd q.1 (by decide))]
      have w33 : ∀ a l, a = 33 ∨ a = 34 ∨ a = 35 ∨ a = 36 → g9 a l = gX a l := fun a l ha => by
        rcases ha with rfl | rfl | rfl | rfl <;> rw [f9 _ l rfl, hgA, up_at, if_neg (fun q => absurd q.1 (by decide))]
      have z141 : ∀ j, m14 141 j = gM 141 j := fun j => by rw [f14 141 j rfl, f1 141 j rfl, up_at, if_neg (fun q => absurd q.1 (by decide))]
      have z136 : ∀ l, m14 136 l = gM 136 l ∧ m14 137 l = gM 137 l := fun l => ⟨by rw [f14 136 l rfl, f1 136 l rfl, up_at, if_neg (fun q => absurd q.1 (by decide))], by rw [f14 137 l rfl, f1 137 l rfl, up_at, if_neg (fun q => absurd q.1 (by decide))]⟩
      have LN9 : ∀ l, l < n → LnR s g9 m14 l := fun l hl => by
        have e : l ≠ n := by ((try clear nk); (try clear ik); (try clear nn); (try clear inn); (try clear wX); (try clear wM); (try clear tokn); (try clear ex); (try clear mh); (try clear nm20); (try clear et); (try clear hM); omega)
        have zl := z135 l e
        have wl := w31 l e
        exact (LN l hl).tr (Nat.le_refl s) wl.1 wl.2 (w33 33 l (Or.inl rfl)) (w33 34 l (Or.inr (Or.inl rfl))) (w33 35 l (Or.inr (Or.inr (Or.inl rfl)))) (w33 36 l (Or.inr (Or.inr (Or.inr rfl)))) zl.1 (z136 l).1 (z136 l).2 zl.2.1 zl.2.2.1 zl.2.2.2 (fun j _ => z141 j)
      have TN9 : TnR g9 m14 := by
        have t1 : TnR gA mA := TN.fr (W := [(4, 7)]) (V := [(117, 46), (117, 39), (117, 40), (117, 41), (117, 42)]) (by rw [hgA]; exact Fr.up Fr.rf rfl) rfl ((Fr.up (W := inR [(117, 46), (117, 39), (117, 40), (117, 41), (117, 42)]) Fr.rf rfl).tr (FR.mo f1 rfl)) rfl
        exact t1.fr f9 rfl f14 rfl
      have bn : 0 ≤ (n : Int) ∧ (n : Int) < 16 := by ((try clear nk); (try clear ik); (try clear nn); (try clear inn); (try clear wX); (try clear wM); (try clear tokn); (try clear ex); (try clear mh); (try clear nm20); (try clear et); (try clear hM); omega)
      have xh : Parser_readLine gX = ((((if x = 101 then (Parser_readTunnel g9 >>= fun r23 => some r23.2) else (if x = 100 then (Parser_numberUpTo 24 g9 >>= fun r15 => (some (up r15.2 35 n r15.1) >>= fun g17 => (Parser_numberUpTo 24 g17 >>= fun r19 => (some (up r19.2 36 n r19.1) >>= fun g21 => some g21)))) else (Parser_readSum g9 >>= fun r13 => some r13.2))) : Option AG)) >>= fun r25 => tlX x n r25) := by
        unfold Parser_readLine
        rw [if_pos tokn, ex, if_neg (by rw [wX]; ((try clear nk); (try clear ik); (try clear nn); (try clear inn); (try clear wX); (try clear wM); (try clear tokn); (try clear ex); (try clear mh); (try clear nm20); (try clear et); (try clear hM); omega)), h33, nn, inn, if_pos (show (n : Int) < 16 by ((try clear nk); (try clear ik); (try clear nn); (try clear inn); (try clear wX); (try clear wM); (try clear tokn); (try clear ex); (try clear mh); (try clear nm20); (try clear et); (try clear hM); omega)), e1, sb, if_pos bn, sb]
        dsimp only
        rw [u9, sb, ← hg9, nx]
        rfl
      have mh : M_aLine gM = (if m - 20 = 1 then (M_aTunnel m14 >>= fun r24 => ((((if nw r24.1 = 0 then some (0, r24.2) else (M_need 159 r24.2 >>= fun r27 => (some (if nw r27.1 = 0 then 0 else 1) >>= fun t29 => some (t29, r27.2))))) : Option (Int × AG)) >>= fun r32 => if r32.1 = 0 ∨ r32.1 = 1 then some (r32.1, r32.2) else none)) else (if m - 20 = 0 then (M_hours_117_136_137 n n m14 >>= fun r21 => (if nw r21.1 = 0 then some (0, r21.2) else M_aLine_b n 1 r21.2)) else (M_sumUp m14 >>= fun r18 => (if nw r18.1 = 0 then some (0, r18.2) else M_aLine_b n 1 r18.2)))) := by
        have nm20 : nw (m - 20) = m - 20 := nw_id (by ((try clear nk); (try clear ik); (try clear nn); (try clear inn); (try clear wX); (try clear wM); (try clear tokn); (try clear ex); (try clear mh); (try clear nm20); (try clear et); (try clear hM); omega)) (by ((try clear nk); (try clear ik); (try clear nn); (try clear inn); (try clear wX); (try clear wM); (try clear tokn); (try clear ex); (try clear mh); (try clear nm20); (try clear et); (try clear hM); omega))
        unfold M_aLine
        rw [hm, if_neg (by rw [wM]; ((try clear nk); (try clear ik); (try clear nn); (try clear inn); (try clear wX); (try clear wM); (try clear tokn); (try clear ex); (try clear mh); (try clear nm20); (try clear et); (try clear hM); omega)), h35, nn, inn, if_neg (show ¬ (n : Int) = 16 by ((try clear nk); (try clear ik); (try clear nn); (try clear inn); (try clear wX); (try clear wM); (try clear tokn); (try clear ex); (try clear mh); (try clear nm20); (try clear et); (try clear hM); omega)), sb, e2, sb, if_pos bn]
        dsimp only
        rw [sb, ← hm8, v8, sb, ← hm10, v10, sb, ← hm12, v12, sb, ← hm14, nm20]
      rw [xh, mh]
      by_cases c1 : x = 101
      · obtain ⟨rX1, rM1, t1, t2, tr, g1, g2⟩ := tun_rel O R9 TN9
        rw [if_pos c1, t1, sb, sb, if_pos (show m - 20 = 1 by ((try clear nk); (try clear ik); (try clear nn); (try clear inn); (try clear wX); (try clear wM); (try clear tokn); (try clear ex); (try clear mh); (try clear nm20); (try clear et); (try clear hM); omega)), t2, sb]
        have fX1 : FR RLX gX rX1 := fX9.tr (FR.mo g1 rfl)
        have fM1 : FR RLN gM rM1.2 := fM14.tr (FR.mo g2 rfl)
        rcases tr with ⟨ok, k2, R2, k2k, TN2, lo⟩ | bad
        · -- the end of the line
          have b4 := R2.2.2.2.1
          obtain ⟨gB, hgB⟩ : ∃ gB : AG, gB = up rX1 33 n (s : Int) := ⟨_, rfl⟩
          obtain ⟨gC, hgC⟩ : ∃ gC : AG, gC = up gB 34 n (s : Int) := ⟨_, rfl⟩
          have fC : FR [(33, 0), (34, 0)] rX1 gC := by rw [hgC, hgB]; exact Fr.up (Fr.up Fr.rf rfl) rfl
          have bB : gB 3 2 = s := by rw [hgB, up_at, if_neg (fun q => absurd q.1 (by decide))]; exact b4
          have RC := R2.frx fC rfl
          obtain ⟨rX3, rM3, u1, u2, ur⟩ := need_rel O (Acc.start (E := EvT) RC trivial) (c := 59) (c' := 159) (by ((try clear nk); (try clear ik); (try clear nn); (try clear inn); (try clear wX); (try clear wM); (try clear tokn); (try clear ex); (try clear mh); (try clear nm20); (try clear et); (try clear hM); omega)) (by ((try clear nk); (try clear ik); (try clear nn); (try clear inn); (try clear wX); (try clear wM); (try clear tokn); (try clear ex); (try clear mh); (try clear nm20); (try clear et); (try clear hM); omega)) (by ((try clear nk); (try clear ik); (try clear nn); (try clear inn); (try clear wX); (try clear wM); (try clear tokn); (try clear ex); (try clear mh); (try clear nm20); (try clear et); (try clear hM); omega))
          obtain ⟨rX, hrX⟩ : ∃ rX : AG, rX = up rX3 3 3 (rX3 3 3 + 1) := ⟨_, rfl⟩
          have fX : FR [(3, 4)] rX3 rX := by rw [hrX]; exact Fr.up Fr.rf rfl
          have xt : tlX x n (0, rX1).2 = some (0, rX) := by
            unfold tlX
            dsimp only
            rw [b4, sb, ← hgB, if_pos c1, sb, bB, sb, ← hgC, u1, sb, sb, hrX]
          have b01 : rM3.1 = 0 ∨ rM3.1 = 1 := by
            rcases ur with ⟨q, _⟩ | q
            · exact Or.inr q
            · exact Or.inl q.1
          have et : (if nw rM3.1 = 0 then (0 : Int) else 1) = rM3.1 := by
            rcases b01 with q | q
            · rw [q, nw_0, if_pos rfl]
            · rw [q, nw_1, if_neg (by decide)]
          refine ⟨rX, rM3, xt, ?_, ?_, fX1.tr ((FR.mo fC rfl).tr ?_), fM1.tr ?_⟩
          · rw [ok, nw_1, if_neg (by decide), u2, sb, et, sb, sb, if_pos b01]
          · rcases ur with ⟨ok3, k3, s3, A3⟩ | bad
            · have R3 := A3.2.2.2.2.1
              have c7 := A3.2.2.2.2.2.1
              have c8 := A3.2.2.2.2.2.2.1
              have c9 := A3.2.2.2.2.2.2.2.1
              refine Or.inl ⟨ok3, n16, k3, s3, R3.frx fX rfl, by ((try clear nk); (try clear ik); (try clear nn); (try clear inn); (try clear wX); (try clear wM); (try clear tokn); (try clear ex); (try clear mh); (try clear nm20); (try clear et); (try clear hM); omega), by ((try clear nk); (try clear ik); (try clear nn); (try clear inn); (try clear wX); (try clear wM); (try clear tokn); (try clear ex); (try clear mh); (try clear nm20); (try clear et); (try clear hM); omega), ?_, fun l hl => ?_, (TN2.fr fC rfl (Fr.rf (W := inR [(1, 0)])) rfl).fr ((FR.mo A3.1 (W := [(4, 7), (4, 8), (4, 9), (3, 3), (29, 0), (30, 0), (3, 4)]) rfl).tr (FR.mo fX rfl)) rfl A3.2.1 rfl⟩
              · have e3 : rX3 3 3 = n := by rw [A3.1 3 3 rfl, fC 3 3 rfl, g1 3 3 rfl]; exact b33
                rw [hrX, up_at, if_pos ⟨rfl, rfl⟩, e3]; rfl
              · have lo3 : ∀ j, j < 2 * s → rM3.2 141 j = m14 141 j := fun j hj => by rw [A3.2.2.2.1 j hj]; exact lo j hj
                have kx : ∀ a, a = 31 ∨ a = 32 ∨ a = 35 ∨ a = 36 → rX a l = g9 a l := fun a ha => by
                  rcases ha with rfl | rfl | rfl | rfl <;> rw [fX _ l rfl, A3.1 _ l rfl, fC _ l rfl, g1 _ l rfl]
                have ky : ∀ a, a = 33 ∨ a = 34 → rX a l = gC a l := fun a ha => by
                  rcases ha with rfl | rfl <;> rw [fX _ l rfl, A3.1 _ l rfl]
                have km : ∀ a, a = 135 ∨ a = 136 ∨ a = 137 ∨ a = 138 ∨ a = 139 ∨ a = 140 → rM3.2 a l = m14 a l := fun a ha => by
                  rcases ha with rfl | rfl | rfl | rfl | rfl | rfl <;> rw [A3.2.1 _ l rfl, g2 _ l rfl]
                by_cases e : l = n
                · subst e
                  have y33 : gC 33 l = s := by rw [hgC, up_at, if_neg (fun q => absurd q.1 (by decide)), hgB, up_at, if_pos ⟨rfl, rfl⟩]
                  have y34 : gC 34 l = s := by rw [hgC, up_at, if_pos ⟨rfl, rfl⟩]
                  unfold LnR
                  rw [kx 31 (by ((try clear nk); (try clear ik); (try clear nn); (try clear inn); (try clear wX); (try clear wM); (try clear tokn); (try clear ex); (try clear mh); (try clear nm20); (try clear et); (try clear hM); omega)), kx 32 (by ((try clear nk); (try clear ik); (try clear nn); (try clear inn); (try clear wX); (try clear wM); (try clear tokn); (try clear ex); (try clear mh); (try clear nm20); (try clear et); (try clear hM); omega)), kx 35 (by ((try clear nk); (try clear ik); (try clear nn); (try clear inn); (try clear wX); (try clear wM); (try clear tokn); (try clear ex); (try clear mh); (try clear nm20); (try clear et); (try clear hM); omega)), kx 36 (by ((try clear nk); (try clear ik); (try clear nn); (try clear inn); (try clear wX); (try clear wM); (try clear tokn); (try clear ex); (try clear mh); (try clear nm20); (try clear et); (try clear hM); omega)), ky 33 (by ((try clear nk); (try clear ik); (try clear nn); (try clear inn); (try clear wX); (try clear wM); (try clear tokn); (try clear ex); (try clear mh); (try clear nm20); (try clear et); (try clear hM); omega)), ky 34 (by ((try clear nk); (try clear ik); (try clear nn); (try clear inn); (try clear wX); (try clear wM); (try clear tokn); (try clear ex); (try clear mh); (try clear nm20); (try clear et); (try clear hM); omega)), km 135 (by ((try clear nk); (try clear ik); (try clear nn); (try clear inn); (try clear wX); (try clear wM); (try clear tokn); (try clear ex); (try clear mh); (try clear nm20); (try clear et); (try clear hM); omega)), km 136 (by ((try clear nk); (try clear ik); (try clear nn); (try clear inn); (try clear wX); (try clear wM); (try clear tokn); (try clear ex); (try clear mh); (try clear nm20); (try clear et); (try clear hM); omega)), km 137 (by ((try clear nk); (try clear ik); (try clear nn); (try clear inn); (try clear wX); (try clear wM); (try clear tokn); (try clear ex); (try clear mh); (try clear nm20); (try clear et); (try clear hM); omega)), km 138 (by ((try clear nk); (try clear ik); (try clear nn); (try clear inn); (try clear wX); (try clear wM); (try clear tokn); (try clear ex); (try clear mh); (try clear nm20); (try clear et); (try clear hM); omega)), km 139 (by ((try clear nk); (try clear ik); (try clear nn); (try clear inn); (try clear wX); (try clear wM); (try clear tokn); (try clear ex); (try clear mh); (try clear nm20); (try clear et); (try clear hM); omega)), km 140 (by ((try clear nk); (try clear ik); (try clear nn); (try clear inn); (try clear wX); (try clear wM); (try clear tokn); (try clear ex); (try clear mh); (try clear nm20); (try clear et); (try clear hM); omega)), x31, x32, y33, y34, y135, y138, y139, y140]
                  exact ⟨by ((try clear nk); (try clear ik); (try clear nn); (try clear inn); (try clear wX); (try clear wM); (try clear tokn); (try clear ex); (try clear mh); (try clear nm20); (try clear et); (try clear hM); omega), by ((try clear nk); (try clear ik); (try clear nn); (try clear inn); (try clear wX); (try clear wM); (try clear tokn); (try clear ex); (try clear mh); (try clear nm20); (try clear et); (try clear hM); omega), ⟨rfl, rfl, rfl⟩, ⟨s, s, s, rfl, rfl, rfl, Nat.le_refl _, Nat.le_refl _, c8, fun q => by ((try clear nk); (try clear ik); (try clear nn); (try clear inn); (try clear wX); (try clear wM); (try clear tokn); (try clear ex); (try clear mh); (try clear nm20); (try clear et); (try clear hM); omega), fun q => by ((try clear nk); (try clear ik); (try clear nn); (try clear inn); (try clear wX); (try clear wM); (try clear tokn); (try clear ex); (try clear mh); (try clear nm20); (try clear et); (try clear hM); omega)⟩, fun q => by ((try clear nk); (try clear ik); (try clear nn); (try clear inn); (try clear wX); (try clear wM); (try clear tokn); (try clear ex); (try clear mh); (try clear nm20); (try clear et); (try clear hM); omega)⟩
                · have p33 : gC 33 l = g9 33 l := by rw [hgC, up_at, if_neg (fun q => e q.2), hgB, up_at, if_neg (fun q => e q.2), g1 33 l rfl]
                  have p34 : gC 34 l = g9 34 l := by rw [hgC, up_at, if_neg (fun q => e q.2), hgB, up_at, if_neg (fun q => e q.2), g1 34 l rfl]
                  exact (LN9 l (by ((try clear nk); (try clear ik); (try clear nn); (try clear inn); (try clear wX); (try clear wM); (try clear tokn); (try clear ex); (try clear mh); (try clear nm20); (try clear et); (try clear hM); omega))).tr c8 (kx 31 (by ((try clear nk); (try clear ik); (try clear nn); (try clear inn); (try clear wX); (try clear wM); (try clear tokn); (try clear ex); (try clear mh); (try clear nm20); (try clear et); (try clear hM); omega))) (kx 32 (by ((try clear nk); (try clear ik); (try clear nn); (try clear inn); (try clear wX); (try clear wM); (try clear tokn); (try clear ex); (try clear mh); (try clear nm20); (try clear et); (try clear hM); omega))) ((ky 33 (by ((try clear nk); (try clear ik); (try clear nn); (try clear inn); (try clear wX); (try clear wM); (try clear tokn); (try clear ex); (try clear mh); (try clear nm20); (try clear et); (try clear hM); omega))).trans p33) ((ky 34 (by ((try clear nk); (try clear ik); (try clear nn); (try clear inn); (try clear wX); (try clear wM); (try clear tokn); (try clear ex); (try clear mh); (try clear nm20); (try clear et); (try clear hM); omega))).trans p34) (kx 35 (by ((try clear nk); (try clear ik); (try clear nn); (try clear inn); (try clear wX); (try clear wM); (try clear tokn); (try clear ex); (try clear mh); (try clear nm20); (try clear et); (try clear hM); omega))) (kx 36 (by ((try clear nk); (try clear ik); (try clear nn); (try clear inn); (try clear wX); (try clear wM); (try clear tokn); (try clear ex); (try clear mh); (try clear nm20); (try clear et); (try clear hM); omega))) (km 135 (by ((try clear nk); (try clear ik); (try clear nn); (try clear inn); (try clear wX); (try clear wM); (try clear tokn); (try clear ex); (try clear mh); (try clear nm20); (try clear et); (try clear hM); omega))) (km 136 (by ((try clear nk); (try clear ik); (try clear nn); (try clear inn); (try clear wX); (try clear wM); (try clear tokn); (try clear ex); (try clear mh); (try clear nm20); (try clear et); (try clear hM); omega))) (km 137 (by ((try clear nk); (try clear ik); (try clear nn); (try clear inn); (try clear wX); (try clear wM); (try clear tokn); (try clear ex); (try clear mh); (try clear nm20); (try clear et); (try clear hM); omega))) (km 138 (by ((try clear nk); (try clear ik); (try clear nn); (try clear inn); (try clear wX); (try clear wM); (try clear tokn); (try clear ex); (try clear mh); (try clear nm20); (try clear et); (try clear hM); omega))) (km 139 (by ((try clear nk); (try clear ik); (try clear nn); (try clear inn); (try clear wX); (try clear wM); (try clear tokn); (try clear ex); (try clear mh); (try clear nm20); (try clear et); (try clear hM); omega))) (km 140 (by ((try clear nk); (try clear ik); (try clear nn); (try clear inn); (try clear wX); (try clear wM); (try clear tokn); (try clear ex); (try clear mh); (try clear nm20); (try clear et); (try clear hM); omega))) lo3
            · obtain ⟨b1, b2, b3, w, p, F, b4', b5⟩ := bad
              obtain ⟨s', t1', t2'⟩ := F.2.2.2.2.1
              exact Or.inr ⟨b1, w, p, F.fr fX rfl ⟨s', t1', by rw [fX 3 2 rfl]; exact t2'⟩, b4', b5⟩
          · rcases ur with ⟨_, _, _, A3⟩ | bad
            · exact (FR.mo A3.1 rfl).tr (FR.mo fX rfl)
            · exact (FR.mo bad.2.1 rfl).tr (FR.mo fX rfl)
          · rcases ur with ⟨_, _, _, A3⟩ | bad
            · exact FR.mo A3.2.1 rfl
            · exact FR.mo bad.2.2.1 rfl
        · obtain ⟨b1, w, p, F, b4, b5⟩ := bad
          obtain ⟨g', e', F', f'⟩ := xf_tl F x n
          exact ⟨g', (0, rM1.2), e', by rw [b1, nw_0, if_pos rfl, sb, if_pos (Or.inl rfl)], Or.inr ⟨rfl, w, p, F', b4, b5⟩, fX1.tr (FR.mo f' rfl), fM1⟩
      · by_cases c2 : x = 100
        · obtain ⟨y1, rX1, rM1, t1, t2, tr⟩ := num_rel (gX := g9) (gM := up m14 136 n (m14 117 41)) O (Acc.start (E := EvT) (R9.frm (W := [(136, 0)]) (Fr.up Fr.rf rfl) rfl) trivial) (c := 24) (by ((try clear nk); (try clear ik); (try clear nn); (try clear inn); (try clear wX); (try clear wM); (try clear tokn); (try clear ex); (try clear mh); (try clear nm20); (try clear et); (try clear hM); omega)) (by ((try clear nk); (try clear ik); (try clear nn); (try clear inn); (try clear wX); (try clear wM); (try clear tokn); (try clear ex); (try clear mh); (try clear nm20); (try clear et); (try clear hM); omega))
          obtain ⟨mF, hmF⟩ : ∃ mF : AG, mF = up m14 136 n (m14 117 41) := ⟨_, rfl⟩
          rw [← hmF] at t2 tr
          have fmF : FR [(136, 0)] m14 mF := by rw [hmF]; exact Fr.up Fr.rf rfl
          obtain ⟨gG, hgG⟩ : ∃ gG : AG, gG = up rX1 35 n y1 := ⟨_, rfl⟩
          have fG : FR [(35, 0)] rX1 gG := by rw [hgG]; exact Fr.up Fr.rf rfl
          have hM : M_hours_117_136_137 n n m14 = (if nw rM1.1 = 0 then some (0, rM1.2) else (some (up rM1.2 137 n (rM1.2 117 41)) >>= fun g8 => (M_number 0 24 g8 >>= fun r10 => if r10.1 = 0 ∨ r10.1 = 1 then some (r10.1, r10.2) else none))) := by
            unfold M_hours_117_136_137
            rw [nn, inn, if_pos bn, sb, ← hmF, t2, sb, if_pos bn]
          rw [if_neg c1, if_pos c2, t1, sb, sb, ← hgG, if_neg (show ¬ m - 20 = 1 by ((try clear nk); (try clear ik); (try clear nn); (try clear inn); (try clear wX); (try clear wM); (try clear tokn); (try clear ex); (try clear mh); (try clear nm20); (try clear et); (try clear hM); omega)), if_pos (show m - 20 = 0 by ((try clear nk); (try clear ik); (try clear nn); (try clear inn); (try clear wX); (try clear wM); (try clear tokn); (try clear ex); (try clear mh); (try clear nm20); (try clear et); (try clear hM); omega)), hM]
          rcases tr with ⟨ok, hy, y10, y11, A1, _⟩ | bad
          · have R2 := A1.2.2.2.2.1
            obtain ⟨mG, hmG⟩ : ∃ mG : AG, mG = up rM1.2 137 n (rM1.2 117 41) := ⟨_, rfl⟩
            have fmG : FR [(137, 0)] rM1.2 mG := by rw [hmG]; exact Fr.up Fr.rf rfl
            obtain ⟨y2, rX2, rM2, v1, v2, vr⟩ := num_rel O (Acc.start (E := EvT) ((R2.frx fG rfl).frm fmG rfl) trivial) (c := 24) (by ((try clear nk); (try clear ik); (try clear nn); (try clear inn); (try clear wX); (try clear wM); (try clear tokn); (try clear ex); (try clear mh); (try clear nm20); (try clear et); (try clear hM); omega)) (by ((try clear nk); (try clear ik); (try clear nn); (try clear inn); (try clear wX); (try clear wM); (try clear tokn); (try clear ex); (try clear mh); (try clear nm20); (try clear et); (try clear hM); omega))
            obtain ⟨gH, hgH⟩ : ∃ gH : AG, gH = up rX2 36 n y2 := ⟨_, rfl⟩
            have fH : FR [(36, 0)] rX2 gH := by rw [hgH]; exact Fr.up Fr.rf rfl
            have fXG : FR RLX gX gG := fX9.tr ((FR.mo A1.1 rfl).tr (FR.mo fG rfl))
            have fMG : FR RLN gM mG := fM14.tr ((FR.mo fmF rfl).tr ((FR.mo A1.2.1 rfl).tr (FR.mo fmG rfl)))
            have b01 : rM2.1 = 0 ∨ rM2.1 = 1 := by
              rcases vr with ⟨q, _⟩ | q
              · exact Or.inr q
              · exact Or.inl q.1
            rw [v1, sb, sb, ← hgH, sb, sb, ok, nw_1, if_neg (by decide), ← hmG, v2, sb, if_pos b01, sb]
            rcases vr with ⟨ok2, hy2, y20, y21, A2, _⟩ | bad
            · have R3 := (A2.2.2.2.2.1).frx fH rfl
              have fXH : FR RLX gX gH := fXG.tr ((FR.mo A2.1 rfl).tr (FR.mo fH rfl))
              have fM2 : FR RLN gM rM2.2 := fMG.tr (FR.mo A2.2.1 rfl)
              have kx : ∀ a l, a = 31 ∨ a = 32 ∨ a = 33 ∨ a = 34 → gH a l = g9 a l := fun a l ha => by
                rcases ha with rfl | rfl | rfl | rfl <;> rw [fH _ l rfl, A2.1 _ l rfl, fG _ l rfl, A1.1 _ l rfl]
              have km : ∀ a l, a = 135 ∨ a = 138 ∨ a = 139 ∨ a = 140 → rM2.2 a l = m14 a l := fun a l ha => by
                rcases ha with rfl | rfl | rfl | rfl <;> rw [A2.2.1 _ l rfl, fmG _ l rfl, A1.2.1 _ l rfl, fmF _ l rfl]
              have k35 : ∀ l, gH 35 l = gG 35 l := fun l => by rw [fH 35 l rfl, A2.1 35 l rfl]
              have k36 : ∀ l, rX2 36 l = g9 36 l := fun l => by rw [A2.1 36 l rfl, fG 36 l rfl, A1.1 36 l rfl]
              have k136 : ∀ l, rM2.2 136 l = mF 136 l := fun l => by rw [A2.2.1 136 l rfl, fmG 136 l rfl, A1.2.1 136 l rfl]
              have k137 : ∀ l, rM2.2 137 l = mG 137 l := fun l => by rw [A2.2.1 137 l rfl]
              have lo : ∀ j, j < 2 * s → rM2.2 141 j = m14 141 j := fun j hj => by rw [A2.2.2.2.1 j hj, fmG 141 j rfl, A1.2.2.2.1 j hj, fmF 141 j rfl]
              have c41 : mF 117 41 = m14 117 41 := fmF 117 41 rfl
              have c41b : mG 117 41 = rM1.2 117 41 := fmG 117 41 rfl
              obtain ⟨rX, rM, l1, l2, l3⟩ := line_end (gX := gX) (gM := gM) (k := k) (x := x) (s := s) O R3 (by ((try clear nk); (try clear ik); (try clear nn); (try clear inn); (try clear wX); (try clear wM); (try clear tokn); (try clear ex); (try clear mh); (try clear nm20); (try clear et); (try clear hM); omega)) (by ((try clear nk); (try clear ik); (try clear nn); (try clear inn); (try clear wX); (try clear wM); (try clear tokn); (try clear ex); (try clear mh); (try clear nm20); (try clear et); (try clear hM); omega)) fXH fM2 (by rw [A2.2.2.1, fmG 117 45 rfl, A1.2.2.1, fmF 117 45 rfl]; exact d45) n16 (by rw [fH 3 3 rfl, A2.1 3 3 rfl, fG 3 3 rfl, A1.1 3 3 rfl]; exact b33) c1 (fun l hl => by
                have e : l ≠ n := by ((try clear nk); (try clear ik); (try clear nn); (try clear inn); (try clear wX); (try clear wM); (try clear tokn); (try clear ex); (try clear mh); (try clear nm20); (try clear et); (try clear hM); omega)
                refine (LN9 l hl).tr (Nat.le_refl s) (kx 31 l (by ((try clear nk); (try clear ik); (try clear nn); (try clear inn); (try clear wX); (try clear wM); (try clear tokn); (try clear ex); (try clear mh); (try clear nm20); (try clear et); (try clear hM); omega))) (kx 32 l (by ((try clear nk); (try clear ik); (try clear nn); (try clear inn); (try clear wX); (try clear wM); (try clear tokn); (try clear ex); (try clear mh); (try clear nm20); (try clear et); (try clear hM); omega))) (kx 33 l (by ((try clear nk); (try clear ik); (try clear nn); (try clear inn); (try clear wX); (try clear wM); (try clear tokn); (try clear ex); (try clear mh); (try clear nm20); (try clear et); (try clear hM); omega))) (kx 34 l (by ((try clear nk); (try clear ik); (try clear nn); (try clear inn); (try clear wX); (try clear wM); (try clear tokn); (try clear ex); (try clear mh); (try clear nm20); (try clear et); (try clear hM); omega))) ?_ ?_ (km 135 l (by ((try clear nk); (try clear ik); (try clear nn); (try clear inn); (try clear wX); (try clear wM); (try clear tokn); (try clear ex); (try clear mh); (try clear nm20); (try clear et); (try clear hM); omega))) ?_ ?_ (km 138 l (by ((try clear nk); (try clear ik); (try clear nn); (try clear inn); (try clear wX); (try clear wM); (try clear tokn); (try clear ex); (try clear mh); (try clear nm20); (try clear et); (try clear hM); omega))) (km 139 l (by ((try clear nk); (try clear ik); (try clear nn); (try clear inn); (try clear wX); (try clear wM); (try clear tokn); (try clear ex); (try clear mh); (try clear nm20); (try clear et); (try clear hM); omega))) (km 140 l (by ((try clear nk); (try clear ik); (try clear nn); (try clear inn); (try clear wX); (try clear wM); (try clear tokn); (try clear ex); (try clear mh); (try clear nm20); (try clear et); (try clear hM); omega))) lo
                · rw [k35, hgG, up_at, if_neg (fun q => e q.2), A1.1 35 l rfl]
                · rw [hgH, up_at, if_neg (fun q => e q.2), k36]
                · rw [k136, hmF, up_at, if_neg (fun q => e q.2)]
                · rw [k137, hmG, up_at, if_neg (fun q => e q.2), A1.2.1 137 l rfl, fmF 137 l rfl]) ((((TN9.fr A1.1 rfl (fmF.tr (W := inR [(136, 0)]) Fr.rf) rfl).fr fG rfl A1.2.1 rfl).fr A2.1 rfl fmG rfl).fr fH rfl A2.2.1 rfl) (by rw [kx 31 n (by ((try clear nk); (try clear ik); (try clear nn); (try clear inn); (try clear wX); (try clear wM); (try clear tokn); (try clear ex); (try clear mh); (try clear nm20); (try clear et); (try clear hM); omega)), km 135 n (by ((try clear nk); (try clear ik); (try clear nn); (try clear inn); (try clear wX); (try clear wM); (try clear tokn); (try clear ex); (try clear mh); (try clear nm20); (try clear et); (try clear hM); omega)), x31, y135]; ((try clear nk); (try clear ik); (try clear nn); (try clear inn); (try clear wX); (try clear wM); (try clear tokn); (try clear ex); (try clear mh); (try clear nm20); (try clear et); (try clear hM); omega)) (by rw [km 135 n (by ((try clear nk); (try clear ik); (try clear nn); (try clear inn); (try clear wX); (try clear wM); (try clear tokn); (try clear ex); (try clear mh); (try clear nm20); (try clear et); (try clear hM); omega)), y135]; ((try clear nk); (try clear ik); (try clear nn); (try clear inn); (try clear wX); (try clear wM); (try clear tokn); (try clear ex); (try clear mh); (try clear nm20); (try clear et); (try clear hM); omega)) (by rw [km 138 n (by ((try clear nk); (try clear ik); (try clear nn); (try clear inn); (try clear wX); (try clear wM); (try clear tokn); (try clear ex); (try clear mh); (try clear nm20); (try clear et); (try clear hM); omega)), y138]) (by rw [kx 32 n (by ((try clear nk); (try clear ik); (try clear nn); (try clear inn); (try clear wX); (try clear wM); (try clear tokn); (try clear ex); (try clear mh); (try clear nm20); (try clear et); (try clear hM); omega)), x32]) (Nat.le_refl s) (fun q => by rw [km 135 n (by ((try clear nk); (try clear ik); (try clear nn); (try clear inn); (try clear wX); (try clear wM); (try clear tokn); (try clear ex); (try clear mh); (try clear nm20); (try clear et); (try clear hM); omega)), y135] at q; ((try clear nk); (try clear ik); (try clear nn); (try clear inn); (try clear wX); (try clear wM); (try clear tokn); (try clear ex); (try clear mh); (try clear nm20); (try clear et); (try clear hM); omega)) (fun _ => by
                rw [k136, k137, k35, hgH, up_at, if_pos ⟨rfl, rfl⟩, hgG, up_at, if_pos ⟨rfl, rfl⟩, hmF, up_at, if_pos ⟨rfl, rfl⟩, hmG, up_at, if_pos ⟨rfl, rfl⟩]
                exact ⟨by rw [hy, c41], by rw [hy2, c41b], ⟨y10, y11⟩, ⟨y20, y21⟩⟩)
              exact ⟨rX, rM, l1, by dsimp only; rw [ok2, nw_1, if_neg (by decide)]; exact l2, l3⟩
            · obtain ⟨b1, b2, b3, w, p, F, b4, b5⟩ := bad
              obtain ⟨s', t1', t2'⟩ := F.2.2.2.2.1
              have FH := F.fr fH rfl ⟨s', t1', by rw [fH 3 2 rfl]; exact t2'⟩
              obtain ⟨g', e', F', f'⟩ := xf_tl FH x n
              exact ⟨g', (0, rM2.2), e', by dsimp only; rw [b1, nw_0, if_pos rfl], Or.inr ⟨rfl, w, p, F', b4, b5⟩, fXG.tr ((FR.mo b2 rfl).tr ((FR.mo fH rfl).tr (FR.mo f' rfl))), fMG.tr (FR.mo b3 rfl)⟩
          · obtain ⟨b1, b2, b3, w, p, F, b4, b5⟩ := bad
            obtain ⟨s', t1', t2'⟩ := F.2.2.2.2.1
            have FG := F.fr fG rfl ⟨s', t1', by rw [fG 3 2 rfl]; exact t2'⟩
            obtain ⟨gH, hgH⟩ : ∃ gH : AG, gH = up gG 36 n 0 := ⟨_, rfl⟩
            have fH : FR [(36, 0)] gG gH := by rw [hgH]; exact Fr.up Fr.rf rfl
            have FH := FG.fr fH rfl ⟨s', t1', by rw [fH 3 2 rfl, fG 3 2 rfl]; exact t2'⟩
            obtain ⟨g', e', F', f'⟩ := xf_tl FH x n
            refine ⟨g', (0, rM1.2), by rw [xf_num FG, sb, sb, ← hgH, sb]; exact e', by rw [b1, nw_0, if_pos rfl, sb, nw_0, if_pos rfl], Or.inr ⟨rfl, w, p, F', b4, b5⟩, fX9.tr ((FR.mo b2 rfl).tr ((FR.mo fG rfl).tr ((FR.mo fH rfl).tr (FR.mo f' rfl)))), fM14.tr ((FR.mo fmF rfl).tr (FR.mo b3 rfl))⟩
        · obtain ⟨rX1, rM1, t1, t2, tr⟩ := sum_rel O R9 (by ((try clear nk); (try clear ik); (try clear nn); (try clear inn); (try clear wX); (try clear wM); (try clear tokn); (try clear ex); (try clear mh); (try clear nm20); (try clear et); (try clear hM); omega))
          rw [if_neg c1, if_neg c2, t1, sb, sb, if_neg (show ¬ m - 20 = 1 by ((try clear nk); (try clear ik); (try clear nn); (try clear inn); (try clear wX); (try clear wM); (try clear tokn); (try clear ex); (try clear mh); (try clear nm20); (try clear et); (try clear hM); omega)), if_neg (show ¬ m - 20 = 0 by ((try clear nk); (try clear ik); (try clear nn); (try clear inn); (try clear wX); (try clear wM); (try clear tokn); (try clear ex); (try clear mh); (try clear nm20); (try clear et); (try clear hM); omega)), t2, sb]
          rcases tr with ⟨ok, k2, s2, A1⟩ | bad
          · have s2k := A1.le (show s ≤ k + 1 by ((try clear nk); (try clear ik); (try clear nn); (try clear inn); (try clear wX); (try clear wM); (try clear tokn); (try clear ex); (try clear mh); (try clear nm20); (try clear et); (try clear hM); omega))
            have c7 := A1.2.2.2.2.2.1
            have c8 := A1.2.2.2.2.2.2.1
            have lo := A1.2.2.2.1
            obtain ⟨rX, rM, l1, l2, l3⟩ := line_end (gX := gX) (gM := gM) (k := k) (x := x) (s := s) O A1.2.2.2.2.1 s2k (by ((try clear nk); (try clear ik); (try clear nn); (try clear inn); (try clear wX); (try clear wM); (try clear tokn); (try clear ex); (try clear mh); (try clear nm20); (try clear et); (try clear hM); omega)) (fX9.tr (FR.mo A1.1 rfl)) (fM14.tr (FR.mo A1.2.1 rfl)) (by rw [A1.2.2.1]; exact d45) n16 (by rw [A1.1 3 3 rfl]; exact b33) c1 (fun l hl => (LN9 l hl).tr c8 (A1.1 31 l rfl) (A1.1 32 l rfl) (A1.1 33 l rfl) (A1.1 34 l rfl) (A1.1 35 l rfl) (A1.1 36 l rfl) (A1.2.1 135 l rfl) (A1.2.1 136 l rfl) (A1.2.1 137 l rfl) (A1.2.1 138 l rfl) (A1.2.1 139 l rfl) (A1.2.1 140 l rfl) lo) (TN9.fr A1.1 rfl A1.2.1 rfl) (by rw [A1.1 31 n rfl, A1.2.1 135 n rfl, x31, y135]; ((try clear nk); (try clear ik); (try clear nn); (try clear inn); (try clear wX); (try clear wM); (try clear tokn); (try clear ex); (try clear mh); (try clear nm20); (try clear et); (try clear hM); omega)) (by rw [A1.2.1 135 n rfl, y135]; ((try clear nk); (try clear ik); (try clear nn); (try clear inn); (try clear wX); (try clear wM); (try clear tokn); (try clear ex); (try clear mh); (try clear nm20); (try clear et); (try clear hM); omega)) (by rw [A1.2.1 138 n rfl, y138]) (by rw [A1.1 32 n rfl, x32]) c8 (fun _ => A1.2.2.2.2.2.2.2.2) (fun q => by rw [A1.2.1 135 n rfl, y135] at q; ((try clear nk); (try clear ik); (try clear nn); (try clear inn); (try clear wX); (try clear wM); (try clear tokn); (try clear ex); (try clear mh); (try clear nm20); (try clear et); (try clear hM); omega))
            exact ⟨rX, rM, l1, by rw [ok, nw_1, if_neg (by decide)]; exact l2, l3⟩
          · obtain ⟨b1, b2, b3, w, p, F, b4, b5⟩ := bad
            obtain ⟨g', e', F', f'⟩ := xf_tl F x n
            exact ⟨g', (0, rM1.2), e', by rw [b1, nw_0, if_pos rfl], Or.inr ⟨rfl, w, p, F', b4, b5⟩, fX9.tr ((FR.mo b2 rfl).tr (FR.mo f' rfl)), fM14.tr (FR.mo b3 rfl)⟩
  · obtain ⟨e1, e2, B⟩ := (Acc.start (E := EvT) R trivial).bad O (w := 1) (by ((try clear nk); (try clear ik); (try clear nn); (try clear inn); (try clear wX); (try clear wM); (try clear tokn); (try clear ex); (try clear mh); (try clear nm20); (try clear et); (try clear hM); omega)) (by ((try clear nk); (try clear ik); (try clear nn); (try clear inn); (try clear wX); (try clear wM); (try clear tokn); (try clear ex); (try clear mh); (try clear nm20); (try clear et); (try clear hM); omega))
    refine ⟨_, (0, badM gM 1), ?_, ?_, Or.inr ⟨rfl, B.2.2.2⟩, FR.mo B.2.1 rfl, FR.mo B.2.2.1 rfl⟩
    · unfold Parser_readLine
      rw [if_pos tokn, ex, if_pos (by rw [wX]; ((try clear nk); (try clear ik); (try clear nn); (try clear inn); (try clear wX); (try clear wM); (try clear tokn); (try clear ex); (try clear mh); (try clear nm20); (try clear et); (try clear hM); omega)), e1, sb]
    · unfold M_aLine
      rw [hm, if_pos (by rw [wM]; ((try clear nk); (try clear ik); (try clear nn); (try clear inn); (try clear wX); (try clear wM); (try clear tokn); (try clear ex); (try clear mh); (try clear nm20); (try clear et); (try clear hM); omega)), e2, sb, if_pos (Or.inl rfl)]
