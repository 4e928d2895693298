/-! plain programs: the two parsers, B and A -/
theorem one_full {tp : Nat → Int} {L T d : Nat} (O : TkOk tp L T) (H : OneS tp L T d) {f nX k s : Nat} {gX gM : AG} (hf : 9 ≤ f + d) (hn : 9 ≤ nX + d) (hd8 : d ≤ 8) (R : PRel tp L T k s gX gM) (hs : s ≤ k) (h45 : gM 117 45 = d) : ∃ rX rM, Parser_readOne (Parser_readEither nX) d gX = some (0, rX) ∧ M_one f gM = some rM ∧ POut tp L T (EvB (20 - 2 * d)) k s gX gM rX rM := by
  rcases H f nX d 0 k s gX gM hf hn (by omega) R hs h45 with ⟨rX, rM, u1, u2, bad⟩ | ⟨rX, gM', j, sx, k', s', u1, u2, u3, u4, u5, A⟩
  · exact ⟨rX, rM, u1, u2, Or.inr bad⟩
  · have s5 : s' ≤ 500 := A.2.2.2.2.1.2.2.2.2.2.2.2.2.2.1
    refine ⟨nots sx j rX, (1, gM'), ?_, u2, Or.inl ⟨rfl, k', s', A⟩⟩
    have u1' : Parser_readOne (Parser_readEither nX) d gX = _ := u1
    rw [u1']
    exact nots_s j d sx rX (by omega) u3 (by omega)
theorem all_b {tp : Nat → Int} {L T : Nat} (O : TkOk tp L T) {rec : Int → AG → Option (Int × AG)} {recM : AG → Option (Int × AG)} {d h1 h : Nat} (hh : h1 + 1 ≤ h) (H1 : ∀ (k s : Nat) (gX gM : AG), PRel tp L T k s gX gM → s ≤ k → gM 117 45 = d → ∃ rX rM, Parser_readOne rec d gX = some (0, rX) ∧ recM gM = some rM ∧ POut tp L T (EvB h1) k s gX gM rX rM) {k0 s0 : Nat} {X0 M0 : AG} (h0 : s0 ≤ k0) (hd0 : M0 117 45 = d) : ∀ (N k s i : Nat) (gX gM : AG), T - k = N → i ≤ k → Acc tp L T (EvB h) k0 s0 X0 M0 k s gX gM → ∃ rX rM, Parser_readAll_b rec d i gX = some (0, rX) ∧ M_every_b recM gM = some rM ∧ POut tp L T (EvB h) k0 s0 X0 M0 rX rM := by
  intro N
  induction N using Nat.strongRecOn with
  | ind N ih =>
  intro k s i gX gM hN hi A
  have R := A.2.2.2.2.1
  obtain ⟨x, m, v, tk, hxx, hm, nx, nm, hv, z1, z2, pl⟩ := R.see O
  have hT := O.T500
  have a2 := R.2.1
  have a3 := R.2.2.1
  have a9 := R.2.2.2.2.2.2.2.2.1
  have rg := tk_rng tk
  have kT : x ≠ 0 → k < T := fun h => Nat.lt_of_le_of_ne a9 (fun y => h (z2 y))
  have s8 := A.2.2.2.2.2.2.2.1
  have s7 := A.2.2.2.2.2.2.1
  have sk := A.le h0
  have ni : nw (i : Int) = i := nwN i (by ((try clear ni); (try clear mh); omega))
  have isT : Parser_is 109 gX = some (if x = 109 then 1 else 0) := is_s a2 a3 (by ((try clear ni); (try clear mh); omega)) hxx nx nwd.2.2.2.2.1
  have mT : x = 109 ↔ m = 5 := tk_wd tk (by ((try clear ni); (try clear mh); omega)) (by ((try clear ni); (try clear mh); omega))
  by_cases c1 : x = 109
  · have hk : k < T := kT (by ((try clear ni); (try clear mh); omega))
    obtain ⟨gM1, e1, e2, A1, f1⟩ := A.nx O hk
    obtain ⟨rX1, rM1, u1, u2, ur⟩ := H1 (k + 1) s _ _ A1.2.2.2.2.1 (by ((try clear ni); (try clear mh); omega)) (by rw [A1.2.2.1]; exact hd0)
    have xh : Parser_readAll_b rec d i gX = (Rules_put 109 0 rX1 >>= fun r9 => Parser_readAll_b rec d ((i : Int) + 1) r9.2) := by
      rw [Parser_readAll_b.eq_1, ni, if_neg (by ((try clear ni); (try clear mh); omega)), isT, if_pos c1, sb, nw_1, if_neg (by decide), e1, sb, u1, sb]
    have mh : M_every_b recM gM = (if nw rM1.1 = 0 then some (0, rM1.2) else (M_lay 18 0 rM1.2 >>= fun r7 => M_every_b recM r7.2)) := by
      rw [M_every_b.eq_1, hm, nm, if_pos (mT.mp c1), e2, sb, u2, sb]
    rcases ur with ⟨ok, k', s', B⟩ | bad
    · have bk := B.2.2.2.2.2.1
      have bs := B.2.2.2.2.2.2.1
      obtain ⟨p1, p2, A2⟩ := A1.op B (E3 := EvB h) (stbB h) (stbB h1) (c := 18) (v := 0) (w := 109) (x := 0) op_and i32_0 h0 (by ((try clear ni); (try clear mh); omega)) (fun cd a b c => EvB.two a b s7 bs (Or.inl c) (by ((try clear ni); (try clear mh); omega)) (by ((try clear ni); (try clear mh); omega))) hT
      obtain ⟨rX, rM, e, e', r⟩ := ih (T - k') (by ((try clear ni); (try clear mh); omega)) k' (s' + 1) (i + 1) _ _ rfl (by ((try clear ni); (try clear mh); omega)) A2
      refine ⟨rX, rM, ?_, ?_, r⟩
      · rw [xh, p1, sb]; exact e
      · rw [mh, ok, nw_1, if_neg (by decide), p2, sb]; exact e'
    · obtain ⟨w, p, F, ext⟩ := (A1.pbad bad).x
      obtain ⟨g', e, F', f'⟩ := xf_put F 109 0
      refine ⟨g', (0, rM1.2), ?_, ?_, Or.inr (ext g' F' f')⟩
      · rw [xh, e, sb]; exact xf_all_b F' _ _
      · rw [mh, bad.1, nw_0, if_pos rfl]
  · refine ⟨gX, (1, gM), ?_, ?_, Or.inl ⟨rfl, k, s, A⟩⟩
    · rw [Parser_readAll_b.eq_1, isT, if_neg c1, sb, nw_0, if_pos rfl]
      by_cases y : 500 ≤ nw (i : Int)
      · rw [if_pos y]
      · rw [if_neg y]
    · rw [M_every_b.eq_1, hm, nm, if_neg (fun q => c1 (mT.mpr q))]
theorem all_rel {tp : Nat → Int} {L T : Nat} (O : TkOk tp L T) {rec : Int → AG → Option (Int × AG)} {recM : AG → Option (Int × AG)} {d h1 h : Nat} (hd8 : d ≤ 8) (hh : h1 + 1 ≤ h) (H1 : ∀ (k s : Nat) (gX gM : AG), PRel tp L T k s gX gM → s ≤ k → gM 117 45 = d → ∃ rX rM, Parser_readOne rec d gX = some (0, rX) ∧ recM gM = some rM ∧ POut tp L T (EvB h1) k s gX gM rX rM) {k s : Nat} {gX gM : AG} (R : PRel tp L T k s gX gM) (hs : s ≤ k) (h45 : gM 117 45 = d) : ∃ rX rM, Parser_readAll rec d gX = some (0, rX) ∧ M_every recM gM = some rM ∧ POut tp L T (EvB h) k s gX gM rX rM := by
  obtain ⟨rX1, rM1, u1, u2, ur⟩ := H1 k s gX gM R hs h45
  rcases ur with ⟨ok, k', s', B⟩ | bad
  · obtain ⟨rX, rM, e, e', r⟩ := all_b O hh H1 hs h45 (T - k') k' s' 0 rX1 rM1.2 rfl (by omega) (B.to (fun q => q.mono (by omega)))
    refine ⟨rX, rM, ?_, ?_, r⟩
    · unfold Parser_readAll
      rw [u1, sb]
      exact e
    · unfold M_every
      rw [u2, sb, ok, nw_1, if_neg (by decide)]
      exact e'
  · obtain ⟨w, p, F, ext⟩ := bad.x
    refine ⟨rX1, (0, rM1.2), ?_, ?_, Or.inr (ext _ F Fr.rf)⟩
    · unfold Parser_readAll
      rw [u1, sb]
      exact xf_all_b F _ _
    · unfold M_every
      rw [u2, sb, bad.1, nw_0, if_pos rfl]
theorem any_b {tp : Nat → Int} {L T : Nat} (O : TkOk tp L T) {rec : Int → AG → Option (Int × AG)} {recM : AG → Option (Int × AG)} {d h1 h : Nat} (hh : h1 + 1 ≤ h) (H1 : ∀ (k s : Nat) (gX gM : AG), PRel tp L T k s gX gM → s ≤ k → gM 117 45 = d → ∃ rX rM, Parser_readAll rec d gX = some (0, rX) ∧ M_every recM gM = some rM ∧ POut tp L T (EvB h1) k s gX gM rX rM) {k0 s0 : Nat} {X0 M0 : AG} (h0 : s0 ≤ k0) (hd0 : M0 117 45 = d) : ∀ (N k s i : Nat) (gX gM : AG), T - k = N → i ≤ k → Acc tp L T (EvB h) k0 s0 X0 M0 k s gX gM → ∃ rX rM, Parser_readEither_b rec d i gX = some (0, rX) ∧ M_any_b recM gM = some rM ∧ POut tp L T (EvB h) k0 s0 X0 M0 rX rM := by
  intro N
  induction N using Nat.strongRecOn with
  | ind N ih =>
  intro k s i gX gM hN hi A
  have R := A.2.2.2.2.1
  obtain ⟨x, m, v, tk, hxx, hm, nx, nm, hv, z1, z2, pl⟩ := R.see O
  have hT := O.T500
  have a2 := R.2.1
  have a3 := R.2.2.1
  have a9 := R.2.2.2.2.2.2.2.2.1
  have rg := tk_rng tk
  have kT : x ≠ 0 → k < T := fun h => Nat.lt_of_le_of_ne a9 (fun y => h (z2 y))
  have s8 := A.2.2.2.2.2.2.2.1
  have s7 := A.2.2.2.2.2.2.1
  have sk := A.le h0
  have ni : nw (i : Int) = i := nwN i (by ((try clear ni); (try clear mh); omega))
  have isT : Parser_is 108 gX = some (if x = 108 then 1 else 0) := is_s a2 a3 (by ((try clear ni); (try clear mh); omega)) hxx nx nwd.2.2.2.1
  have mT : x = 108 ↔ m = 4 := tk_wd tk (by ((try clear ni); (try clear mh); omega)) (by ((try clear ni); (try clear mh); omega))
  by_cases c1 : x = 108
  · have hk : k < T := kT (by ((try clear ni); (try clear mh); omega))
    obtain ⟨gM1, e1, e2, A1, f1⟩ := A.nx O hk
    obtain ⟨rX1, rM1, u1, u2, ur⟩ := H1 (k + 1) s _ _ A1.2.2.2.2.1 (by ((try clear ni); (try clear mh); omega)) (by rw [A1.2.2.1]; exact hd0)
    have xh : Parser_readEither_b rec d i gX = (Rules_put 108 0 rX1 >>= fun r9 => Parser_readEither_b rec d ((i : Int) + 1) r9.2) := by
      rw [Parser_readEither_b.eq_1, ni, if_neg (by ((try clear ni); (try clear mh); omega)), isT, if_pos c1, sb, nw_1, if_neg (by decide), e1, sb, u1, sb]
    have mh : M_any_b recM gM = (if nw rM1.1 = 0 then some (0, rM1.2) else (M_lay 19 0 rM1.2 >>= fun r7 => M_any_b recM r7.2)) := by
      rw [M_any_b.eq_1, hm, nm, if_pos (mT.mp c1), e2, sb, u2, sb]
    rcases ur with ⟨ok, k', s', B⟩ | bad
    · have bk := B.2.2.2.2.2.1
      have bs := B.2.2.2.2.2.2.1
      obtain ⟨p1, p2, A2⟩ := A1.op B (E3 := EvB h) (stbB h) (stbB h1) (c := 19) (v := 0) (w := 108) (x := 0) op_or i32_0 h0 (by ((try clear ni); (try clear mh); omega)) (fun cd a b c => EvB.two a b s7 bs (Or.inr c) (by ((try clear ni); (try clear mh); omega)) (by ((try clear ni); (try clear mh); omega))) hT
      obtain ⟨rX, rM, e, e', r⟩ := ih (T - k') (by ((try clear ni); (try clear mh); omega)) k' (s' + 1) (i + 1) _ _ rfl (by ((try clear ni); (try clear mh); omega)) A2
      refine ⟨rX, rM, ?_, ?_, r⟩
      · rw [xh, p1, sb]; exact e
      · rw [mh, ok, nw_1, if_neg (by decide), p2, sb]; exact e'
    · obtain ⟨w, p, F, ext⟩ := (A1.pbad bad).x
      obtain ⟨g', e, F', f'⟩ := xf_put F 108 0
      refine ⟨g', (0, rM1.2), ?_, ?_, Or.inr (ext g' F' f')⟩
      · rw [xh, e, sb]; exact xf_either_b F' _ _
      · rw [mh, bad.1, nw_0, if_pos rfl]
  · refine ⟨gX, (1, gM), ?_, ?_, Or.inl ⟨rfl, k, s, A⟩⟩
    · rw [Parser_readEither_b.eq_1, isT, if_neg c1, sb, nw_0, if_pos rfl]
      by_cases y : 500 ≤ nw (i : Int)
      · rw [if_pos y]
      · rw [if_neg y]
    · rw [M_any_b.eq_1, hm, nm, if_neg (fun q => c1 (mT.mpr q))]
theorem any_step {tp : Nat → Int} {L T d : Nat} (O : TkOk tp L T) (hd8 : d ≤ 8) (H : OneS tp L T d) : AnyS tp L T d := by
  intro f nX k s gX gM hf hn R hs h45
  obtain ⟨n, rfl⟩ : ∃ n, nX = n + 1 := ⟨nX - 1, by omega⟩
  have H1 : ∀ (k s : Nat) (gX gM : AG), PRel tp L T k s gX gM → s ≤ k → gM 117 45 = d → ∃ rX rM, Parser_readOne (Parser_readEither n) d gX = some (0, rX) ∧ M_one f gM = some rM ∧ POut tp L T (EvB (20 - 2 * d)) k s gX gM rX rM := fun k s gX gM R hs h45 => one_full O H hf (by omega) hd8 R hs h45
  have H2 : ∀ (k s : Nat) (gX gM : AG), PRel tp L T k s gX gM → s ≤ k → gM 117 45 = d → ∃ rX rM, Parser_readAll (Parser_readEither n) d gX = some (0, rX) ∧ M_every (M_one f) gM = some rM ∧ POut tp L T (EvB (21 - 2 * d)) k s gX gM rX rM := fun k s gX gM R hs h45 => all_rel O hd8 (by omega) H1 R hs h45
  obtain ⟨rX1, rM1, u1, u2, ur⟩ := H2 k s gX gM R hs h45
  have top : Parser_readEither (n + 1) d gX = Parser_readEither_b (Parser_readEither n) d 0 rX1 := by
    show Parser_readEither_s (Parser_readEither n) d gX = _
    unfold Parser_readEither_s
    rw [nwN d (by omega), if_pos (by omega), u1, sb]
  rcases ur with ⟨ok, k', s', B⟩ | bad
  · obtain ⟨rX, rM, e, e', r⟩ := any_b O (h := 22 - 2 * d) (by omega) H2 hs h45 (T - k') k' s' 0 rX1 rM1.2 rfl (by omega) (B.to (fun q => q.mono (by omega)))
    refine ⟨rX, rM, ?_, ?_, r⟩
    · rw [top]
      exact e
    · unfold M_any
      rw [u2, sb, ok, nw_1, if_neg (by decide)]
      exact e'
  · obtain ⟨w, p, F, ext⟩ := bad.x
    refine ⟨rX1, (0, rM1.2), ?_, ?_, Or.inr (ext _ F Fr.rf)⟩
    · rw [top]
      exact xf_either_b F _ _
    · unfold M_any
      rw [u2, sb, bad.1, nw_0, if_pos rfl]
theorem both_all {tp : Nat → Int} {L T : Nat} (O : TkOk tp L T) : ∀ D d : Nat, d + D = 8 → OneS tp L T d ∧ AnyS tp L T d := by
  intro D
  induction D with
  | zero =>
    intro d h
    have o := one_step O (d := d) (by omega) (fun q => by omega)
    exact ⟨o, any_step O (by omega) o⟩
  | succ D ih =>
    intro d h
    have o := one_step O (d := d) (by omega) (fun _ => ih (d + 1) (by omega))
    exact ⟨o, any_step O (by omega) o⟩
theorem any_0 {tp : Nat → Int} {L T : Nat} (O : TkOk tp L T) {k s : Nat} {gX gM : AG} (R : PRel tp L T k s gX gM) (hs : s ≤ k) (h45 : gM 117 45 = 0) : ∃ rX rM, Parser_readEither 12 0 gX = some (0, rX) ∧ M_any (M_one 12) gM = some rM ∧ POut tp L T (EvB 22) k s gX gM rX rM := (both_all O 8 0 rfl).2 12 12 k s gX gM (by omega) (by omega) R hs h45
