/-! plain programs: products and sums, both sides -/
def POut (tp : Nat → Int) (L T : Nat) (E : (Nat → Int) → Nat → Nat → Prop) (k0 s0 : Nat) (X0 M0 rX : AG) (rM : Int × AG) : Prop := (rM.1 = 1 ∧ ∃ k' s', Acc tp L T E k0 s0 X0 M0 k' s' rX rM.2) ∨ PBad tp L T X0 M0 rX rM
theorem PBad.x {tp : Nat → Int} {L T : Nat} {X0 M0 rX : AG} {rM : Int × AG} (B : PBad tp L T X0 M0 rX rM) : ∃ w p, XF tp L T w p rX ∧ ∀ g', XF tp L T w p g' → FR RPP rX g' → PBad tp L T X0 M0 g' (0, rM.2) := by
  obtain ⟨b1, b2, b3, w, p, F, h1, h2⟩ := B
  exact ⟨w, p, F, fun g' F' f => ⟨rfl, b2.tr (FR.mo f rfl), b3, w, p, F', h1, h2⟩⟩
theorem bindM {A : Option (Int × AG)} {f : AG → Option (Int × AG)} {rM : Int × AG} (h : (A >>= fun r11 => if nw r11.1 = 0 then some ((0 : Int), r11.2) else (f r11.2 >>= fun r14 => some ((1 : Int), r14.2))) = some rM) (G : AG → Option (Int × AG)) : (A >>= fun r11 => if nw r11.1 = 0 then some ((0 : Int), r11.2) else (f r11.2 >>= fun r14 => G r14.2)) = if rM.1 = 1 then G rM.2 else some (0, rM.2) := by
  cases A with
  | none => cases h
  | some r =>
    rw [sb] at h ⊢
    by_cases e : nw r.1 = 0
    · rw [if_pos e] at h ⊢
      have e2 := Option.some.inj h
      rw [← e2]
      dsimp only
      rw [if_neg (by decide)]
    · rw [if_neg e] at h ⊢
      cases hf : f r.2 with
      | none => rw [hf] at h; cases h
      | some r2 =>
        rw [hf, sb] at h
        have e2 := Option.some.inj h
        rw [sb, ← e2, if_pos rfl]
theorem nwc : nw 3 = 3 ∧ nw 4 = 4 ∧ nw 5 = 5 ∧ nw 6 = 6 ∧ nw 7 = 7 ∧ nw 8 = 8 ∧ nw 40 = 40 ∧ nw 41 = 41 ∧ nw 42 = 42 ∧ nw 43 = 43 ∧ nw 45 = 45 ∧ nw 47 = 47 ∧ nw 59 = 59 ∧ nw 60 = 60 ∧ nw 61 = 61 ∧ nw 62 = 62 := by decide +kernel
theorem nwd : nw 105 = 105 ∧ nw 106 = 106 ∧ nw 107 = 107 ∧ nw 108 = 108 ∧ nw 109 = 109 ∧ nw 110 = 110 ∧ nw 141 = 141 ∧ nw 159 = 159 := by decide +kernel
theorem prod_b {tp : Nat → Int} {L T : Nat} (O : TkOk tp L T) {k0 s0 : Nat} {X0 M0 : AG} (h0 : s0 ≤ k0) : ∀ (N k s i : Nat) (gX gM : AG), T - k = N → i ≤ k → Acc tp L T (EvN 2) k0 s0 X0 M0 k s gX gM → ∃ rX rM, Parser_readProduct_b 1 i gX = some (0, rX) ∧ M_product_b 1 gM = some rM ∧ POut tp L T (EvN 2) k0 s0 X0 M0 rX rM := by
  intro N
  induction N using Nat.strongRecOn with
  | ind N ih =>
  intro k s i gX gM hN hi A
  have R := A.2.2.2.2.1
  obtain ⟨x, m, v, tk, hxx, hm, nx, nm, hv, z1, z2, pl⟩ := R.see O
  have hT := O.T500
  have a2 := R.2.1
  have a3 := R.2.2.1
  have a9 := R.2.2.2.2.2.2.2.2.1
  have rg := tk_rng tk
  have kT : x ≠ 0 → k < T := fun h => Nat.lt_of_le_of_ne a9 (fun y => h (z2 y))
  have s8 := A.2.2.2.2.2.2.2.1
  have s7 := A.2.2.2.2.2.2.1
  have sk := A.le h0
  have ni : nw (i : Int) = i := nwN i (by ((try clear ni); (try clear mh); omega))
  have i42 : Parser_is 42 gX = some (if x = 42 then 1 else 0) := is_s a2 a3 (by ((try clear ni); (try clear mh); omega)) hxx nx nwc.2.2.2.2.2.2.2.2.1
  have i47 : Parser_is 47 gX = some (if x = 47 then 1 else 0) := is_s a2 a3 (by ((try clear ni); (try clear mh); omega)) hxx nx nwc.2.2.2.2.2.2.2.2.2.2.2.1
  have m42 : x = 42 ↔ m = 142 := tk_sg tk (by ((try clear ni); (try clear mh); omega)) (by ((try clear ni); (try clear mh); omega))
  have m47 : x = 47 ↔ m = 147 := tk_sg tk (by ((try clear ni); (try clear mh); omega)) (by ((try clear ni); (try clear mh); omega))
  by_cases c1 : x = 42
  · have hk : k < T := kT (by ((try clear ni); (try clear mh); omega))
    obtain ⟨gM1, e1, e2, A1, f1⟩ := A.nx O hk
    obtain ⟨rX1, rM1, u1, u2, ur⟩ := unit_rel O A1.2.2.2.2.1 (by ((try clear ni); (try clear mh); omega))
    have xh : Parser_readProduct_b 1 i gX = (Rules_put 42 0 rX1 >>= fun r10 => Parser_readProduct_b 1 ((i : Int) + 1) r10.2) := by
      rw [Parser_readProduct_b.eq_1 1, if_pos rfl, ni, if_neg (by ((try clear ni); (try clear mh); omega)), i42, if_pos c1, sb, nw_1, if_neg (by decide), Parser_readProduct_b.eq_1 2, if_neg (by decide), if_pos rfl, i42, if_pos c1, sb, e1, sb, nw_1, if_neg (by decide), u1, sb]
      cases Rules_put 42 0 rX1 with
      | none => rfl
      | some r => rfl
    have mh : M_product_b 1 gM = (if nw rM1.1 = 0 then some (0, rM1.2) else (M_lay 12 0 rM1.2 >>= fun r9 => M_product_b 1 r9.2)) := by
      have three : ∀ g : AG, M_product_b 3 g = M_product_b 1 g := fun g => by rw [M_product_b.eq_1 3, if_neg (by decide), if_neg (by decide), if_pos rfl]
      rw [M_product_b.eq_1 1, if_pos rfl, hm, nm, if_pos (m42.mp c1), M_product_b.eq_1 2, if_neg (by decide), if_pos rfl, hm, nm, if_neg (by ((try clear ni); (try clear mh); omega)), sb, e2, sb, nw_0, if_pos rfl, u2, sb]
      by_cases e : nw rM1.1 = 0
      · rw [if_pos e, if_pos e]
      · rw [if_neg e, if_neg e]
        cases M_lay 12 0 rM1.2 with
        | none => rfl
        | some r => rw [sb, sb, three]
    rcases ur with ⟨ok, k', s', B⟩ | bad
    · have bk := B.2.2.2.2.2.1
      have bs := B.2.2.2.2.2.2.1
      obtain ⟨p1, p2, A2⟩ := A1.op B (E3 := EvN 2) (stbN 2) (stbN 1) (c := 12) (v := 0) (w := 42) (x := 0) op_times i32_0 h0 (by ((try clear ni); (try clear mh); omega)) (fun cd a b c => EvN.two a b s7 bs (Or.inr (Or.inr c)) (by ((try clear ni); (try clear mh); omega)) (by ((try clear ni); (try clear mh); omega))) hT
      obtain ⟨rX, rM, e, e', r⟩ := ih (T - k') (by ((try clear ni); (try clear mh); omega)) k' (s' + 1) (i + 1) _ _ rfl (by ((try clear ni); (try clear mh); omega)) A2
      refine ⟨rX, rM, ?_, ?_, r⟩
      · rw [xh, p1, sb]; exact e
      · rw [mh, ok, nw_1, if_neg (by decide), p2, sb]; exact e'
    · obtain ⟨w, p, F, ext⟩ := (A1.pbad bad).x
      obtain ⟨g', e, F', f'⟩ := xf_put F 42 0
      refine ⟨g', (0, rM1.2), ?_, ?_, Or.inr (ext g' F' f')⟩
      · rw [xh, e, sb]; exact xf_product_b F' _
      · rw [mh, bad.1, nw_0, if_pos rfl]
  · by_cases c2 : x = 47
    · have hk : k < T := kT (by ((try clear ni); (try clear mh); omega))
      obtain ⟨gM1, e1, e2, A1, f1⟩ := A.nx O hk
      obtain ⟨rX1, rM1, u1, u2, ur⟩ := part_rel O A1 h0 (by ((try clear ni); (try clear mh); omega))
      have xh : Parser_readProduct_b 1 i gX = Parser_readProduct_b 1 ((i : Int) + 1) rX1 := by
        rw [Parser_readProduct_b.eq_1 1, if_pos rfl, ni, if_neg (by ((try clear ni); (try clear mh); omega)), i42, if_neg c1, sb, nw_0, if_pos rfl, i47, if_pos c2, sb, nw_1, if_neg (by decide), Parser_readProduct_b.eq_1 2, if_neg (by decide), if_pos rfl, i42, if_neg c1, sb, e1, sb, nw_0, if_pos rfl, u1, sb, sb]
      have mh : M_product_b 1 gM = if rM1.1 = 1 then M_product_b 3 rM1.2 else some (0, rM1.2) := by
        rw [M_product_b.eq_1 1, if_pos rfl, hm, nm, if_neg (fun q => c1 (m42.mpr q)), if_pos (m47.mp c2), M_product_b.eq_1 2, if_neg (by decide), if_pos rfl, hm, nm, if_pos (m47.mp c2), sb, e2, sb, nw_1, if_neg (by decide)]
        exact bindM u2 (fun g => M_product_b 3 g)
      rcases ur with ⟨ok, k', s', hk', A2⟩ | bad
      · obtain ⟨rX, rM, e, e', r⟩ := ih (T - k') (by have := A2.2.2.2.2.1.2.2.2.2.2.2.2.2.1; ((try clear ni); (try clear mh); omega)) k' s' (i + 1) _ _ rfl (by ((try clear ni); (try clear mh); omega)) A2
        refine ⟨rX, rM, ?_, ?_, r⟩
        · rw [xh]; exact e
        · rw [mh, if_pos ok, M_product_b.eq_1 3, if_neg (by decide), if_neg (by decide), if_pos rfl]; exact e'
      · obtain ⟨w, p, F, ext⟩ := bad.x
        refine ⟨rX1, (0, rM1.2), ?_, ?_, Or.inr (ext _ F Fr.rf)⟩
        · rw [xh]; exact xf_product_b F _
        · rw [mh, if_neg (by rw [bad.1]; decide)]
    · refine ⟨gX, (1, gM), ?_, ?_, Or.inl ⟨rfl, k, s, A⟩⟩
      · rw [Parser_readProduct_b.eq_1 1, if_pos rfl, i42, if_neg c1, sb, nw_0, if_pos rfl, i47, if_neg c2, sb, nw_0, if_pos rfl]
        by_cases y : 500 ≤ nw (i : Int)
        · rw [if_pos y]
        · rw [if_neg y]
      · rw [M_product_b.eq_1 1, if_pos rfl, hm, nm, if_neg (fun q => c1 (m42.mpr q)), if_neg (fun q => c2 (m47.mpr q))]
theorem prod_rel {tp : Nat → Int} {L T : Nat} (O : TkOk tp L T) {k s : Nat} {gX gM : AG} (R : PRel tp L T k s gX gM) (hs : s ≤ k) : ∃ rX rM, Parser_readProduct gX = some (0, rX) ∧ M_product gM = some rM ∧ POut tp L T (EvN 2) k s gX gM rX rM := by
  obtain ⟨rX1, rM1, u1, u2, ur⟩ := unit_rel O R hs
  rcases ur with ⟨ok, k', s', B⟩ | bad
  · obtain ⟨rX, rM, e, e', r⟩ := prod_b O hs (T - k') k' s' 0 rX1 rM1.2 rfl (by omega) (B.to (fun q => q.mono (by omega)))
    refine ⟨rX, rM, ?_, ?_, r⟩
    · unfold Parser_readProduct
      rw [u1, sb]
      exact e
    · unfold M_product
      rw [u2, sb, ok, nw_1, if_neg (by decide)]
      exact e'
  · obtain ⟨w, p, F, ext⟩ := bad.x
    refine ⟨rX1, (0, rM1.2), ?_, ?_, Or.inr (ext _ F Fr.rf)⟩
    · unfold Parser_readProduct
      rw [u1, sb]
      exact xf_product_b F _
    · unfold M_product
      rw [u2, sb, bad.1, nw_0, if_pos rfl]
theorem sum_b {tp : Nat → Int} {L T : Nat} (O : TkOk tp L T) {k0 s0 : Nat} {X0 M0 : AG} (h0 : s0 ≤ k0) : ∀ (N k s i : Nat) (gX gM : AG), T - k = N → i ≤ k → Acc tp L T (EvN 3) k0 s0 X0 M0 k s gX gM → ∃ rX rM, Parser_readSum_b 1 i gX = some (0, rX) ∧ M_sumUp_b 1 gM = some rM ∧ POut tp L T (EvN 3) k0 s0 X0 M0 rX rM := by
  intro N
  induction N using Nat.strongRecOn with
  | ind N ih =>
  intro k s i gX gM hN hi A
  have R := A.2.2.2.2.1
  obtain ⟨x, m, v, tk, hxx, hm, nx, nm, hv, z1, z2, pl⟩ := R.see O
  have hT := O.T500
  have a2 := R.2.1
  have a3 := R.2.2.1
  have a9 := R.2.2.2.2.2.2.2.2.1
  have rg := tk_rng tk
  have kT : x ≠ 0 → k < T := fun h => Nat.lt_of_le_of_ne a9 (fun y => h (z2 y))
  have s8 := A.2.2.2.2.2.2.2.1
  have s7 := A.2.2.2.2.2.2.1
  have sk := A.le h0
  have ni : nw (i : Int) = i := nwN i (by ((try clear ni); (try clear nk); (try clear ik); (try clear m2); (try clear mh); omega))
  have nk : nw (k : Int) = k := nwN k (by ((try clear ni); (try clear nk); (try clear ik); (try clear m2); (try clear mh); omega))
  have ik : ix (k : Int) = k := ixN k (by ((try clear ni); (try clear nk); (try clear ik); (try clear m2); (try clear mh); omega))
  have i43 : Parser_is 43 gX = some (if x = 43 then 1 else 0) := is_s a2 a3 (by ((try clear ni); (try clear nk); (try clear ik); (try clear m2); (try clear mh); omega)) hxx nx nwc.2.2.2.2.2.2.2.2.2.1
  have i45 : Parser_is 45 gX = some (if x = 45 then 1 else 0) := is_s a2 a3 (by ((try clear ni); (try clear nk); (try clear ik); (try clear m2); (try clear mh); omega)) hxx nx nwc.2.2.2.2.2.2.2.2.2.2.1
  have m43 : x = 43 ↔ m = 143 := tk_sg tk (by ((try clear ni); (try clear nk); (try clear ik); (try clear m2); (try clear mh); omega)) (by ((try clear ni); (try clear nk); (try clear ik); (try clear m2); (try clear mh); omega))
  have m45 : x = 45 ↔ m = 145 := tk_sg tk (by ((try clear ni); (try clear nk); (try clear ik); (try clear m2); (try clear mh); omega)) (by ((try clear ni); (try clear nk); (try clear ik); (try clear m2); (try clear mh); omega))
  by_cases c : x = 43 ∨ x = 45
  · have hk : k < T := kT (by ((try clear ni); (try clear nk); (try clear ik); (try clear m2); (try clear mh); omega))
    obtain ⟨gM1, e1, e2, A1, f1⟩ := A.nx O hk
    obtain ⟨rX1, rM1, u1, u2, ur⟩ := prod_rel O A1.2.2.2.2.1 (by ((try clear ni); (try clear nk); (try clear ik); (try clear m2); (try clear mh); omega))
    have x2 : Parser_readSum_b 2 i gX = (Rules_put x 0 rX1 >>= fun r6 => Parser_readSum_b 1 ((i : Int) + 1) r6.2) := by
      rw [Parser_readSum_b.eq_1 2, if_neg (by decide), if_pos rfl, a2, nk, ik, if_pos (by ((try clear ni); (try clear nk); (try clear ik); (try clear m2); (try clear mh); omega)), hxx, e1, sb, u1, sb]
    have xh : Parser_readSum_b 1 i gX = (Rules_put x 0 rX1 >>= fun r6 => Parser_readSum_b 1 ((i : Int) + 1) r6.2) := by
      rw [Parser_readSum_b.eq_1 1, if_pos rfl, ni, if_neg (by ((try clear ni); (try clear nk); (try clear ik); (try clear m2); (try clear mh); omega)), i43, sb, i45, sb, x2]
      by_cases c1 : x = 43
      · rw [if_pos c1, nw_1, if_neg (by decide)]
      · rw [if_neg c1, nw_0, if_pos rfl, if_pos (show x = 45 by ((try clear ni); (try clear nk); (try clear ik); (try clear m2); (try clear mh); omega)), nw_1, if_neg (by decide)]
    obtain ⟨cc, hcc⟩ : ∃ cc : Int, cc = if m = 143 then 10 else 11 := ⟨_, rfl⟩
    have m2 : M_sumUp_b 2 gM = (if nw rM1.1 = 0 then some (0, rM1.2) else (M_lay cc 0 rM1.2 >>= fun r8 => M_sumUp_b 1 r8.2)) := by
      rw [M_sumUp_b.eq_1 2, if_neg (by decide), if_pos rfl, hm, nm, sb, e2, sb, u2, sb, ← hcc]
    have mh : M_sumUp_b 1 gM = (if nw rM1.1 = 0 then some (0, rM1.2) else (M_lay cc 0 rM1.2 >>= fun r8 => M_sumUp_b 1 r8.2)) := by
      rw [M_sumUp_b.eq_1 1, if_pos rfl, hm, nm, m2]
      by_cases c1 : m = 143
      · rw [if_pos c1]
      · rw [if_neg c1, if_pos (m45.mp (by rcases c with c | c; exact absurd (m43.mp c) c1; exact c))]
    have ho : opR cc 0 x 0 ∧ (cc = 10 ∨ cc = 11 ∨ cc = 12) := by
      rcases c with c | c
      · rw [hcc, if_pos (m43.mp c), c]; exact ⟨op_add, Or.inl rfl⟩
      · have e := m45.mp c
        rw [hcc, if_neg (by ((try clear ni); (try clear nk); (try clear ik); (try clear m2); (try clear mh); omega)), c]; exact ⟨op_less, Or.inr (Or.inl rfl)⟩
    rcases ur with ⟨ok, k', s', B⟩ | bad
    · have bk := B.2.2.2.2.2.1
      have bs := B.2.2.2.2.2.2.1
      obtain ⟨p1, p2, A2⟩ := A1.op B (E3 := EvN 3) (stbN 3) (stbN 2) (c := cc) (v := 0) (w := x) (x := 0) ho.1 i32_0 h0 (by ((try clear ni); (try clear nk); (try clear ik); (try clear m2); (try clear mh); omega)) (fun cd a b c => EvN.two a b s7 bs (by rw [c]; exact ho.2) (by ((try clear ni); (try clear nk); (try clear ik); (try clear m2); (try clear mh); omega)) (by ((try clear ni); (try clear nk); (try clear ik); (try clear m2); (try clear mh); omega))) hT
      obtain ⟨rX, rM, e, e', r⟩ := ih (T - k') (by ((try clear ni); (try clear nk); (try clear ik); (try clear m2); (try clear mh); omega)) k' (s' + 1) (i + 1) _ _ rfl (by ((try clear ni); (try clear nk); (try clear ik); (try clear m2); (try clear mh); omega)) A2
      refine ⟨rX, rM, ?_, ?_, r⟩
      · rw [xh, p1, sb]; exact e
      · rw [mh, ok, nw_1, if_neg (by decide), p2, sb]; exact e'
    · obtain ⟨w, p, F, ext⟩ := (A1.pbad bad).x
      obtain ⟨g', e, F', f'⟩ := xf_put F x 0
      refine ⟨g', (0, rM1.2), ?_, ?_, Or.inr (ext g' F' f')⟩
      · rw [xh, e, sb]; exact xf_sum_b F' _
      · rw [mh, bad.1, nw_0, if_pos rfl]
  · refine ⟨gX, (1, gM), ?_, ?_, Or.inl ⟨rfl, k, s, A⟩⟩
    · rw [Parser_readSum_b.eq_1 1, if_pos rfl, i43, if_neg (show ¬ x = 43 by ((try clear ni); (try clear nk); (try clear ik); (try clear m2); (try clear mh); omega)), sb, nw_0, if_pos rfl, i45, if_neg (show ¬ x = 45 by ((try clear ni); (try clear nk); (try clear ik); (try clear m2); (try clear mh); omega)), sb, nw_0, if_pos rfl]
      by_cases y : 500 ≤ nw (i : Int)
      · rw [if_pos y]
      · rw [if_neg y]
    · rw [M_sumUp_b.eq_1 1, if_pos rfl, hm, nm, if_neg (fun q => c (Or.inl (m43.mpr q))), if_neg (fun q => c (Or.inr (m45.mpr q)))]
theorem sum_rel {tp : Nat → Int} {L T : Nat} (O : TkOk tp L T) {k s : Nat} {gX gM : AG} (R : PRel tp L T k s gX gM) (hs : s ≤ k) : ∃ rX rM, Parser_readSum gX = some (0, rX) ∧ M_sumUp gM = some rM ∧ POut tp L T (EvN 3) k s gX gM rX rM := by
  obtain ⟨rX1, rM1, u1, u2, ur⟩ := prod_rel O R hs
  rcases ur with ⟨ok, k', s', B⟩ | bad
  · obtain ⟨rX, rM, e, e', r⟩ := sum_b O hs (T - k') k' s' 0 rX1 rM1.2 rfl (by omega) (B.to (fun q => q.mono (by omega)))
    refine ⟨rX, rM, ?_, ?_, r⟩
    · unfold Parser_readSum
      rw [u1, sb]
      exact e
    · unfold M_sumUp
      rw [u2, sb, ok, nw_1, if_neg (by decide)]
      exact e'
  · obtain ⟨w, p, F, ext⟩ := bad.x
    refine ⟨rX1, (0, rM1.2), ?_, ?_, Or.inr (ext _ F Fr.rf)⟩
    · unfold Parser_readSum
      rw [u1, sb]
      exact xf_sum_b F _
    · unfold M_sumUp
      rw [u2, sb, bad.1, nw_0, if_pos rfl]
