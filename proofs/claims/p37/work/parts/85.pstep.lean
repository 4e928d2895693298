/-! plain programs: a token on, a step laid, a fault; the class behind a fault -/
theorem TkOk.T500 {tp : Nat → Int} {L T : Nat} (O : TkOk tp L T) : T ≤ 500 := Nat.le_trans O.2.1 O.1.1
theorem PRel.nx {tp : Nat → Int} {L T k s : Nat} {gX gM : AG} (O : TkOk tp L T) (R : PRel tp L T k s gX gM) (hk : k < T) : ∃ gM', Parser_goOn gX = some (0, up gX 4 6 ((k : Int) + 1)) ∧ M_next0 gM = some (0, gM') ∧ PRel tp L T (k + 1) s (up gX 4 6 ((k : Int) + 1)) gM' ∧ FR RNX gM gM' := by
  obtain ⟨a1, a2, a3, a4, a5, a6, a7, a8, a9, a10, a11, a12⟩ := R
  obtain ⟨gM', e, m, f, v⟩ := M_next0_s O.1 a5 (tpl_rng (tp := tp) (L := L) k).2 a6.2.1 a7
  have fx : FR [(4, 7)] gX (up gX 4 6 ((k : Int) + 1)) := Fr.up Fr.rf rfl
  refine ⟨gM', goOn_s a1.1 a2 hk O.T500, e, ⟨a1.fr fx rfl, ?_, ?_, ?_, a5.fr f rfl, m, v, ?_, hk, a10, fun j hj => ?_, fun j hj => ?_, by rw [fx 4 8 rfl]; exact a12.2.1, by rw [f 117 42 rfl]; exact a12.2.2⟩, f⟩
  · rw [up_at, if_pos ⟨rfl, rfl⟩]; rfl
  · rw [fx 4 7 rfl]; exact a3
  · rw [fx 3 2 rfl]; exact a4
  · rw [f 117 36 rfl]; exact a8
  · rw [f 141 _ rfl, f 141 _ rfl, fx 29 _ rfl, fx 30 _ rfl]; exact a11 j hj
  · rw [f 141 _ rfl]; exact a12.1 j hj
def layM (g : AG) (s : Nat) (c v : Int) : AG := up (up (up g 141 (2 * s) c) 141 (2 * s + 1) v) 117 36 ((s : Int) + 1)
theorem lay_s {g : AG} {s : Nat} {c v : Int} (h : g 117 36 = s) (hs : s < 510) : M_lay c v g = some (0, layM g s c v) := by
  unfold M_lay layM
  have u1 : (up g 141 (2 * s) c) 117 36 = s := by rw [up_at, if_neg (fun q => absurd q.1 (by decide))]; exact h
  have u2 : (up (up g 141 (2 * s) c) 141 (2 * s + 1) v) 117 36 = s := by rw [up_at, if_neg (fun q => absurd q.1 (by decide))]; exact u1
  have e1 : 2 * (s : Int) = ((2 * s : Nat) : Int) := by omega
  have e2 : ((2 * s : Nat) : Int) + 1 = ((2 * s + 1 : Nat) : Int) := rfl
  rw [h, e1, nwN (2 * s) (by omega), ixN (2 * s) (by omega), if_pos (by omega), sb, u1, e1, e2, nwN (2 * s + 1) (by omega), ixN (2 * s + 1) (by omega), if_pos (by omega), sb, u2, sb]
abbrev RPP : Reg := [(3, 3), (29, 0), (30, 0)]
abbrev RLM : Reg := [(117, 37), (141, 0)]
theorem putX_fr {g : AG} {s : Nat} {w x : Int} : FR RPP g (putX g s w x) := Fr.up (Fr.up (Fr.up Fr.rf rfl) rfl) rfl
theorem layM_fr {g : AG} {s : Nat} {c v : Int} : FR RLM g (layM g s c v) := Fr.up (Fr.up (Fr.up Fr.rf rfl) rfl) rfl
theorem layM_lo {g : AG} {s : Nat} {c v : Int} {j : Nat} (h : j < 2 * s) : layM g s c v 141 j = g 141 j := by
  unfold layM
  rw [up_at, if_neg (fun q => absurd q.1 (by decide)), up_at, if_neg (fun q => absurd q.2 (by omega)), up_at, if_neg (fun q => absurd q.2 (by omega))]
theorem layM_at {g : AG} {s : Nat} {c v : Int} : layM g s c v 141 (2 * s) = c ∧ layM g s c v 141 (2 * s + 1) = v := by
  unfold layM
  refine ⟨?_, ?_⟩
  · rw [up_at, if_neg (fun q => absurd q.1 (by decide)), up_at, if_neg (fun q => absurd q.2 (by omega)), up_at, if_pos ⟨rfl, rfl⟩]
  · rw [up_at, if_neg (fun q => absurd q.1 (by decide)), up_at, if_pos ⟨rfl, rfl⟩]
theorem putX_lo {g : AG} {s : Nat} {w x : Int} {j : Nat} (h : j < s) : putX g s w x 29 j = g 29 j ∧ putX g s w x 30 j = g 30 j := by
  unfold putX
  refine ⟨?_, ?_⟩
  · rw [up_at, if_neg (fun q => absurd q.1 (by decide)), up_at, if_neg (fun q => absurd q.1 (by decide)), up_at, if_neg (fun q => absurd q.2 (by omega))]
  · rw [up_at, if_neg (fun q => absurd q.1 (by decide)), up_at, if_neg (fun q => absurd q.2 (by omega)), up_at, if_neg (fun q => absurd q.1 (by decide))]
theorem putX_at {g : AG} {s : Nat} {w x : Int} : putX g s w x 29 s = w ∧ putX g s w x 30 s = x := by
  unfold putX
  refine ⟨?_, ?_⟩
  · rw [up_at, if_neg (fun q => absurd q.1 (by decide)), up_at, if_neg (fun q => absurd q.1 (by decide)), up_at, if_pos ⟨rfl, rfl⟩]
  · rw [up_at, if_neg (fun q => absurd q.1 (by decide)), up_at, if_pos ⟨rfl, rfl⟩]
theorem MAt.fr {W : Reg} {g g' : AG} {tp : Nat → Int} {L p : Nat} (h : MAt tp L g p) (f : FR W g g') (d : djR RNX W = true) : MAt tp L g' p := by
  have c := f.cg d
  have c38 : g' 117 38 = g 117 38 := c 117 38 rfl
  have c39 : g' 117 39 = g 117 39 := c 117 39 rfl
  have c40 : g' 117 40 = g 117 40 := c 117 40 rfl
  have c41 : g' 117 41 = g 117 41 := c 117 41 rfl
  unfold MAt
  rw [c38, c39, c40, c41]
  exact h
theorem PRel.lay {tp : Nat → Int} {L T k s : Nat} {gX gM : AG} (R : PRel tp L T k s gX gM) (hs : s < 500) {c v w x : Int} (ho : opR c v w x) (hv : I32 v) : PRel tp L T k (s + 1) (putX gX s w x) (layM gM s c v) := by
  obtain ⟨a1, a2, a3, a4, a5, a6, a7, a8, a9, a10, a11, a12⟩ := R
  have fx : FR RPP gX (putX gX s w x) := putX_fr
  have fm : FR RLM gM (layM gM s c v) := layM_fr
  have hc := opR_s ho
  refine ⟨a1.fr fx rfl, by rw [fx 4 6 rfl]; exact a2, by rw [fx 4 7 rfl]; exact a3, ?_, a5.fr fm rfl, a6.fr fm rfl, by rw [fm 117 41 rfl]; exact a7, ?_, a9, by omega, fun j hj => ?_, fun j hj => ?_, by rw [fx 4 8 rfl]; exact a12.2.1, by rw [fm 117 42 rfl]; exact a12.2.2⟩
  · unfold putX; rw [up_at, if_pos ⟨rfl, rfl⟩]; rfl
  · unfold layM; rw [up_at, if_pos ⟨rfl, rfl⟩]; rfl
  · by_cases e : j = s
    · rw [e, (layM_at).1, (layM_at).2, (putX_at).1, (putX_at).2]; exact ho
    · rw [layM_lo (by omega), layM_lo (by omega), (putX_lo (by omega)).1, (putX_lo (by omega)).2]; exact a11 j (by omega)
  · by_cases e : j < 2 * s
    · rw [layM_lo e]; exact a12.1 j e
    · by_cases e2 : j = 2 * s
      · rw [e2, (layM_at).1]; unfold I32; omega
      · rw [show j = 2 * s + 1 by omega, (layM_at).2]; exact hv
def failX (g : AG) (k : Nat) (w : Int) : AG := up (up g 4 7 w) 4 8 (g 43 k)
def badM (g : AG) (w : Int) : AG := up (up g 117 42 w) 117 43 (g 117 40)
theorem bad_s {g : AG} {w : Int} : M_bad w g = some (0, badM g w) := by
  unfold M_bad badM
  have u : (up g 117 42 w) 117 40 = g 117 40 := by rw [up_at, if_neg (by omega)]
  rw [sb, u, sb]
theorem PRel.bad {tp : Nat → Int} {L T k s : Nat} {gX gM : AG} (O : TkOk tp L T) (R : PRel tp L T k s gX gM) {w : Int} (h1 : 1 ≤ w) (h3 : w ≤ 3) : Parser_fail w gX = some (0, failX gX k w) ∧ M_bad w gM = some (0, badM gM w) ∧ PFail tp L T (failX gX k w) (badM gM w) ∧ FR [(4, 8), (4, 9)] gX (failX gX k w) ∧ FR [(117, 43), (117, 44)] gM (badM gM w) := by
  have sees := R.see O
  obtain ⟨a1, a2, a3, a4, a5, a6, a7, a8, a9, a10, a11, a12⟩ := R
  obtain ⟨x, m, v, _, _, _, _, _, _, _, _, pl⟩ := sees
  have hT := O.T500
  have fx : FR [(4, 8), (4, 9)] gX (failX gX k w) := Fr.up (Fr.up Fr.rf rfl) rfl
  refine ⟨fail_s a2 a3 (by omega), bad_s, ⟨w, gX 43 k, ⟨a1.fr fx rfl, ⟨k, a9, by rw [fx 4 6 rfl]; exact a2⟩, ?_, ?_, ⟨s, a10, by rw [fx 3 2 rfl]; exact a4⟩, h1, h3, hT⟩, ?_, ?_, ?_⟩, fx, Fr.up (Fr.up Fr.rf rfl) rfl⟩
  · unfold failX; rw [up_at, if_neg (by omega), up_at, if_pos ⟨rfl, rfl⟩]
  · unfold failX; rw [up_at, if_pos ⟨rfl, rfl⟩]
  · unfold badM; rw [up_at, if_neg (by omega), up_at, if_pos ⟨rfl, rfl⟩]
  · unfold badM; rw [up_at, if_pos ⟨rfl, rfl⟩, pl]
  · unfold badM; rw [up_at, if_neg (by omega), up_at, if_neg (by omega)]; exact a7
/-! the class behind a fault does nothing more -/
theorem XF.nw7 {tp : Nat → Int} {L T : Nat} {w p : Int} {g : AG} (F : XF tp L T w p g) : nw (g 4 7) ≠ 0 := by
  obtain ⟨a1, a2, a3, a4, a5, a6, a7, a8⟩ := F
  rw [a3, nw_id (by omega) (by omega)]
  omega
theorem XF.tok {tp : Nat → Int} {L T : Nat} {w p : Int} {g : AG} (F : XF tp L T w p g) : 0 ≤ nw (g 4 6) ∧ nw (g 4 6) < 501 := by
  obtain ⟨a1, ⟨k, k1, k2⟩, a3, a4, a5, a6, a7, a8⟩ := F
  rw [k2, nwN k (by omega)]
  omega
theorem XF.fr {W : Reg} {tp : Nat → Int} {L T : Nat} {w p : Int} {g g' : AG} (F : XF tp L T w p g) (f : FR W g g') (d : djR [(4, 6), (42, 0), (43, 0), (4, 7), (4, 8), (4, 9)] W = true) (hs : ∃ s : Nat, s ≤ 500 ∧ g' 3 2 = s) : XF tp L T w p g' := by
  obtain ⟨a1, ⟨k, k1, k2⟩, a3, a4, a5, a6, a7, a8⟩ := F
  have c := f.cg d
  exact ⟨⟨by rw [c 4 5 rfl]; exact a1.1, fun j hj => by rw [c 42 j rfl, c 43 j rfl]; exact a1.2 j hj⟩, ⟨k, k1, by rw [c 4 6 rfl]; exact k2⟩, by rw [c 4 7 rfl]; exact a3, by rw [c 4 8 rfl]; exact a4, hs, a6, a7, a8⟩
theorem xf_is {tp : Nat → Int} {L T : Nat} {w p : Int} {g : AG} (F : XF tp L T w p g) (c : Int) : Parser_is c g = some 0 := by
  unfold Parser_is
  rw [if_neg F.nw7, sb, if_pos (Or.inl rfl)]
theorem xf_fail {tp : Nat → Int} {L T : Nat} {w p : Int} {g : AG} (F : XF tp L T w p g) (c : Int) : Parser_fail c g = some (0, g) := by
  unfold Parser_fail
  rw [if_neg F.nw7, sb]
theorem xf_put {tp : Nat → Int} {L T : Nat} {w p : Int} {g : AG} (F : XF tp L T w p g) (c x : Int) : ∃ g', Rules_put c x g = some (0, g') ∧ XF tp L T w p g' ∧ FR RPP g g' := by
  obtain ⟨s, s1, s2⟩ := F.2.2.2.2.1
  obtain ⟨g', e, f, r⟩ := put_any (w := c) (x := x) s2 s1
  exact ⟨g', e, F.fr f rfl r, f⟩
theorem xf_unit {tp : Nat → Int} {L T : Nat} {w p : Int} {g : AG} (F : XF tp L T w p g) : Parser_readUnit g = some (0, g) := by
  unfold Parser_readUnit
  rw [if_pos F.tok, if_neg F.nw7]
theorem xf_product_b {tp : Nat → Int} {L T : Nat} {w p : Int} {g : AG} (F : XF tp L T w p g) (i : Int) : Parser_readProduct_b 1 i g = some (0, g) := by
  rw [Parser_readProduct_b, if_pos rfl, xf_is F, sb, nw_0, if_pos rfl, xf_is F, sb, nw_0, if_pos rfl]
  by_cases e : 500 ≤ nw i
  · rw [if_pos e]
  · rw [if_neg e]
theorem xf_product {tp : Nat → Int} {L T : Nat} {w p : Int} {g : AG} (F : XF tp L T w p g) : Parser_readProduct g = some (0, g) := by
  unfold Parser_readProduct
  rw [xf_unit F, sb]
  exact xf_product_b F 0
theorem xf_sum_b {tp : Nat → Int} {L T : Nat} {w p : Int} {g : AG} (F : XF tp L T w p g) (i : Int) : Parser_readSum_b 1 i g = some (0, g) := by
  rw [Parser_readSum_b, if_pos rfl, xf_is F, sb, nw_0, if_pos rfl, xf_is F, sb, nw_0, if_pos rfl]
  by_cases e : 500 ≤ nw i
  · rw [if_pos e]
  · rw [if_neg e]
theorem xf_sum {tp : Nat → Int} {L T : Nat} {w p : Int} {g : AG} (F : XF tp L T w p g) : Parser_readSum g = some (0, g) := by
  unfold Parser_readSum
  rw [xf_product F, sb]
  exact xf_sum_b F 0
theorem xf_cmp {tp : Nat → Int} {L T : Nat} {w p : Int} {g : AG} (F : XF tp L T w p g) : Parser_demandComparing g = some (0, g) := by
  unfold Parser_demandComparing
  rw [xf_is F, sb, nw_0, if_pos rfl, xf_is F, sb, nw_0, if_pos rfl, xf_is F, sb, nw_0, if_pos rfl, xf_fail F, sb, sb]
theorem xf_demand {tp : Nat → Int} {L T : Nat} {w p : Int} {g : AG} (F : XF tp L T w p g) (c : Int) : Parser_demand c g = some (0, g) := by
  unfold Parser_demand
  rw [xf_is F, sb, nw_0, if_pos rfl, xf_fail F, sb, sb]
theorem xf_num {tp : Nat → Int} {L T : Nat} {w p : Int} {g : AG} (F : XF tp L T w p g) (c : Int) : Parser_numberUpTo c g = some (0, g) := by
  unfold Parser_numberUpTo
  rw [if_pos F.tok, xf_fail F, xf_fail F, sb]
  dsimp only
  have e : ∀ (P Q : Prop) [Decidable P] [Decidable Q], (if P then (if Q then some g else some g) else some g : Option AG) = some g := by
    intro P Q _ _
    by_cases a : P
    · rw [if_pos a]
      by_cases b : Q
      · rw [if_pos b]
      · rw [if_neg b]
    · rw [if_neg a]
  rw [e, sb, if_neg F.nw7]
theorem xf_nots {tp : Nat → Int} {L T : Nat} {w p : Int} {rec : Int → AG → Option (Int × AG)} {a : Int} : ∀ (n i : Nat) (g : AG), i + n ≤ 100 → XF tp L T w p g → ∃ g', Parser_readOne_b rec a 3 ((i + n : Nat) : Int) i g = some (0, g') ∧ XF tp L T w p g' ∧ FR RPP g g' := by
  intro n
  induction n with
  | zero =>
    intro i g h F
    refine ⟨g, ?_, F, Fr.rf⟩
    rw [Parser_readOne_b, if_neg (by decide), if_neg (by decide), if_pos rfl, Nat.add_zero, if_pos (Int.le_refl _)]
  | succ n ih =>
    intro i g h F
    obtain ⟨g1, e1, F1, f1⟩ := xf_put F 110 0
    obtain ⟨g', e, F', f⟩ := ih (i + 1) g1 (by omega) F1
    refine ⟨g', ?_, F', f1.tr f⟩
    rw [Parser_readOne_b, if_neg (by decide), if_neg (by decide), if_pos rfl, nwN (i + (n + 1)) (by omega), nwN i (by omega), if_neg (by omega), e1, sb, show i + (n + 1) = i + 1 + n by omega]
    exact e
theorem xf_one_b {tp : Nat → Int} {L T : Nat} {w p : Int} {rec : Int → AG → Option (Int × AG)} {g : AG} (F : XF tp L T w p g) (a n : Nat) (h : a + n ≤ 100) (i : Int) : ∃ g', Parser_readOne_b rec a 1 ((a + n : Nat) : Int) i g = some (0, g') ∧ XF tp L T w p g' ∧ FR RPP g g' := by
  obtain ⟨g1, e1, F1, f1⟩ := xf_put F (g 42 (ix (g 4 6))) 0
  obtain ⟨g', e, F', f⟩ := xf_nots (rec := rec) (a := a) n a g1 h F1
  refine ⟨g', ?_, F', f1.tr f⟩
  have two : Parser_readOne_b rec a 2 ((a + n : Nat) : Int) i g = some (0, g') := by
    rw [Parser_readOne_b, if_neg (by decide), if_pos rfl, xf_is F, sb, nw_0, if_pos rfl, xf_sum F, sb, if_pos F.tok, xf_cmp F, sb, xf_sum F, sb, e1, sb, sb]
    exact e
  rw [Parser_readOne_b, if_pos rfl, xf_is F, sb, nw_0, if_pos rfl, two]
  by_cases e : 500 ≤ nw i
  · rw [if_pos e]
  · rw [if_neg e]
theorem xf_one {tp : Nat → Int} {L T : Nat} {w p : Int} {rec : Int → AG → Option (Int × AG)} {g : AG} (F : XF tp L T w p g) (a : Nat) (h : a ≤ 100) : ∃ g', Parser_readOne rec a g = some (0, g') ∧ XF tp L T w p g' ∧ FR RPP g g' := xf_one_b F a 0 h 0
theorem xf_all_b {tp : Nat → Int} {L T : Nat} {w p : Int} {rec : Int → AG → Option (Int × AG)} {g : AG} (F : XF tp L T w p g) (a i : Int) : Parser_readAll_b rec a i g = some (0, g) := by
  rw [Parser_readAll_b, xf_is F, sb, nw_0, if_pos rfl]
  by_cases e : 500 ≤ nw i
  · rw [if_pos e]
  · rw [if_neg e]
theorem xf_all {tp : Nat → Int} {L T : Nat} {w p : Int} {rec : Int → AG → Option (Int × AG)} {g : AG} (F : XF tp L T w p g) (a : Nat) (h : a ≤ 100) : ∃ g', Parser_readAll rec a g = some (0, g') ∧ XF tp L T w p g' ∧ FR RPP g g' := by
  obtain ⟨g', e, F', f⟩ := xf_one (rec := rec) F a h
  refine ⟨g', ?_, F', f⟩
  unfold Parser_readAll
  rw [e, sb]
  exact xf_all_b F' a 0
theorem xf_either_b {tp : Nat → Int} {L T : Nat} {w p : Int} {rec : Int → AG → Option (Int × AG)} {g : AG} (F : XF tp L T w p g) (a i : Int) : Parser_readEither_b rec a i g = some (0, g) := by
  rw [Parser_readEither_b, xf_is F, sb, nw_0, if_pos rfl]
  by_cases e : 500 ≤ nw i
  · rw [if_pos e]
  · rw [if_neg e]
theorem xf_either {tp : Nat → Int} {L T : Nat} {w p : Int} {g : AG} (F : XF tp L T w p g) (a n : Nat) (h : a ≤ 100) : ∃ g', Parser_readEither (n + 1) a g = some (0, g') ∧ XF tp L T w p g' ∧ FR RPP g g' := by
  obtain ⟨g', e, F', f⟩ := xf_all (rec := Parser_readEither n) F a h
  show ∃ g', Parser_readEither_s (Parser_readEither n) a g = some (0, g') ∧ XF tp L T w p g' ∧ FR RPP g g'
  unfold Parser_readEither_s
  by_cases c : (a : Int) ≤ 8
  · refine ⟨g', ?_, F', f⟩
    rw [nwN a (by omega), if_pos c, e, sb]
    exact xf_either_b F' a 0
  · refine ⟨g, ?_, F, Fr.rf⟩
    rw [nwN a (by omega), if_neg c]
