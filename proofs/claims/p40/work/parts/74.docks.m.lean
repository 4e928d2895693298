section
/-! plain programs: the dock, both sides -/
theorem mk_n_0 : ∀ c : Nat, mk_n 0 c = 0
  | 0 => rfl
  | c + 1 => by unfold mk_n; rw [mk_n_0 c, Nat.zero_testBit]; rfl
theorem M_dlist_s {f : Nat → Int} {g0 : AG} {NB : Nat} (hNB : NB ≤ 10) (hb : g0 117 12 = NB) (hf : ∀ b, b < 10 → g0 174 b = f b ∧ 0 ≤ f b ∧ f b ≤ 60) (h7 : ∀ b, b ≤ 10 → (dkL f b).1 ≤ 7) {x1 : Int} : ∀ (n b : Nat) (g : AG), b + n = NB → FR [(117, 85), (175, 0)] g0 g → g 117 84 = (dkL f b).1 → (∀ i, i < (dkL f b).1 → g 175 i = (dkL f b).2 i) → ∃ g', M_dock_b x1 b g = M_dock_b x1 NB g' ∧ FR [(117, 85), (175, 0)] g0 g' ∧ g' 117 84 = (dkL f NB).1 ∧ ∀ i, i < (dkL f NB).1 → g' 175 i = (dkL f NB).2 i := by
  intro n
  induction n with
  | zero =>
    intro b g h F h1 h2
    have e : b = NB := by (try clear n0); (try clear n1); (try clear n2); (try clear n3); (try clear n4); (try clear n5); omega
    subst e
    exact ⟨g, rfl, F, h1, h2⟩
  | succ n ih =>
    intro b g h F h1 h2
    have fb := hf b (by (try clear n0); (try clear n1); (try clear n2); (try clear n3); (try clear n4); (try clear n5); omega)
    have l7 := h7 (b + 1) (by (try clear n0); (try clear n1); (try clear n2); (try clear n3); (try clear n4); (try clear n5); omega)
    have l7' := h7 b (by (try clear n0); (try clear n1); (try clear n2); (try clear n3); (try clear n4); (try clear n5); omega)
    have v98 : g 174 b = f b := by rw [F 174 b rfl]; exact fb.1
    have n0 : nw (b : Int) = b := nwN _ (by (try clear n0); (try clear n1); (try clear n2); (try clear n3); (try clear n4); (try clear n5); omega)
    have n1 : ix (b : Int) = b := ixN _ (by (try clear n0); (try clear n1); (try clear n2); (try clear n3); (try clear n4); (try clear n5); omega)
    have n2 : nw (f b) = f b := nw_id (by (try clear n0); (try clear n1); (try clear n2); (try clear n3); (try clear n4); (try clear n5); omega) (by (try clear n0); (try clear n1); (try clear n2); (try clear n3); (try clear n4); (try clear n5); omega)
    have n3 : nw (((dkL f b).1 : Nat) : Int) = ((dkL f b).1 : Nat) := nwN _ (by (try clear n0); (try clear n1); (try clear n2); (try clear n3); (try clear n4); (try clear n5); omega)
    have n4 : ix (((dkL f b).1 : Nat) : Int) = (dkL f b).1 := ixN _ (by (try clear n0); (try clear n1); (try clear n2); (try clear n3); (try clear n4); (try clear n5); omega)
    have n5 : nw (g 117 12) = NB := by rw [F 117 12 rfl, hb, nwN _ (by (try clear n0); (try clear n1); (try clear n2); (try clear n3); (try clear n4); (try clear n5); omega)]
    have e1 : dkL f (b + 1) = if 0 < f b then ((dkL f b).1 + 1, ud (dkL f b).2 (dkL f b).1 b) else dkL f b := rfl
    by_cases z : 0 < f b
    · rw [if_pos z] at e1
      have c7 : (dkL f b).1 < 7 := by rw [e1] at l7; dsimp only at l7; exact l7
      obtain ⟨g', e, r⟩ := ih (b + 1) (up (up g 175 (dkL f b).1 b) 117 84 ((dkL f b).1 + 1)) (by (try clear n0); (try clear n1); (try clear n2); (try clear n3); (try clear n4); (try clear n5); omega) (Fr.up (Fr.up F rfl) rfl) (by rw [e1, up_at, if_pos ⟨rfl, rfl⟩]; rfl) (fun i hi => by
        rw [e1] at hi ⊢
        dsimp only at hi ⊢
        rw [up_at, if_neg (fun q => absurd q.1 (by decide)), up_at]
        by_cases y : i = (dkL f b).1
        · rw [if_pos ⟨rfl, y⟩, y, ud_at]
        · rw [if_neg (fun q => y q.2), ud_lt (by (try clear n0); (try clear n1); (try clear n2); (try clear n3); (try clear n4); (try clear n5); omega)]
          exact h2 i (by (try clear n0); (try clear n1); (try clear n2); (try clear n3); (try clear n4); (try clear n5); omega))
      refine ⟨g', ?_, r⟩
      have u : (up g 175 (dkL f b).1 b) 117 84 = (dkL f b).1 := by rw [up_at, if_neg (fun q => absurd q.1 (by decide))]; exact h1
      rw [M_dock_b, n0, n1, n5, v98, n2, h1, n3, n4, if_neg (by (try clear n0); (try clear n1); (try clear n2); (try clear n3); (try clear n4); (try clear n5); omega), if_pos (by (try clear n0); (try clear n1); (try clear n2); (try clear n3); (try clear n4); (try clear n5); omega), if_neg (by (try clear n0); (try clear n1); (try clear n2); (try clear n3); (try clear n4); (try clear n5); omega), if_pos (by (try clear n0); (try clear n1); (try clear n2); (try clear n3); (try clear n4); (try clear n5); omega), sb, u, sb, sb]
      exact e
    · rw [if_neg z] at e1
      obtain ⟨g', e, r⟩ := ih (b + 1) g (by (try clear n0); (try clear n1); (try clear n2); (try clear n3); (try clear n4); (try clear n5); omega) F (by rw [e1]; exact h1) (fun i hi => by rw [e1] at hi ⊢; exact h2 i hi)
      refine ⟨g', ?_, r⟩
      rw [M_dock_b, n0, n1, n5, v98, n2, if_neg (by (try clear n0); (try clear n1); (try clear n2); (try clear n3); (try clear n4); (try clear n5); omega), if_pos (by (try clear n0); (try clear n1); (try clear n2); (try clear n3); (try clear n4); (try clear n5); omega), if_pos (by (try clear n0); (try clear n1); (try clear n2); (try clear n3); (try clear n4); (try clear n5); omega), sb]
      exact e
theorem X_docked_s {dy dt : Nat → Int} {bl : Nat → Nat} {c : Nat} (K : DkOk dy dt c) {g : AG} (X : XD g dy dt bl c) {T : Nat → Int × Int} {N : Nat → Nat} (TT : DkT dy dt c T N) (hN : ∀ m, m < 2 ^ c - 1 → g 102 m = (N m : Nat)) {j : Nat} (hj : j < c) : ∀ (t i m : Nat), i + t = j → m < 2 ^ c → mk_n m c = i → Yard_dockedAt_b (10 + (j : Int)) g m i = some ((bl (fol N t m) : Nat) : Int) := by
  intro t
  induction t with
  | zero =>
    intro i m h hm hi
    have hc := K.1
    have p2 := mk_p2 c (by (try clear n0); (try clear n1); (try clear n2); (try clear n3); (try clear n4); (try clear n5); omega)
    have nf := mk_n_full c (by (try clear n0); (try clear n1); (try clear n2); (try clear n3); (try clear n4); (try clear n5); omega)
    have mf : m < 2 ^ c - 1 := by
      have ne : m ≠ 2 ^ c - 1 := fun e => by rw [e] at hi; omega
      omega
    have ok := dkStep_ok K hm (fun x _ h2 => TT.1 x h2) c (Nat.le_refl c) _ (TT.2.2 m mf)
    have hNm : N m < c := ok.2.1
    have x := X.2 (N m) hNm
    have n0 : nw (10 + (j : Int) - 10) = j := by rw [show 10 + (j : Int) - 10 = j by (try clear n0); (try clear n1); (try clear n2); (try clear n3); (try clear n4); (try clear n5); omega]; exact nwN _ (by (try clear n0); (try clear n1); (try clear n2); (try clear n3); (try clear n4); (try clear n5); omega)
    have n1 : nw (i : Int) = i := nwN _ (by (try clear n0); (try clear n1); (try clear n2); (try clear n3); (try clear n4); (try clear n5); omega)
    have n2 : nw (m : Int) = m := nwN _ (by (try clear n0); (try clear n1); (try clear n2); (try clear n3); (try clear n4); (try clear n5); omega)
    have n3 : ix (m : Int) = m := ixN _ (by (try clear n0); (try clear n1); (try clear n2); (try clear n3); (try clear n4); (try clear n5); omega)
    have n4 : nw ((N m : Nat) : Int) = (N m : Nat) := nwN _ (by (try clear n0); (try clear n1); (try clear n2); (try clear n3); (try clear n4); (try clear n5); omega)
    have n5 : ix ((N m : Nat) : Int) = N m := ixN _ (by (try clear n0); (try clear n1); (try clear n2); (try clear n3); (try clear n4); (try clear n5); omega)
    rw [Yard_dockedAt_b, n0, n1, n2, n3, hN m mf, n4, n5, x.1, if_pos (by (try clear n0); (try clear n1); (try clear n2); (try clear n3); (try clear n4); (try clear n5); omega), if_pos (by (try clear n0); (try clear n1); (try clear n2); (try clear n3); (try clear n4); (try clear n5); omega), if_pos (by (try clear n0); (try clear n1); (try clear n2); (try clear n3); (try clear n4); (try clear n5); omega)]
    rfl
  | succ t ih =>
    intro i m h hm hi
    have hc := K.1
    have p2 := mk_p2 c (by (try clear n0); (try clear n1); (try clear n2); (try clear n3); (try clear n4); (try clear n5); omega)
    have nf := mk_n_full c (by (try clear n0); (try clear n1); (try clear n2); (try clear n3); (try clear n4); (try clear n5); omega)
    have mf : m < 2 ^ c - 1 := by
      have ne : m ≠ 2 ^ c - 1 := fun e => by rw [e] at hi; omega
      omega
    have ok := dkStep_ok K hm (fun x _ h2 => TT.1 x h2) c (Nat.le_refl c) _ (TT.2.2 m mf)
    have hNm : N m < c := ok.2.1
    have hbt : m.testBit (N m) = false := ok.2.2
    have hlt := mk_lt hm hNm
    have nn := mk_n_or hbt c
    rw [if_pos hNm] at nn
    have e := ih (i + 1) (m ||| 2 ^ N m) (by (try clear n0); (try clear n1); (try clear n2); (try clear n3); (try clear n4); (try clear n5); omega) hlt (by (try clear n0); (try clear n1); (try clear n2); (try clear n3); (try clear n4); (try clear n5); omega)
    have ho := mk_or m (by (try clear n0); (try clear n1); (try clear n2); (try clear n3); (try clear n4); (try clear n5); omega) (N m) (by (try clear n0); (try clear n1); (try clear n2); (try clear n3); (try clear n4); (try clear n5); omega)
    have n0 : nw (10 + (j : Int) - 10) = j := by rw [show 10 + (j : Int) - 10 = j by (try clear n0); (try clear n1); (try clear n2); (try clear n3); (try clear n4); (try clear n5); omega]; exact nwN _ (by (try clear n0); (try clear n1); (try clear n2); (try clear n3); (try clear n4); (try clear n5); omega)
    have n1 : nw (i : Int) = i := nwN _ (by (try clear n0); (try clear n1); (try clear n2); (try clear n3); (try clear n4); (try clear n5); omega)
    have n2 : nw (m : Int) = m := nwN _ (by (try clear n0); (try clear n1); (try clear n2); (try clear n3); (try clear n4); (try clear n5); omega)
    have n3 : ix (m : Int) = m := ixN _ (by (try clear n0); (try clear n1); (try clear n2); (try clear n3); (try clear n4); (try clear n5); omega)
    rw [Yard_dockedAt_b, n0, n1, n2, n3, hN m mf, ho, if_neg (by (try clear n0); (try clear n1); (try clear n2); (try clear n3); (try clear n4); (try clear n5); omega), if_pos (by (try clear n0); (try clear n1); (try clear n2); (try clear n3); (try clear n4); (try clear n5); omega)]
    exact e
theorem sm_dock {x1 : Int} {g : AG} (h1 : I32 x1) (hb : g 117 12 = g 6 7 ∧ 0 ≤ g 6 7 ∧ g 6 7 ≤ 10) (q : JYard g) :
    ∃ r1 r2, X_dock x1 g = some r1 ∧ M_dock x1 r1.2 = some r2 ∧ nw r1.1 = nw r2.1 ∧ FR [(10, 3), (99, 0), (100, 0), (101, 0), (102, 0), (117, 85), (117, 86), (117, 87), (175, 0), (176, 0), (177, 0)] g r2.2 := by
  unfold I32 at *
  obtain ⟨q1, q2, q3⟩ := q
  obtain ⟨NB, hNB⟩ := natOf hb.2.1
  have h7 : ∀ b, b ≤ 10 → (dkL (g 98) b).1 ≤ 7 := fun b hb10 => by
    have e1 := dkL_sm (g := g) b
    have e2 := sm_pre (f := dkF g) (n := b) 10 hb10 (fun i _ => by unfold dkF; split <;> omega)
    omega
  have f98 : ∀ b, b < 10 → g 98 b = g 98 b ∧ 0 ≤ g 98 b ∧ g 98 b ≤ 60 := fun b hb10 => ⟨rfl, (q1 b hb10).2.2.2⟩
  obtain ⟨c, hc⟩ : ∃ c, c = (dkL (g 98) 10).1 := ⟨_, rfl⟩
  obtain ⟨bl, hbl⟩ : ∃ bl, bl = (dkL (g 98) 10).2 := ⟨_, rfl⟩
  have c7 : c ≤ 7 := by rw [hc]; exact h7 10 (Nat.le_refl 10)
  have p2 := mk_p2 c (by (try clear n0); (try clear n1); (try clear n2); (try clear n12); (try clear nNB); (try clear wI); (try clear nx); (try clear topM); (try clear i0); (try clear eT); (try clear wr); omega)
  have lok : ∀ i, i < c → bl i < 10 ∧ 0 < g 98 (bl i) := fun i hi => by rw [hbl]; exact (dkL_ok (f := g 98) 10).2 i (by rw [← hc]; exact hi)
  have K : DkOk (fun i => g 98 (bl i)) (fun i => g 97 (bl i)) c := ⟨c7, fun i hi => by
    have := lok i hi
    have := q1 (bl i) this.1
    dsimp only
    omega⟩
  -- the class
  obtain ⟨g1, e1, f1, r1, r1'⟩ := X_order1_s (f := g 98) (g0 := g) f98 h7 (x2 := 0) 10 0 (up g 10 2 0) (by (try clear n0); (try clear n1); (try clear n2); (try clear n12); (try clear nNB); (try clear wI); (try clear nx); (try clear topM); (try clear i0); (try clear eT); (try clear wr); omega) (Fr.up Fr.rf rfl) (by rw [up_at, if_pos ⟨rfl, rfl⟩]; rfl) (fun i hi => by unfold dkL at hi; omega)
  rw [← hc] at r1 r1'
  rw [← hbl] at r1'
  obtain ⟨g5, hg5⟩ : ∃ g5 : AG, g5 = up (up g1 100 (2 ^ c - 1) 0) 101 (2 ^ c - 1) 0 := ⟨_, rfl⟩
  have f5 : FR RXD g1 g5 := by rw [hg5]; exact Fr.up (Fr.up Fr.rf rfl) rfl
  have X1 : XD g1 (fun i => g 98 (bl i)) (fun i => g 97 (bl i)) bl c := ⟨r1, fun i hi => ⟨r1' i hi, (lok i hi).1, by rw [f1 98 _ rfl], by rw [f1 97 _ rfl]⟩⟩
  have v100 : g5 100 (2 ^ c - 1) = 0 := by rw [hg5, up_at, if_neg (fun q => absurd q.1 (by decide)), up_at, if_pos ⟨rfl, rfl⟩]
  have v101 : g5 101 (2 ^ c - 1) = 0 := by rw [hg5, up_at, if_pos ⟨rfl, rfl⟩]
  have nf := mk_n_full c (by (try clear n0); (try clear n1); (try clear n2); (try clear n12); (try clear nNB); (try clear wI); (try clear nx); (try clear topM); (try clear i0); (try clear eT); (try clear wr); omega)
  obtain ⟨gX, eX, fX, TX⟩ := X_order2_s K (x1 := 10) (2 ^ c - 1) g5 (by (try clear n0); (try clear n1); (try clear n2); (try clear n12); (try clear nNB); (try clear wI); (try clear nx); (try clear topM); (try clear i0); (try clear eT); (try clear wr); omega) (X1.fr f5) (fun x h1 h2 => by
    have : x = 2 ^ c - 1 := by (try clear n0); (try clear n1); (try clear n2); (try clear n12); (try clear nNB); (try clear wI); (try clear nx); (try clear topM); (try clear i0); (try clear eT); (try clear wr); omega
    rw [this, v100, v101, nf]
    omega) v100 v101 (fun y h1 h2 => by (try clear n0); (try clear n1); (try clear n2); (try clear n12); (try clear nNB); (try clear wI); (try clear nx); (try clear topM); (try clear i0); (try clear eT); (try clear wr); omega)
  have XDX := X1.fr (f5.tr fX)
  have topX : Yard_orderDock g = some (0, gX) := by
    unfold Yard_orderDock
    rw [sb]
    have e1' : Yard_orderDock_b 1 0 0 (up g 10 2 0) = Yard_orderDock_b 1 10 0 g1 := e1
    have n0 : nw (10 : Int) = 10 := nwN 10 (by (try clear n0); (try clear n1); (try clear n2); (try clear n12); (try clear nNB); (try clear wI); (try clear nx); (try clear topM); (try clear i0); (try clear eT); (try clear wr); omega)
    have n1 : nw (shlI 1 (g1 10 2) - 1) = ((2 ^ c - 1 : Nat) : Int) := by
      rw [r1, p2.2.2, show ((2 ^ c : Nat) : Int) - 1 = ((2 ^ c - 1 : Nat) : Int) by (try clear n0); (try clear n1); (try clear n2); (try clear n12); (try clear nNB); (try clear wI); (try clear nx); (try clear topM); (try clear i0); (try clear eT); (try clear wr); omega]; exact nwN _ (by (try clear n0); (try clear n1); (try clear n2); (try clear n12); (try clear nNB); (try clear wI); (try clear nx); (try clear topM); (try clear i0); (try clear eT); (try clear wr); omega)
    have n2 : ix (shlI 1 (g1 10 2) - 1) = 2 ^ c - 1 := by
      rw [r1, p2.2.2, show ((2 ^ c : Nat) : Int) - 1 = ((2 ^ c - 1 : Nat) : Int) by (try clear n0); (try clear n1); (try clear n2); (try clear n12); (try clear nNB); (try clear wI); (try clear nx); (try clear topM); (try clear i0); (try clear eT); (try clear wr); omega]; exact ixN _ (by (try clear n0); (try clear n1); (try clear n2); (try clear n12); (try clear nNB); (try clear wI); (try clear nx); (try clear topM); (try clear i0); (try clear eT); (try clear wr); omega)
    have n3 : shlI 1 (g1 10 2) - 1 - 1 = ((2 ^ c - 1 : Nat) : Int) - 1 := by
      rw [r1, p2.2.2]; omega
    have u : ∀ v : Int, (up g1 100 (2 ^ c - 1) v) 10 2 = g1 10 2 := fun v => by rw [up_at, if_neg (fun q => absurd q.1 (by decide))]
    rw [e1', Yard_orderDock_b.eq_1 1, if_pos rfl, n0, if_pos (Int.le_refl _), n1, n2, n3, if_pos (by (try clear n0); (try clear n1); (try clear n2); (try clear n12); (try clear nNB); (try clear wI); (try clear nx); (try clear topM); (try clear i0); (try clear eT); (try clear wr); omega), sb, sb, ← hg5]
    exact eX
  obtain ⟨T, hT⟩ : ∃ T : Nat → Int × Int, T = fun x => (gX 100 x, gX 101 x) := ⟨_, rfl⟩
  obtain ⟨N, hN⟩ : ∃ N : Nat → Nat, N = fun x => (gX 102 x).toNat := ⟨_, rfl⟩
  have TT : DkT (fun i => g 98 (bl i)) (fun i => g 97 (bl i)) c T N := by
    refine ⟨fun x hx => by rw [hT]; exact TX.1 x hx, by rw [hT]; dsimp only; rw [TX.2.1, TX.2.2.1], fun m hm => ?_⟩
    obtain ⟨p, s1, s2, s3, s4⟩ := TX.2.2.2 m hm
    rw [hT, hN, s1]
    dsimp only
    rw [s2, s3, s4, Int.toNat_natCast]
  have hNX : ∀ m, m < 2 ^ c - 1 → gX 102 m = (N m : Nat) := fun m hm => by
    obtain ⟨p, s1, s2, s3, s4⟩ := TX.2.2.2 m hm
    rw [hN, s4]
    dsimp only
    rw [s4, Int.toNat_natCast]
  have fE : FR [(10, 3), (99, 0), (100, 0), (101, 0), (102, 0), (117, 85), (117, 86), (117, 87), (175, 0), (176, 0), (177, 0)] g gX := (FR.mo f1 rfl).tr ((FR.mo f5 rfl).tr (FR.mo fX rfl))
  -- the reference
  have f174 : ∀ b, b < 10 → (up gX 117 84 0) 174 b = g 98 b ∧ 0 ≤ g 98 b ∧ g 98 b ≤ 60 := fun b hb10 => by
    rw [up_at, if_neg (fun q => absurd q.1 (by decide)), fE 174 b rfl]
    exact ⟨(q1 b hb10).2.1, (q1 b hb10).2.2.2⟩
  obtain ⟨g2, e2, f2, r2, r2'⟩ := M_dlist_s (NB := NB) (by (try clear n0); (try clear n1); (try clear n2); (try clear n12); (try clear nNB); (try clear wI); (try clear nx); (try clear topM); (try clear i0); (try clear eT); (try clear wr); omega) (g0 := up gX 117 84 0) (f := g 98) (by rw [up_at, if_neg (by decide), fE 117 12 rfl, hb.1]; exact hNB) f174 h7 (x1 := x1) NB 0 (up gX 117 84 0) (by (try clear n0); (try clear n1); (try clear n2); (try clear n12); (try clear nNB); (try clear wI); (try clear nx); (try clear topM); (try clear i0); (try clear eT); (try clear wr); omega) Fr.rf (by rw [up_at, if_pos ⟨rfl, rfl⟩]; rfl) (fun i hi => by unfold dkL at hi; omega)
  have eN : dkL (g 98) NB = dkL (g 98) 10 := (dkL_end (f := g 98) (N := NB) 10 (by (try clear n0); (try clear n1); (try clear n2); (try clear n12); (try clear nNB); (try clear wI); (try clear nx); (try clear topM); (try clear i0); (try clear eT); (try clear wr); omega) (fun x h1 h2 => q2 x h2 (by (try clear n0); (try clear n1); (try clear n2); (try clear n12); (try clear nNB); (try clear wI); (try clear nx); (try clear topM); (try clear i0); (try clear eT); (try clear wr); omega))).symm
  rw [eN, ← hc] at r2 r2'
  rw [← hbl] at r2'
  have fE2 : FR [(10, 3), (99, 0), (100, 0), (101, 0), (102, 0), (117, 85), (117, 86), (117, 87), (175, 0), (176, 0), (177, 0)] g g2 := fE.tr ((Fr.up Fr.rf rfl).tr (FR.mo f2 rfl))
  have u85 : FR [(117, 86)] g2 (up g2 117 85 (-1)) := Fr.up Fr.rf rfl
  have MD2 : MD (up g2 117 85 (-1)) (fun i => g 98 (bl i)) (fun i => g 97 (bl i)) bl c := ⟨by rw [u85 117 84 rfl]; exact r2, fun i hi => by
    have l := lok i hi
    have qq := q1 (bl i) l.1
    refine ⟨by rw [u85 175 i rfl]; exact r2' i hi, l.1, ?_, ?_⟩
    · rw [u85 174 _ rfl, fE2 174 _ rfl]; exact qq.2.1
    · rw [u85 173 _ rfl, fE2 173 _ rfl]; exact qq.1 l.2⟩
  obtain ⟨gm, em, fm, _, Bm⟩ := M_docks_t K TT c 9 0 0 (fun _ => 0) 0 0 none (up g2 117 85 (-1)) (by (try clear n0); (try clear n1); (try clear n2); (try clear n12); (try clear nNB); (try clear wI); (try clear nx); (try clear topM); (try clear i0); (try clear eT); (try clear wr); omega) (by (try clear n0); (try clear n1); (try clear n2); (try clear n12); (try clear nNB); (try clear wI); (try clear nx); (try clear topM); (try clear i0); (try clear eT); (try clear wr); omega) (by (try clear n0); (try clear n1); (try clear n2); (try clear n12); (try clear nNB); (try clear wI); (try clear nx); (try clear topM); (try clear i0); (try clear eT); (try clear wr); omega) (mk_n_0 c) (by (try clear n0); (try clear n1); (try clear n2); (try clear n12); (try clear nNB); (try clear wI); (try clear nx); (try clear topM); (try clear i0); (try clear eT); (try clear wr); omega) (by (try clear n0); (try clear n1); (try clear n2); (try clear n12); (try clear nNB); (try clear wI); (try clear nx); (try clear topM); (try clear i0); (try clear eT); (try clear wr); omega) MD2 (fun j hj => by (try clear n0); (try clear n1); (try clear n2); (try clear n12); (try clear nNB); (try clear wI); (try clear nx); (try clear topM); (try clear i0); (try clear eT); (try clear wr); omega) (Or.inl ⟨rfl, by rw [up_at, if_pos ⟨rfl, rfl⟩]⟩)
  have fE3 : FR [(10, 3), (99, 0), (100, 0), (101, 0), (102, 0), (117, 85), (117, 86), (117, 87), (175, 0), (176, 0), (177, 0)] g gm := fE2.tr ((FR.mo u85 rfl).tr (FR.mo fm rfl))
  obtain ⟨b1, b2, b3⟩ : gm 117 85 = (T 0).1 ∧ gm 117 86 = (T 0).2 ∧ ∀ j, j < c → gm 177 j = (bl (fol N j 0) : Nat) := by
    rcases Bm with ⟨a, _⟩ | ⟨p, a, b, d, _, _, e⟩
    · cases a
    · have hp : (0 + (T 0).1, 0 + (T 0).2, dkO N 0 0 (fun _ => 0)) = p := Option.some.inj a
      subst hp
      refine ⟨by rw [b]; exact Int.zero_add _, by rw [d]; exact Int.zero_add _, fun j hj => ?_⟩
      rw [e j hj]
      have e0 : dkO N 0 0 (fun _ => 0) j = fol N j 0 := by
        unfold dkO
        rw [if_neg (by (try clear n0); (try clear n1); (try clear n2); (try clear n12); (try clear nNB); (try clear wI); (try clear nx); (try clear topM); (try clear i0); (try clear eT); (try clear wr); omega)]
        rfl
      show ((bl (dkO N 0 0 (fun _ => 0) j) : Nat) : Int) = _
      rw [e0]
  have m84 : gm 117 84 = c := by rw [fm 117 84 rfl, u85 117 84 rfl]; exact r2
  rw [dkDay_0] at em
  have em' : M_docksOn 9 0 0 0 0 0 (up g2 117 85 (-1)) = some (0, gm) := em
  have n12 : nw (g2 117 12) = NB := by
    rw [fE2 117 12 rfl, hb.1, hNB]; exact nwN _ (by (try clear n0); (try clear n1); (try clear n2); (try clear n12); (try clear nNB); (try clear wI); (try clear nx); (try clear topM); (try clear i0); (try clear eT); (try clear wr); omega)
  have nNB : nw (NB : Int) = NB := nwN _ (by (try clear n0); (try clear n1); (try clear n2); (try clear n12); (try clear nNB); (try clear wI); (try clear nx); (try clear topM); (try clear i0); (try clear eT); (try clear wr); omega)
  have wI : (nw (M_isIn x1 10 (9 + gm 117 84)) = 0) = (x1 < 10 ∨ 9 + (c : Int) < x1) := by
    rw [m84]
    exact isIn0 (by (try clear n0); (try clear n1); (try clear n2); (try clear n12); (try clear nNB); (try clear wI); (try clear nx); (try clear topM); (try clear i0); (try clear eT); (try clear wr); omega) (by (try clear n0); (try clear n1); (try clear n2); (try clear n12); (try clear nNB); (try clear wI); (try clear nx); (try clear topM); (try clear i0); (try clear eT); (try clear wr); omega) (by decide) (by decide) (by (try clear n0); (try clear n1); (try clear n2); (try clear n12); (try clear nNB); (try clear wI); (try clear nx); (try clear topM); (try clear i0); (try clear eT); (try clear wr); omega) (by (try clear n0); (try clear n1); (try clear n2); (try clear n12); (try clear nNB); (try clear wI); (try clear nx); (try clear topM); (try clear i0); (try clear eT); (try clear wr); omega)
  have nx : nw x1 = x1 := nw_id (by (try clear n0); (try clear n1); (try clear n2); (try clear n12); (try clear nNB); (try clear wI); (try clear nx); (try clear topM); (try clear i0); (try clear eT); (try clear wr); omega) (by (try clear n0); (try clear n1); (try clear n2); (try clear n12); (try clear nNB); (try clear wI); (try clear nx); (try clear topM); (try clear i0); (try clear eT); (try clear wr); omega)
  have topM : M_dock x1 gX = (if nw (M_isIn x1 10 (9 + gm 117 84)) = 0 then some ((if x1 = 0 then gm 117 85 else if x1 = 1 then gm 117 86 else if x1 = 2 then gm 117 84 else -1), gm) else if 0 ≤ nw (x1 - 10) ∧ nw (x1 - 10) < 7 then some (gm 177 (ix (x1 - 10)), gm) else none) := by
    unfold M_dock
    rw [sb]
    have e2' : M_dock_b x1 0 (up gX 117 84 0) = M_dock_b x1 NB g2 := e2
    rw [e2', M_dock_b, n12, nNB, if_pos (Int.le_refl _), sb, em', sb, nx, sb]
  have xE : X_dock x1 g = (if x1 = 0 then some (gX 100 0, gX) else if x1 = 1 then some (gX 101 0, gX) else if x1 = 2 then some (gX 10 2, gX) else (Yard_dockedAt x1 gX >>= fun r6 => some (r6, gX))) := by
    unfold X_dock
    rw [topX, sb, nx]
    have i0 : ix 0 = 0 := ixN 0 (by (try clear n0); (try clear n1); (try clear n2); (try clear n12); (try clear nNB); (try clear wI); (try clear nx); (try clear topM); (try clear i0); (try clear eT); (try clear wr); omega)
    rw [i0]
  have t0 : gX 100 0 = (T 0).1 := by rw [hT]
  have t1 : gX 101 0 = (T 0).2 := by rw [hT]
  by_cases z : 10 ≤ x1 ∧ x1 ≤ 9 + (c : Int)
  · obtain ⟨j, hj⟩ : ∃ j : Nat, x1 = 10 + j := ⟨(x1 - 10).toNat, by (try clear n0); (try clear n1); (try clear n2); (try clear n12); (try clear nNB); (try clear wI); (try clear nx); (try clear topM); (try clear i0); (try clear eT); (try clear wr); omega⟩
    have jc : j < c := by (try clear n0); (try clear n1); (try clear n2); (try clear n12); (try clear nNB); (try clear wI); (try clear nx); (try clear topM); (try clear i0); (try clear eT); (try clear wr); omega
    refine ⟨(((bl (fol N j 0) : Nat) : Int), gX), (((bl (fol N j 0) : Nat) : Int), gm), ?_, ?_, rfl, fE3⟩
    · rw [xE, if_neg (by (try clear n0); (try clear n1); (try clear n2); (try clear n12); (try clear nNB); (try clear wI); (try clear nx); (try clear topM); (try clear i0); (try clear eT); (try clear wr); omega), if_neg (by (try clear n0); (try clear n1); (try clear n2); (try clear n12); (try clear nNB); (try clear wI); (try clear nx); (try clear topM); (try clear i0); (try clear eT); (try clear wr); omega), if_neg (by (try clear n0); (try clear n1); (try clear n2); (try clear n12); (try clear nNB); (try clear wI); (try clear nx); (try clear topM); (try clear i0); (try clear eT); (try clear wr); omega)]
      have eT : ¬ nw (X_within (x1 - 10) 0 (gX 10 2 - 1)) = 0 := by
        rw [XDX.1, within0 (by (try clear n0); (try clear n1); (try clear n2); (try clear n12); (try clear nNB); (try clear wI); (try clear nx); (try clear topM); (try clear i0); (try clear eT); (try clear wr); omega) (by (try clear n0); (try clear n1); (try clear n2); (try clear n12); (try clear nNB); (try clear wI); (try clear nx); (try clear topM); (try clear i0); (try clear eT); (try clear wr); omega) (by decide) (by decide) (by (try clear n0); (try clear n1); (try clear n2); (try clear n12); (try clear nNB); (try clear wI); (try clear nx); (try clear topM); (try clear i0); (try clear eT); (try clear wr); omega) (by (try clear n0); (try clear n1); (try clear n2); (try clear n12); (try clear nNB); (try clear wI); (try clear nx); (try clear topM); (try clear i0); (try clear eT); (try clear wr); omega)]
        omega
      unfold Yard_dockedAt
      rw [if_neg eT]
      have d := X_docked_s K XDX TT hNX jc j 0 0 (by (try clear n0); (try clear n1); (try clear n2); (try clear n12); (try clear nNB); (try clear wI); (try clear nx); (try clear topM); (try clear i0); (try clear eT); (try clear wr); omega) (by (try clear n0); (try clear n1); (try clear n2); (try clear n12); (try clear nNB); (try clear wI); (try clear nx); (try clear topM); (try clear i0); (try clear eT); (try clear wr); omega) (mk_n_0 c)
      have d' : Yard_dockedAt_b x1 gX 0 0 = some ((bl (fol N j 0) : Nat) : Int) := by rw [hj]; exact d
      rw [d', sb]
    · have n0 : nw (x1 - 10) = j := by rw [show x1 - 10 = (j : Int) by (try clear n0); (try clear n1); (try clear n2); (try clear n12); (try clear nNB); (try clear wI); (try clear nx); (try clear topM); (try clear i0); (try clear eT); (try clear wr); omega]; exact nwN _ (by (try clear n0); (try clear n1); (try clear n2); (try clear n12); (try clear nNB); (try clear wI); (try clear nx); (try clear topM); (try clear i0); (try clear eT); (try clear wr); omega)
      have n1 : ix (x1 - 10) = j := by rw [show x1 - 10 = (j : Int) by (try clear n0); (try clear n1); (try clear n2); (try clear n12); (try clear nNB); (try clear wI); (try clear nx); (try clear topM); (try clear i0); (try clear eT); (try clear wr); omega]; exact ixN _ (by (try clear n0); (try clear n1); (try clear n2); (try clear n12); (try clear nNB); (try clear wI); (try clear nx); (try clear topM); (try clear i0); (try clear eT); (try clear wr); omega)
      rw [topM, if_neg (by rw [wI]; omega), n0, n1, if_pos (by (try clear n0); (try clear n1); (try clear n2); (try clear n12); (try clear nNB); (try clear wI); (try clear nx); (try clear topM); (try clear i0); (try clear eT); (try clear wr); omega), b3 j jc]
  · have mN : M_dock x1 gX = some ((if x1 = 0 then gm 117 85 else if x1 = 1 then gm 117 86 else if x1 = 2 then gm 117 84 else -1), gm) := by
      rw [topM, if_pos (by rw [wI]; omega)]
    have eT : ¬ (0 ≤ x1 ∧ x1 ≤ 2) → nw (X_within (x1 - 10) 0 (gX 10 2 - 1)) = 0 := by
      intro _
      rw [XDX.1]
      unfold X_within
      rw [nw_0, nw_id (a := (c : Int) - 1) (by (try clear n0); (try clear n1); (try clear n2); (try clear n12); (try clear nNB); (try clear wI); (try clear nx); (try clear topM); (try clear i0); (try clear eT); (try clear wr); omega) (by (try clear n0); (try clear n1); (try clear n2); (try clear n12); (try clear nNB); (try clear wI); (try clear nx); (try clear topM); (try clear i0); (try clear eT); (try clear wr); omega)]
      have wr : nw (x1 - 10) = if x1 < -2147483638 then x1 - 10 + 4294967296 else x1 - 10 := by
        by_cases z : x1 < -2147483638
        · rw [if_pos z, nw_iff.2 (show (x1 - 10 - (x1 - 10 + 4294967296)) % 4294967296 = 0 by (try clear n0); (try clear n1); (try clear n2); (try clear n12); (try clear nNB); (try clear wI); (try clear nx); (try clear topM); (try clear i0); (try clear eT); (try clear wr); omega), nw_id (by (try clear n0); (try clear n1); (try clear n2); (try clear n12); (try clear nNB); (try clear wI); (try clear nx); (try clear topM); (try clear i0); (try clear eT); (try clear wr); omega) (by (try clear n0); (try clear n1); (try clear n2); (try clear n12); (try clear nNB); (try clear wI); (try clear nx); (try clear topM); (try clear i0); (try clear eT); (try clear wr); omega)]
        · rw [if_neg z, nw_id (by (try clear n0); (try clear n1); (try clear n2); (try clear n12); (try clear nNB); (try clear wI); (try clear nx); (try clear topM); (try clear i0); (try clear eT); (try clear wr); omega) (by (try clear n0); (try clear n1); (try clear n2); (try clear n12); (try clear nNB); (try clear wI); (try clear nx); (try clear topM); (try clear i0); (try clear eT); (try clear wr); omega)]
      rw [wr]
      by_cases z : x1 < -2147483638
      · rw [if_pos z, if_neg (by (try clear n0); (try clear n1); (try clear n2); (try clear n12); (try clear nNB); (try clear wI); (try clear nx); (try clear topM); (try clear i0); (try clear eT); (try clear wr); omega), if_pos (by (try clear n0); (try clear n1); (try clear n2); (try clear n12); (try clear nNB); (try clear wI); (try clear nx); (try clear topM); (try clear i0); (try clear eT); (try clear wr); omega), nw_0]
      · rw [if_neg z]
        by_cases z1 : x1 - 10 < 0
        · rw [if_pos z1, nw_0]
        · rw [if_neg z1, if_pos (by (try clear n0); (try clear n1); (try clear n2); (try clear n12); (try clear nNB); (try clear wI); (try clear nx); (try clear topM); (try clear i0); (try clear eT); (try clear wr); omega), nw_0]
    refine ⟨((if x1 = 0 then gX 100 0 else if x1 = 1 then gX 101 0 else if x1 = 2 then gX 10 2 else -1), gX), _, ?_, mN, ?_, fE3⟩
    · rw [xE]
      by_cases y0 : x1 = 0
      · rw [if_pos y0, if_pos y0]
      rw [if_neg y0, if_neg y0]
      by_cases y1 : x1 = 1
      · rw [if_pos y1, if_pos y1]
      rw [if_neg y1, if_neg y1]
      by_cases y2 : x1 = 2
      · rw [if_pos y2, if_pos y2]
      rw [if_neg y2, if_neg y2]
      unfold Yard_dockedAt
      rw [if_pos (eT (by (try clear n0); (try clear n1); (try clear n2); (try clear n12); (try clear nNB); (try clear wI); (try clear nx); (try clear topM); (try clear i0); (try clear eT); (try clear wr); omega)), sb]
    · dsimp only
      rw [b1, b2, m84, t0, t1, XDX.1]
end
section
/-! plain programs: the bookings, what is sought -/
def uv (f : Nat → Int) (i : Nat) (v : Int) : Nat → Int := fun j => if j = i then v else f j
theorem uv_at {f : Nat → Int} {i : Nat} {v : Int} : uv f i v i = v := by unfold uv; rw [if_pos rfl]
theorem uv_ne {f : Nat → Int} {i j : Nat} {v : Int} (h : j ≠ i) : uv f i v j = f j := by unfold uv; rw [if_neg h]
abbrev GS : Type := Int × Int × (Nat → Int)
def gHome (wh hh : Nat → Int) : Nat → Int
  | 0 => 0
  | b + 1 => gHome wh hh b + (if wh b = hh b then 1 else 0)
theorem gHome_rng {wh hh : Nat → Int} : ∀ k : Nat, 0 ≤ gHome wh hh k ∧ gHome wh hh k ≤ k
  | 0 => by unfold gHome; omega
  | k + 1 => by
    have := gHome_rng (wh := wh) (hh := hh) k
    unfold gHome
    split <;> omega
def gLeaf (hh : Nat → Int) (k : Nat) (n : Int) (wh as : Nat → Int) (s : GS) : GS := if s.1 < n ∨ (n = s.1 ∧ s.2.1 < gHome wh hh k) then (n, gHome wh hh k, as) else s
abbrev gOk (bf bw bb hb wh bz : Nat → Int) (j b : Nat) : Prop := bb j ≤ hb b ∧ wh b = bf j ∧ bz b < bw j
def gS (bf bt bw bb hb hh : Nat → Int) (o : Nat → Nat) (k : Nat) : Nat → Nat → Int → (Nat → Int) → (Nat → Int) → (Nat → Int) → GS → GS
  | 0, _, n, wh, _, as, s => gLeaf hh k n wh as s
  | r + 1, i, n, wh, bz, as, s => gS bf bt bw bb hb hh o k r (i + 1) n wh bz (uv as (o i) (-1)) (tR (fun b s => if gOk bf bw bb hb wh bz (o i) b then gS bf bt bw bb hb hh o k r (i + 1) (n + 1) (uv wh b (bt (o i))) (uv bz b (bw (o i))) (uv as (o i) (b : Nat)) s else s) k 0 s)
def BkOk (c : Nat) (bf bt bw bb : Nat → Int) : Prop := c ≤ 8 ∧ ∀ j, j < c → (0 ≤ bf j ∧ bf j ≤ 15) ∧ (0 ≤ bt j ∧ bt j ≤ 15) ∧ (0 ≤ bw j ∧ bw j ≤ 9) ∧ (2 ≤ bb j ∧ bb j ≤ 12)
def BtOk (k : Nat) (hb hh : Nat → Int) : Prop := k ≤ 4 ∧ ∀ b, b < k → (0 ≤ hb b ∧ hb b ≤ 15) ∧ (0 ≤ hh b ∧ hh b ≤ 15)
/-- the order in which bookings are gone through -/
def Ord (c : Nat) (bw : Nat → Int) (o : Nat → Nat) : Prop := (∀ p, p < c → o p < c) ∧ (∀ p q, p < q → q < c → bw (o p) < bw (o q) ∨ (bw (o p) = bw (o q) ∧ o p < o q)) ∧ ∀ j, j < c → ∃ p, p < c ∧ o p = j
theorem Ord.inj {c : Nat} {bw : Nat → Int} {o : Nat → Nat} (h : Ord c bw o) {p q : Nat} (hp : p < c) (hq : q < c) (e : o p = o q) : p = q := by
  rcases Nat.lt_trichotomy p q with z | z | z
  · have := h.2.1 p q z hq
    rw [e] at this
    omega
  · exact z
  · have := h.2.1 q p z hp
    rw [e] at this
    omega
theorem Ord.le {c : Nat} {bw : Nat → Int} {o : Nat → Nat} (h : Ord c bw o) {p q : Nat} (hpq : p ≤ q) (hq : q < c) : bw (o p) ≤ bw (o q) := by
  by_cases e : p = q
  · rw [e]; exact Int.le_refl _
  · have := h.2.1 p q (by omega) hq
    omega
theorem Ord.one {c : Nat} {bw : Nat → Int} {o o' : Nat → Nat} (h : Ord c bw o) (h' : Ord c bw o') : ∀ p, p < c → o p = o' p := by
  intro p
  induction p using Nat.strongRecOn with
  | ind p ih =>
    intro hp
    have lem : ∀ a b : Nat → Nat, Ord c bw a → Ord c bw b → (∀ q, q < p → a q = b q) → ¬ (bw (a p) < bw (b p) ∨ (bw (a p) = bw (b p) ∧ a p < b p)) := by
      intro a b ha hb heq z
      obtain ⟨q, hq, e⟩ := hb.2.2 (a p) (ha.1 p hp)
      rcases Nat.lt_or_ge q p with y | y
      · rw [← heq q y] at e
        have := ha.inj hq hp e
        omega
      · by_cases x : q = p
        · rw [x] at e
          rw [e] at z
          omega
        · have := hb.2.1 p q (by omega) hq
          rw [e] at this
          omega
    have n1 := lem o o' h h' (fun q hq => ih q hq (by omega))
    have n2 := lem o' o h' h (fun q hq => (ih q hq (by omega)).symm)
    omega
/-- what holds where i bookings have been gone through -/
def GI (c : Nat) (bt bw hh : Nat → Int) (o : Nat → Nat) (k i : Nat) (n : Int) (wh bz : Nat → Int) : Prop := (0 ≤ n ∧ n ≤ i) ∧ (∀ b, b < k → (0 ≤ wh b ∧ wh b ≤ 15) ∧ (-1 ≤ bz b ∧ bz b ≤ 9)) ∧ (∀ b, b < k → ∀ p, i ≤ p → p < c → bz b ≤ bw (o p)) ∧ ∀ b, b < k → wh b = hh b ∨ ∃ x, x < c ∧ wh b = bt x ∧ bw x ≤ bz b
theorem GI.none {c : Nat} {bt bw hh : Nat → Int} {o : Nat → Nat} {k i : Nat} {n : Int} {wh bz : Nat → Int} (h : GI c bt bw hh o k i n wh bz) : GI c bt bw hh o k (i + 1) n wh bz := ⟨by have := h.1; omega, h.2.1, fun b hb p hp hc => h.2.2.1 b hb p (by omega) hc, h.2.2.2⟩
theorem GI.some {c : Nat} {bf bt bw bb hh : Nat → Int} {o : Nat → Nat} {k i : Nat} {n : Int} {wh bz : Nat → Int} (K : BkOk c bf bt bw bb) (O : Ord c bw o) (h : GI c bt bw hh o k i n wh bz) (hi : i < c) (b : Nat) : GI c bt bw hh o k (i + 1) (n + 1) (uv wh b (bt (o i))) (uv bz b (bw (o i))) := by
  have ho := O.1 i hi
  have r := K.2 (o i) ho
  refine ⟨by have := h.1; omega, fun x hx => ?_, fun x hx p hp hc => ?_, fun x hx => ?_⟩
  · by_cases e : x = b
    · rw [e, uv_at, uv_at]; omega
    · rw [uv_ne e, uv_ne e]; exact h.2.1 x hx
  · by_cases e : x = b
    · rw [e, uv_at]; exact O.le (by omega) hc
    · rw [uv_ne e]; exact h.2.2.1 x hx p (by omega) hc
  · by_cases e : x = b
    · rw [e, uv_at, uv_at]; exact Or.inr ⟨o i, ho, rfl, Int.le_refl _⟩
    · rw [uv_ne e, uv_ne e]; exact h.2.2.2 x hx
/-- hope: what can still be served -/
def cEv (c : Nat) (bf bt bw bb hb hh : Nat → Int) (k j : Nat) : Prop := ∃ b, b < k ∧ bb j ≤ hb b ∧ (hh b = bf j ∨ ∃ x, x < c ∧ bw x < bw j ∧ bt x = bf j)
def Hop (c : Nat) (bf bt bw bb hb hh : Nat → Int) (o : Nat → Nat) (k : Nat) (hp : Nat → Int) : Prop := hp c = 0 ∧ ∀ i, i < c → (hp i = hp (i + 1) ∨ hp i = hp (i + 1) + 1) ∧ (cEv c bf bt bw bb hb hh k (o i) → hp i = hp (i + 1) + 1)
theorem gS_prune {c : Nat} {bf bt bw bb hb hh : Nat → Int} {o : Nat → Nat} {k : Nat} {hp : Nat → Int} (K : BkOk c bf bt bw bb) (O : Ord c bw o) (H : Hop c bf bt bw bb hb hh o k hp) : ∀ (r i : Nat) (n : Int) (wh bz as : Nat → Int) (s : GS), i + r = c → GI c bt bw hh o k i n wh bz → (n + hp i < s.1 ∨ (n + hp i = s.1 ∧ (k : Int) ≤ s.2.1)) → gS bf bt bw bb hb hh o k r i n wh bz as s = s
  | 0, i, n, wh, bz, as, s, h, G, q => by
    have hr := gHome_rng (wh := wh) (hh := hh) k
    unfold gS gLeaf
    rw [show i = c by omega, H.1] at q
    rw [if_neg (by omega)]
  | r + 1, i, n, wh, bz, as, s, h, G, q => by
    have hi : i < c := by omega
    have Hi := H.2 i hi
    unfold gS
    have e : tR (fun b s => if gOk bf bw bb hb wh bz (o i) b then gS bf bt bw bb hb hh o k r (i + 1) (n + 1) (uv wh b (bt (o i))) (uv bz b (bw (o i))) (uv as (o i) (b : Nat)) s else s) k 0 s = s := by
      refine tR_same (H := k) (fun b hb' => ?_) k 0 (by omega)
      by_cases z : gOk bf bw bb hb wh bz (o i) b
      · rw [if_pos z]
        have ev : cEv c bf bt bw bb hb hh k (o i) := by
          refine ⟨b, hb', z.1, ?_⟩
          rcases G.2.2.2 b hb' with y | ⟨x, y1, y2, y3⟩
          · exact Or.inl (by rw [← y]; exact z.2.1)
          · exact Or.inr ⟨x, y1, by have := z.2.2; omega, by rw [← y2]; exact z.2.1⟩
        have := Hi.2 ev
        exact gS_prune K O H r (i + 1) (n + 1) _ _ _ s (by omega) (G.some K O hi b) (by omega)
      · rw [if_neg z]
    rw [e]
    exact gS_prune K O H r (i + 1) n _ _ _ s (by omega) G.none (by omega)
theorem tR_ind {S : Type} {rec : Nat → S → S} {P : S → Prop} {c : Nat} (h : ∀ b s, b < c → P s → P (rec b s)) : ∀ (k b : Nat) (s : S), b + k ≤ c → P s → P (tR rec k b s)
  | 0, _, _, _, p => p
  | k + 1, b, s, hb, p => by
    unfold tR
    exact tR_ind h k (b + 1) _ (by omega) (h b s (by omega) p)
/-- what is found is one that was served -/
theorem gS_some {bf bt bw bb hb hh : Nat → Int} {o : Nat → Nat} {k : Nat} : ∀ (r i : Nat) (n : Int) (wh bz as : Nat → Int) (s : GS), 0 ≤ n → 0 ≤ (gS bf bt bw bb hb hh o k r i n wh bz as s).1
  | 0, i, n, wh, bz, as, s, h => by
    unfold gS gLeaf
    by_cases z : s.1 < n ∨ (n = s.1 ∧ s.2.1 < gHome wh hh k)
    · rw [if_pos z]; exact h
    · rw [if_neg z]; omega
  | r + 1, i, n, wh, bz, as, s, h => by
    unfold gS
    exact gS_some r (i + 1) n _ _ _ _ h
end
section
/-! plain programs: the bookings, the reference's ways -/
def MK (g : AG) (c : Nat) (bf bt bw bb hb hh : Nat → Int) (o : Nat → Nat) (k : Nat) : Prop := g 117 65 = c ∧ (∀ j, j < c → g 162 j = bf j ∧ g 163 j = bt j ∧ g 164 j = bw j ∧ g 165 j = bb j ∧ g 166 j = (o j : Nat)) ∧ ∀ b, b < k → g 171 b = hb b ∧ g 172 b = hh b
abbrev RMG : Reg := [(117, 67), (117, 68), (167, 0), (168, 0), (169, 0), (170, 0)]
theorem MK.fr {g g' : AG} {c : Nat} {bf bt bw bb hb hh : Nat → Int} {o : Nat → Nat} {k : Nat} (h : MK g c bf bt bw bb hb hh o k) (f : FR RMG g g') : MK g' c bf bt bw bb hb hh o k := by
  refine ⟨by rw [f 117 65 rfl]; exact h.1, fun j hj => ?_, fun b hb' => ?_⟩
  · rw [f 162 j rfl, f 163 j rfl, f 164 j rfl, f 165 j rfl, f 166 j rfl]; exact h.2.1 j hj
  · rw [f 171 b rfl, f 172 b rfl]; exact h.2.2 b hb'
def MGB (g : AG) (c : Nat) (s : GS) : Prop := g 117 66 = s.1 ∧ g 117 67 = s.2.1 ∧ (-1 ≤ s.1 ∧ s.1 ≤ 8) ∧ (-1 ≤ s.2.1 ∧ s.2.1 ≤ 4) ∧ (0 ≤ s.1 → ∀ j, j < c → g 168 j = s.2.2 j)
theorem M_gcopy_s {c : Nat} (hc : c ≤ 8) {rec : Int → Int → Int → AG → Option (Int × AG)} {a b d v : Int} : ∀ (n k : Nat) (g : AG), k + n = c → g 117 65 = c → ∃ g', M_gives_b rec a b d 3 v k g = some (0, g') ∧ FR [(168, 0)] g g' ∧ (∀ j, k ≤ j → j < c → g' 168 j = g 167 j) ∧ ∀ j, j < k → g' 168 j = g 168 j := by
  intro n
  induction n with
  | zero =>
    intro k g h hg
    refine ⟨g, ?_, Fr.rf, fun j h1 h2 => by (try clear n0); (try clear n1); (try clear n2); omega, fun j _ => rfl⟩
    rw [M_gives_b.eq_1 _ _ _ _ 3, if_neg (by decide), if_neg (by decide), if_pos rfl, if_pos (by rw [hg, nwN _ (by (try clear n0); (try clear n1); (try clear n2); omega), nwN _ (by (try clear n0); (try clear n1); (try clear n2); omega)]; (try clear n0); (try clear n1); (try clear n2); omega)]
  | succ n ih =>
    intro k g h hg
    obtain ⟨g', e, f, p1, p2⟩ := ih (k + 1) (up g 168 k (g 167 k)) (by (try clear n0); (try clear n1); (try clear n2); omega) (by rw [up_at, if_neg (fun q => absurd q.1 (by decide))]; exact hg)
    refine ⟨g', ?_, (Fr.up Fr.rf rfl).tr f, ?_, ?_⟩
    · have n0 : nw (g 117 65) = c := by rw [hg, nwN _ (by (try clear n0); (try clear n1); (try clear n2); omega)]
      have n1 : nw (k : Int) = k := nwN _ (by (try clear n0); (try clear n1); (try clear n2); omega)
      have n2 : ix (k : Int) = k := ixN _ (by (try clear n0); (try clear n1); (try clear n2); omega)
      rw [M_gives_b.eq_1 _ _ _ _ 3, n0, n1, n2]
      rw [if_neg (by decide), if_neg (by decide), if_pos rfl, if_neg (by (try clear n0); (try clear n1); (try clear n2); omega), if_pos (by (try clear n0); (try clear n1); (try clear n2); omega), sb]
      exact e
    · intro j h1 h2
      by_cases z : j = k
      · subst z; rw [p2 j (by (try clear n0); (try clear n1); (try clear n2); omega), up_at, if_pos ⟨rfl, rfl⟩]
      · rw [p1 j (by (try clear n0); (try clear n1); (try clear n2); omega) h2, up_at, if_neg (fun q => absurd q.1 (by decide))]
    · intro j hj
      rw [p2 j (by (try clear n0); (try clear n1); (try clear n2); omega), up_at, if_neg (by (try clear n0); (try clear n1); (try clear n2); omega)]
theorem M_home_s {k : Nat} (hk : k ≤ 4) {wh hh : Nat → Int} {g : AG} (hw : ∀ b, b < k → g 169 b = wh b ∧ 0 ≤ wh b ∧ wh b ≤ 15) (hh' : ∀ b, b < k → g 172 b = hh b ∧ 0 ≤ hh b ∧ hh b ≤ 15) {rec : Int → Int → Int → AG → Option (Int × AG)} {a n : Int} : ∀ (q b : Nat), b + q = k → M_gives_b rec a k n 1 (gHome wh hh b) b g = M_gives_b rec a k n 1 (gHome wh hh k) k g := by
  intro q
  induction q with
  | zero => intro b h; rw [show b = k by (try clear n0); (try clear n1); (try clear n2); (try clear n3); (try clear n4); omega]
  | succ q ih =>
    intro b h
    have w := hw b (by (try clear n0); (try clear n1); (try clear n2); (try clear n3); (try clear n4); omega)
    have hx := hh' b (by (try clear n0); (try clear n1); (try clear n2); (try clear n3); (try clear n4); omega)
    have e2 := ih (b + 1) (by (try clear n0); (try clear n1); (try clear n2); (try clear n3); (try clear n4); omega)
    have n0 : nw (k : Int) = k := nwN _ (by (try clear n0); (try clear n1); (try clear n2); (try clear n3); (try clear n4); omega)
    have n1 : nw (b : Int) = b := nwN _ (by (try clear n0); (try clear n1); (try clear n2); (try clear n3); (try clear n4); omega)
    have n2 : ix (b : Int) = b := ixN _ (by (try clear n0); (try clear n1); (try clear n2); (try clear n3); (try clear n4); omega)
    have n3 : nw (wh b) = wh b := nw_id (by (try clear n0); (try clear n1); (try clear n2); (try clear n3); (try clear n4); omega) (by (try clear n0); (try clear n1); (try clear n2); (try clear n3); (try clear n4); omega)
    have n4 : nw (hh b) = hh b := nw_id (by (try clear n0); (try clear n1); (try clear n2); (try clear n3); (try clear n4); omega) (by (try clear n0); (try clear n1); (try clear n2); (try clear n3); (try clear n4); omega)
    rw [← e2]
    conv => lhs; rw [M_gives_b.eq_1 _ _ _ _ 1, n0, n1, n2, w.1, hx.1, n3, n4, if_pos rfl, if_neg (by (try clear n0); (try clear n1); (try clear n2); (try clear n3); (try clear n4); omega), if_pos (by (try clear n0); (try clear n1); (try clear n2); (try clear n3); (try clear n4); omega), sb]
    rfl
theorem M_gives_t {c : Nat} {bf bt bw bb hb hh : Nat → Int} {o : Nat → Nat} {k : Nat} (K : BkOk c bf bt bw bb) (BT : BtOk k hb hh) (O : Ord c bw o) : ∀ (r f i : Nat) (n : Int) (wh bz as : Nat → Int) (s : GS) (g : AG), i + r = c → r + 1 ≤ f → MK g c bf bt bw bb hb hh o k → GI c bt bw hh o k i n wh bz → (∀ b, b < k → g 169 b = wh b ∧ g 170 b = bz b) → (∀ p, p < i → g 167 (o p) = as (o p)) → MGB g c s → ∃ g', M_gives f i k n g = some (0, g') ∧ FR RMG g g' ∧ (∀ b, b < k → g' 169 b = g 169 b ∧ g' 170 b = g 170 b) ∧ (∀ p, p < i → g' 167 (o p) = g 167 (o p)) ∧ MGB g' c (gS bf bt bw bb hb hh o k r i n wh bz as s) := by
  intro r
  induction r with
  | zero =>
    intro f i n wh bz as s g h hf D G hw ha B
    obtain ⟨f, rfl⟩ : ∃ f', f = f' + 1 := ⟨f - 1, by (try clear n0); (try clear n1); (try clear n2); (try clear n3); (try clear n4); (try clear n5); (try clear n6); (try clear n7); (try clear n8); (try clear m1); (try clear m2); (try clear m3); (try clear m4); (try clear m5); omega⟩
    have hc := K.1
    have hk := BT.1
    have ei : i = c := by (try clear n0); (try clear n1); (try clear n2); (try clear n3); (try clear n4); (try clear n5); (try clear n6); (try clear n7); (try clear n8); (try clear m1); (try clear m2); (try clear m3); (try clear m4); (try clear m5); omega
    subst ei
    have gn := G.1
    have hr := gHome_rng (wh := wh) (hh := hh) k
    have mh := M_home_s hk (wh := wh) (hh := hh) (g := g) (fun b hb' => ⟨(hw b hb').1, (G.2.1 b hb').1⟩) (fun b hb' => ⟨(D.2.2 b hb').2, (BT.2 b hb').2⟩) (rec := M_gives f) (a := 0) (n := n) k 0 (by (try clear n0); (try clear n1); (try clear n2); (try clear n3); (try clear n4); (try clear n5); (try clear n6); (try clear n7); (try clear n8); (try clear m1); (try clear m2); (try clear m3); (try clear m4); (try clear m5); omega)
    have mh' : M_gives_b (M_gives f) 0 k n 1 0 0 g = M_gives_b (M_gives f) 0 k n 1 (gHome wh hh k) k g := mh
    obtain ⟨hm, hhm⟩ : ∃ hm, hm = gHome wh hh k := ⟨_, rfl⟩
    rw [← hhm] at hr mh'
    have as' : ∀ j, j < i → g 167 j = as j := fun j hj => by
      obtain ⟨p, hp, e⟩ := O.2.2 j hj
      rw [← e]
      exact ha p hp
    have n0 : nw (g 117 65) = i := by rw [D.1, nwN _ (by (try clear n0); (try clear n1); (try clear n2); (try clear n3); (try clear n4); (try clear n5); (try clear n6); (try clear n7); (try clear n8); (try clear m1); (try clear m2); (try clear m3); (try clear m4); (try clear m5); omega)]
    have n1 : nw (i : Int) = i := nwN _ (by (try clear n0); (try clear n1); (try clear n2); (try clear n3); (try clear n4); (try clear n5); (try clear n6); (try clear n7); (try clear n8); (try clear m1); (try clear m2); (try clear m3); (try clear m4); (try clear m5); omega)
    have n2 : nw n = n := nw_id (by (try clear n0); (try clear n1); (try clear n2); (try clear n3); (try clear n4); (try clear n5); (try clear n6); (try clear n7); (try clear n8); (try clear m1); (try clear m2); (try clear m3); (try clear m4); (try clear m5); omega) (by (try clear n0); (try clear n1); (try clear n2); (try clear n3); (try clear n4); (try clear n5); (try clear n6); (try clear n7); (try clear n8); (try clear m1); (try clear m2); (try clear m3); (try clear m4); (try clear m5); omega)
    have n3 : nw hm = hm := nw_id (by (try clear n0); (try clear n1); (try clear n2); (try clear n3); (try clear n4); (try clear n5); (try clear n6); (try clear n7); (try clear n8); (try clear m1); (try clear m2); (try clear m3); (try clear m4); (try clear m5); omega) (by (try clear n0); (try clear n1); (try clear n2); (try clear n3); (try clear n4); (try clear n5); (try clear n6); (try clear n7); (try clear n8); (try clear m1); (try clear m2); (try clear m3); (try clear m4); (try clear m5); omega)
    have n4 : nw (k : Int) = k := nwN _ (by (try clear n0); (try clear n1); (try clear n2); (try clear n3); (try clear n4); (try clear n5); (try clear n6); (try clear n7); (try clear n8); (try clear m1); (try clear m2); (try clear m3); (try clear m4); (try clear m5); omega)
    have b3 := B.2.2.1
    have b4 := B.2.2.2.1
    have n5 : nw (g 117 66) = s.1 := by rw [B.1]; exact nw_id (by (try clear n0); (try clear n1); (try clear n2); (try clear n3); (try clear n4); (try clear n5); (try clear n6); (try clear n7); (try clear n8); (try clear m1); (try clear m2); (try clear m3); (try clear m4); (try clear m5); omega) (by (try clear n0); (try clear n1); (try clear n2); (try clear n3); (try clear n4); (try clear n5); (try clear n6); (try clear n7); (try clear n8); (try clear m1); (try clear m2); (try clear m3); (try clear m4); (try clear m5); omega)
    have n6 : nw (g 117 67) = s.2.1 := by rw [B.2.1]; exact nw_id (by (try clear n0); (try clear n1); (try clear n2); (try clear n3); (try clear n4); (try clear n5); (try clear n6); (try clear n7); (try clear n8); (try clear m1); (try clear m2); (try clear m3); (try clear m4); (try clear m5); omega) (by (try clear n0); (try clear n1); (try clear n2); (try clear n3); (try clear n4); (try clear n5); (try clear n6); (try clear n7); (try clear n8); (try clear m1); (try clear m2); (try clear m3); (try clear m4); (try clear m5); omega)
    have take : ∃ g', M_gives_b (M_gives f) 0 k n 2 hm k g = some (0, g') ∧ FR RMG g g' ∧ (∀ b, b < k → g' 169 b = g 169 b ∧ g' 170 b = g 170 b) ∧ (∀ p, p < i → g' 167 (o p) = g 167 (o p)) ∧ MGB g' i (n, hm, as) := by
      obtain ⟨g', e, ff, p1, _⟩ := M_gcopy_s (c := i) hc (rec := M_gives f) (a := 0) (b := k) (d := n) (v := hm) i 0 (up (up g 117 66 n) 117 67 hm) (by (try clear n0); (try clear n1); (try clear n2); (try clear n3); (try clear n4); (try clear n5); (try clear n6); (try clear n7); (try clear n8); (try clear m1); (try clear m2); (try clear m3); (try clear m4); (try clear m5); omega) (by rw [up_at, if_neg (by (try clear n0); (try clear n1); (try clear n2); (try clear n3); (try clear n4); (try clear n5); (try clear n6); (try clear n7); (try clear n8); (try clear m1); (try clear m2); (try clear m3); (try clear m4); (try clear m5); omega), up_at, if_neg (by (try clear n0); (try clear n1); (try clear n2); (try clear n3); (try clear n4); (try clear n5); (try clear n6); (try clear n7); (try clear n8); (try clear m1); (try clear m2); (try clear m3); (try clear m4); (try clear m5); omega)]; exact D.1)
      refine ⟨g', ?_, (Fr.up (W := inR RMG) (Fr.up (W := inR RMG) Fr.rf rfl) rfl).tr (FR.mo ff rfl), fun b _ => ⟨?_, ?_⟩, fun p _ => ?_, ?_, ?_, ?_, ?_, fun _ j hj => ?_⟩
      · rw [M_gives_b.eq_1 _ _ _ _ 2, if_neg (by decide), if_pos rfl, sb, sb]
        exact e
      · rw [ff 169 b rfl, up_at, if_neg (fun q => absurd q.1 (by decide)), up_at, if_neg (fun q => absurd q.1 (by decide))]
      · rw [ff 170 b rfl, up_at, if_neg (fun q => absurd q.1 (by decide)), up_at, if_neg (fun q => absurd q.1 (by decide))]
      · rw [ff 167 _ rfl, up_at, if_neg (fun q => absurd q.1 (by decide)), up_at, if_neg (fun q => absurd q.1 (by decide))]
      · rw [ff 117 66 rfl, up_at, if_neg (by (try clear n0); (try clear n1); (try clear n2); (try clear n3); (try clear n4); (try clear n5); (try clear n6); (try clear n7); (try clear n8); (try clear m1); (try clear m2); (try clear m3); (try clear m4); (try clear m5); omega), up_at, if_pos ⟨rfl, rfl⟩]
      · rw [ff 117 67 rfl, up_at, if_pos ⟨rfl, rfl⟩]
      · dsimp only; (try clear n0); (try clear n1); (try clear n2); (try clear n3); (try clear n4); (try clear n5); (try clear n6); (try clear n7); (try clear n8); (try clear m1); (try clear m2); (try clear m3); (try clear m4); (try clear m5); omega
      · dsimp only; (try clear n0); (try clear n1); (try clear n2); (try clear n3); (try clear n4); (try clear n5); (try clear n6); (try clear n7); (try clear n8); (try clear m1); (try clear m2); (try clear m3); (try clear m4); (try clear m5); omega
      · rw [p1 j (by (try clear n0); (try clear n1); (try clear n2); (try clear n3); (try clear n4); (try clear n5); (try clear n6); (try clear n7); (try clear n8); (try clear m1); (try clear m2); (try clear m3); (try clear m4); (try clear m5); omega) hj, up_at, if_neg (fun q => absurd q.1 (by decide)), up_at, if_neg (fun q => absurd q.1 (by decide))]
        exact as' j hj
    have top : M_gives (f + 1) i k n g = (if n < s.1 then some (0, g) else if n = s.1 then (if s.2.1 < hm then M_gives_b (M_gives f) 0 k n 2 hm k g else some (0, g)) else M_gives_b (M_gives f) 0 k n 2 hm k g) := by
      show M_gives_s (M_gives f) i k n g = _
      unfold M_gives_s
      rw [n0, n1, if_pos rfl, mh', M_gives_b.eq_1 _ _ _ _ 1, if_pos rfl, n4, if_pos (Int.le_refl _), n2, n3, n5, n6]
    rw [top]
    have le : gS bf bt bw bb hb hh o k 0 i n wh bz as s = if s.1 < n ∨ (n = s.1 ∧ s.2.1 < hm) then (n, hm, as) else s := by
      rw [hhm]; rfl
    rw [le]
    have stay : ∃ g', some ((0 : Int), g) = some (0, g') ∧ FR RMG g g' ∧ (∀ b, b < k → g' 169 b = g 169 b ∧ g' 170 b = g 170 b) ∧ (∀ p, p < i → g' 167 (o p) = g 167 (o p)) ∧ MGB g' i s := ⟨g, rfl, Fr.rf, fun _ _ => ⟨rfl, rfl⟩, fun _ _ => rfl, B⟩
    by_cases y : n < s.1
    · rw [if_pos y, if_neg (by (try clear n0); (try clear n1); (try clear n2); (try clear n3); (try clear n4); (try clear n5); (try clear n6); (try clear n7); (try clear n8); (try clear m1); (try clear m2); (try clear m3); (try clear m4); (try clear m5); omega)]
      exact stay
    · rw [if_neg y]
      by_cases x : n = s.1
      · rw [if_pos x]
        by_cases w : s.2.1 < hm
        · rw [if_pos w, if_pos (Or.inr ⟨x, w⟩)]
          exact take
        · rw [if_neg w, if_neg (by (try clear n0); (try clear n1); (try clear n2); (try clear n3); (try clear n4); (try clear n5); (try clear n6); (try clear n7); (try clear n8); (try clear m1); (try clear m2); (try clear m3); (try clear m4); (try clear m5); omega)]
          exact stay
      · rw [if_neg x, if_pos (Or.inl (by (try clear n0); (try clear n1); (try clear n2); (try clear n3); (try clear n4); (try clear n5); (try clear n6); (try clear n7); (try clear n8); (try clear m1); (try clear m2); (try clear m3); (try clear m4); (try clear m5); omega))]
        exact take
  | succ r ih =>
    intro f i n wh bz as s g h hf D G hw ha B
    obtain ⟨f, rfl⟩ : ∃ f', f = f' + 1 := ⟨f - 1, by (try clear n0); (try clear n1); (try clear n2); (try clear n3); (try clear n4); (try clear n5); (try clear n6); (try clear n7); (try clear n8); (try clear m1); (try clear m2); (try clear m3); (try clear m4); (try clear m5); omega⟩
    have hc := K.1
    have hk := BT.1
    have hi : i < c := by (try clear n0); (try clear n1); (try clear n2); (try clear n3); (try clear n4); (try clear n5); (try clear n6); (try clear n7); (try clear n8); (try clear m1); (try clear m2); (try clear m3); (try clear m4); (try clear m5); omega
    have hoi := O.1 i hi
    have hj := K.2 (o i) hoi
    have d := D.2.1 i hi
    have n0 : nw (g 117 65) = c := by rw [D.1, nwN _ (by (try clear n0); (try clear n1); (try clear n2); (try clear n3); (try clear n4); (try clear n5); (try clear n6); (try clear n7); (try clear n8); (try clear m1); (try clear m2); (try clear m3); (try clear m4); (try clear m5); omega)]
    have n1 : nw (i : Int) = i := nwN _ (by (try clear n0); (try clear n1); (try clear n2); (try clear n3); (try clear n4); (try clear n5); (try clear n6); (try clear n7); (try clear n8); (try clear m1); (try clear m2); (try clear m3); (try clear m4); (try clear m5); omega)
    have n2 : ix (i : Int) = i := ixN _ (by (try clear n0); (try clear n1); (try clear n2); (try clear n3); (try clear n4); (try clear n5); (try clear n6); (try clear n7); (try clear n8); (try clear m1); (try clear m2); (try clear m3); (try clear m4); (try clear m5); omega)
    have n3 : nw ((o i : Nat) : Int) = (o i : Nat) := nwN _ (by (try clear n0); (try clear n1); (try clear n2); (try clear n3); (try clear n4); (try clear n5); (try clear n6); (try clear n7); (try clear n8); (try clear m1); (try clear m2); (try clear m3); (try clear m4); (try clear m5); omega)
    have n4 : ix ((o i : Nat) : Int) = o i := ixN _ (by (try clear n0); (try clear n1); (try clear n2); (try clear n3); (try clear n4); (try clear n5); (try clear n6); (try clear n7); (try clear n8); (try clear m1); (try clear m2); (try clear m3); (try clear m4); (try clear m5); omega)
    have n5 : nw (k : Int) = k := nwN _ (by (try clear n0); (try clear n1); (try clear n2); (try clear n3); (try clear n4); (try clear n5); (try clear n6); (try clear n7); (try clear n8); (try clear m1); (try clear m2); (try clear m3); (try clear m4); (try clear m5); omega)
    have n6 : nw (bb (o i)) = bb (o i) := nw_id (by (try clear n0); (try clear n1); (try clear n2); (try clear n3); (try clear n4); (try clear n5); (try clear n6); (try clear n7); (try clear n8); (try clear m1); (try clear m2); (try clear m3); (try clear m4); (try clear m5); omega) (by (try clear n0); (try clear n1); (try clear n2); (try clear n3); (try clear n4); (try clear n5); (try clear n6); (try clear n7); (try clear n8); (try clear m1); (try clear m2); (try clear m3); (try clear m4); (try clear m5); omega)
    have n7 : nw (bf (o i)) = bf (o i) := nw_id (by (try clear n0); (try clear n1); (try clear n2); (try clear n3); (try clear n4); (try clear n5); (try clear n6); (try clear n7); (try clear n8); (try clear m1); (try clear m2); (try clear m3); (try clear m4); (try clear m5); omega) (by (try clear n0); (try clear n1); (try clear n2); (try clear n3); (try clear n4); (try clear n5); (try clear n6); (try clear n7); (try clear n8); (try clear m1); (try clear m2); (try clear m3); (try clear m4); (try clear m5); omega)
    have n8 : nw (bw (o i)) = bw (o i) := nw_id (by (try clear n0); (try clear n1); (try clear n2); (try clear n3); (try clear n4); (try clear n5); (try clear n6); (try clear n7); (try clear n8); (try clear m1); (try clear m2); (try clear m3); (try clear m4); (try clear m5); omega) (by (try clear n0); (try clear n1); (try clear n2); (try clear n3); (try clear n4); (try clear n5); (try clear n6); (try clear n7); (try clear n8); (try clear m1); (try clear m2); (try clear m3); (try clear m4); (try clear m5); omega)
    have inj : ∀ p, p < i → o p ≠ o i := fun p hp e => by
      have := O.inj (show p < c by (try clear n0); (try clear n1); (try clear n2); (try clear n3); (try clear n4); (try clear n5); (try clear n6); (try clear n7); (try clear n8); (try clear m1); (try clear m2); (try clear m3); (try clear m4); (try clear m5); omega) hi e
      (try clear n0); (try clear n1); (try clear n2); (try clear n3); (try clear n4); (try clear n5); (try clear n6); (try clear n7); (try clear n8); (try clear m1); (try clear m2); (try clear m3); (try clear m4); (try clear m5); omega
    have top : M_gives (f + 1) i k n g = M_gives_b (M_gives f) i k n 4 (o i : Nat) 0 g := by
      show M_gives_s (M_gives f) i k n g = _
      unfold M_gives_s
      rw [n0, n1, if_neg (by (try clear n0); (try clear n1); (try clear n2); (try clear n3); (try clear n4); (try clear n5); (try clear n6); (try clear n7); (try clear n8); (try clear m1); (try clear m2); (try clear m3); (try clear m4); (try clear m5); omega), if_pos (by (try clear n0); (try clear n1); (try clear n2); (try clear n3); (try clear n4); (try clear n5); (try clear n6); (try clear n7); (try clear n8); (try clear m1); (try clear m2); (try clear m3); (try clear m4); (try clear m5); omega), n2, d.2.2.2.2]
    rw [top]
    have loop : ∀ (q b : Nat) (s : GS) (g1 : AG), b + q = k → MK g1 c bf bt bw bb hb hh o k → (∀ b, b < k → g1 169 b = wh b ∧ g1 170 b = bz b) → (∀ p, p < i → g1 167 (o p) = as (o p)) → MGB g1 c s → ∃ g', M_gives_b (M_gives f) i k n 4 (o i : Nat) b g1 = M_gives_b (M_gives f) i k n 4 (o i : Nat) k g' ∧ FR RMG g1 g' ∧ (∀ b, b < k → g' 169 b = g1 169 b ∧ g' 170 b = g1 170 b) ∧ (∀ p, p < i → g' 167 (o p) = g1 167 (o p)) ∧ MGB g' c (tR (fun b s => if gOk bf bw bb hb wh bz (o i) b then gS bf bt bw bb hb hh o k r (i + 1) (n + 1) (uv wh b (bt (o i))) (uv bz b (bw (o i))) (uv as (o i) (b : Nat)) s else s) q b s) := by
      intro q
      induction q with
      | zero =>
        intro b s g1 hq D1 hw1 ha1 B1
        exact ⟨g1, by rw [show b = k by (try clear n0); (try clear n1); (try clear n2); (try clear n3); (try clear n4); (try clear n5); (try clear n6); (try clear n7); (try clear n8); (try clear m1); (try clear m2); (try clear m3); (try clear m4); (try clear m5); omega], Fr.rf, fun _ _ => ⟨rfl, rfl⟩, fun _ _ => rfl, B1⟩
      | succ q ihq =>
        intro b s g1 hq D1 hw1 ha1 B1
        have hbk : b < k := by (try clear n0); (try clear n1); (try clear n2); (try clear n3); (try clear n4); (try clear n5); (try clear n6); (try clear n7); (try clear n8); (try clear m1); (try clear m2); (try clear m3); (try clear m4); (try clear m5); omega
        have w1 := hw1 b hbk
        have gb := G.2.1 b hbk
        have gbw := G.2.2.1 b hbk i (Nat.le_refl i) hi
        have rb := BT.2 b hbk
        have d1 := D1.2.1 (o i) hoi
        have db := D1.2.2 b hbk
        have m1 : nw (b : Int) = b := nwN _ (by (try clear n0); (try clear n1); (try clear n2); (try clear n3); (try clear n4); (try clear n5); (try clear n6); (try clear n7); (try clear n8); (try clear m1); (try clear m2); (try clear m3); (try clear m4); (try clear m5); omega)
        have m2 : ix (b : Int) = b := ixN _ (by (try clear n0); (try clear n1); (try clear n2); (try clear n3); (try clear n4); (try clear n5); (try clear n6); (try clear n7); (try clear n8); (try clear m1); (try clear m2); (try clear m3); (try clear m4); (try clear m5); omega)
        have m3 : nw (hb b) = hb b := nw_id (by (try clear n0); (try clear n1); (try clear n2); (try clear n3); (try clear n4); (try clear n5); (try clear n6); (try clear n7); (try clear n8); (try clear m1); (try clear m2); (try clear m3); (try clear m4); (try clear m5); omega) (by (try clear n0); (try clear n1); (try clear n2); (try clear n3); (try clear n4); (try clear n5); (try clear n6); (try clear n7); (try clear n8); (try clear m1); (try clear m2); (try clear m3); (try clear m4); (try clear m5); omega)
        have m4 : nw (wh b) = wh b := nw_id (by (try clear n0); (try clear n1); (try clear n2); (try clear n3); (try clear n4); (try clear n5); (try clear n6); (try clear n7); (try clear n8); (try clear m1); (try clear m2); (try clear m3); (try clear m4); (try clear m5); omega) (by (try clear n0); (try clear n1); (try clear n2); (try clear n3); (try clear n4); (try clear n5); (try clear n6); (try clear n7); (try clear n8); (try clear m1); (try clear m2); (try clear m3); (try clear m4); (try clear m5); omega)
        have m5 : nw (bz b) = bz b := nw_id (by (try clear n0); (try clear n1); (try clear n2); (try clear n3); (try clear n4); (try clear n5); (try clear n6); (try clear n7); (try clear n8); (try clear m1); (try clear m2); (try clear m3); (try clear m4); (try clear m5); omega) (by (try clear n0); (try clear n1); (try clear n2); (try clear n3); (try clear n4); (try clear n5); (try clear n6); (try clear n7); (try clear n8); (try clear m1); (try clear m2); (try clear m3); (try clear m4); (try clear m5); omega)
        have step : ∀ R : AG → Option (Int × AG), (((if hb b < bb (o i) then some g1 else (if wh b = bf (o i) then (if bz b = bw (o i) then some g1 else (some (up g1 169 b (bt (o i))) >>= fun g12 => (some (up g12 170 b (g12 164 (o i))) >>= fun g14 => (some (up g14 167 (o i) b) >>= fun g16 => (M_gives f ((i : Int) + 1) k (n + 1) g16 >>= fun r18 => (some (up r18.2 169 b (wh b)) >>= fun g20 => (some (up g20 170 b (bz b)) >>= fun g22 => some g22))))))) else some g1)) : Option AG) >>= R) = (if gOk bf bw bb hb wh bz (o i) b then (M_gives f ((i : Int) + 1) k (n + 1) (up (up (up g1 169 b (bt (o i))) 170 b (bw (o i))) 167 (o i) b) >>= fun r18 => R (up (up r18.2 169 b (wh b)) 170 b (bz b))) else R g1) := by
          intro R
          have u : (up g1 169 b (bt (o i))) 164 (o i) = bw (o i) := by rw [up_at, if_neg (fun q => absurd q.1 (by decide))]; exact d1.2.2.1
          by_cases z1 : hb b < bb (o i)
          · rw [if_pos z1, if_neg (fun q => absurd q.1 (by (try clear n0); (try clear n1); (try clear n2); (try clear n3); (try clear n4); (try clear n5); (try clear n6); (try clear n7); (try clear n8); (try clear m1); (try clear m2); (try clear m3); (try clear m4); (try clear m5); omega)), sb]
          · rw [if_neg z1]
            by_cases z2 : wh b = bf (o i)
            · rw [if_pos z2]
              by_cases z3 : bz b = bw (o i)
              · rw [if_pos z3, if_neg (fun q => absurd q.2.2 (by (try clear n0); (try clear n1); (try clear n2); (try clear n3); (try clear n4); (try clear n5); (try clear n6); (try clear n7); (try clear n8); (try clear m1); (try clear m2); (try clear m3); (try clear m4); (try clear m5); omega)), sb]
              · rw [if_neg z3, if_pos ⟨by (try clear n0); (try clear n1); (try clear n2); (try clear n3); (try clear n4); (try clear n5); (try clear n6); (try clear n7); (try clear n8); (try clear m1); (try clear m2); (try clear m3); (try clear m4); (try clear m5); omega, z2, by (try clear n0); (try clear n1); (try clear n2); (try clear n3); (try clear n4); (try clear n5); (try clear n6); (try clear n7); (try clear n8); (try clear m1); (try clear m2); (try clear m3); (try clear m4); (try clear m5); omega⟩, sb, u, sb, sb]
                cases M_gives f ((i : Int) + 1) k (n + 1) (up (up (up g1 169 b (bt (o i))) 170 b (bw (o i))) 167 (o i) b) with
                | none => rfl
                | some r18 => rfl
            · rw [if_neg z2, if_neg (fun q => z2 q.2.1), sb]
        have top2 : M_gives_b (M_gives f) i k n 4 (o i : Nat) b g1 = (if gOk bf bw bb hb wh bz (o i) b then (M_gives f ((i : Int) + 1) k (n + 1) (up (up (up g1 169 b (bt (o i))) 170 b (bw (o i))) 167 (o i) b) >>= fun r18 => M_gives_b (M_gives f) i k n 4 (o i : Nat) ((b : Int) + 1) (up (up r18.2 169 b (wh b)) 170 b (bz b))) else M_gives_b (M_gives f) i k n 4 (o i : Nat) ((b : Int) + 1) g1) := by
          rw [← step, M_gives_b.eq_1 _ _ _ _ 4, n5, m1, m2, n3, n4, db.1, d1.2.2.2.1, w1.1, w1.2, d1.1, d1.2.1, d1.2.2.1, m3, m4, m5, n6, n7, n8, if_neg (by decide), if_neg (by decide), if_neg (by decide), if_pos rfl, if_neg (by (try clear n0); (try clear n1); (try clear n2); (try clear n3); (try clear n4); (try clear n5); (try clear n6); (try clear n7); (try clear n8); (try clear m1); (try clear m2); (try clear m3); (try clear m4); (try clear m5); omega), if_pos (by (try clear n0); (try clear n1); (try clear n2); (try clear n3); (try clear n4); (try clear n5); (try clear n6); (try clear n7); (try clear n8); (try clear m1); (try clear m2); (try clear m3); (try clear m4); (try clear m5); omega), if_pos (by (try clear n0); (try clear n1); (try clear n2); (try clear n3); (try clear n4); (try clear n5); (try clear n6); (try clear n7); (try clear n8); (try clear m1); (try clear m2); (try clear m3); (try clear m4); (try clear m5); omega)]
        rw [top2]
        by_cases ok : gOk bf bw bb hb wh bz (o i) b
        · rw [if_pos ok]
          obtain ⟨g16, hg16⟩ : ∃ g16 : AG, g16 = up (up (up g1 169 b (bt (o i))) 170 b (bw (o i))) 167 (o i) b := ⟨_, rfl⟩
          rw [← hg16]
          have f16 : FR RMG g1 g16 := by rw [hg16]; exact Fr.up (Fr.up (Fr.up Fr.rf rfl) rfl) rfl
          have v169 : ∀ x, g16 169 x = if x = b then bt (o i) else g1 169 x := fun x => by
            rw [hg16, up_at, if_neg (fun q => absurd q.1 (by decide)), up_at, if_neg (fun q => absurd q.1 (by decide)), up_at]
            by_cases y : x = b
            · rw [if_pos ⟨rfl, y⟩, if_pos y]
            · rw [if_neg (fun q => y q.2), if_neg y]
          have v170 : ∀ x, g16 170 x = if x = b then bw (o i) else g1 170 x := fun x => by
            rw [hg16, up_at, if_neg (fun q => absurd q.1 (by decide)), up_at]
            by_cases y : x = b
            · rw [if_pos ⟨rfl, y⟩, if_pos y]
            · rw [if_neg (fun q => y q.2), if_neg y, up_at, if_neg (fun q => absurd q.1 (by decide))]
          have v167 : ∀ x, g16 167 x = if x = o i then (b : Int) else g1 167 x := fun x => by
            rw [hg16, up_at]
            by_cases y : x = o i
            · rw [if_pos ⟨rfl, y⟩, if_pos y]
            · rw [if_neg (fun q => y q.2), if_neg y, up_at, if_neg (fun q => absurd q.1 (by decide)), up_at, if_neg (fun q => absurd q.1 (by decide))]
          obtain ⟨g18, e18, f18, k18, p18, B18⟩ := ih f (i + 1) (n + 1) (uv wh b (bt (o i))) (uv bz b (bw (o i))) (uv as (o i) (b : Nat)) s g16 (by (try clear n0); (try clear n1); (try clear n2); (try clear n3); (try clear n4); (try clear n5); (try clear n6); (try clear n7); (try clear n8); (try clear m1); (try clear m2); (try clear m3); (try clear m4); (try clear m5); omega) (by (try clear n0); (try clear n1); (try clear n2); (try clear n3); (try clear n4); (try clear n5); (try clear n6); (try clear n7); (try clear n8); (try clear m1); (try clear m2); (try clear m3); (try clear m4); (try clear m5); omega) (D1.fr f16) (G.some K O hi b) (fun x hx => by
            rw [v169, v170]
            unfold uv
            by_cases y : x = b
            · rw [if_pos y, if_pos y, if_pos y, if_pos y]; exact ⟨rfl, rfl⟩
            · rw [if_neg y, if_neg y, if_neg y, if_neg y]; exact hw1 x hx) (fun p hp => by
            rw [v167]
            unfold uv
            by_cases y : p = i
            · rw [y, if_pos rfl, if_pos rfl]
            · rw [if_neg (inj p (by (try clear n0); (try clear n1); (try clear n2); (try clear n3); (try clear n4); (try clear n5); (try clear n6); (try clear n7); (try clear n8); (try clear m1); (try clear m2); (try clear m3); (try clear m4); (try clear m5); omega)), if_neg (inj p (by (try clear n0); (try clear n1); (try clear n2); (try clear n3); (try clear n4); (try clear n5); (try clear n6); (try clear n7); (try clear n8); (try clear m1); (try clear m2); (try clear m3); (try clear m4); (try clear m5); omega))]; exact ha1 p (by (try clear n0); (try clear n1); (try clear n2); (try clear n3); (try clear n4); (try clear n5); (try clear n6); (try clear n7); (try clear n8); (try clear m1); (try clear m2); (try clear m3); (try clear m4); (try clear m5); omega)) (by
            rw [hg16]
            refine ⟨?_, ?_, B1.2.2.1, B1.2.2.2.1, fun z j hj => ?_⟩
            · rw [up_at, if_neg (fun q => absurd q.1 (by decide)), up_at, if_neg (fun q => absurd q.1 (by decide)), up_at, if_neg (fun q => absurd q.1 (by decide))]; exact B1.1
            · rw [up_at, if_neg (fun q => absurd q.1 (by decide)), up_at, if_neg (fun q => absurd q.1 (by decide)), up_at, if_neg (fun q => absurd q.1 (by decide))]; exact B1.2.1
            · rw [up_at, if_neg (fun q => absurd q.1 (by decide)), up_at, if_neg (fun q => absurd q.1 (by decide)), up_at, if_neg (fun q => absurd q.1 (by decide))]; exact B1.2.2.2.2 z j hj)
          have e18' : M_gives f ((i : Int) + 1) k (n + 1) g16 = some (0, g18) := e18
          rw [e18', sb]
          obtain ⟨g22, hg22⟩ : ∃ g22 : AG, g22 = up (up g18 169 b (wh b)) 170 b (bz b) := ⟨_, rfl⟩
          have f22 : FR RMG g1 g22 := by rw [hg22]; exact Fr.up (Fr.up (f16.tr f18) rfl) rfl
          have k22 : ∀ x, x < k → g22 169 x = g1 169 x ∧ g22 170 x = g1 170 x := fun x hx => by
            have kk := k18 x hx
            rw [v169, v170] at kk
            rw [hg22]
            by_cases y : x = b
            · subst y
              refine ⟨?_, ?_⟩
              · rw [up_at, if_neg (fun q => absurd q.1 (by decide)), up_at, if_pos ⟨rfl, rfl⟩]; exact w1.1.symm
              · rw [up_at, if_pos ⟨rfl, rfl⟩]; exact w1.2.symm
            · rw [if_neg y, if_neg y] at kk
              refine ⟨?_, ?_⟩
              · rw [up_at, if_neg (fun q => absurd q.1 (by decide)), up_at, if_neg (fun q => y q.2)]; exact kk.1
              · rw [up_at, if_neg (fun q => y q.2), up_at, if_neg (fun q => absurd q.1 (by decide))]; exact kk.2
          have p22 : ∀ p, p < i → g22 167 (o p) = g1 167 (o p) := fun p hp => by
            rw [hg22, up_at, if_neg (fun q => absurd q.1 (by decide)), up_at, if_neg (fun q => absurd q.1 (by decide)), p18 p (by (try clear n0); (try clear n1); (try clear n2); (try clear n3); (try clear n4); (try clear n5); (try clear n6); (try clear n7); (try clear n8); (try clear m1); (try clear m2); (try clear m3); (try clear m4); (try clear m5); omega), v167, if_neg (inj p hp)]
          obtain ⟨g', e', f', k', p', B'⟩ := ihq (b + 1) _ g22 (by (try clear n0); (try clear n1); (try clear n2); (try clear n3); (try clear n4); (try clear n5); (try clear n6); (try clear n7); (try clear n8); (try clear m1); (try clear m2); (try clear m3); (try clear m4); (try clear m5); omega) (D1.fr f22) (fun x hx => by rw [(k22 x hx).1, (k22 x hx).2]; exact hw1 x hx) (fun p hp => by rw [p22 p hp]; exact ha1 p hp) (show MGB g22 c (gS bf bt bw bb hb hh o k r (i + 1) (n + 1) (uv wh b (bt (o i))) (uv bz b (bw (o i))) (uv as (o i) (b : Nat)) s) by
            rw [hg22]
            refine ⟨?_, ?_, B18.2.2.1, B18.2.2.2.1, fun z j hj => ?_⟩
            · rw [up_at, if_neg (fun q => absurd q.1 (by decide)), up_at, if_neg (fun q => absurd q.1 (by decide))]; exact B18.1
            · rw [up_at, if_neg (fun q => absurd q.1 (by decide)), up_at, if_neg (fun q => absurd q.1 (by decide))]; exact B18.2.1
            · rw [up_at, if_neg (fun q => absurd q.1 (by decide)), up_at, if_neg (fun q => absurd q.1 (by decide))]; exact B18.2.2.2.2 z j hj)
          refine ⟨g', ?_, f22.tr f', fun x hx => by rw [(k' x hx).1, (k' x hx).2]; exact k22 x hx, fun p hp => by rw [p' p hp, p22 p hp], ?_⟩
          · dsimp only
            rw [← hg22]
            exact e'
          · unfold tR
            rw [if_pos ok]
            exact B'
        · rw [if_neg ok]
          obtain ⟨g', e', f', k', p', B'⟩ := ihq (b + 1) s g1 (by (try clear n0); (try clear n1); (try clear n2); (try clear n3); (try clear n4); (try clear n5); (try clear n6); (try clear n7); (try clear n8); (try clear m1); (try clear m2); (try clear m3); (try clear m4); (try clear m5); omega) D1 hw1 ha1 B1
          refine ⟨g', e', f', k', p', ?_⟩
          unfold tR
          rw [if_neg ok]
          exact B'
    obtain ⟨g2, e2, f2, k2, p2, B2⟩ := loop k 0 s g (by (try clear n0); (try clear n1); (try clear n2); (try clear n3); (try clear n4); (try clear n5); (try clear n6); (try clear n7); (try clear n8); (try clear m1); (try clear m2); (try clear m3); (try clear m4); (try clear m5); omega) D hw ha B
    obtain ⟨g3, hg3⟩ : ∃ g3 : AG, g3 = up g2 167 (o i) (-1) := ⟨_, rfl⟩
    have f3 : FR RMG g g3 := by rw [hg3]; exact Fr.up f2 rfl
    have k3 : ∀ x, x < k → g3 169 x = g 169 x ∧ g3 170 x = g 170 x := fun x hx => by
      rw [hg3, up_at, if_neg (fun q => absurd q.1 (by decide)), up_at, if_neg (fun q => absurd q.1 (by decide))]
      exact k2 x hx
    have p3 : ∀ p, p < i → g3 167 (o p) = g 167 (o p) := fun p hp => by
      rw [hg3, up_at, if_neg (fun q => inj p hp q.2)]
      exact p2 p hp
    obtain ⟨g', e', f', k', p', B'⟩ := ih f (i + 1) n wh bz (uv as (o i) (-1)) _ g3 (by (try clear n0); (try clear n1); (try clear n2); (try clear n3); (try clear n4); (try clear n5); (try clear n6); (try clear n7); (try clear n8); (try clear m1); (try clear m2); (try clear m3); (try clear m4); (try clear m5); omega) (by (try clear n0); (try clear n1); (try clear n2); (try clear n3); (try clear n4); (try clear n5); (try clear n6); (try clear n7); (try clear n8); (try clear m1); (try clear m2); (try clear m3); (try clear m4); (try clear m5); omega) (D.fr f3) G.none (fun x hx => by rw [(k3 x hx).1, (k3 x hx).2]; exact hw x hx) (fun p hp => by
      by_cases y : p = i
      · rw [y, uv_at, hg3, up_at, if_pos ⟨rfl, rfl⟩]
      · rw [uv_ne (inj p (by (try clear n0); (try clear n1); (try clear n2); (try clear n3); (try clear n4); (try clear n5); (try clear n6); (try clear n7); (try clear n8); (try clear m1); (try clear m2); (try clear m3); (try clear m4); (try clear m5); omega)), p3 p (by (try clear n0); (try clear n1); (try clear n2); (try clear n3); (try clear n4); (try clear n5); (try clear n6); (try clear n7); (try clear n8); (try clear m1); (try clear m2); (try clear m3); (try clear m4); (try clear m5); omega)]; exact ha p (by (try clear n0); (try clear n1); (try clear n2); (try clear n3); (try clear n4); (try clear n5); (try clear n6); (try clear n7); (try clear n8); (try clear m1); (try clear m2); (try clear m3); (try clear m4); (try clear m5); omega)) (show MGB g3 c _ by
      rw [hg3]
      refine ⟨?_, ?_, B2.2.2.1, B2.2.2.2.1, fun z j hj => ?_⟩
      · rw [up_at, if_neg (fun q => absurd q.1 (by decide))]; exact B2.1
      · rw [up_at, if_neg (fun q => absurd q.1 (by decide))]; exact B2.2.1
      · rw [up_at, if_neg (fun q => absurd q.1 (by decide))]; exact B2.2.2.2.2 z j hj)
    refine ⟨g', ?_, f3.tr f', fun x hx => by rw [(k' x hx).1, (k' x hx).2]; exact k3 x hx, fun p hp => by rw [p' p (by (try clear n0); (try clear n1); (try clear n2); (try clear n3); (try clear n4); (try clear n5); (try clear n6); (try clear n7); (try clear n8); (try clear m1); (try clear m2); (try clear m3); (try clear m4); (try clear m5); omega), p3 p hp], B'⟩
    have e2' : M_gives_b (M_gives f) i k n 4 (o i : Nat) 0 g = M_gives_b (M_gives f) i k n 4 (o i : Nat) k g2 := e2
    have e3' : M_gives f ((i : Int) + 1) k n g3 = some (0, g') := e'
    rw [e2', M_gives_b.eq_1 _ _ _ _ 4, n5, n3, n4, if_neg (by decide), if_neg (by decide), if_neg (by decide), if_pos rfl, if_pos (Int.le_refl _), if_pos (by (try clear n0); (try clear n1); (try clear n2); (try clear n3); (try clear n4); (try clear n5); (try clear n6); (try clear n7); (try clear n8); (try clear m1); (try clear m2); (try clear m3); (try clear m4); (try clear m5); omega), sb, ← hg3, e3', sb]
end
section
/-! plain programs: the bookings, the class's ways -/
def XK (g : AG) (c : Nat) (bf bt bw bb hb hh : Nat → Int) (o : Nat → Nat) (k : Nat) (hp : Nat → Int) : Prop := g 9 4 = c ∧ g 9 10 = k ∧ (∀ j, j < c → g 85 j = bf j ∧ g 86 j = bt j ∧ g 87 j = bw j ∧ g 88 j = bb j ∧ g 89 j = (o j : Nat)) ∧ (∀ b, b < k → g 90 b = hb b ∧ g 91 b = hh b) ∧ ∀ i, i ≤ c → g 94 i = hp i ∧ 0 ≤ hp i ∧ hp i ≤ 8
abbrev RXG : Reg := [(9, 16), (9, 17), (92, 0), (93, 0), (95, 0), (96, 0)]
theorem XK.fr {g g' : AG} {c : Nat} {bf bt bw bb hb hh : Nat → Int} {o : Nat → Nat} {k : Nat} {hp : Nat → Int} (h : XK g c bf bt bw bb hb hh o k hp) (f : FR RXG g g') : XK g' c bf bt bw bb hb hh o k hp := by
  refine ⟨by rw [f 9 4 rfl]; exact h.1, by rw [f 9 10 rfl]; exact h.2.1, fun j hj => ?_, fun b hb' => ?_, fun i hi => ?_⟩
  · rw [f 85 j rfl, f 86 j rfl, f 87 j rfl, f 88 j rfl, f 89 j rfl]; exact h.2.2.1 j hj
  · rw [f 90 b rfl, f 91 b rfl]; exact h.2.2.2.1 b hb'
  · rw [f 94 i rfl]; exact h.2.2.2.2 i hi
def XGB (g : AG) (c : Nat) (s : GS) : Prop := g 9 15 = s.1 ∧ g 9 16 = s.2.1 ∧ (-1 ≤ s.1 ∧ s.1 ≤ 8) ∧ (-1 ≤ s.2.1 ∧ s.2.1 ≤ 4) ∧ (0 ≤ s.1 → ∀ j, j < c → g 96 j = s.2.2 j)
theorem X_have_s {c : Nat} {bf bt bw bb hb hh : Nat → Int} {o : Nat → Nat} {k : Nat} {hp : Nat → Int} (K : BkOk c bf bt bw bb) (BT : BtOk k hb hh) {g : AG} (D : XK g c bf bt bw bb hb hh o k hp) {wh bz : Nat → Int} {b j : Nat} (hbk : b < k) (hj : j < c) (w : g 92 b = wh b ∧ g 93 b = bz b) (r : (0 ≤ wh b ∧ wh b ≤ 15) ∧ (-1 ≤ bz b ∧ bz b ≤ 9)) : Bookings_canHave b j g = some (if gOk bf bw bb hb wh bz j b then 1 else 0) := by
  have hc := K.1
  have hk := BT.1
  have rj := K.2 j hj
  have rb := BT.2 b hbk
  have d := D.2.2.1 j hj
  have db := D.2.2.2.1 b hbk
  have n1 : nw (b : Int) = b := nwN _ (by (try clear n1); (try clear n2); (try clear n3); (try clear n4); (try clear m1); (try clear m2); (try clear m3); (try clear m4); (try clear m5); (try clear m6); omega)
  have n2 : ix (b : Int) = b := ixN _ (by (try clear n1); (try clear n2); (try clear n3); (try clear n4); (try clear m1); (try clear m2); (try clear m3); (try clear m4); (try clear m5); (try clear m6); omega)
  have n3 : nw (j : Int) = j := nwN _ (by (try clear n1); (try clear n2); (try clear n3); (try clear n4); (try clear m1); (try clear m2); (try clear m3); (try clear m4); (try clear m5); (try clear m6); omega)
  have n4 : ix (j : Int) = j := ixN _ (by (try clear n1); (try clear n2); (try clear n3); (try clear n4); (try clear m1); (try clear m2); (try clear m3); (try clear m4); (try clear m5); (try clear m6); omega)
  have m1 : nw (hb b) = hb b := nw_id (by (try clear n1); (try clear n2); (try clear n3); (try clear n4); (try clear m1); (try clear m2); (try clear m3); (try clear m4); (try clear m5); (try clear m6); omega) (by (try clear n1); (try clear n2); (try clear n3); (try clear n4); (try clear m1); (try clear m2); (try clear m3); (try clear m4); (try clear m5); (try clear m6); omega)
  have m2 : nw (wh b) = wh b := nw_id (by (try clear n1); (try clear n2); (try clear n3); (try clear n4); (try clear m1); (try clear m2); (try clear m3); (try clear m4); (try clear m5); (try clear m6); omega) (by (try clear n1); (try clear n2); (try clear n3); (try clear n4); (try clear m1); (try clear m2); (try clear m3); (try clear m4); (try clear m5); (try clear m6); omega)
  have m3 : nw (bz b) = bz b := nw_id (by (try clear n1); (try clear n2); (try clear n3); (try clear n4); (try clear m1); (try clear m2); (try clear m3); (try clear m4); (try clear m5); (try clear m6); omega) (by (try clear n1); (try clear n2); (try clear n3); (try clear n4); (try clear m1); (try clear m2); (try clear m3); (try clear m4); (try clear m5); (try clear m6); omega)
  have m4 : nw (bb j) = bb j := nw_id (by (try clear n1); (try clear n2); (try clear n3); (try clear n4); (try clear m1); (try clear m2); (try clear m3); (try clear m4); (try clear m5); (try clear m6); omega) (by (try clear n1); (try clear n2); (try clear n3); (try clear n4); (try clear m1); (try clear m2); (try clear m3); (try clear m4); (try clear m5); (try clear m6); omega)
  have m5 : nw (bf j) = bf j := nw_id (by (try clear n1); (try clear n2); (try clear n3); (try clear n4); (try clear m1); (try clear m2); (try clear m3); (try clear m4); (try clear m5); (try clear m6); omega) (by (try clear n1); (try clear n2); (try clear n3); (try clear n4); (try clear m1); (try clear m2); (try clear m3); (try clear m4); (try clear m5); (try clear m6); omega)
  have m6 : nw (bw j) = bw j := nw_id (by (try clear n1); (try clear n2); (try clear n3); (try clear n4); (try clear m1); (try clear m2); (try clear m3); (try clear m4); (try clear m5); (try clear m6); omega) (by (try clear n1); (try clear n2); (try clear n3); (try clear n4); (try clear m1); (try clear m2); (try clear m3); (try clear m4); (try clear m5); (try clear m6); omega)
  unfold Bookings_canHave
  rw [n1, n2, n3, n4, db.1, d.2.2.2.1, w.1, w.2, d.1, d.2.2.1, m1, m2, m3, m4, m5, m6, if_pos (by (try clear n1); (try clear n2); (try clear n3); (try clear n4); (try clear m1); (try clear m2); (try clear m3); (try clear m4); (try clear m5); (try clear m6); omega), if_pos (by (try clear n1); (try clear n2); (try clear n3); (try clear n4); (try clear m1); (try clear m2); (try clear m3); (try clear m4); (try clear m5); (try clear m6); omega)]
  by_cases z1 : hb b < bb j
  · rw [if_pos z1, sb, if_pos (Or.inl rfl), if_neg (fun q => absurd q.1 (by (try clear n1); (try clear n2); (try clear n3); (try clear n4); (try clear m1); (try clear m2); (try clear m3); (try clear m4); (try clear m5); (try clear m6); omega))]
  · rw [if_neg z1]
    by_cases z2 : wh b = bf j
    · rw [if_pos z2, sb]
      by_cases z3 : bw j ≤ bz b
      · rw [if_pos z3, sb, if_pos (Or.inl rfl), if_neg (fun q => absurd q.2.2 (by (try clear n1); (try clear n2); (try clear n3); (try clear n4); (try clear m1); (try clear m2); (try clear m3); (try clear m4); (try clear m5); (try clear m6); omega))]
      · rw [if_neg z3, sb, if_pos (Or.inr rfl), if_pos ⟨by (try clear n1); (try clear n2); (try clear n3); (try clear n4); (try clear m1); (try clear m2); (try clear m3); (try clear m4); (try clear m5); (try clear m6); omega, z2, by (try clear n1); (try clear n2); (try clear n3); (try clear n4); (try clear m1); (try clear m2); (try clear m3); (try clear m4); (try clear m5); (try clear m6); omega⟩]
    · rw [if_neg z2, sb, if_pos (Or.inl rfl), if_neg (fun q => z2 q.2.1)]
theorem X_home_s {k : Nat} (hk : k ≤ 4) {wh hh : Nat → Int} {g : AG} (ha : g 9 10 = k) (hw : ∀ b, b < k → g 92 b = wh b ∧ 0 ≤ wh b ∧ wh b ≤ 15) (hh' : ∀ b, b < k → g 91 b = hh b ∧ 0 ≤ hh b ∧ hh b ≤ 15) {n : Int} : ∀ (q b : Nat), b + q = k → Bookings_compare_b n g (gHome wh hh b) b = Bookings_compare_b n g (gHome wh hh k) k := by
  intro q
  induction q with
  | zero => intro b h; rw [show b = k by (try clear n0); (try clear n1); (try clear n2); (try clear n3); (try clear n4); omega]
  | succ q ih =>
    intro b h
    have w := hw b (by (try clear n0); (try clear n1); (try clear n2); (try clear n3); (try clear n4); omega)
    have hx := hh' b (by (try clear n0); (try clear n1); (try clear n2); (try clear n3); (try clear n4); omega)
    have e2 := ih (b + 1) (by (try clear n0); (try clear n1); (try clear n2); (try clear n3); (try clear n4); omega)
    have n0 : nw (g 9 10) = k := by rw [ha, nwN _ (by (try clear n0); (try clear n1); (try clear n2); (try clear n3); (try clear n4); omega)]
    have n1 : nw (b : Int) = b := nwN _ (by (try clear n0); (try clear n1); (try clear n2); (try clear n3); (try clear n4); omega)
    have n2 : ix (b : Int) = b := ixN _ (by (try clear n0); (try clear n1); (try clear n2); (try clear n3); (try clear n4); omega)
    have n3 : nw (wh b) = wh b := nw_id (by (try clear n0); (try clear n1); (try clear n2); (try clear n3); (try clear n4); omega) (by (try clear n0); (try clear n1); (try clear n2); (try clear n3); (try clear n4); omega)
    have n4 : nw (hh b) = hh b := nw_id (by (try clear n0); (try clear n1); (try clear n2); (try clear n3); (try clear n4); omega) (by (try clear n0); (try clear n1); (try clear n2); (try clear n3); (try clear n4); omega)
    rw [← e2]
    conv => lhs; rw [Bookings_compare_b, n0, n1, n2, w.1, hx.1, n3, n4, if_neg (by (try clear n0); (try clear n1); (try clear n2); (try clear n3); (try clear n4); omega), if_pos (by (try clear n0); (try clear n1); (try clear n2); (try clear n3); (try clear n4); omega), sb]
    rfl
theorem X_compare_s {c : Nat} {bf bt bw bb hb hh : Nat → Int} {o : Nat → Nat} {k : Nat} {hp : Nat → Int} (K : BkOk c bf bt bw bb) (BT : BtOk k hb hh) {g : AG} (D : XK g c bf bt bw bb hb hh o k hp) {wh as : Nat → Int} {n : Int} {s : GS} (rn : 0 ≤ n ∧ n ≤ c) (hw : ∀ b, b < k → g 92 b = wh b ∧ 0 ≤ wh b ∧ wh b ≤ 15) (ha : ∀ j, j < c → g 95 j = as j) (B : XGB g c s) : ∃ g', Bookings_compare n g = some (0, g') ∧ FR [(9, 16), (9, 17), (96, 0)] g g' ∧ XGB g' c (gLeaf hh k n wh as s) := by
  have hc := K.1
  have hk := BT.1
  have hr := gHome_rng (wh := wh) (hh := hh) k
  have mh := X_home_s hk (wh := wh) (hh := hh) (g := g) D.2.1 hw (fun b hb' => ⟨(D.2.2.2.1 b hb').2, (BT.2 b hb').2⟩) (n := n) k 0 (by (try clear n0); (try clear n1); (try clear n2); (try clear n3); (try clear n5); (try clear n6); (try clear n7); (try clear n8); (try clear n9); (try clear cp); omega)
  have mh' : Bookings_compare n g = Bookings_compare_b n g (gHome wh hh k) k := mh
  obtain ⟨hm, hhm⟩ : ∃ hm, hm = gHome wh hh k := ⟨_, rfl⟩
  rw [← hhm] at hr mh'
  have b3 := B.2.2.1
  have b4 := B.2.2.2.1
  have n0 : nw (g 9 10) = k := by rw [D.2.1, nwN _ (by (try clear n0); (try clear n1); (try clear n2); (try clear n3); (try clear n5); (try clear n6); (try clear n7); (try clear n8); (try clear n9); (try clear cp); omega)]
  have n1 : nw (k : Int) = k := nwN _ (by (try clear n0); (try clear n1); (try clear n2); (try clear n3); (try clear n5); (try clear n6); (try clear n7); (try clear n8); (try clear n9); (try clear cp); omega)
  have n2 : nw n = n := nw_id (by (try clear n0); (try clear n1); (try clear n2); (try clear n3); (try clear n5); (try clear n6); (try clear n7); (try clear n8); (try clear n9); (try clear cp); omega) (by (try clear n0); (try clear n1); (try clear n2); (try clear n3); (try clear n5); (try clear n6); (try clear n7); (try clear n8); (try clear n9); (try clear cp); omega)
  have n3 : nw hm = hm := nw_id (by (try clear n0); (try clear n1); (try clear n2); (try clear n3); (try clear n5); (try clear n6); (try clear n7); (try clear n8); (try clear n9); (try clear cp); omega) (by (try clear n0); (try clear n1); (try clear n2); (try clear n3); (try clear n5); (try clear n6); (try clear n7); (try clear n8); (try clear n9); (try clear cp); omega)
  have n5 : nw (g 9 15) = s.1 := by rw [B.1]; exact nw_id (by (try clear n0); (try clear n1); (try clear n2); (try clear n3); (try clear n5); (try clear n6); (try clear n7); (try clear n8); (try clear n9); (try clear cp); omega) (by (try clear n0); (try clear n1); (try clear n2); (try clear n3); (try clear n5); (try clear n6); (try clear n7); (try clear n8); (try clear n9); (try clear cp); omega)
  have n6 : nw (g 9 16) = s.2.1 := by rw [B.2.1]; exact nw_id (by (try clear n0); (try clear n1); (try clear n2); (try clear n3); (try clear n5); (try clear n6); (try clear n7); (try clear n8); (try clear n9); (try clear cp); omega) (by (try clear n0); (try clear n1); (try clear n2); (try clear n3); (try clear n5); (try clear n6); (try clear n7); (try clear n8); (try clear n9); (try clear cp); omega)
  have n7 : nw (c : Int) = c := nwN _ (by (try clear n0); (try clear n1); (try clear n2); (try clear n3); (try clear n5); (try clear n6); (try clear n7); (try clear n8); (try clear n9); (try clear cp); omega)
  have n8 : ix (c : Int) = c := ixN _ (by (try clear n0); (try clear n1); (try clear n2); (try clear n3); (try clear n5); (try clear n6); (try clear n7); (try clear n8); (try clear n9); (try clear cp); omega)
  have n9 : ix 0 = 0 := ixN 0 (by (try clear n0); (try clear n1); (try clear n2); (try clear n3); (try clear n5); (try clear n6); (try clear n7); (try clear n8); (try clear n9); (try clear cp); omega)
  have u : (up (up g 9 15 n) 9 16 hm) 9 4 = c := by rw [up_at, if_neg (by (try clear n0); (try clear n1); (try clear n2); (try clear n3); (try clear n5); (try clear n6); (try clear n7); (try clear n8); (try clear n9); (try clear cp); omega), up_at, if_neg (by (try clear n0); (try clear n1); (try clear n2); (try clear n3); (try clear n5); (try clear n6); (try clear n7); (try clear n8); (try clear n9); (try clear cp); omega)]; exact D.1
  have le : gLeaf hh k n wh as s = if s.1 < n ∨ (n = s.1 ∧ s.2.1 < hm) then (n, hm, as) else s := by rw [hhm]; rfl
  obtain ⟨gt, hgt⟩ : ∃ gt : AG, gt = copyG (up (up g 9 15 n) 9 16 hm) 95 0 96 0 c := ⟨_, rfl⟩
  have ft : FR [(9, 16), (9, 17), (96, 0)] g gt := by
    rw [hgt]
    intro a b hab
    have z : ¬ (a = 96 ∧ 0 ≤ b ∧ b < 0 + c) := fun q => by rw [q.1] at hab; cases hab
    show (if a = 96 ∧ 0 ≤ b ∧ b < 0 + c then _ else _) = _
    rw [if_neg z, up_at, if_neg (fun q => by rw [q.1, q.2] at hab; cases hab), up_at, if_neg (fun q => by rw [q.1, q.2] at hab; cases hab)]
  have Bt : XGB gt c (n, hm, as) := by
    rw [hgt]
    refine ⟨?_, ?_, ?_, ?_, fun _ j hj => ?_⟩
    · show (if 9 = 96 ∧ 0 ≤ 15 ∧ 15 < 0 + c then _ else _) = _
      rw [if_neg (by (try clear n0); (try clear n1); (try clear n2); (try clear n3); (try clear n5); (try clear n6); (try clear n7); (try clear n8); (try clear n9); (try clear cp); omega), up_at, if_neg (by (try clear n0); (try clear n1); (try clear n2); (try clear n3); (try clear n5); (try clear n6); (try clear n7); (try clear n8); (try clear n9); (try clear cp); omega), up_at, if_pos ⟨rfl, rfl⟩]
    · show (if 9 = 96 ∧ 0 ≤ 16 ∧ 16 < 0 + c then _ else _) = _
      rw [if_neg (by (try clear n0); (try clear n1); (try clear n2); (try clear n3); (try clear n5); (try clear n6); (try clear n7); (try clear n8); (try clear n9); (try clear cp); omega), up_at, if_pos ⟨rfl, rfl⟩]
    · dsimp only; (try clear n0); (try clear n1); (try clear n2); (try clear n3); (try clear n5); (try clear n6); (try clear n7); (try clear n8); (try clear n9); (try clear cp); omega
    · dsimp only; (try clear n0); (try clear n1); (try clear n2); (try clear n3); (try clear n5); (try clear n6); (try clear n7); (try clear n8); (try clear n9); (try clear cp); omega
    · show (if 96 = 96 ∧ 0 ≤ j ∧ j < 0 + c then _ else _) = _
      rw [if_pos (by (try clear n0); (try clear n1); (try clear n2); (try clear n3); (try clear n5); (try clear n6); (try clear n7); (try clear n8); (try clear n9); (try clear cp); omega), up_at, if_neg (by (try clear n0); (try clear n1); (try clear n2); (try clear n3); (try clear n5); (try clear n6); (try clear n7); (try clear n8); (try clear n9); (try clear cp); omega), up_at, if_neg (by (try clear n0); (try clear n1); (try clear n2); (try clear n3); (try clear n5); (try clear n6); (try clear n7); (try clear n8); (try clear n9); (try clear cp); omega), show 0 + (j - 0) = j by (try clear n0); (try clear n1); (try clear n2); (try clear n3); (try clear n5); (try clear n6); (try clear n7); (try clear n8); (try clear n9); (try clear cp); omega]
      exact ha j hj
  have cp : (if 0 ≤ 0 ∧ 0 ≤ 0 ∧ 0 ≤ nw ((up (up g 9 15 n) 9 16 hm) 9 4) ∧ 0 + nw ((up (up g 9 15 n) 9 16 hm) 9 4) ≤ 8 ∧ 0 + nw ((up (up g 9 15 n) 9 16 hm) 9 4) ≤ 8 then (some (copyG (up (up g 9 15 n) 9 16 hm) 95 (ix 0) 96 (ix 0) (ix ((up (up g 9 15 n) 9 16 hm) 9 4))) >>= fun g8 => some g8) else none) = some gt := by
    rw [u, n7, n8, n9, if_pos (by (try clear n0); (try clear n1); (try clear n2); (try clear n3); (try clear n5); (try clear n6); (try clear n7); (try clear n8); (try clear n9); (try clear cp); omega), sb, ← hgt]
  have top : Bookings_compare n g = (if s.1 < n then some (0, gt) else if n = s.1 then (if hm ≤ s.2.1 then some (0, g) else some (0, gt)) else some (0, g)) := by
    rw [mh', Bookings_compare_b, n0, n1, if_pos (Int.le_refl _), n2, n3, n5, n6]
    by_cases y : s.1 < n
    · rw [if_pos y, if_pos y, sb, sb, cp, sb]
    · rw [if_neg y, if_neg y]
      by_cases x : n = s.1
      · rw [if_pos x, if_pos x]
        by_cases w : hm ≤ s.2.1
        · rw [if_pos w, if_pos w, sb]
        · rw [if_neg w, if_neg w, sb, sb, cp, sb]
      · rw [if_neg x, if_neg x, sb]
  rw [top, le]
  by_cases y : s.1 < n
  · rw [if_pos y, if_pos (Or.inl y)]
    exact ⟨gt, rfl, ft, Bt⟩
  · rw [if_neg y]
    by_cases x : n = s.1
    · rw [if_pos x]
      by_cases w : hm ≤ s.2.1
      · rw [if_pos w, if_neg (by (try clear n0); (try clear n1); (try clear n2); (try clear n3); (try clear n5); (try clear n6); (try clear n7); (try clear n8); (try clear n9); (try clear cp); omega)]
        exact ⟨g, rfl, Fr.rf, B⟩
      · rw [if_neg w, if_pos (Or.inr ⟨x, by (try clear n0); (try clear n1); (try clear n2); (try clear n3); (try clear n5); (try clear n6); (try clear n7); (try clear n8); (try clear n9); (try clear cp); omega⟩)]
        exact ⟨gt, rfl, ft, Bt⟩
    · rw [if_neg x, if_neg (by (try clear n0); (try clear n1); (try clear n2); (try clear n3); (try clear n5); (try clear n6); (try clear n7); (try clear n8); (try clear n9); (try clear cp); omega)]
      exact ⟨g, rfl, Fr.rf, B⟩
theorem X_gives_t {c : Nat} {bf bt bw bb hb hh : Nat → Int} {o : Nat → Nat} {k : Nat} {hp : Nat → Int} (K : BkOk c bf bt bw bb) (BT : BtOk k hb hh) (O : Ord c bw o) (H : Hop c bf bt bw bb hb hh o k hp) : ∀ (r f i : Nat) (n : Int) (wh bz as : Nat → Int) (s : GS) (g : AG), i + r = c → r + 1 ≤ f → XK g c bf bt bw bb hb hh o k hp → GI c bt bw hh o k i n wh bz → (∀ b, b < k → g 92 b = wh b ∧ g 93 b = bz b) → (∀ p, p < i → g 95 (o p) = as (o p)) → XGB g c s → ∃ g', Bookings_giveNext f i n g = some (0, g') ∧ FR RXG g g' ∧ (∀ b, b < k → g' 92 b = g 92 b ∧ g' 93 b = g 93 b) ∧ (∀ p, p < i → g' 95 (o p) = g 95 (o p)) ∧ XGB g' c (gS bf bt bw bb hb hh o k r i n wh bz as s) := by
  intro r
  induction r with
  | zero =>
    intro f i n wh bz as s g h hf D G hw ha B
    obtain ⟨f, rfl⟩ : ∃ f', f = f' + 1 := ⟨f - 1, by (try clear n0); (try clear n1); (try clear n2); (try clear n3); (try clear n5); (try clear n6); (try clear n7); (try clear n4); (try clear n8); (try clear m0); (try clear m1); (try clear m2); (try clear n9); omega⟩
    have hc := K.1
    have hk := BT.1
    have ei : i = c := by (try clear n0); (try clear n1); (try clear n2); (try clear n3); (try clear n5); (try clear n6); (try clear n7); (try clear n4); (try clear n8); (try clear m0); (try clear m1); (try clear m2); (try clear n9); omega
    subst ei
    have gn := G.1
    have dp := D.2.2.2.2 i (Nat.le_refl i)
    have as' : ∀ j, j < i → g 95 j = as j := fun j hj => by
      obtain ⟨p, hp, e⟩ := O.2.2 j hj
      rw [← e]
      exact ha p hp
    obtain ⟨gc, ec, fc, Bc⟩ := X_compare_s K BT D (wh := wh) (as := as) (n := n) (s := s) gn (fun b hb' => ⟨(hw b hb').1, (G.2.1 b hb').1⟩) as' B
    have b3 := B.2.2.1
    have b4 := B.2.2.2.1
    have n0 : nw (g 9 4) = i := by rw [D.1, nwN _ (by (try clear n0); (try clear n1); (try clear n2); (try clear n3); (try clear n5); (try clear n6); (try clear n7); (try clear n4); (try clear n8); (try clear m0); (try clear m1); (try clear m2); (try clear n9); omega)]
    have n1 : nw (i : Int) = i := nwN _ (by (try clear n0); (try clear n1); (try clear n2); (try clear n3); (try clear n5); (try clear n6); (try clear n7); (try clear n4); (try clear n8); (try clear m0); (try clear m1); (try clear m2); (try clear n9); omega)
    have n2 : ix (i : Int) = i := ixN _ (by (try clear n0); (try clear n1); (try clear n2); (try clear n3); (try clear n5); (try clear n6); (try clear n7); (try clear n4); (try clear n8); (try clear m0); (try clear m1); (try clear m2); (try clear n9); omega)
    have n3 : nw (n + hp i) = n + hp i := nw_id (by (try clear n0); (try clear n1); (try clear n2); (try clear n3); (try clear n5); (try clear n6); (try clear n7); (try clear n4); (try clear n8); (try clear m0); (try clear m1); (try clear m2); (try clear n9); omega) (by (try clear n0); (try clear n1); (try clear n2); (try clear n3); (try clear n5); (try clear n6); (try clear n7); (try clear n4); (try clear n8); (try clear m0); (try clear m1); (try clear m2); (try clear n9); omega)
    have n5 : nw (g 9 15) = s.1 := by rw [B.1]; exact nw_id (by (try clear n0); (try clear n1); (try clear n2); (try clear n3); (try clear n5); (try clear n6); (try clear n7); (try clear n4); (try clear n8); (try clear m0); (try clear m1); (try clear m2); (try clear n9); omega) (by (try clear n0); (try clear n1); (try clear n2); (try clear n3); (try clear n5); (try clear n6); (try clear n7); (try clear n4); (try clear n8); (try clear m0); (try clear m1); (try clear m2); (try clear n9); omega)
    have n6 : nw (g 9 16) = s.2.1 := by rw [B.2.1]; exact nw_id (by (try clear n0); (try clear n1); (try clear n2); (try clear n3); (try clear n5); (try clear n6); (try clear n7); (try clear n4); (try clear n8); (try clear m0); (try clear m1); (try clear m2); (try clear n9); omega) (by (try clear n0); (try clear n1); (try clear n2); (try clear n3); (try clear n5); (try clear n6); (try clear n7); (try clear n4); (try clear n8); (try clear m0); (try clear m1); (try clear m2); (try clear n9); omega)
    have n7 : nw (g 9 10) = k := by rw [D.2.1, nwN _ (by (try clear n0); (try clear n1); (try clear n2); (try clear n3); (try clear n5); (try clear n6); (try clear n7); (try clear n4); (try clear n8); (try clear m0); (try clear m1); (try clear m2); (try clear n9); omega)]
    have go : Bookings_giveNext_b (Bookings_giveNext f) i n 1 0 0 g = some (0, gc) := by
      rw [Bookings_giveNext_b.eq_1 _ _ _ 1, if_pos rfl, n0, n1, if_neg (Int.lt_irrefl _), ec, sb]
    have top : Bookings_giveNext (f + 1) i n g = (if n + hp i < s.1 then some (0, g) else if n + hp i = s.1 then (if s.2.1 < k then some (0, gc) else some (0, g)) else some (0, gc)) := by
      show Bookings_giveNext_s (Bookings_giveNext f) i n g = _
      unfold Bookings_giveNext_s
      rw [n1, n2, dp.1, n3, n5, n6, n7, go, if_pos (by (try clear n0); (try clear n1); (try clear n2); (try clear n3); (try clear n5); (try clear n6); (try clear n7); (try clear n4); (try clear n8); (try clear m0); (try clear m1); (try clear m2); (try clear n9); omega)]
    have went : FR RXG g gc ∧ (∀ b, b < k → gc 92 b = g 92 b ∧ gc 93 b = g 93 b) ∧ (∀ p, p < i → gc 95 (o p) = g 95 (o p)) ∧ XGB gc i (gS bf bt bw bb hb hh o k 0 i n wh bz as s) := ⟨FR.mo fc rfl, fun b _ => ⟨fc 92 b rfl, fc 93 b rfl⟩, fun p _ => fc 95 _ rfl, Bc⟩
    have stay : (n + hp i < s.1 ∨ (n + hp i = s.1 ∧ (k : Int) ≤ s.2.1)) → FR RXG g g ∧ (∀ b, b < k → g 92 b = g 92 b ∧ g 93 b = g 93 b) ∧ (∀ p, p < i → g 95 (o p) = g 95 (o p)) ∧ XGB g i (gS bf bt bw bb hb hh o k 0 i n wh bz as s) := fun q => ⟨Fr.rf, fun _ _ => ⟨rfl, rfl⟩, fun _ _ => rfl, by rw [gS_prune K O H 0 i n wh bz as s h G q]; exact B⟩
    rw [top]
    by_cases y : n + hp i < s.1
    · exact ⟨g, by rw [if_pos y], stay (Or.inl y)⟩
    · rw [if_neg y]
      by_cases x : n + hp i = s.1
      · rw [if_pos x]
        by_cases w : s.2.1 < k
        · exact ⟨gc, by rw [if_pos w], went⟩
        · exact ⟨g, by rw [if_neg w], stay (Or.inr ⟨x, by (try clear n0); (try clear n1); (try clear n2); (try clear n3); (try clear n5); (try clear n6); (try clear n7); (try clear n4); (try clear n8); (try clear m0); (try clear m1); (try clear m2); (try clear n9); omega⟩)⟩
      · exact ⟨gc, by rw [if_neg x], went⟩
  | succ r ih =>
    intro f i n wh bz as s g h hf D G hw ha B
    obtain ⟨f, rfl⟩ : ∃ f', f = f' + 1 := ⟨f - 1, by (try clear n0); (try clear n1); (try clear n2); (try clear n3); (try clear n5); (try clear n6); (try clear n7); (try clear n4); (try clear n8); (try clear m0); (try clear m1); (try clear m2); (try clear n9); omega⟩
    have hc := K.1
    have hk := BT.1
    have hi : i < c := by (try clear n0); (try clear n1); (try clear n2); (try clear n3); (try clear n5); (try clear n6); (try clear n7); (try clear n4); (try clear n8); (try clear m0); (try clear m1); (try clear m2); (try clear n9); omega
    have hoi := O.1 i hi
    have hj := K.2 (o i) hoi
    have d := D.2.2.1 i hi
    have gn := G.1
    have dp := D.2.2.2.2 i (by (try clear n0); (try clear n1); (try clear n2); (try clear n3); (try clear n5); (try clear n6); (try clear n7); (try clear n4); (try clear n8); (try clear m0); (try clear m1); (try clear m2); (try clear n9); omega)
    have b3 := B.2.2.1
    have b4 := B.2.2.2.1
    have n0 : nw (g 9 4) = c := by rw [D.1, nwN _ (by (try clear n0); (try clear n1); (try clear n2); (try clear n3); (try clear n5); (try clear n6); (try clear n7); (try clear n4); (try clear n8); (try clear m0); (try clear m1); (try clear m2); (try clear n9); omega)]
    have n1 : nw (i : Int) = i := nwN _ (by (try clear n0); (try clear n1); (try clear n2); (try clear n3); (try clear n5); (try clear n6); (try clear n7); (try clear n4); (try clear n8); (try clear m0); (try clear m1); (try clear m2); (try clear n9); omega)
    have n2 : ix (i : Int) = i := ixN _ (by (try clear n0); (try clear n1); (try clear n2); (try clear n3); (try clear n5); (try clear n6); (try clear n7); (try clear n4); (try clear n8); (try clear m0); (try clear m1); (try clear m2); (try clear n9); omega)
    have n3 : nw ((o i : Nat) : Int) = (o i : Nat) := nwN _ (by (try clear n0); (try clear n1); (try clear n2); (try clear n3); (try clear n5); (try clear n6); (try clear n7); (try clear n4); (try clear n8); (try clear m0); (try clear m1); (try clear m2); (try clear n9); omega)
    have n4 : ix ((o i : Nat) : Int) = o i := ixN _ (by (try clear n0); (try clear n1); (try clear n2); (try clear n3); (try clear n5); (try clear n6); (try clear n7); (try clear n4); (try clear n8); (try clear m0); (try clear m1); (try clear m2); (try clear n9); omega)
    have n5 : nw (n + hp i) = n + hp i := nw_id (by (try clear n0); (try clear n1); (try clear n2); (try clear n3); (try clear n5); (try clear n6); (try clear n7); (try clear n4); (try clear n8); (try clear m0); (try clear m1); (try clear m2); (try clear n9); omega) (by (try clear n0); (try clear n1); (try clear n2); (try clear n3); (try clear n5); (try clear n6); (try clear n7); (try clear n4); (try clear n8); (try clear m0); (try clear m1); (try clear m2); (try clear n9); omega)
    have n6 : nw (g 9 15) = s.1 := by rw [B.1]; exact nw_id (by (try clear n0); (try clear n1); (try clear n2); (try clear n3); (try clear n5); (try clear n6); (try clear n7); (try clear n4); (try clear n8); (try clear m0); (try clear m1); (try clear m2); (try clear n9); omega) (by (try clear n0); (try clear n1); (try clear n2); (try clear n3); (try clear n5); (try clear n6); (try clear n7); (try clear n4); (try clear n8); (try clear m0); (try clear m1); (try clear m2); (try clear n9); omega)
    have n7 : nw (g 9 16) = s.2.1 := by rw [B.2.1]; exact nw_id (by (try clear n0); (try clear n1); (try clear n2); (try clear n3); (try clear n5); (try clear n6); (try clear n7); (try clear n4); (try clear n8); (try clear m0); (try clear m1); (try clear m2); (try clear n9); omega) (by (try clear n0); (try clear n1); (try clear n2); (try clear n3); (try clear n5); (try clear n6); (try clear n7); (try clear n4); (try clear n8); (try clear m0); (try clear m1); (try clear m2); (try clear n9); omega)
    have n8 : nw (g 9 10) = k := by rw [D.2.1, nwN _ (by (try clear n0); (try clear n1); (try clear n2); (try clear n3); (try clear n5); (try clear n6); (try clear n7); (try clear n4); (try clear n8); (try clear m0); (try clear m1); (try clear m2); (try clear n9); omega)]
    have inj : ∀ p, p < i → o p ≠ o i := fun p hp e => by
      have := O.inj (show p < c by (try clear n0); (try clear n1); (try clear n2); (try clear n3); (try clear n5); (try clear n6); (try clear n7); (try clear n4); (try clear n8); (try clear m0); (try clear m1); (try clear m2); (try clear n9); omega) hi e
      (try clear n0); (try clear n1); (try clear n2); (try clear n3); (try clear n5); (try clear n6); (try clear n7); (try clear n4); (try clear n8); (try clear m0); (try clear m1); (try clear m2); (try clear n9); omega
    have go : Bookings_giveNext_b (Bookings_giveNext f) i n 1 0 0 g = Bookings_giveNext_b (Bookings_giveNext f) i n 2 (o i : Nat) 0 g := by
      rw [Bookings_giveNext_b.eq_1 _ _ _ 1, if_pos rfl, n0, n1, n2, if_pos (by (try clear n0); (try clear n1); (try clear n2); (try clear n3); (try clear n5); (try clear n6); (try clear n7); (try clear n4); (try clear n8); (try clear m0); (try clear m1); (try clear m2); (try clear n9); omega), if_pos (by (try clear n0); (try clear n1); (try clear n2); (try clear n3); (try clear n5); (try clear n6); (try clear n7); (try clear n4); (try clear n8); (try clear m0); (try clear m1); (try clear m2); (try clear n9); omega), d.2.2.2.2]
    have top : Bookings_giveNext (f + 1) i n g = (if n + hp i < s.1 then some (0, g) else if n + hp i = s.1 then (if s.2.1 < k then Bookings_giveNext_b (Bookings_giveNext f) i n 2 (o i : Nat) 0 g else some (0, g)) else Bookings_giveNext_b (Bookings_giveNext f) i n 2 (o i : Nat) 0 g) := by
      show Bookings_giveNext_s (Bookings_giveNext f) i n g = _
      unfold Bookings_giveNext_s
      rw [n1, n2, dp.1, n5, n6, n7, n8, go, if_pos (by (try clear n0); (try clear n1); (try clear n2); (try clear n3); (try clear n5); (try clear n6); (try clear n7); (try clear n4); (try clear n8); (try clear m0); (try clear m1); (try clear m2); (try clear n9); omega)]
    have loop : ∀ (q b : Nat) (s : GS) (g1 : AG), b + q = k → XK g1 c bf bt bw bb hb hh o k hp → (∀ b, b < k → g1 92 b = wh b ∧ g1 93 b = bz b) → (∀ p, p < i → g1 95 (o p) = as (o p)) → XGB g1 c s → ∃ g', Bookings_giveNext_b (Bookings_giveNext f) i n 2 (o i : Nat) b g1 = Bookings_giveNext_b (Bookings_giveNext f) i n 2 (o i : Nat) k g' ∧ FR RXG g1 g' ∧ (∀ b, b < k → g' 92 b = g1 92 b ∧ g' 93 b = g1 93 b) ∧ (∀ p, p < i → g' 95 (o p) = g1 95 (o p)) ∧ XGB g' c (tR (fun b s => if gOk bf bw bb hb wh bz (o i) b then gS bf bt bw bb hb hh o k r (i + 1) (n + 1) (uv wh b (bt (o i))) (uv bz b (bw (o i))) (uv as (o i) (b : Nat)) s else s) q b s) := by
      intro q
      induction q with
      | zero =>
        intro b s g1 hq D1 hw1 ha1 B1
        exact ⟨g1, by rw [show b = k by (try clear n0); (try clear n1); (try clear n2); (try clear n3); (try clear n5); (try clear n6); (try clear n7); (try clear n4); (try clear n8); (try clear m0); (try clear m1); (try clear m2); (try clear n9); omega], Fr.rf, fun _ _ => ⟨rfl, rfl⟩, fun _ _ => rfl, B1⟩
      | succ q ihq =>
        intro b s g1 hq D1 hw1 ha1 B1
        have hbk : b < k := by (try clear n0); (try clear n1); (try clear n2); (try clear n3); (try clear n5); (try clear n6); (try clear n7); (try clear n4); (try clear n8); (try clear m0); (try clear m1); (try clear m2); (try clear n9); omega
        have w1 := hw1 b hbk
        have gb := G.2.1 b hbk
        have d1 := D1.2.2.1 (o i) hoi
        have hv := X_have_s K BT D1 (wh := wh) (bz := bz) hbk hoi w1 gb
        have m0 : nw (g1 9 10) = k := by rw [D1.2.1, nwN _ (by (try clear n0); (try clear n1); (try clear n2); (try clear n3); (try clear n5); (try clear n6); (try clear n7); (try clear n4); (try clear n8); (try clear m0); (try clear m1); (try clear m2); (try clear n9); omega)]
        have m1 : nw (b : Int) = b := nwN _ (by (try clear n0); (try clear n1); (try clear n2); (try clear n3); (try clear n5); (try clear n6); (try clear n7); (try clear n4); (try clear n8); (try clear m0); (try clear m1); (try clear m2); (try clear n9); omega)
        have m2 : ix (b : Int) = b := ixN _ (by (try clear n0); (try clear n1); (try clear n2); (try clear n3); (try clear n5); (try clear n6); (try clear n7); (try clear n4); (try clear n8); (try clear m0); (try clear m1); (try clear m2); (try clear n9); omega)
        have top2 : Bookings_giveNext_b (Bookings_giveNext f) i n 2 (o i : Nat) b g1 = (if gOk bf bw bb hb wh bz (o i) b then (Bookings_giveNext f ((i : Int) + 1) (n + 1) (up (up (up g1 95 (o i) b) 92 b (bt (o i))) 93 b (bw (o i))) >>= fun r18 => Bookings_giveNext_b (Bookings_giveNext f) i n 2 (o i : Nat) ((b : Int) + 1) (up (up r18.2 92 b (wh b)) 93 b (bz b))) else Bookings_giveNext_b (Bookings_giveNext f) i n 2 (o i : Nat) ((b : Int) + 1) g1) := by
          have u1 : (up g1 95 (o i) b) 86 (o i) = bt (o i) := by rw [up_at, if_neg (fun q => absurd q.1 (by decide))]; exact d1.2.1
          have u2 : (up (up g1 95 (o i) b) 92 b (bt (o i))) 87 (o i) = bw (o i) := by rw [up_at, if_neg (fun q => absurd q.1 (by decide)), up_at, if_neg (fun q => absurd q.1 (by decide))]; exact d1.2.2.1
          rw [Bookings_giveNext_b.eq_1 _ _ _ 2, m0, m1, m2, n3, n4, hv, w1.1, w1.2, if_neg (by decide), if_pos rfl, if_neg (by (try clear n0); (try clear n1); (try clear n2); (try clear n3); (try clear n5); (try clear n6); (try clear n7); (try clear n4); (try clear n8); (try clear m0); (try clear m1); (try clear m2); (try clear n9); omega), sb]
          by_cases ok : gOk bf bw bb hb wh bz (o i) b
          · rw [if_pos ok, if_pos ok, nw_1, if_neg (by decide), if_pos (by (try clear n0); (try clear n1); (try clear n2); (try clear n3); (try clear n5); (try clear n6); (try clear n7); (try clear n4); (try clear n8); (try clear m0); (try clear m1); (try clear m2); (try clear n9); omega), if_pos (by (try clear n0); (try clear n1); (try clear n2); (try clear n3); (try clear n5); (try clear n6); (try clear n7); (try clear n4); (try clear n8); (try clear m0); (try clear m1); (try clear m2); (try clear n9); omega), sb, u1, sb, u2, sb]
            cases Bookings_giveNext f ((i : Int) + 1) (n + 1) (up (up (up g1 95 (o i) b) 92 b (bt (o i))) 93 b (bw (o i))) with
            | none => rfl
            | some r18 => rfl
          · rw [if_neg ok, if_neg ok, nw_0, if_pos rfl, sb]
        rw [top2]
        by_cases ok : gOk bf bw bb hb wh bz (o i) b
        · rw [if_pos ok]
          obtain ⟨g16, hg16⟩ : ∃ g16 : AG, g16 = up (up (up g1 95 (o i) b) 92 b (bt (o i))) 93 b (bw (o i)) := ⟨_, rfl⟩
          rw [← hg16]
          have f16 : FR RXG g1 g16 := by rw [hg16]; exact Fr.up (Fr.up (Fr.up Fr.rf rfl) rfl) rfl
          have v92 : ∀ x, g16 92 x = if x = b then bt (o i) else g1 92 x := fun x => by
            rw [hg16, up_at, if_neg (fun q => absurd q.1 (by decide)), up_at]
            by_cases y : x = b
            · rw [if_pos ⟨rfl, y⟩, if_pos y]
            · rw [if_neg (fun q => y q.2), if_neg y, up_at, if_neg (fun q => absurd q.1 (by decide))]
          have v93 : ∀ x, g16 93 x = if x = b then bw (o i) else g1 93 x := fun x => by
            rw [hg16, up_at]
            by_cases y : x = b
            · rw [if_pos ⟨rfl, y⟩, if_pos y]
            · rw [if_neg (fun q => y q.2), if_neg y, up_at, if_neg (fun q => absurd q.1 (by decide)), up_at, if_neg (fun q => absurd q.1 (by decide))]
          have v95 : ∀ x, g16 95 x = if x = o i then (b : Int) else g1 95 x := fun x => by
            rw [hg16, up_at, if_neg (fun q => absurd q.1 (by decide)), up_at, if_neg (fun q => absurd q.1 (by decide)), up_at]
            by_cases y : x = o i
            · rw [if_pos ⟨rfl, y⟩, if_pos y]
            · rw [if_neg (fun q => y q.2), if_neg y]
          obtain ⟨g18, e18, f18, k18, p18, B18⟩ := ih f (i + 1) (n + 1) (uv wh b (bt (o i))) (uv bz b (bw (o i))) (uv as (o i) (b : Nat)) s g16 (by (try clear n0); (try clear n1); (try clear n2); (try clear n3); (try clear n5); (try clear n6); (try clear n7); (try clear n4); (try clear n8); (try clear m0); (try clear m1); (try clear m2); (try clear n9); omega) (by (try clear n0); (try clear n1); (try clear n2); (try clear n3); (try clear n5); (try clear n6); (try clear n7); (try clear n4); (try clear n8); (try clear m0); (try clear m1); (try clear m2); (try clear n9); omega) (D1.fr f16) (G.some K O hi b) (fun x hx => by
            rw [v92, v93]
            unfold uv
            by_cases y : x = b
            · rw [if_pos y, if_pos y, if_pos y, if_pos y]; exact ⟨rfl, rfl⟩
            · rw [if_neg y, if_neg y, if_neg y, if_neg y]; exact hw1 x hx) (fun p hp => by
            rw [v95]
            unfold uv
            by_cases y : p = i
            · rw [y, if_pos rfl, if_pos rfl]
            · rw [if_neg (inj p (by (try clear n0); (try clear n1); (try clear n2); (try clear n3); (try clear n5); (try clear n6); (try clear n7); (try clear n4); (try clear n8); (try clear m0); (try clear m1); (try clear m2); (try clear n9); omega)), if_neg (inj p (by (try clear n0); (try clear n1); (try clear n2); (try clear n3); (try clear n5); (try clear n6); (try clear n7); (try clear n4); (try clear n8); (try clear m0); (try clear m1); (try clear m2); (try clear n9); omega))]; exact ha1 p (by (try clear n0); (try clear n1); (try clear n2); (try clear n3); (try clear n5); (try clear n6); (try clear n7); (try clear n4); (try clear n8); (try clear m0); (try clear m1); (try clear m2); (try clear n9); omega)) (by
            rw [hg16]
            refine ⟨?_, ?_, B1.2.2.1, B1.2.2.2.1, fun z j hj => ?_⟩
            · rw [up_at, if_neg (fun q => absurd q.1 (by decide)), up_at, if_neg (fun q => absurd q.1 (by decide)), up_at, if_neg (fun q => absurd q.1 (by decide))]; exact B1.1
            · rw [up_at, if_neg (fun q => absurd q.1 (by decide)), up_at, if_neg (fun q => absurd q.1 (by decide)), up_at, if_neg (fun q => absurd q.1 (by decide))]; exact B1.2.1
            · rw [up_at, if_neg (fun q => absurd q.1 (by decide)), up_at, if_neg (fun q => absurd q.1 (by decide)), up_at, if_neg (fun q => absurd q.1 (by decide))]; exact B1.2.2.2.2 z j hj)
          have e18' : Bookings_giveNext f ((i : Int) + 1) (n + 1) g16 = some (0, g18) := e18
          rw [e18', sb]
          obtain ⟨g22, hg22⟩ : ∃ g22 : AG, g22 = up (up g18 92 b (wh b)) 93 b (bz b) := ⟨_, rfl⟩
          have f22 : FR RXG g1 g22 := by rw [hg22]; exact Fr.up (Fr.up (f16.tr f18) rfl) rfl
          have k22 : ∀ x, x < k → g22 92 x = g1 92 x ∧ g22 93 x = g1 93 x := fun x hx => by
            have kk := k18 x hx
            rw [v92, v93] at kk
            rw [hg22]
            by_cases y : x = b
            · subst y
              refine ⟨?_, ?_⟩
              · rw [up_at, if_neg (fun q => absurd q.1 (by decide)), up_at, if_pos ⟨rfl, rfl⟩]; exact w1.1.symm
              · rw [up_at, if_pos ⟨rfl, rfl⟩]; exact w1.2.symm
            · rw [if_neg y, if_neg y] at kk
              refine ⟨?_, ?_⟩
              · rw [up_at, if_neg (fun q => absurd q.1 (by decide)), up_at, if_neg (fun q => y q.2)]; exact kk.1
              · rw [up_at, if_neg (fun q => y q.2), up_at, if_neg (fun q => absurd q.1 (by decide))]; exact kk.2
          have p22 : ∀ p, p < i → g22 95 (o p) = g1 95 (o p) := fun p hp => by
            rw [hg22, up_at, if_neg (fun q => absurd q.1 (by decide)), up_at, if_neg (fun q => absurd q.1 (by decide)), p18 p (by (try clear n0); (try clear n1); (try clear n2); (try clear n3); (try clear n5); (try clear n6); (try clear n7); (try clear n4); (try clear n8); (try clear m0); (try clear m1); (try clear m2); (try clear n9); omega), v95, if_neg (inj p hp)]
          obtain ⟨g', e', f', k', p', B'⟩ := ihq (b + 1) _ g22 (by (try clear n0); (try clear n1); (try clear n2); (try clear n3); (try clear n5); (try clear n6); (try clear n7); (try clear n4); (try clear n8); (try clear m0); (try clear m1); (try clear m2); (try clear n9); omega) (D1.fr f22) (fun x hx => by rw [(k22 x hx).1, (k22 x hx).2]; exact hw1 x hx) (fun p hp => by rw [p22 p hp]; exact ha1 p hp) (show XGB g22 c (gS bf bt bw bb hb hh o k r (i + 1) (n + 1) (uv wh b (bt (o i))) (uv bz b (bw (o i))) (uv as (o i) (b : Nat)) s) by
            rw [hg22]
            refine ⟨?_, ?_, B18.2.2.1, B18.2.2.2.1, fun z j hj => ?_⟩
            · rw [up_at, if_neg (fun q => absurd q.1 (by decide)), up_at, if_neg (fun q => absurd q.1 (by decide))]; exact B18.1
            · rw [up_at, if_neg (fun q => absurd q.1 (by decide)), up_at, if_neg (fun q => absurd q.1 (by decide))]; exact B18.2.1
            · rw [up_at, if_neg (fun q => absurd q.1 (by decide)), up_at, if_neg (fun q => absurd q.1 (by decide))]; exact B18.2.2.2.2 z j hj)
          refine ⟨g', ?_, f22.tr f', fun x hx => by rw [(k' x hx).1, (k' x hx).2]; exact k22 x hx, fun p hp => by rw [p' p hp, p22 p hp], ?_⟩
          · dsimp only
            rw [← hg22]
            exact e'
          · unfold tR
            rw [if_pos ok]
            exact B'
        · rw [if_neg ok]
          obtain ⟨g', e', f', k', p', B'⟩ := ihq (b + 1) s g1 (by (try clear n0); (try clear n1); (try clear n2); (try clear n3); (try clear n5); (try clear n6); (try clear n7); (try clear n4); (try clear n8); (try clear m0); (try clear m1); (try clear m2); (try clear n9); omega) D1 hw1 ha1 B1
          refine ⟨g', e', f', k', p', ?_⟩
          unfold tR
          rw [if_neg ok]
          exact B'
    have went : ∃ g', Bookings_giveNext_b (Bookings_giveNext f) i n 2 (o i : Nat) 0 g = some (0, g') ∧ FR RXG g g' ∧ (∀ b, b < k → g' 92 b = g 92 b ∧ g' 93 b = g 93 b) ∧ (∀ p, p < i → g' 95 (o p) = g 95 (o p)) ∧ XGB g' c (gS bf bt bw bb hb hh o k (r + 1) i n wh bz as s) := by
      obtain ⟨g2, e2, f2, k2, p2, B2⟩ := loop k 0 s g (by (try clear n0); (try clear n1); (try clear n2); (try clear n3); (try clear n5); (try clear n6); (try clear n7); (try clear n4); (try clear n8); (try clear m0); (try clear m1); (try clear m2); (try clear n9); omega) D hw ha B
      obtain ⟨g3, hg3⟩ : ∃ g3 : AG, g3 = up g2 95 (o i) (-1) := ⟨_, rfl⟩
      have f3 : FR RXG g g3 := by rw [hg3]; exact Fr.up f2 rfl
      have k3 : ∀ x, x < k → g3 92 x = g 92 x ∧ g3 93 x = g 93 x := fun x hx => by
        rw [hg3, up_at, if_neg (fun q => absurd q.1 (by decide)), up_at, if_neg (fun q => absurd q.1 (by decide))]
        exact k2 x hx
      have p3 : ∀ p, p < i → g3 95 (o p) = g 95 (o p) := fun p hp => by
        rw [hg3, up_at, if_neg (fun q => inj p hp q.2)]
        exact p2 p hp
      obtain ⟨g', e', f', k', p', B'⟩ := ih f (i + 1) n wh bz (uv as (o i) (-1)) _ g3 (by (try clear n0); (try clear n1); (try clear n2); (try clear n3); (try clear n5); (try clear n6); (try clear n7); (try clear n4); (try clear n8); (try clear m0); (try clear m1); (try clear m2); (try clear n9); omega) (by (try clear n0); (try clear n1); (try clear n2); (try clear n3); (try clear n5); (try clear n6); (try clear n7); (try clear n4); (try clear n8); (try clear m0); (try clear m1); (try clear m2); (try clear n9); omega) (D.fr f3) G.none (fun x hx => by rw [(k3 x hx).1, (k3 x hx).2]; exact hw x hx) (fun p hp => by
        by_cases y : p = i
        · rw [y, uv_at, hg3, up_at, if_pos ⟨rfl, rfl⟩]
        · rw [uv_ne (inj p (by (try clear n0); (try clear n1); (try clear n2); (try clear n3); (try clear n5); (try clear n6); (try clear n7); (try clear n4); (try clear n8); (try clear m0); (try clear m1); (try clear m2); (try clear n9); omega)), p3 p (by (try clear n0); (try clear n1); (try clear n2); (try clear n3); (try clear n5); (try clear n6); (try clear n7); (try clear n4); (try clear n8); (try clear m0); (try clear m1); (try clear m2); (try clear n9); omega)]; exact ha p (by (try clear n0); (try clear n1); (try clear n2); (try clear n3); (try clear n5); (try clear n6); (try clear n7); (try clear n4); (try clear n8); (try clear m0); (try clear m1); (try clear m2); (try clear n9); omega)) (show XGB g3 c _ by
        rw [hg3]
        refine ⟨?_, ?_, B2.2.2.1, B2.2.2.2.1, fun z j hj => ?_⟩
        · rw [up_at, if_neg (fun q => absurd q.1 (by decide))]; exact B2.1
        · rw [up_at, if_neg (fun q => absurd q.1 (by decide))]; exact B2.2.1
        · rw [up_at, if_neg (fun q => absurd q.1 (by decide))]; exact B2.2.2.2.2 z j hj)
      refine ⟨g', ?_, f3.tr f', fun x hx => by rw [(k' x hx).1, (k' x hx).2]; exact k3 x hx, fun p hp => by rw [p' p (by (try clear n0); (try clear n1); (try clear n2); (try clear n3); (try clear n5); (try clear n6); (try clear n7); (try clear n4); (try clear n8); (try clear m0); (try clear m1); (try clear m2); (try clear n9); omega), p3 p hp], B'⟩
      have m0 : nw (g2 9 10) = k := by rw [f2 9 10 rfl]; exact n8
      have n9 : nw (k : Int) = k := nwN _ (by (try clear n0); (try clear n1); (try clear n2); (try clear n3); (try clear n5); (try clear n6); (try clear n7); (try clear n4); (try clear n8); (try clear m0); (try clear m1); (try clear m2); (try clear n9); omega)
      have e2' : Bookings_giveNext_b (Bookings_giveNext f) i n 2 (o i : Nat) 0 g = Bookings_giveNext_b (Bookings_giveNext f) i n 2 (o i : Nat) k g2 := e2
      have e3' : Bookings_giveNext f ((i : Int) + 1) n g3 = some (0, g') := e'
      rw [e2', Bookings_giveNext_b.eq_1 _ _ _ 2, m0, n9, n3, n4, if_neg (by decide), if_pos rfl, if_pos (Int.le_refl _), if_pos (by (try clear n0); (try clear n1); (try clear n2); (try clear n3); (try clear n5); (try clear n6); (try clear n7); (try clear n4); (try clear n8); (try clear m0); (try clear m1); (try clear m2); (try clear n9); omega), sb, ← hg3, e3', sb]
    have stay : (n + hp i < s.1 ∨ (n + hp i = s.1 ∧ (k : Int) ≤ s.2.1)) → ∃ g', some ((0 : Int), g) = some (0, g') ∧ FR RXG g g' ∧ (∀ b, b < k → g' 92 b = g 92 b ∧ g' 93 b = g 93 b) ∧ (∀ p, p < i → g' 95 (o p) = g 95 (o p)) ∧ XGB g' c (gS bf bt bw bb hb hh o k (r + 1) i n wh bz as s) := fun q => ⟨g, rfl, Fr.rf, fun _ _ => ⟨rfl, rfl⟩, fun _ _ => rfl, by rw [gS_prune K O H (r + 1) i n wh bz as s h G q]; exact B⟩
    rw [top]
    by_cases y : n + hp i < s.1
    · rw [if_pos y]
      exact stay (Or.inl y)
    · rw [if_neg y]
      by_cases x : n + hp i = s.1
      · rw [if_pos x]
        by_cases w : s.2.1 < k
        · rw [if_pos w]
          exact went
        · rw [if_neg w]
          exact stay (Or.inr ⟨x, by (try clear n0); (try clear n1); (try clear n2); (try clear n3); (try clear n5); (try clear n6); (try clear n7); (try clear n4); (try clear n8); (try clear m0); (try clear m1); (try clear m2); (try clear n9); omega⟩)
      · rw [if_neg x]
        exact went
end
section
/-! plain programs: the bookings, their order, what can be hoped for, the best way on both sides -/
def ins (o : Nat → Nat) (k i : Nat) : Nat → Nat := fun p => if p < k then o p else if p = k then i else o (p - 1)
theorem ins_ord {bw : Nat → Int} {o : Nat → Nat} {k i : Nat} (O : Ord i bw o) (hk : k ≤ i) (lo : ∀ p, p < k → bw (o p) ≤ bw i) (hi : ∀ p, k ≤ p → p < i → bw i < bw (o p)) : Ord (i + 1) bw (ins o k i) := by
  have at0 : ∀ p, p < k → ins o k i p = o p := fun p h => by unfold ins; rw [if_pos h]
  have at1 : ins o k i k = i := by unfold ins; rw [if_neg (by omega), if_pos rfl]
  have at2 : ∀ p, k < p → ins o k i p = o (p - 1) := fun p h => by unfold ins; rw [if_neg (by omega), if_neg (by omega)]
  refine ⟨fun p hp => ?_, fun p q hpq hq => ?_, fun j hj => ?_⟩
  · rcases Nat.lt_trichotomy p k with z | z | z
    · rw [at0 p z]; have := O.1 p (by omega); omega
    · rw [z, at1]; omega
    · rw [at2 p z]; have := O.1 (p - 1) (by omega); omega
  · rcases Nat.lt_trichotomy p k with z | z | z
    · rw [at0 p z]
      rcases Nat.lt_trichotomy q k with y | y | y
      · rw [at0 q y]; exact O.2.1 p q hpq (by omega)
      · rw [y, at1]
        have := lo p z
        have := O.1 p (by omega)
        omega
      · rw [at2 q y]; exact O.2.1 p (q - 1) (by omega) (by omega)
    · rw [z, at1, at2 q (by omega)]
      exact Or.inl (hi (q - 1) (by omega) (by omega))
    · rw [at2 p z, at2 q (by omega)]
      exact O.2.1 (p - 1) (q - 1) (by omega) (by omega)
  · by_cases e : j = i
    · exact ⟨k, by omega, by rw [at1, e]⟩
    · obtain ⟨p, hp, e2⟩ := O.2.2 j (by omega)
      by_cases z : p < k
      · exact ⟨p, by omega, by rw [at0 p z, e2]⟩
      · exact ⟨p + 1, by omega, by rw [at2 (p + 1) (by omega), Nat.add_sub_cancel, e2]⟩
theorem Ord.zero (bw : Nat → Int) (o : Nat → Nat) : Ord 0 bw o := ⟨fun p h => absurd h (by omega), fun p q _ h => absurd h (by omega), fun j h => absurd h (by omega)⟩
theorem M_sort2_s {c i : Nat} {bw : Nat → Int} (hc : c ≤ 8) (hi : i < c) (hw : ∀ j, j < c → 0 ≤ bw j ∧ bw j ≤ 9) {o : Nat → Nat} (O : Ord i bw o) : ∀ (k : Nat) (g : AG), k ≤ i → (∀ j, j < c → g 164 j = bw j) → (∀ p, p < k → g 166 p = (o p : Nat)) → (∀ p, k ≤ p → p < i → g 166 (p + 1) = (o p : Nat) ∧ bw i < bw (o p)) → ∃ k' g', k' ≤ i ∧ M_sorts_b 2 i k g = M_sorts_b 3 i k' g' ∧ FR [(166, 0)] g g' ∧ (∀ p, p < k' → g' 166 p = (o p : Nat)) ∧ (∀ p, k' ≤ p → p < i → g' 166 (p + 1) = (o p : Nat) ∧ bw i < bw (o p)) ∧ ∀ p, p < k' → bw (o p) ≤ bw i := by
  intro k
  induction k with
  | zero =>
    intro g hk h1 h2 h3
    refine ⟨0, g, by (try clear n0); (try clear n1); (try clear n2); (try clear n3); (try clear n4); (try clear n5); (try clear n6); (try clear n7); (try clear n8); (try clear n9); omega, ?_, Fr.rf, h2, h3, fun p hp => by (try clear n0); (try clear n1); (try clear n2); (try clear n3); (try clear n4); (try clear n5); (try clear n6); (try clear n7); (try clear n8); (try clear n9); omega⟩
    have n0 : nw ((0 : Nat) : Int) = 0 := nw_0
    rw [M_sorts_b.eq_1 2, n0, if_neg (by decide), if_pos rfl, if_pos (Int.le_refl _)]
  | succ k ih =>
    intro g hk h1 h2 h3
    have ok := O.1 k (by (try clear n0); (try clear n1); (try clear n2); (try clear n3); (try clear n4); (try clear n5); (try clear n6); (try clear n7); (try clear n8); (try clear n9); omega)
    have w1 := hw (o k) (by (try clear n0); (try clear n1); (try clear n2); (try clear n3); (try clear n4); (try clear n5); (try clear n6); (try clear n7); (try clear n8); (try clear n9); omega)
    have w2 := hw i hi
    have n0 : nw ((k + 1 : Nat) : Int) = (k + 1 : Nat) := nwN _ (by (try clear n0); (try clear n1); (try clear n2); (try clear n3); (try clear n4); (try clear n5); (try clear n6); (try clear n7); (try clear n8); (try clear n9); omega)
    have n1 : ix ((k + 1 : Nat) : Int) = k + 1 := ixN _ (by (try clear n0); (try clear n1); (try clear n2); (try clear n3); (try clear n4); (try clear n5); (try clear n6); (try clear n7); (try clear n8); (try clear n9); omega)
    have n2 : nw (((k + 1 : Nat) : Int) - 1) = k := by rw [show ((k + 1 : Nat) : Int) - 1 = (k : Nat) by (try clear n0); (try clear n1); (try clear n2); (try clear n3); (try clear n4); (try clear n5); (try clear n6); (try clear n7); (try clear n8); (try clear n9); omega]; exact nwN _ (by (try clear n0); (try clear n1); (try clear n2); (try clear n3); (try clear n4); (try clear n5); (try clear n6); (try clear n7); (try clear n8); (try clear n9); omega)
    have n3 : ix (((k + 1 : Nat) : Int) - 1) = k := by rw [show ((k + 1 : Nat) : Int) - 1 = (k : Nat) by (try clear n0); (try clear n1); (try clear n2); (try clear n3); (try clear n4); (try clear n5); (try clear n6); (try clear n7); (try clear n8); (try clear n9); omega]; exact ixN _ (by (try clear n0); (try clear n1); (try clear n2); (try clear n3); (try clear n4); (try clear n5); (try clear n6); (try clear n7); (try clear n8); (try clear n9); omega)
    have n4 : nw ((o k : Nat) : Int) = (o k : Nat) := nwN _ (by (try clear n0); (try clear n1); (try clear n2); (try clear n3); (try clear n4); (try clear n5); (try clear n6); (try clear n7); (try clear n8); (try clear n9); omega)
    have n5 : ix ((o k : Nat) : Int) = o k := ixN _ (by (try clear n0); (try clear n1); (try clear n2); (try clear n3); (try clear n4); (try clear n5); (try clear n6); (try clear n7); (try clear n8); (try clear n9); omega)
    have n6 : nw (i : Int) = i := nwN _ (by (try clear n0); (try clear n1); (try clear n2); (try clear n3); (try clear n4); (try clear n5); (try clear n6); (try clear n7); (try clear n8); (try clear n9); omega)
    have n7 : ix (i : Int) = i := ixN _ (by (try clear n0); (try clear n1); (try clear n2); (try clear n3); (try clear n4); (try clear n5); (try clear n6); (try clear n7); (try clear n8); (try clear n9); omega)
    have n8 : nw (bw (o k)) = bw (o k) := nw_id (by (try clear n0); (try clear n1); (try clear n2); (try clear n3); (try clear n4); (try clear n5); (try clear n6); (try clear n7); (try clear n8); (try clear n9); omega) (by (try clear n0); (try clear n1); (try clear n2); (try clear n3); (try clear n4); (try clear n5); (try clear n6); (try clear n7); (try clear n8); (try clear n9); omega)
    have n9 : nw (bw i) = bw i := nw_id (by (try clear n0); (try clear n1); (try clear n2); (try clear n3); (try clear n4); (try clear n5); (try clear n6); (try clear n7); (try clear n8); (try clear n9); omega) (by (try clear n0); (try clear n1); (try clear n2); (try clear n3); (try clear n4); (try clear n5); (try clear n6); (try clear n7); (try clear n8); (try clear n9); omega)
    have top : M_sorts_b 2 i (k + 1 : Nat) g = (if bw (o k) ≤ bw i then M_sorts_b 3 i (k + 1 : Nat) g else M_sorts_b 2 i (k : Nat) (up g 166 (k + 1) (o k : Nat))) := by
      rw [M_sorts_b.eq_1 2, n0, n1, n2, n3, h2 k (by (try clear n0); (try clear n1); (try clear n2); (try clear n3); (try clear n4); (try clear n5); (try clear n6); (try clear n7); (try clear n8); (try clear n9); omega), n4, n5, n6, n7, h1 (o k) (by (try clear n0); (try clear n1); (try clear n2); (try clear n3); (try clear n4); (try clear n5); (try clear n6); (try clear n7); (try clear n8); (try clear n9); omega), h1 i hi, n8, n9, if_neg (by decide), if_pos rfl, if_neg (by (try clear n0); (try clear n1); (try clear n2); (try clear n3); (try clear n4); (try clear n5); (try clear n6); (try clear n7); (try clear n8); (try clear n9); omega), if_pos (by (try clear n0); (try clear n1); (try clear n2); (try clear n3); (try clear n4); (try clear n5); (try clear n6); (try clear n7); (try clear n8); (try clear n9); omega), if_pos (by (try clear n0); (try clear n1); (try clear n2); (try clear n3); (try clear n4); (try clear n5); (try clear n6); (try clear n7); (try clear n8); (try clear n9); omega), if_pos (by (try clear n0); (try clear n1); (try clear n2); (try clear n3); (try clear n4); (try clear n5); (try clear n6); (try clear n7); (try clear n8); (try clear n9); omega)]
      by_cases z : bw (o k) ≤ bw i
      · rw [if_pos z, if_pos z]
      · rw [if_neg z, if_neg z, if_pos (by (try clear n0); (try clear n1); (try clear n2); (try clear n3); (try clear n4); (try clear n5); (try clear n6); (try clear n7); (try clear n8); (try clear n9); omega), sb, show ((k + 1 : Nat) : Int) + -1 = (k : Nat) by (try clear n0); (try clear n1); (try clear n2); (try clear n3); (try clear n4); (try clear n5); (try clear n6); (try clear n7); (try clear n8); (try clear n9); omega]
    rw [top]
    by_cases z : bw (o k) ≤ bw i
    · rw [if_pos z]
      refine ⟨k + 1, g, hk, rfl, Fr.rf, h2, h3, fun p hp => ?_⟩
      have := O.le (show p ≤ k by (try clear n0); (try clear n1); (try clear n2); (try clear n3); (try clear n4); (try clear n5); (try clear n6); (try clear n7); (try clear n8); (try clear n9); omega) (show k < i by (try clear n0); (try clear n1); (try clear n2); (try clear n3); (try clear n4); (try clear n5); (try clear n6); (try clear n7); (try clear n8); (try clear n9); omega)
      (try clear n0); (try clear n1); (try clear n2); (try clear n3); (try clear n4); (try clear n5); (try clear n6); (try clear n7); (try clear n8); (try clear n9); omega
    · rw [if_neg z]
      obtain ⟨k', g', a1, a2, a3, a4, a5, a6⟩ := ih (up g 166 (k + 1) (o k : Nat)) (by (try clear n0); (try clear n1); (try clear n2); (try clear n3); (try clear n4); (try clear n5); (try clear n6); (try clear n7); (try clear n8); (try clear n9); omega) (fun j hj => by rw [up_at, if_neg (fun q => absurd q.1 (by decide))]; exact h1 j hj) (fun p hp => by rw [up_at, if_neg (fun q => absurd q.2 (by (try clear n0); (try clear n1); (try clear n2); (try clear n3); (try clear n4); (try clear n5); (try clear n6); (try clear n7); (try clear n8); (try clear n9); omega))]; exact h2 p (by (try clear n0); (try clear n1); (try clear n2); (try clear n3); (try clear n4); (try clear n5); (try clear n6); (try clear n7); (try clear n8); (try clear n9); omega)) (fun p q1 q2 => by
        rw [up_at]
        by_cases y : p = k
        · rw [if_pos ⟨rfl, by (try clear n0); (try clear n1); (try clear n2); (try clear n3); (try clear n4); (try clear n5); (try clear n6); (try clear n7); (try clear n8); (try clear n9); omega⟩, y]; exact ⟨rfl, by (try clear n0); (try clear n1); (try clear n2); (try clear n3); (try clear n4); (try clear n5); (try clear n6); (try clear n7); (try clear n8); (try clear n9); omega⟩
        · rw [if_neg (fun q => absurd q.2 (by (try clear n0); (try clear n1); (try clear n2); (try clear n3); (try clear n4); (try clear n5); (try clear n6); (try clear n7); (try clear n8); (try clear n9); omega))]; exact h3 p (by (try clear n0); (try clear n1); (try clear n2); (try clear n3); (try clear n4); (try clear n5); (try clear n6); (try clear n7); (try clear n8); (try clear n9); omega) q2)
      exact ⟨k', g', a1, a2, (Fr.up Fr.rf rfl).tr a3, a4, a5, a6⟩
theorem M_sorts_t {c : Nat} {bw : Nat → Int} (hc : c ≤ 8) (hw : ∀ j, j < c → 0 ≤ bw j ∧ bw j ≤ 9) : ∀ (n i : Nat) (x : Int) (o : Nat → Nat) (g : AG), i + n = c → g 117 65 = c → (∀ j, j < c → g 164 j = bw j) → Ord i bw o → (∀ p, p < i → g 166 p = (o p : Nat)) → ∃ g' o', M_sorts_b 1 i x g = some (0, g') ∧ FR [(166, 0)] g g' ∧ Ord c bw o' ∧ ∀ p, p < c → g' 166 p = (o' p : Nat) := by
  intro n
  induction n with
  | zero =>
    intro i x o g h h1 h2 O h3
    have ei : i = c := by (try clear n0); (try clear n1); (try clear n2); (try clear n3); omega
    subst ei
    refine ⟨g, o, ?_, Fr.rf, O, h3⟩
    rw [M_sorts_b.eq_1 1, if_pos rfl, if_pos (by rw [h1]; exact Int.le_refl _)]
  | succ n ih =>
    intro i x o g h h1 h2 O h3
    obtain ⟨k, g1, a1, a2, a3, a4, a5, a6⟩ := M_sort2_s hc (show i < c by (try clear n0); (try clear n1); (try clear n2); (try clear n3); omega) hw O i g (Nat.le_refl i) h2 h3 (fun p q1 q2 => by (try clear n0); (try clear n1); (try clear n2); (try clear n3); omega)
    obtain ⟨g2, hg2⟩ : ∃ g2 : AG, g2 = up g1 166 k i := ⟨_, rfl⟩
    have f2 : FR [(166, 0)] g g2 := by rw [hg2]; exact Fr.up a3 rfl
    obtain ⟨g', o', e', f', O', r'⟩ := ih (i + 1) k (ins o k i) g2 (by (try clear n0); (try clear n1); (try clear n2); (try clear n3); omega) (by rw [f2 117 65 rfl]; exact h1) (fun j hj => by rw [f2 164 j rfl]; exact h2 j hj) (ins_ord O a1 a6 (fun p q1 q2 => (a5 p q1 q2).2)) (fun p hp => by
      rw [hg2, up_at]
      unfold ins
      rcases Nat.lt_trichotomy p k with z | z | z
      · rw [if_neg (fun q => absurd q.2 (by (try clear n0); (try clear n1); (try clear n2); (try clear n3); omega)), if_pos z]; exact a4 p z
      · rw [if_pos ⟨rfl, z⟩, if_neg (by (try clear n0); (try clear n1); (try clear n2); (try clear n3); omega), if_pos z]
      · rw [if_neg (fun q => absurd q.2 (by (try clear n0); (try clear n1); (try clear n2); (try clear n3); omega)), if_neg (by (try clear n0); (try clear n1); (try clear n2); (try clear n3); omega), if_neg (by (try clear n0); (try clear n1); (try clear n2); (try clear n3); omega)]
        have := (a5 (p - 1) (by (try clear n0); (try clear n1); (try clear n2); (try clear n3); omega) (by (try clear n0); (try clear n1); (try clear n2); (try clear n3); omega)).1
        rw [show p - 1 + 1 = p by (try clear n0); (try clear n1); (try clear n2); (try clear n3); omega] at this
        exact this)
    refine ⟨g', o', ?_, f2.tr f', O', r'⟩
    have n0 : nw (g 117 65) = c := by rw [h1, nwN _ (by (try clear n0); (try clear n1); (try clear n2); (try clear n3); omega)]
    have n1 : nw (i : Int) = i := nwN _ (by (try clear n0); (try clear n1); (try clear n2); (try clear n3); omega)
    have n2 : nw (k : Int) = k := nwN _ (by (try clear n0); (try clear n1); (try clear n2); (try clear n3); omega)
    have n3 : ix (k : Int) = k := ixN _ (by (try clear n0); (try clear n1); (try clear n2); (try clear n3); omega)
    rw [M_sorts_b.eq_1 1, n0, n1, if_pos rfl, if_neg (by (try clear n0); (try clear n1); (try clear n2); (try clear n3); omega), a2, M_sorts_b.eq_1 3, n2, n3, if_neg (by decide), if_neg (by decide), if_pos rfl, if_pos (by (try clear n0); (try clear n1); (try clear n2); (try clear n3); omega), sb, ← hg2]
    exact e'
/-- the class's order -/
def PO (c : Nat) (bw : Nat → Int) (n : Nat) (w : Int) (i : Nat) (o : Nat → Nat) : Prop := (∀ p, p < n → o p < c ∧ (bw (o p) < w ∨ (bw (o p) = w ∧ o p < i))) ∧ (∀ p q, p < q → q < n → bw (o p) < bw (o q) ∨ (bw (o p) = bw (o q) ∧ o p < o q)) ∧ (∀ j, j < c → (bw j < w ∨ (bw j = w ∧ j < i)) → ∃ p, p < n ∧ o p = j) ∧ (n : Int) = sm (fun j => if bw j < w then 1 else 0) c + sm (fun j => if bw j = w then 1 else 0) i
theorem X_ord2_s {c : Nat} {bw : Nat → Int} (hc : c ≤ 8) (hw : ∀ j, j < c → 0 ≤ bw j ∧ bw j ≤ 9) {w : Int} (hw0 : 0 ≤ w ∧ w ≤ 9) : ∀ (r i n : Nat) (o : Nat → Nat) (g : AG), i + r = c → g 9 4 = c → (∀ j, j < c → g 87 j = bw j) → PO c bw n w i o → (∀ p, p < n → g 89 p = (o p : Nat)) → ∃ (g' : AG) (o' : Nat → Nat) (n' : Nat), Bookings_putInOrder_b 2 n w i g = Bookings_putInOrder_b 2 n' w c g' ∧ FR [(89, 0)] g g' ∧ PO c bw n' w c o' ∧ ∀ p, p < n' → g' 89 p = (o' p : Nat) := by
  intro r
  induction r with
  | zero =>
    intro i n o g h h1 h2 P h3
    have ei : i = c := by (try clear n0); (try clear n1); (try clear n2); (try clear n3); (try clear n4); (try clear n5); (try clear n6); omega
    subst ei
    exact ⟨g, o, n, rfl, Fr.rf, P, h3⟩
  | succ r ih =>
    intro i n o g h h1 h2 P h3
    obtain ⟨P1, P2, P3, P4⟩ := P
    have hi : i < c := by (try clear n0); (try clear n1); (try clear n2); (try clear n3); (try clear n4); (try clear n5); (try clear n6); omega
    have wi := hw i hi
    have n0 : nw (g 9 4) = c := by rw [h1, nwN _ (by (try clear n0); (try clear n1); (try clear n2); (try clear n3); (try clear n4); (try clear n5); (try clear n6); omega)]
    have n1 : nw (i : Int) = i := nwN _ (by (try clear n0); (try clear n1); (try clear n2); (try clear n3); (try clear n4); (try clear n5); (try clear n6); omega)
    have n2 : ix (i : Int) = i := ixN _ (by (try clear n0); (try clear n1); (try clear n2); (try clear n3); (try clear n4); (try clear n5); (try clear n6); omega)
    have n3 : nw (bw i) = bw i := nw_id (by (try clear n0); (try clear n1); (try clear n2); (try clear n3); (try clear n4); (try clear n5); (try clear n6); omega) (by (try clear n0); (try clear n1); (try clear n2); (try clear n3); (try clear n4); (try clear n5); (try clear n6); omega)
    have n4 : nw w = w := nw_id (by (try clear n0); (try clear n1); (try clear n2); (try clear n3); (try clear n4); (try clear n5); (try clear n6); omega) (by (try clear n0); (try clear n1); (try clear n2); (try clear n3); (try clear n4); (try clear n5); (try clear n6); omega)
    by_cases z : bw i = w
    · have c1 : sm (fun j => if bw j = w then (1 : Int) else 0) (i + 1) ≤ sm (fun j => if bw j = w then (1 : Int) else 0) c := sm_pre c (by (try clear n0); (try clear n1); (try clear n2); (try clear n3); (try clear n4); (try clear n5); (try clear n6); omega) (fun j _ => by split <;> omega)
      have c2 : sm (fun j => if bw j = w then (1 : Int) else 0) (i + 1) = sm (fun j => if bw j = w then (1 : Int) else 0) i + 1 := by
        show sm _ i + (if bw i = w then (1 : Int) else 0) = _
        rw [if_pos z]
      have c3 : sm (fun j => (if bw j < w then (1 : Int) else 0) + (if bw j = w then (1 : Int) else 0)) c ≤ (c : Int) * 1 := sm_ub c (fun j _ => by split <;> split <;> omega)
      rw [sm_add2] at c3
      have hn : n < 8 := by (try clear n0); (try clear n1); (try clear n2); (try clear n3); (try clear n4); (try clear n5); (try clear n6); omega
      have n5 : nw (n : Int) = n := nwN _ (by (try clear n0); (try clear n1); (try clear n2); (try clear n3); (try clear n4); (try clear n5); (try clear n6); omega)
      have n6 : ix (n : Int) = n := ixN _ (by (try clear n0); (try clear n1); (try clear n2); (try clear n3); (try clear n4); (try clear n5); (try clear n6); omega)
      obtain ⟨g', o', n', e', f', r'⟩ := ih (i + 1) (n + 1) (ud o n i) (up g 89 n i) (by (try clear n0); (try clear n1); (try clear n2); (try clear n3); (try clear n4); (try clear n5); (try clear n6); omega) (by rw [up_at, if_neg (fun q => absurd q.1 (by decide))]; exact h1) (fun j hj => by rw [up_at, if_neg (fun q => absurd q.1 (by decide))]; exact h2 j hj) (by
        refine ⟨fun p hp => ?_, fun p q hpq hq => ?_, fun j hj hh => ?_, ?_⟩
        · by_cases y : p = n
          · rw [y, ud_at]; exact ⟨hi, Or.inr ⟨z, by (try clear n0); (try clear n1); (try clear n2); (try clear n3); (try clear n4); (try clear n5); (try clear n6); omega⟩⟩
          · rw [ud_lt (by (try clear n0); (try clear n1); (try clear n2); (try clear n3); (try clear n4); (try clear n5); (try clear n6); omega)]
            have := P1 p (by (try clear n0); (try clear n1); (try clear n2); (try clear n3); (try clear n4); (try clear n5); (try clear n6); omega)
            exact ⟨this.1, by (try clear n0); (try clear n1); (try clear n2); (try clear n3); (try clear n4); (try clear n5); (try clear n6); omega⟩
        · by_cases y : q = n
          · rw [y, ud_at, ud_lt (by (try clear n0); (try clear n1); (try clear n2); (try clear n3); (try clear n4); (try clear n5); (try clear n6); omega)]
            have := P1 p (by (try clear n0); (try clear n1); (try clear n2); (try clear n3); (try clear n4); (try clear n5); (try clear n6); omega)
            (try clear n0); (try clear n1); (try clear n2); (try clear n3); (try clear n4); (try clear n5); (try clear n6); omega
          · rw [ud_lt (show q < n by (try clear n0); (try clear n1); (try clear n2); (try clear n3); (try clear n4); (try clear n5); (try clear n6); omega), ud_lt (by (try clear n0); (try clear n1); (try clear n2); (try clear n3); (try clear n4); (try clear n5); (try clear n6); omega)]
            exact P2 p q hpq (by (try clear n0); (try clear n1); (try clear n2); (try clear n3); (try clear n4); (try clear n5); (try clear n6); omega)
        · by_cases y : j = i
          · exact ⟨n, by (try clear n0); (try clear n1); (try clear n2); (try clear n3); (try clear n4); (try clear n5); (try clear n6); omega, by rw [ud_at, y]⟩
          · obtain ⟨p, hp, e⟩ := P3 j hj (by (try clear n0); (try clear n1); (try clear n2); (try clear n3); (try clear n4); (try clear n5); (try clear n6); omega)
            exact ⟨p, by (try clear n0); (try clear n1); (try clear n2); (try clear n3); (try clear n4); (try clear n5); (try clear n6); omega, by rw [ud_lt hp]; exact e⟩
        · rw [c2]; (try clear n0); (try clear n1); (try clear n2); (try clear n3); (try clear n4); (try clear n5); (try clear n6); omega) (fun p hp => by
        rw [up_at]
        by_cases y : p = n
        · rw [if_pos ⟨rfl, y⟩, y, ud_at]
        · rw [if_neg (fun q => y q.2), ud_lt (by (try clear n0); (try clear n1); (try clear n2); (try clear n3); (try clear n4); (try clear n5); (try clear n6); omega)]; exact h3 p (by (try clear n0); (try clear n1); (try clear n2); (try clear n3); (try clear n4); (try clear n5); (try clear n6); omega))
      refine ⟨g', o', n', ?_, (Fr.up Fr.rf rfl).tr f', r'⟩
      rw [Bookings_putInOrder_b.eq_1 2, n0, n1, n2, h2 i hi, n3, n4, n5, n6, if_neg (by decide), if_pos rfl, if_neg (by (try clear n0); (try clear n1); (try clear n2); (try clear n3); (try clear n4); (try clear n5); (try clear n6); omega), if_pos (by (try clear n0); (try clear n1); (try clear n2); (try clear n3); (try clear n4); (try clear n5); (try clear n6); omega), if_pos z, if_pos (by (try clear n0); (try clear n1); (try clear n2); (try clear n3); (try clear n4); (try clear n5); (try clear n6); omega), sb, sb]
      exact e'
    · have c2 : sm (fun j => if bw j = w then (1 : Int) else 0) (i + 1) = sm (fun j => if bw j = w then (1 : Int) else 0) i := by
        show sm _ i + (if bw i = w then (1 : Int) else 0) = _
        rw [if_neg z]; (try clear n0); (try clear n1); (try clear n2); (try clear n3); (try clear n4); (try clear n5); (try clear n6); omega
      obtain ⟨g', o', n', e', f', r'⟩ := ih (i + 1) n o g (by (try clear n0); (try clear n1); (try clear n2); (try clear n3); (try clear n4); (try clear n5); (try clear n6); omega) h1 h2 (by
        refine ⟨fun p hp => ?_, P2, fun j hj hh => ?_, ?_⟩
        · have := P1 p hp
          exact ⟨this.1, by (try clear n0); (try clear n1); (try clear n2); (try clear n3); (try clear n4); (try clear n5); (try clear n6); omega⟩
        · refine P3 j hj ?_
          by_cases y : j = i
          · rw [y] at hh ⊢; omega
          · (try clear n0); (try clear n1); (try clear n2); (try clear n3); (try clear n4); (try clear n5); (try clear n6); omega
        · rw [c2]; exact P4) h3
      refine ⟨g', o', n', ?_, f', r'⟩
      rw [Bookings_putInOrder_b.eq_1 2, n0, n1, n2, h2 i hi, n3, n4, if_neg (by decide), if_pos rfl, if_neg (by (try clear n0); (try clear n1); (try clear n2); (try clear n3); (try clear n4); (try clear n5); (try clear n6); omega), if_pos (by (try clear n0); (try clear n1); (try clear n2); (try clear n3); (try clear n4); (try clear n5); (try clear n6); omega), if_neg z, sb]
      exact e'
theorem X_ord1_s {c : Nat} {bw : Nat → Int} (hc : c ≤ 8) (hw : ∀ j, j < c → 0 ≤ bw j ∧ bw j ≤ 9) : ∀ (r w n : Nat) (x : Int) (o : Nat → Nat) (g : AG), w + r = 10 → g 9 4 = c → (∀ j, j < c → g 87 j = bw j) → PO c bw n w 0 o → (∀ p, p < n → g 89 p = (o p : Nat)) → ∃ g' o', Bookings_putInOrder_b 1 n w x g = some (0, g') ∧ FR [(89, 0)] g g' ∧ Ord c bw o' ∧ ∀ p, p < c → g' 89 p = (o' p : Nat) := by
  intro r
  induction r with
  | zero =>
    intro w n x o g h h1 h2 P h3
    obtain ⟨P1, P2, P3, P4⟩ := P
    have ew : w = 10 := by (try clear n0); (try clear n2); (try clear n3); (try clear n4); omega
    subst ew
    have en : n = c := by
      have a : sm (fun j => if bw j < ((10 : Nat) : Int) then (1 : Int) else 0) c = sm (fun _ => 1) c := sm_cg c (fun j hj => by have := hw j hj; rw [if_pos (by (try clear n0); (try clear n2); (try clear n3); (try clear n4); omega)])
      have b : ∀ m : Nat, sm (fun _ => (1 : Int)) m = m := by
        intro m
        induction m with
        | zero => rfl
        | succ m ih => show sm _ m + 1 = _; rw [ih]; rfl
      have d : sm (fun j => if bw j = ((10 : Nat) : Int) then (1 : Int) else 0) 0 = 0 := rfl
      rw [a, b, d] at P4
      (try clear n0); (try clear n2); (try clear n3); (try clear n4); omega
    subst en
    have n0 : nw ((10 : Nat) : Int) = 10 := nwN 10 (by (try clear n0); (try clear n2); (try clear n3); (try clear n4); omega)
    refine ⟨g, o, ?_, Fr.rf, ⟨fun p hp => (P1 p hp).1, P2, fun j hj => P3 j hj (by have := hw j hj; omega)⟩, h3⟩
    rw [Bookings_putInOrder_b.eq_1 1, n0, if_pos rfl, if_pos (Int.le_refl _)]
  | succ r ih =>
    intro w n x o g h h1 h2 P h3
    obtain ⟨g1, o1, n1, e1, f1, Q, r1⟩ := X_ord2_s hc hw (w := w) (by (try clear n0); (try clear n2); (try clear n3); (try clear n4); omega) c 0 n o g (by (try clear n0); (try clear n2); (try clear n3); (try clear n4); omega) h1 h2 P h3
    obtain ⟨Q1, Q2, Q3, Q4⟩ := Q
    obtain ⟨g', o', e', f', r'⟩ := ih (w + 1) n1 c o1 g1 (by (try clear n0); (try clear n2); (try clear n3); (try clear n4); omega) (by rw [f1 9 4 rfl]; exact h1) (fun j hj => by rw [f1 87 j rfl]; exact h2 j hj) (by
      refine ⟨fun p hp => ?_, Q2, fun j hj hh => Q3 j hj (by (try clear n0); (try clear n2); (try clear n3); (try clear n4); omega), ?_⟩
      · have := Q1 p hp
        exact ⟨this.1, by (try clear n0); (try clear n2); (try clear n3); (try clear n4); omega⟩
      · rw [Q4, ← sm_add2]
        show _ = _ + (0 : Int)
        rw [Int.add_zero]
        refine sm_cg c (fun j hj => ?_)
        by_cases a : bw j < (w : Int)
        · rw [if_pos a, if_neg (by (try clear n0); (try clear n2); (try clear n3); (try clear n4); omega), if_pos (by (try clear n0); (try clear n2); (try clear n3); (try clear n4); omega)]; rfl
        · by_cases b : bw j = (w : Int)
          · rw [if_neg a, if_pos b, if_pos (by (try clear n0); (try clear n2); (try clear n3); (try clear n4); omega)]; rfl
          · rw [if_neg a, if_neg b, if_neg (by (try clear n0); (try clear n2); (try clear n3); (try clear n4); omega)]; rfl) r1
    refine ⟨g', o', ?_, f1.tr f', r'⟩
    have n2 : nw (w : Int) = w := nwN _ (by (try clear n0); (try clear n2); (try clear n3); (try clear n4); omega)
    have n3 : nw (g1 9 4) = c := by rw [f1 9 4 rfl, h1, nwN _ (by (try clear n0); (try clear n2); (try clear n3); (try clear n4); omega)]
    have n4 : nw (c : Int) = c := nwN _ (by (try clear n0); (try clear n2); (try clear n3); (try clear n4); omega)
    have e1' : Bookings_putInOrder_b 2 n w 0 g = Bookings_putInOrder_b 2 n1 w c g1 := e1
    rw [Bookings_putInOrder_b.eq_1 1, n2, if_pos rfl, if_neg (by (try clear n0); (try clear n2); (try clear n3); (try clear n4); omega), e1', Bookings_putInOrder_b.eq_1 2, n3, n4, if_neg (by decide), if_pos rfl, if_pos (Int.le_refl _)]
    exact e'
theorem orI01 : orI 0 0 = 0 ∧ orI 0 1 = 1 ∧ orI 1 0 = 1 ∧ orI 1 1 = 1 := by decide +kernel
def XBk (g : AG) (c : Nat) (bf bt bw bb : Nat → Int) : Prop := g 9 4 = c ∧ ∀ j, j < c → g 85 j = bf j ∧ g 86 j = bt j ∧ g 87 j = bw j ∧ g 88 j = bb j
theorem X_bcan_s {c : Nat} {bf bt bw bb : Nat → Int} (K : BkOk c bf bt bw bb) {g : AG} (D : XBk g c bf bt bw bb) {j : Nat} (hj : j < c) : ∀ (n i : Nat), i + n = c → ∃ v', Bookings_canCome_b j g 1 i = some v' ∧ (v' = 0 ∨ v' = 1) ∧ ((∃ x, i ≤ x ∧ x < c ∧ bw x < bw j ∧ bt x = bf j) → v' = 1) := by
  intro n
  induction n with
  | zero =>
    intro i h
    have hc := K.1
    have ei : i = c := by (try clear n0); (try clear n1); (try clear n2); (try clear n3); (try clear n4); (try clear n5); (try clear n6); (try clear n7); (try clear n8); omega
    subst ei
    refine ⟨0, ?_, Or.inl rfl, fun ⟨x, x1, x2, _⟩ => by (try clear n0); (try clear n1); (try clear n2); (try clear n3); (try clear n4); (try clear n5); (try clear n6); (try clear n7); (try clear n8); omega⟩
    have n0 : nw (g 9 4) = i := by rw [D.1, nwN _ (by (try clear n0); (try clear n1); (try clear n2); (try clear n3); (try clear n4); (try clear n5); (try clear n6); (try clear n7); (try clear n8); omega)]
    have n1 : nw (i : Int) = i := nwN _ (by (try clear n0); (try clear n1); (try clear n2); (try clear n3); (try clear n4); (try clear n5); (try clear n6); (try clear n7); (try clear n8); omega)
    rw [Bookings_canCome_b.eq_1 _ _ 1, n0, n1, if_pos rfl, if_pos (Int.le_refl _)]
  | succ n ih =>
    intro i h
    have hc := K.1
    have hi : i < c := by (try clear n0); (try clear n1); (try clear n2); (try clear n3); (try clear n4); (try clear n5); (try clear n6); (try clear n7); (try clear n8); omega
    have ri := K.2 i hi
    have rj := K.2 j hj
    have di := D.2 i hi
    have dj := D.2 j hj
    have n0 : nw (g 9 4) = c := by rw [D.1, nwN _ (by (try clear n0); (try clear n1); (try clear n2); (try clear n3); (try clear n4); (try clear n5); (try clear n6); (try clear n7); (try clear n8); omega)]
    have n1 : nw (i : Int) = i := nwN _ (by (try clear n0); (try clear n1); (try clear n2); (try clear n3); (try clear n4); (try clear n5); (try clear n6); (try clear n7); (try clear n8); omega)
    have n2 : ix (i : Int) = i := ixN _ (by (try clear n0); (try clear n1); (try clear n2); (try clear n3); (try clear n4); (try clear n5); (try clear n6); (try clear n7); (try clear n8); omega)
    have n3 : nw (j : Int) = j := nwN _ (by (try clear n0); (try clear n1); (try clear n2); (try clear n3); (try clear n4); (try clear n5); (try clear n6); (try clear n7); (try clear n8); omega)
    have n4 : ix (j : Int) = j := ixN _ (by (try clear n0); (try clear n1); (try clear n2); (try clear n3); (try clear n4); (try clear n5); (try clear n6); (try clear n7); (try clear n8); omega)
    have n5 : nw (bw i) = bw i := nw_id (by (try clear n0); (try clear n1); (try clear n2); (try clear n3); (try clear n4); (try clear n5); (try clear n6); (try clear n7); (try clear n8); omega) (by (try clear n0); (try clear n1); (try clear n2); (try clear n3); (try clear n4); (try clear n5); (try clear n6); (try clear n7); (try clear n8); omega)
    have n6 : nw (bw j) = bw j := nw_id (by (try clear n0); (try clear n1); (try clear n2); (try clear n3); (try clear n4); (try clear n5); (try clear n6); (try clear n7); (try clear n8); omega) (by (try clear n0); (try clear n1); (try clear n2); (try clear n3); (try clear n4); (try clear n5); (try clear n6); (try clear n7); (try clear n8); omega)
    have n7 : nw (bt i) = bt i := nw_id (by (try clear n0); (try clear n1); (try clear n2); (try clear n3); (try clear n4); (try clear n5); (try clear n6); (try clear n7); (try clear n8); omega) (by (try clear n0); (try clear n1); (try clear n2); (try clear n3); (try clear n4); (try clear n5); (try clear n6); (try clear n7); (try clear n8); omega)
    have n8 : nw (bf j) = bf j := nw_id (by (try clear n0); (try clear n1); (try clear n2); (try clear n3); (try clear n4); (try clear n5); (try clear n6); (try clear n7); (try clear n8); omega) (by (try clear n0); (try clear n1); (try clear n2); (try clear n3); (try clear n4); (try clear n5); (try clear n6); (try clear n7); (try clear n8); omega)
    obtain ⟨v', e', r1, r2⟩ := ih (i + 1) (by (try clear n0); (try clear n1); (try clear n2); (try clear n3); (try clear n4); (try clear n5); (try clear n6); (try clear n7); (try clear n8); omega)
    have nx : Bookings_canCome_b j g 2 i = some v' := by
      rw [Bookings_canCome_b.eq_1 _ _ 2, if_neg (by decide), if_pos rfl]
      exact e'
    have top : Bookings_canCome_b j g 1 i = (if bw j ≤ bw i then some v' else (if bt i = bf j then some 1 else some v')) := by
      rw [Bookings_canCome_b.eq_1 _ _ 1, n0, n1, n2, n3, n4, di.2.2.1, dj.2.2.1, di.2.1, dj.1, n5, n6, n7, n8, nx, if_pos rfl, if_neg (by (try clear n0); (try clear n1); (try clear n2); (try clear n3); (try clear n4); (try clear n5); (try clear n6); (try clear n7); (try clear n8); omega), if_pos (by (try clear n0); (try clear n1); (try clear n2); (try clear n3); (try clear n4); (try clear n5); (try clear n6); (try clear n7); (try clear n8); omega), if_pos (by (try clear n0); (try clear n1); (try clear n2); (try clear n3); (try clear n4); (try clear n5); (try clear n6); (try clear n7); (try clear n8); omega)]
    rw [top]
    by_cases a : bw j ≤ bw i
    · rw [if_pos a]
      refine ⟨v', rfl, r1, fun ⟨x, x1, x2, x3, x4⟩ => r2 ⟨x, ?_, x2, x3, x4⟩⟩
      by_cases y : x = i
      · rw [y] at x3; omega
      · (try clear n0); (try clear n1); (try clear n2); (try clear n3); (try clear n4); (try clear n5); (try clear n6); (try clear n7); (try clear n8); omega
    · rw [if_neg a]
      by_cases b : bt i = bf j
      · rw [if_pos b]
        exact ⟨1, rfl, Or.inr rfl, fun _ => rfl⟩
      · rw [if_neg b]
        refine ⟨v', rfl, r1, fun ⟨x, x1, x2, x3, x4⟩ => r2 ⟨x, ?_, x2, x3, x4⟩⟩
        by_cases y : x = i
        · rw [y] at x4; exact absurd x4 b
        · (try clear n0); (try clear n1); (try clear n2); (try clear n3); (try clear n4); (try clear n5); (try clear n6); (try clear n7); (try clear n8); omega
theorem X_ever_s {c : Nat} {bf bt bw bb hb hh : Nat → Int} {k : Nat} (K : BkOk c bf bt bw bb) (BT : BtOk k hb hh) {g : AG} (D : XBk g c bf bt bw bb) (ha : g 9 10 = k) (hT : ∀ b, b < k → g 90 b = hb b ∧ g 91 b = hh b) {j : Nat} (hj : j < c) : ∀ (n b : Nat), b + n = k → ∃ v, Bookings_canEverBeGiven_b j g 1 b = some v ∧ (v = 0 ∨ v = 1) ∧ ((∃ x, b ≤ x ∧ x < k ∧ bb j ≤ hb x ∧ (hh x = bf j ∨ ∃ y, y < c ∧ bw y < bw j ∧ bt y = bf j)) → v = 1) := by
  intro n
  induction n with
  | zero =>
    intro b h
    have hk := BT.1
    refine ⟨0, ?_, Or.inl rfl, fun ⟨x, x1, x2, _⟩ => by (try clear n0); (try clear n1); (try clear n2); (try clear n3); (try clear n4); (try clear n5); (try clear n6); (try clear n7); (try clear n8); (try clear top); omega⟩
    have n0 : nw (g 9 10) = k := by rw [ha, nwN _ (by (try clear n0); (try clear n1); (try clear n2); (try clear n3); (try clear n4); (try clear n5); (try clear n6); (try clear n7); (try clear n8); (try clear top); omega)]
    have n1 : nw (b : Int) = b := nwN _ (by (try clear n0); (try clear n1); (try clear n2); (try clear n3); (try clear n4); (try clear n5); (try clear n6); (try clear n7); (try clear n8); (try clear top); omega)
    rw [Bookings_canEverBeGiven_b.eq_1 _ _ 1, n0, n1, if_pos rfl, if_pos (by (try clear n0); (try clear n1); (try clear n2); (try clear n3); (try clear n4); (try clear n5); (try clear n6); (try clear n7); (try clear n8); (try clear top); omega)]
  | succ n ih =>
    intro b h
    have hk := BT.1
    have hc := K.1
    have hbk : b < k := by (try clear n0); (try clear n1); (try clear n2); (try clear n3); (try clear n4); (try clear n5); (try clear n6); (try clear n7); (try clear n8); (try clear top); omega
    have rb := BT.2 b hbk
    have tb' := hT b hbk
    have rj := K.2 j hj
    have dj := D.2 j hj
    obtain ⟨v2, e2, r1, r2⟩ := ih (b + 1) (by (try clear n0); (try clear n1); (try clear n2); (try clear n3); (try clear n4); (try clear n5); (try clear n6); (try clear n7); (try clear n8); (try clear top); omega)
    have n0 : nw (g 9 10) = k := by rw [ha, nwN _ (by (try clear n0); (try clear n1); (try clear n2); (try clear n3); (try clear n4); (try clear n5); (try clear n6); (try clear n7); (try clear n8); (try clear top); omega)]
    have n1 : nw (b : Int) = b := nwN _ (by (try clear n0); (try clear n1); (try clear n2); (try clear n3); (try clear n4); (try clear n5); (try clear n6); (try clear n7); (try clear n8); (try clear top); omega)
    have n2 : ix (b : Int) = b := ixN _ (by (try clear n0); (try clear n1); (try clear n2); (try clear n3); (try clear n4); (try clear n5); (try clear n6); (try clear n7); (try clear n8); (try clear top); omega)
    have n3 : nw (j : Int) = j := nwN _ (by (try clear n0); (try clear n1); (try clear n2); (try clear n3); (try clear n4); (try clear n5); (try clear n6); (try clear n7); (try clear n8); (try clear top); omega)
    have n4 : ix (j : Int) = j := ixN _ (by (try clear n0); (try clear n1); (try clear n2); (try clear n3); (try clear n4); (try clear n5); (try clear n6); (try clear n7); (try clear n8); (try clear top); omega)
    have n5 : nw (hb b) = hb b := nw_id (by (try clear n0); (try clear n1); (try clear n2); (try clear n3); (try clear n4); (try clear n5); (try clear n6); (try clear n7); (try clear n8); (try clear top); omega) (by (try clear n0); (try clear n1); (try clear n2); (try clear n3); (try clear n4); (try clear n5); (try clear n6); (try clear n7); (try clear n8); (try clear top); omega)
    have n6 : nw (bb j) = bb j := nw_id (by (try clear n0); (try clear n1); (try clear n2); (try clear n3); (try clear n4); (try clear n5); (try clear n6); (try clear n7); (try clear n8); (try clear top); omega) (by (try clear n0); (try clear n1); (try clear n2); (try clear n3); (try clear n4); (try clear n5); (try clear n6); (try clear n7); (try clear n8); (try clear top); omega)
    have n7 : nw (hh b) = hh b := nw_id (by (try clear n0); (try clear n1); (try clear n2); (try clear n3); (try clear n4); (try clear n5); (try clear n6); (try clear n7); (try clear n8); (try clear top); omega) (by (try clear n0); (try clear n1); (try clear n2); (try clear n3); (try clear n4); (try clear n5); (try clear n6); (try clear n7); (try clear n8); (try clear top); omega)
    have n8 : nw (bf j) = bf j := nw_id (by (try clear n0); (try clear n1); (try clear n2); (try clear n3); (try clear n4); (try clear n5); (try clear n6); (try clear n7); (try clear n8); (try clear top); omega) (by (try clear n0); (try clear n1); (try clear n2); (try clear n3); (try clear n4); (try clear n5); (try clear n6); (try clear n7); (try clear n8); (try clear top); omega)
    obtain ⟨v0, e0, p1, p2⟩ := X_bcan_s K D hj c 0 (by (try clear n0); (try clear n1); (try clear n2); (try clear n3); (try clear n4); (try clear n5); (try clear n6); (try clear n7); (try clear n8); (try clear top); omega)
    obtain ⟨v1, hv1⟩ : ∃ v1 : Int, v1 = (if hh b = bf j then 1 else v0) := ⟨_, rfl⟩
    have q1 : v1 = 0 ∨ v1 = 1 := by
      rw [hv1]
      by_cases y : hh b = bf j
      · rw [if_pos y]; exact Or.inr rfl
      · rw [if_neg y]; exact p1
    have q2 : (hh b = bf j ∨ ∃ x, 0 ≤ x ∧ x < c ∧ bw x < bw j ∧ bt x = bf j) → v1 = 1 := by
      intro q
      rw [hv1]
      by_cases y : hh b = bf j
      · rw [if_pos y]
      · rw [if_neg y]
        rcases q with q | q
        · exact absurd q y
        · exact p2 q
    have cc : Bookings_canCome b j g = some v1 := by
      unfold Bookings_canCome
      rw [n1, n2, n3, n4, tb'.2, dj.1, n7, n8, if_pos (by (try clear n0); (try clear n1); (try clear n2); (try clear n3); (try clear n4); (try clear n5); (try clear n6); (try clear n7); (try clear n8); (try clear top); omega), if_pos (by (try clear n0); (try clear n1); (try clear n2); (try clear n3); (try clear n4); (try clear n5); (try clear n6); (try clear n7); (try clear n8); (try clear top); omega), hv1]
      by_cases y : hh b = bf j
      · rw [if_pos y, if_pos y]
      · rw [if_neg y, if_neg y]; exact e0
    have nx : Bookings_canEverBeGiven_b j g 2 b = some v2 := by
      rw [Bookings_canEverBeGiven_b.eq_1 _ _ 2, if_neg (by decide), if_pos rfl]
      exact e2
    have top : Bookings_canEverBeGiven_b j g 1 b = (if hb b < bb j then some v2 else if nw v1 = 0 then some v2 else some 1) := by
      rw [Bookings_canEverBeGiven_b.eq_1 _ _ 1, n0, n1, n2, n3, n4, tb'.1, dj.2.2.2, n5, n6, cc, nx, if_pos rfl, if_neg (by (try clear n0); (try clear n1); (try clear n2); (try clear n3); (try clear n4); (try clear n5); (try clear n6); (try clear n7); (try clear n8); (try clear top); omega), if_pos (by (try clear n0); (try clear n1); (try clear n2); (try clear n3); (try clear n4); (try clear n5); (try clear n6); (try clear n7); (try clear n8); (try clear top); omega), if_pos (by (try clear n0); (try clear n1); (try clear n2); (try clear n3); (try clear n4); (try clear n5); (try clear n6); (try clear n7); (try clear n8); (try clear top); omega), sb]
    rw [top]
    by_cases z : hb b < bb j
    · rw [if_pos z]
      refine ⟨v2, rfl, r1, fun ⟨x, x1, x2, x3, x4⟩ => r2 ⟨x, ?_, x2, x3, x4⟩⟩
      by_cases y : x = b
      · rw [y] at x3; omega
      · (try clear n0); (try clear n1); (try clear n2); (try clear n3); (try clear n4); (try clear n5); (try clear n6); (try clear n7); (try clear n8); (try clear top); omega
    · rw [if_neg z]
      rcases q1 with q | q
      · rw [q, nw_0, if_pos rfl]
        refine ⟨v2, rfl, r1, fun ⟨x, x1, x2, x3, x4⟩ => r2 ⟨x, ?_, x2, x3, x4⟩⟩
        by_cases y : x = b
        · exfalso
          rw [y] at x4
          have : v1 = 1 := q2 (by
            rcases x4 with a | ⟨u, u1, u2, u3⟩
            · exact Or.inl a
            · exact Or.inr ⟨u, by (try clear n0); (try clear n1); (try clear n2); (try clear n3); (try clear n4); (try clear n5); (try clear n6); (try clear n7); (try clear n8); (try clear top); omega, u1, u2, u3⟩)
          (try clear n0); (try clear n1); (try clear n2); (try clear n3); (try clear n4); (try clear n5); (try clear n6); (try clear n7); (try clear n8); (try clear top); omega
        · (try clear n0); (try clear n1); (try clear n2); (try clear n3); (try clear n4); (try clear n5); (try clear n6); (try clear n7); (try clear n8); (try clear top); omega
      · rw [q, nw_1, if_neg (by decide)]
        exact ⟨1, rfl, Or.inr rfl, fun _ => rfl⟩
end
