/-! plain programs: the dock, both sides -/
theorem mk_n_0 : ∀ c : Nat, mk_n 0 c = 0
  | 0 => rfl
  | c + 1 => by unfold mk_n; rw [mk_n_0 c, Nat.zero_testBit]; rfl
theorem M_dlist_s {f : Nat → Int} {g0 : AG} {NB : Nat} (hNB : NB ≤ 10) (hb : g0 117 12 = NB) (hf : ∀ b, b < 10 → g0 174 b = f b ∧ 0 ≤ f b ∧ f b ≤ 60) (h7 : ∀ b, b ≤ 10 → (dkL f b).1 ≤ 7) {x1 : Int} : ∀ (n b : Nat) (g : AG), b + n = NB → FR [(117, 85), (175, 0)] g0 g → g 117 84 = (dkL f b).1 → (∀ i, i < (dkL f b).1 → g 175 i = (dkL f b).2 i) → ∃ g', M_dock_b x1 b g = M_dock_b x1 NB g' ∧ FR [(117, 85), (175, 0)] g0 g' ∧ g' 117 84 = (dkL f NB).1 ∧ ∀ i, i < (dkL f NB).1 → g' 175 i = (dkL f NB).2 i := by
  intro n
  induction n with
  | zero =>
    intro b g h F h1 h2
    have e : b = NB := by (try clear n0); (try clear n1); (try clear n2); (try clear n3); (try clear n4); (try clear n5); omega
    subst e
    exact ⟨g, rfl, F, h1, h2⟩
  | succ n ih =>
    intro b g h F h1 h2
    have fb := hf b (by (try clear n0); (try clear n1); (try clear n2); (try clear n3); (try clear n4); (try clear n5); omega)
    have l7 := h7 (b + 1) (by (try clear n0); (try clear n1); (try clear n2); (try clear n3); (try clear n4); (try clear n5); omega)
    have l7' := h7 b (by (try clear n0); (try clear n1); (try clear n2); (try clear n3); (try clear n4); (try clear n5); omega)
    have v98 : g 174 b = f b := by rw [F 174 b rfl]; exact fb.1
    have n0 : nw (b : Int) = b := nwN _ (by (try clear n0); (try clear n1); (try clear n2); (try clear n3); (try clear n4); (try clear n5); omega)
    have n1 : ix (b : Int) = b := ixN _ (by (try clear n0); (try clear n1); (try clear n2); (try clear n3); (try clear n4); (try clear n5); omega)
    have n2 : nw (f b) = f b := nw_id (by (try clear n0); (try clear n1); (try clear n2); (try clear n3); (try clear n4); (try clear n5); omega) (by (try clear n0); (try clear n1); (try clear n2); (try clear n3); (try clear n4); (try clear n5); omega)
    have n3 : nw (((dkL f b).1 : Nat) : Int) = ((dkL f b).1 : Nat) := nwN _ (by (try clear n0); (try clear n1); (try clear n2); (try clear n3); (try clear n4); (try clear n5); omega)
    have n4 : ix (((dkL f b).1 : Nat) : Int) = (dkL f b).1 := ixN _ (by (try clear n0); (try clear n1); (try clear n2); (try clear n3); (try clear n4); (try clear n5); omega)
    have n5 : nw (g 117 12) = NB := by rw [F 117 12 rfl, hb, nwN _ (by (try clear n0); (try clear n1); (try clear n2); (try clear n3); (try clear n4); (try clear n5); omega)]
    have e1 : dkL f (b + 1) = if 0 < f b then ((dkL f b).1 + 1, ud (dkL f b).2 (dkL f b).1 b) else dkL f b := rfl
    by_cases z : 0 < f b
    · rw [if_pos z] at e1
      have c7 : (dkL f b).1 < 7 := by rw [e1] at l7; dsimp only at l7; exact l7
      obtain ⟨g', e, r⟩ := ih (b + 1) (up (up g 175 (dkL f b).1 b) 117 84 ((dkL f b).1 + 1)) (by (try clear n0); (try clear n1); (try clear n2); (try clear n3); (try clear n4); (try clear n5); omega) (Fr.up (Fr.up F rfl) rfl) (by rw [e1, up_at, if_pos ⟨rfl, rfl⟩]; rfl) (fun i hi => by
        rw [e1] at hi ⊢
        dsimp only at hi ⊢
        rw [up_at, if_neg (fun q => absurd q.1 (by decide)), up_at]
        by_cases y : i = (dkL f b).1
        · rw [if_pos ⟨rfl, y⟩, y, ud_at]
        · rw [if_neg (fun q => y q.2), ud_lt (by (try clear n0); (try clear n1); (try clear n2); (try clear n3); (try clear n4); (try clear n5); omega)]
          exact h2 i (by (try clear n0); (try clear n1); (try clear n2); (try clear n3); (try clear n4); (try clear n5); omega))
      refine ⟨g', ?_, r⟩
      have u : (up g 175 (dkL f b).1 b) 117 84 = (dkL f b).1 := by rw [up_at, if_neg (fun q => absurd q.1 (by decide))]; exact h1
      rw [M_dock_b, n0, n1, n5, v98, n2, h1, n3, n4, if_neg (by (try clear n0); (try clear n1); (try clear n2); (try clear n3); (try clear n4); (try clear n5); omega), if_pos (by (try clear n0); (try clear n1); (try clear n2); (try clear n3); (try clear n4); (try clear n5); omega), if_neg (by (try clear n0); (try clear n1); (try clear n2); (try clear n3); (try clear n4); (try clear n5); omega), if_pos (by (try clear n0); (try clear n1); (try clear n2); (try clear n3); (try clear n4); (try clear n5); omega), sb, u, sb, sb]
      exact e
    · rw [if_neg z] at e1
      obtain ⟨g', e, r⟩ := ih (b + 1) g (by (try clear n0); (try clear n1); (try clear n2); (try clear n3); (try clear n4); (try clear n5); omega) F (by rw [e1]; exact h1) (fun i hi => by rw [e1] at hi ⊢; exact h2 i hi)
      refine ⟨g', ?_, r⟩
      rw [M_dock_b, n0, n1, n5, v98, n2, if_neg (by (try clear n0); (try clear n1); (try clear n2); (try clear n3); (try clear n4); (try clear n5); omega), if_pos (by (try clear n0); (try clear n1); (try clear n2); (try clear n3); (try clear n4); (try clear n5); omega), if_pos (by (try clear n0); (try clear n1); (try clear n2); (try clear n3); (try clear n4); (try clear n5); omega), sb]
      exact e
theorem X_docked_s {dy dt : Nat → Int} {bl : Nat → Nat} {c : Nat} (K : DkOk dy dt c) {g : AG} (X : XD g dy dt bl c) {T : Nat → Int × Int} {N : Nat → Nat} (TT : DkT dy dt c T N) (hN : ∀ m, m < 2 ^ c - 1 → g 102 m = (N m : Nat)) {j : Nat} (hj : j < c) : ∀ (t i m : Nat), i + t = j → m < 2 ^ c → mk_n m c = i → Yard_dockedAt_b (10 + (j : Int)) g m i = some ((bl (fol N t m) : Nat) : Int) := by
  intro t
  induction t with
  | zero =>
    intro i m h hm hi
    have hc := K.1
    have p2 := mk_p2 c (by (try clear n0); (try clear n1); (try clear n2); (try clear n3); (try clear n4); (try clear n5); omega)
    have nf := mk_n_full c (by (try clear n0); (try clear n1); (try clear n2); (try clear n3); (try clear n4); (try clear n5); omega)
    have mf : m < 2 ^ c - 1 := by
      have ne : m ≠ 2 ^ c - 1 := fun e => by rw [e] at hi; omega
      omega
    have ok := dkStep_ok K hm (fun x _ h2 => TT.1 x h2) c (Nat.le_refl c) _ (TT.2.2 m mf)
    have hNm : N m < c := ok.2.1
    have x := X.2 (N m) hNm
    have n0 : nw (10 + (j : Int) - 10) = j := by rw [show 10 + (j : Int) - 10 = j by (try clear n0); (try clear n1); (try clear n2); (try clear n3); (try clear n4); (try clear n5); omega]; exact nwN _ (by (try clear n0); (try clear n1); (try clear n2); (try clear n3); (try clear n4); (try clear n5); omega)
    have n1 : nw (i : Int) = i := nwN _ (by (try clear n0); (try clear n1); (try clear n2); (try clear n3); (try clear n4); (try clear n5); omega)
    have n2 : nw (m : Int) = m := nwN _ (by (try clear n0); (try clear n1); (try clear n2); (try clear n3); (try clear n4); (try clear n5); omega)
    have n3 : ix (m : Int) = m := ixN _ (by (try clear n0); (try clear n1); (try clear n2); (try clear n3); (try clear n4); (try clear n5); omega)
    have n4 : nw ((N m : Nat) : Int) = (N m : Nat) := nwN _ (by (try clear n0); (try clear n1); (try clear n2); (try clear n3); (try clear n4); (try clear n5); omega)
    have n5 : ix ((N m : Nat) : Int) = N m := ixN _ (by (try clear n0); (try clear n1); (try clear n2); (try clear n3); (try clear n4); (try clear n5); omega)
    rw [Yard_dockedAt_b, n0, n1, n2, n3, hN m mf, n4, n5, x.1, if_pos (by (try clear n0); (try clear n1); (try clear n2); (try clear n3); (try clear n4); (try clear n5); omega), if_pos (by (try clear n0); (try clear n1); (try clear n2); (try clear n3); (try clear n4); (try clear n5); omega), if_pos (by (try clear n0); (try clear n1); (try clear n2); (try clear n3); (try clear n4); (try clear n5); omega)]
    rfl
  | succ t ih =>
    intro i m h hm hi
    have hc := K.1
    have p2 := mk_p2 c (by (try clear n0); (try clear n1); (try clear n2); (try clear n3); (try clear n4); (try clear n5); omega)
    have nf := mk_n_full c (by (try clear n0); (try clear n1); (try clear n2); (try clear n3); (try clear n4); (try clear n5); omega)
    have mf : m < 2 ^ c - 1 := by
      have ne : m ≠ 2 ^ c - 1 := fun e => by rw [e] at hi; omega
      omega
    have ok := dkStep_ok K hm (fun x _ h2 => TT.1 x h2) c (Nat.le_refl c) _ (TT.2.2 m mf)
    have hNm : N m < c := ok.2.1
    have hbt : m.testBit (N m) = false := ok.2.2
    have hlt := mk_lt hm hNm
    have nn := mk_n_or hbt c
    rw [if_pos hNm] at nn
    have e := ih (i + 1) (m ||| 2 ^ N m) (by (try clear n0); (try clear n1); (try clear n2); (try clear n3); (try clear n4); (try clear n5); omega) hlt (by (try clear n0); (try clear n1); (try clear n2); (try clear n3); (try clear n4); (try clear n5); omega)
    have ho := mk_or m (by (try clear n0); (try clear n1); (try clear n2); (try clear n3); (try clear n4); (try clear n5); omega) (N m) (by (try clear n0); (try clear n1); (try clear n2); (try clear n3); (try clear n4); (try clear n5); omega)
    have n0 : nw (10 + (j : Int) - 10) = j := by rw [show 10 + (j : Int) - 10 = j by (try clear n0); (try clear n1); (try clear n2); (try clear n3); (try clear n4); (try clear n5); omega]; exact nwN _ (by (try clear n0); (try clear n1); (try clear n2); (try clear n3); (try clear n4); (try clear n5); omega)
    have n1 : nw (i : Int) = i := nwN _ (by (try clear n0); (try clear n1); (try clear n2); (try clear n3); (try clear n4); (try clear n5); omega)
    have n2 : nw (m : Int) = m := nwN _ (by (try clear n0); (try clear n1); (try clear n2); (try clear n3); (try clear n4); (try clear n5); omega)
    have n3 : ix (m : Int) = m := ixN _ (by (try clear n0); (try clear n1); (try clear n2); (try clear n3); (try clear n4); (try clear n5); omega)
    rw [Yard_dockedAt_b, n0, n1, n2, n3, hN m mf, ho, if_neg (by (try clear n0); (try clear n1); (try clear n2); (try clear n3); (try clear n4); (try clear n5); omega), if_pos (by (try clear n0); (try clear n1); (try clear n2); (try clear n3); (try clear n4); (try clear n5); omega)]
    exact e
theorem sm_dock {x1 : Int} {g : AG} (h1 : I32 x1) (hb : g 117 12 = g 6 7 ∧ 0 ≤ g 6 7 ∧ g 6 7 ≤ 10) (q : JYard g) :
    ∃ r1 r2, X_dock x1 g = some r1 ∧ M_dock x1 r1.2 = some r2 ∧ nw r1.1 = nw r2.1 ∧ FR [(10, 3), (99, 0), (100, 0), (101, 0), (102, 0), (117, 85), (117, 86), (117, 87), (175, 0), (176, 0), (177, 0)] g r2.2 := by
  unfold I32 at *
  obtain ⟨q1, q2, q3⟩ := q
  obtain ⟨NB, hNB⟩ := natOf hb.2.1
  have h7 : ∀ b, b ≤ 10 → (dkL (g 98) b).1 ≤ 7 := fun b hb10 => by
    have e1 := dkL_sm (g := g) b
    have e2 := sm_pre (f := dkF g) (n := b) 10 hb10 (fun i _ => by unfold dkF; split <;> omega)
    omega
  have f98 : ∀ b, b < 10 → g 98 b = g 98 b ∧ 0 ≤ g 98 b ∧ g 98 b ≤ 60 := fun b hb10 => ⟨rfl, (q1 b hb10).2.2.2⟩
  obtain ⟨c, hc⟩ : ∃ c, c = (dkL (g 98) 10).1 := ⟨_, rfl⟩
  obtain ⟨bl, hbl⟩ : ∃ bl, bl = (dkL (g 98) 10).2 := ⟨_, rfl⟩
  have c7 : c ≤ 7 := by rw [hc]; exact h7 10 (Nat.le_refl 10)
  have p2 := mk_p2 c (by (try clear n0); (try clear n1); (try clear n2); (try clear n12); (try clear nNB); (try clear wI); (try clear nx); (try clear topM); (try clear i0); (try clear eT); (try clear wr); omega)
  have lok : ∀ i, i < c → bl i < 10 ∧ 0 < g 98 (bl i) := fun i hi => by rw [hbl]; exact (dkL_ok (f := g 98) 10).2 i (by rw [← hc]; exact hi)
  have K : DkOk (fun i => g 98 (bl i)) (fun i => g 97 (bl i)) c := ⟨c7, fun i hi => by
    have := lok i hi
    have := q1 (bl i) this.1
    dsimp only
    omega⟩
  -- the class
  obtain ⟨g1, e1, f1, r1, r1'⟩ := X_order1_s (f := g 98) (g0 := g) f98 h7 (x2 := 0) 10 0 (up g 10 2 0) (by (try clear n0); (try clear n1); (try clear n2); (try clear n12); (try clear nNB); (try clear wI); (try clear nx); (try clear topM); (try clear i0); (try clear eT); (try clear wr); omega) (Fr.up Fr.rf rfl) (by rw [up_at, if_pos ⟨rfl, rfl⟩]; rfl) (fun i hi => by unfold dkL at hi; omega)
  rw [← hc] at r1 r1'
  rw [← hbl] at r1'
  obtain ⟨g5, hg5⟩ : ∃ g5 : AG, g5 = up (up g1 100 (2 ^ c - 1) 0) 101 (2 ^ c - 1) 0 := ⟨_, rfl⟩
  have f5 : FR RXD g1 g5 := by rw [hg5]; exact Fr.up (Fr.up Fr.rf rfl) rfl
  have X1 : XD g1 (fun i => g 98 (bl i)) (fun i => g 97 (bl i)) bl c := ⟨r1, fun i hi => ⟨r1' i hi, (lok i hi).1, by rw [f1 98 _ rfl], by rw [f1 97 _ rfl]⟩⟩
  have v100 : g5 100 (2 ^ c - 1) = 0 := by rw [hg5, up_at, if_neg (fun q => absurd q.1 (by decide)), up_at, if_pos ⟨rfl, rfl⟩]
  have v101 : g5 101 (2 ^ c - 1) = 0 := by rw [hg5, up_at, if_pos ⟨rfl, rfl⟩]
  have nf := mk_n_full c (by (try clear n0); (try clear n1); (try clear n2); (try clear n12); (try clear nNB); (try clear wI); (try clear nx); (try clear topM); (try clear i0); (try clear eT); (try clear wr); omega)
  obtain ⟨gX, eX, fX, TX⟩ := X_order2_s K (x1 := 10) (2 ^ c - 1) g5 (by (try clear n0); (try clear n1); (try clear n2); (try clear n12); (try clear nNB); (try clear wI); (try clear nx); (try clear topM); (try clear i0); (try clear eT); (try clear wr); omega) (X1.fr f5) (fun x h1 h2 => by
    have : x = 2 ^ c - 1 := by (try clear n0); (try clear n1); (try clear n2); (try clear n12); (try clear nNB); (try clear wI); (try clear nx); (try clear topM); (try clear i0); (try clear eT); (try clear wr); omega
    rw [this, v100, v101, nf]
    omega) v100 v101 (fun y h1 h2 => by (try clear n0); (try clear n1); (try clear n2); (try clear n12); (try clear nNB); (try clear wI); (try clear nx); (try clear topM); (try clear i0); (try clear eT); (try clear wr); omega)
  have XDX := X1.fr (f5.tr fX)
  have topX : Yard_orderDock g = some (0, gX) := by
    unfold Yard_orderDock
    rw [sb]
    have e1' : Yard_orderDock_b 1 0 0 (up g 10 2 0) = Yard_orderDock_b 1 10 0 g1 := e1
    have n0 : nw (10 : Int) = 10 := nwN 10 (by (try clear n0); (try clear n1); (try clear n2); (try clear n12); (try clear nNB); (try clear wI); (try clear nx); (try clear topM); (try clear i0); (try clear eT); (try clear wr); omega)
    have n1 : nw (shlI 1 (g1 10 2) - 1) = ((2 ^ c - 1 : Nat) : Int) := by
      rw [r1, p2.2.2, show ((2 ^ c : Nat) : Int) - 1 = ((2 ^ c - 1 : Nat) : Int) by (try clear n0); (try clear n1); (try clear n2); (try clear n12); (try clear nNB); (try clear wI); (try clear nx); (try clear topM); (try clear i0); (try clear eT); (try clear wr); omega]; exact nwN _ (by (try clear n0); (try clear n1); (try clear n2); (try clear n12); (try clear nNB); (try clear wI); (try clear nx); (try clear topM); (try clear i0); (try clear eT); (try clear wr); omega)
    have n2 : ix (shlI 1 (g1 10 2) - 1) = 2 ^ c - 1 := by
      rw [r1, p2.2.2, show ((2 ^ c : Nat) : Int) - 1 = ((2 ^ c - 1 : Nat) : Int) by (try clear n0); (try clear n1); (try clear n2); (try clear n12); (try clear nNB); (try clear wI); (try clear nx); (try clear topM); (try clear i0); (try clear eT); (try clear wr); omega]; exact ixN _ (by (try clear n0); (try clear n1); (try clear n2); (try clear n12); (try clear nNB); (try clear wI); (try clear nx); (try clear topM); (try clear i0); (try clear eT); (try clear wr); omega)
    have n3 : shlI 1 (g1 10 2) - 1 - 1 = ((2 ^ c - 1 : Nat) : Int) - 1 := by
      rw [r1, p2.2.2]; omega
    have u : ∀ v : Int, (up g1 100 (2 ^ c - 1) v) 10 2 = g1 10 2 := fun v => by rw [up_at, if_neg (fun q => absurd q.1 (by decide))]
    rw [e1', Yard_orderDock_b.eq_1 1, if_pos rfl, n0, if_pos (Int.le_refl _), n1, n2, n3, if_pos (by (try clear n0); (try clear n1); (try clear n2); (try clear n12); (try clear nNB); (try clear wI); (try clear nx); (try clear topM); (try clear i0); (try clear eT); (try clear wr); omega), sb, sb, ← hg5]
    exact eX
  obtain ⟨T, hT⟩ : ∃ T : Nat → Int × Int, T = fun x => (gX 100 x, gX 101 x) := ⟨_, rfl⟩
  obtain ⟨N, hN⟩ : ∃ N : Nat → Nat, N = fun x => (gX 102 x).toNat := ⟨_, rfl⟩
  have TT : DkT (fun i => g 98 (bl i)) (fun i => g 97 (bl i)) c T N := by
    refine ⟨fun x hx => by rw [hT]; exact TX.1 x hx, by rw [hT]; dsimp only; rw [TX.2.1, TX.2.2.1], fun m hm => ?_⟩
    obtain ⟨p, s1, s2, s3, s4⟩ := TX.2.2.2 m hm
    rw [hT, hN, s1]
    dsimp only
    rw [s2, s3, s4, Int.toNat_natCast]
  have hNX : ∀ m, m < 2 ^ c - 1 → gX 102 m = (N m : Nat) := fun m hm => by
    obtain ⟨p, s1, s2, s3, s4⟩ := TX.2.2.2 m hm
    rw [hN, s4]
    dsimp only
    rw [s4, Int.toNat_natCast]
  have fE : FR [(10, 3), (99, 0), (100, 0), (101, 0), (102, 0), (117, 85), (117, 86), (117, 87), (175, 0), (176, 0), (177, 0)] g gX := (FR.mo f1 rfl).tr ((FR.mo f5 rfl).tr (FR.mo fX rfl))
  -- the reference
  have f174 : ∀ b, b < 10 → (up gX 117 84 0) 174 b = g 98 b ∧ 0 ≤ g 98 b ∧ g 98 b ≤ 60 := fun b hb10 => by
    rw [up_at, if_neg (fun q => absurd q.1 (by decide)), fE 174 b rfl]
    exact ⟨(q1 b hb10).2.1, (q1 b hb10).2.2.2⟩
  obtain ⟨g2, e2, f2, r2, r2'⟩ := M_dlist_s (NB := NB) (by (try clear n0); (try clear n1); (try clear n2); (try clear n12); (try clear nNB); (try clear wI); (try clear nx); (try clear topM); (try clear i0); (try clear eT); (try clear wr); omega) (g0 := up gX 117 84 0) (f := g 98) (by rw [up_at, if_neg (by decide), fE 117 12 rfl, hb.1]; exact hNB) f174 h7 (x1 := x1) NB 0 (up gX 117 84 0) (by (try clear n0); (try clear n1); (try clear n2); (try clear n12); (try clear nNB); (try clear wI); (try clear nx); (try clear topM); (try clear i0); (try clear eT); (try clear wr); omega) Fr.rf (by rw [up_at, if_pos ⟨rfl, rfl⟩]; rfl) (fun i hi => by unfold dkL at hi; omega)
  have eN : dkL (g 98) NB = dkL (g 98) 10 := (dkL_end (f := g 98) (N := NB) 10 (by (try clear n0); (try clear n1); (try clear n2); (try clear n12); (try clear nNB); (try clear wI); (try clear nx); (try clear topM); (try clear i0); (try clear eT); (try clear wr); omega) (fun x h1 h2 => q2 x h2 (by (try clear n0); (try clear n1); (try clear n2); (try clear n12); (try clear nNB); (try clear wI); (try clear nx); (try clear topM); (try clear i0); (try clear eT); (try clear wr); omega))).symm
  rw [eN, ← hc] at r2 r2'
  rw [← hbl] at r2'
  have fE2 : FR [(10, 3), (99, 0), (100, 0), (101, 0), (102, 0), (117, 85), (117, 86), (117, 87), (175, 0), (176, 0), (177, 0)] g g2 := fE.tr ((Fr.up Fr.rf rfl).tr (FR.mo f2 rfl))
  have u85 : FR [(117, 86)] g2 (up g2 117 85 (-1)) := Fr.up Fr.rf rfl
  have MD2 : MD (up g2 117 85 (-1)) (fun i => g 98 (bl i)) (fun i => g 97 (bl i)) bl c := ⟨by rw [u85 117 84 rfl]; exact r2, fun i hi => by
    have l := lok i hi
    have qq := q1 (bl i) l.1
    refine ⟨by rw [u85 175 i rfl]; exact r2' i hi, l.1, ?_, ?_⟩
    · rw [u85 174 _ rfl, fE2 174 _ rfl]; exact qq.2.1
    · rw [u85 173 _ rfl, fE2 173 _ rfl]; exact qq.1 l.2⟩
  obtain ⟨gm, em, fm, _, Bm⟩ := M_docks_t K TT c 9 0 0 (fun _ => 0) 0 0 none (up g2 117 85 (-1)) (by (try clear n0); (try clear n1); (try clear n2); (try clear n12); (try clear nNB); (try clear wI); (try clear nx); (try clear topM); (try clear i0); (try clear eT); (try clear wr); omega) (by (try clear n0); (try clear n1); (try clear n2); (try clear n12); (try clear nNB); (try clear wI); (try clear nx); (try clear topM); (try clear i0); (try clear eT); (try clear wr); omega) (by (try clear n0); (try clear n1); (try clear n2); (try clear n12); (try clear nNB); (try clear wI); (try clear nx); (try clear topM); (try clear i0); (try clear eT); (try clear wr); omega) (mk_n_0 c) (by (try clear n0); (try clear n1); (try clear n2); (try clear n12); (try clear nNB); (try clear wI); (try clear nx); (try clear topM); (try clear i0); (try clear eT); (try clear wr); omega) (by (try clear n0); (try clear n1); (try clear n2); (try clear n12); (try clear nNB); (try clear wI); (try clear nx); (try clear topM); (try clear i0); (try clear eT); (try clear wr); omega) MD2 (fun j hj => by (try clear n0); (try clear n1); (try clear n2); (try clear n12); (try clear nNB); (try clear wI); (try clear nx); (try clear topM); (try clear i0); (try clear eT); (try clear wr); omega) (Or.inl ⟨rfl, by rw [up_at, if_pos ⟨rfl, rfl⟩]⟩)
  have fE3 : FR [(10, 3), (99, 0), (100, 0), (101, 0), (102, 0), (117, 85), (117, 86), (117, 87), (175, 0), (176, 0), (177, 0)] g gm := fE2.tr ((FR.mo u85 rfl).tr (FR.mo fm rfl))
  obtain ⟨b1, b2, b3⟩ : gm 117 85 = (T 0).1 ∧ gm 117 86 = (T 0).2 ∧ ∀ j, j < c → gm 177 j = (bl (fol N j 0) : Nat) := by
    rcases Bm with ⟨a, _⟩ | ⟨p, a, b, d, _, _, e⟩
    · cases a
    · have hp : (0 + (T 0).1, 0 + (T 0).2, dkO N 0 0 (fun _ => 0)) = p := Option.some.inj a
      subst hp
      refine ⟨by rw [b]; exact Int.zero_add _, by rw [d]; exact Int.zero_add _, fun j hj => ?_⟩
      rw [e j hj]
      have e0 : dkO N 0 0 (fun _ => 0) j = fol N j 0 := by
        unfold dkO
        rw [if_neg (by (try clear n0); (try clear n1); (try clear n2); (try clear n12); (try clear nNB); (try clear wI); (try clear nx); (try clear topM); (try clear i0); (try clear eT); (try clear wr); omega)]
        rfl
      show ((bl (dkO N 0 0 (fun _ => 0) j) : Nat) : Int) = _
      rw [e0]
  have m84 : gm 117 84 = c := by rw [fm 117 84 rfl, u85 117 84 rfl]; exact r2
  rw [dkDay_0] at em
  have em' : M_docksOn 9 0 0 0 0 0 (up g2 117 85 (-1)) = some (0, gm) := em
  have n12 : nw (g2 117 12) = NB := by
    rw [fE2 117 12 rfl, hb.1, hNB]; exact nwN _ (by (try clear n0); (try clear n1); (try clear n2); (try clear n12); (try clear nNB); (try clear wI); (try clear nx); (try clear topM); (try clear i0); (try clear eT); (try clear wr); omega)
  have nNB : nw (NB : Int) = NB := nwN _ (by (try clear n0); (try clear n1); (try clear n2); (try clear n12); (try clear nNB); (try clear wI); (try clear nx); (try clear topM); (try clear i0); (try clear eT); (try clear wr); omega)
  have wI : (nw (M_isIn x1 10 (9 + gm 117 84)) = 0) = (x1 < 10 ∨ 9 + (c : Int) < x1) := by
    rw [m84]
    exact isIn0 (by (try clear n0); (try clear n1); (try clear n2); (try clear n12); (try clear nNB); (try clear wI); (try clear nx); (try clear topM); (try clear i0); (try clear eT); (try clear wr); omega) (by (try clear n0); (try clear n1); (try clear n2); (try clear n12); (try clear nNB); (try clear wI); (try clear nx); (try clear topM); (try clear i0); (try clear eT); (try clear wr); omega) (by decide) (by decide) (by (try clear n0); (try clear n1); (try clear n2); (try clear n12); (try clear nNB); (try clear wI); (try clear nx); (try clear topM); (try clear i0); (try clear eT); (try clear wr); omega) (by (try clear n0); (try clear n1); (try clear n2); (try clear n12); (try clear nNB); (try clear wI); (try clear nx); (try clear topM); (try clear i0); (try clear eT); (try clear wr); omega)
  have nx : nw x1 = x1 := nw_id (by (try clear n0); (try clear n1); (try clear n2); (try clear n12); (try clear nNB); (try clear wI); (try clear nx); (try clear topM); (try clear i0); (try clear eT); (try clear wr); omega) (by (try clear n0); (try clear n1); (try clear n2); (try clear n12); (try clear nNB); (try clear wI); (try clear nx); (try clear topM); (try clear i0); (try clear eT); (try clear wr); omega)
  have topM : M_dock x1 gX = (if nw (M_isIn x1 10 (9 + gm 117 84)) = 0 then some ((if x1 = 0 then gm 117 85 else if x1 = 1 then gm 117 86 else if x1 = 2 then gm 117 84 else -1), gm) else if 0 ≤ nw (x1 - 10) ∧ nw (x1 - 10) < 7 then some (gm 177 (ix (x1 - 10)), gm) else none) := by
    unfold M_dock
    rw [sb]
    have e2' : M_dock_b x1 0 (up gX 117 84 0) = M_dock_b x1 NB g2 := e2
    rw [e2', M_dock_b, n12, nNB, if_pos (Int.le_refl _), sb, em', sb, nx, sb]
  have xE : X_dock x1 g = (if x1 = 0 then some (gX 100 0, gX) else if x1 = 1 then some (gX 101 0, gX) else if x1 = 2 then some (gX 10 2, gX) else (Yard_dockedAt x1 gX >>= fun r6 => some (r6, gX))) := by
    unfold X_dock
    rw [topX, sb, nx]
    have i0 : ix 0 = 0 := ixN 0 (by (try clear n0); (try clear n1); (try clear n2); (try clear n12); (try clear nNB); (try clear wI); (try clear nx); (try clear topM); (try clear i0); (try clear eT); (try clear wr); omega)
    rw [i0]
  have t0 : gX 100 0 = (T 0).1 := by rw [hT]
  have t1 : gX 101 0 = (T 0).2 := by rw [hT]
  by_cases z : 10 ≤ x1 ∧ x1 ≤ 9 + (c : Int)
  · obtain ⟨j, hj⟩ : ∃ j : Nat, x1 = 10 + j := ⟨(x1 - 10).toNat, by (try clear n0); (try clear n1); (try clear n2); (try clear n12); (try clear nNB); (try clear wI); (try clear nx); (try clear topM); (try clear i0); (try clear eT); (try clear wr); omega⟩
    have jc : j < c := by (try clear n0); (try clear n1); (try clear n2); (try clear n12); (try clear nNB); (try clear wI); (try clear nx); (try clear topM); (try clear i0); (try clear eT); (try clear wr); omega
    refine ⟨(((bl (fol N j 0) : Nat) : Int), gX), (((bl (fol N j 0) : Nat) : Int), gm), ?_, ?_, rfl, fE3⟩
    · rw [xE, if_neg (by (try clear n0); (try clear n1); (try clear n2); (try clear n12); (try clear nNB); (try clear wI); (try clear nx); (try clear topM); (try clear i0); (try clear eT); (try clear wr); omega), if_neg (by (try clear n0); (try clear n1); (try clear n2); (try clear n12); (try clear nNB); (try clear wI); (try clear nx); (try clear topM); (try clear i0); (try clear eT); (try clear wr); omega), if_neg (by (try clear n0); (try clear n1); (try clear n2); (try clear n12); (try clear nNB); (try clear wI); (try clear nx); (try clear topM); (try clear i0); (try clear eT); (try clear wr); omega)]
      have eT : ¬ nw (X_within (x1 - 10) 0 (gX 10 2 - 1)) = 0 := by
        rw [XDX.1, within0 (by (try clear n0); (try clear n1); (try clear n2); (try clear n12); (try clear nNB); (try clear wI); (try clear nx); (try clear topM); (try clear i0); (try clear eT); (try clear wr); omega) (by (try clear n0); (try clear n1); (try clear n2); (try clear n12); (try clear nNB); (try clear wI); (try clear nx); (try clear topM); (try clear i0); (try clear eT); (try clear wr); omega) (by decide) (by decide) (by (try clear n0); (try clear n1); (try clear n2); (try clear n12); (try clear nNB); (try clear wI); (try clear nx); (try clear topM); (try clear i0); (try clear eT); (try clear wr); omega) (by (try clear n0); (try clear n1); (try clear n2); (try clear n12); (try clear nNB); (try clear wI); (try clear nx); (try clear topM); (try clear i0); (try clear eT); (try clear wr); omega)]
        omega
      unfold Yard_dockedAt
      rw [if_neg eT]
      have d := X_docked_s K XDX TT hNX jc j 0 0 (by (try clear n0); (try clear n1); (try clear n2); (try clear n12); (try clear nNB); (try clear wI); (try clear nx); (try clear topM); (try clear i0); (try clear eT); (try clear wr); omega) (by (try clear n0); (try clear n1); (try clear n2); (try clear n12); (try clear nNB); (try clear wI); (try clear nx); (try clear topM); (try clear i0); (try clear eT); (try clear wr); omega) (mk_n_0 c)
      have d' : Yard_dockedAt_b x1 gX 0 0 = some ((bl (fol N j 0) : Nat) : Int) := by rw [hj]; exact d
      rw [d', sb]
    · have n0 : nw (x1 - 10) = j := by rw [show x1 - 10 = (j : Int) by (try clear n0); (try clear n1); (try clear n2); (try clear n12); (try clear nNB); (try clear wI); (try clear nx); (try clear topM); (try clear i0); (try clear eT); (try clear wr); omega]; exact nwN _ (by (try clear n0); (try clear n1); (try clear n2); (try clear n12); (try clear nNB); (try clear wI); (try clear nx); (try clear topM); (try clear i0); (try clear eT); (try clear wr); omega)
      have n1 : ix (x1 - 10) = j := by rw [show x1 - 10 = (j : Int) by (try clear n0); (try clear n1); (try clear n2); (try clear n12); (try clear nNB); (try clear wI); (try clear nx); (try clear topM); (try clear i0); (try clear eT); (try clear wr); omega]; exact ixN _ (by (try clear n0); (try clear n1); (try clear n2); (try clear n12); (try clear nNB); (try clear wI); (try clear nx); (try clear topM); (try clear i0); (try clear eT); (try clear wr); omega)
      rw [topM, if_neg (by rw [wI]; omega), n0, n1, if_pos (by (try clear n0); (try clear n1); (try clear n2); (try clear n12); (try clear nNB); (try clear wI); (try clear nx); (try clear topM); (try clear i0); (try clear eT); (try clear wr); omega), b3 j jc]
  · have mN : M_dock x1 gX = some ((if x1 = 0 then gm 117 85 else if x1 = 1 then gm 117 86 else if x1 = 2 then gm 117 84 else -1), gm) := by
      rw [topM, if_pos (by rw [wI]; omega)]
    have eT : ¬ (0 ≤ x1 ∧ x1 ≤ 2) → nw (X_within (x1 - 10) 0 (gX 10 2 - 1)) = 0 := by
      intro _
      rw [XDX.1]
      unfold X_within
      rw [nw_0, nw_id (a := (c : Int) - 1) (by (try clear n0); (try clear n1); (try clear n2); (try clear n12); (try clear nNB); (try clear wI); (try clear nx); (try clear topM); (try clear i0); (try clear eT); (try clear wr); omega) (by (try clear n0); (try clear n1); (try clear n2); (try clear n12); (try clear nNB); (try clear wI); (try clear nx); (try clear topM); (try clear i0); (try clear eT); (try clear wr); omega)]
      have wr : nw (x1 - 10) = if x1 < -2147483638 then x1 - 10 + 4294967296 else x1 - 10 := by
        by_cases z : x1 < -2147483638
        · rw [if_pos z, nw_iff.2 (show (x1 - 10 - (x1 - 10 + 4294967296)) % 4294967296 = 0 by (try clear n0); (try clear n1); (try clear n2); (try clear n12); (try clear nNB); (try clear wI); (try clear nx); (try clear topM); (try clear i0); (try clear eT); (try clear wr); omega), nw_id (by (try clear n0); (try clear n1); (try clear n2); (try clear n12); (try clear nNB); (try clear wI); (try clear nx); (try clear topM); (try clear i0); (try clear eT); (try clear wr); omega) (by (try clear n0); (try clear n1); (try clear n2); (try clear n12); (try clear nNB); (try clear wI); (try clear nx); (try clear topM); (try clear i0); (try clear eT); (try clear wr); omega)]
        · rw [if_neg z, nw_id (by (try clear n0); (try clear n1); (try clear n2); (try clear n12); (try clear nNB); (try clear wI); (try clear nx); (try clear topM); (try clear i0); (try clear eT); (try clear wr); omega) (by (try clear n0); (try clear n1); (try clear n2); (try clear n12); (try clear nNB); (try clear wI); (try clear nx); (try clear topM); (try clear i0); (try clear eT); (try clear wr); omega)]
      rw [wr]
      by_cases z : x1 < -2147483638
      · rw [if_pos z, if_neg (by (try clear n0); (try clear n1); (try clear n2); (try clear n12); (try clear nNB); (try clear wI); (try clear nx); (try clear topM); (try clear i0); (try clear eT); (try clear wr); omega), if_pos (by (try clear n0); (try clear n1); (try clear n2); (try clear n12); (try clear nNB); (try clear wI); (try clear nx); (try clear topM); (try clear i0); (try clear eT); (try clear wr); omega), nw_0]
      · rw [if_neg z]
        by_cases z1 : x1 - 10 < 0
        · rw [if_pos z1, nw_0]
        · rw [if_neg z1, if_pos (by (try clear n0); (try clear n1); (try clear n2); (try clear n12); (try clear nNB); (try clear wI); (try clear nx); (try clear topM); (try clear i0); (try clear eT); (try clear wr); omega), nw_0]
    refine ⟨((if x1 = 0 then gX 100 0 else if x1 = 1 then gX 101 0 else if x1 = 2 then gX 10 2 else -1), gX), _, ?_, mN, ?_, fE3⟩
    · rw [xE]
      by_cases y0 : x1 = 0
      · rw [if_pos y0, if_pos y0]
      rw [if_neg y0, if_neg y0]
      by_cases y1 : x1 = 1
      · rw [if_pos y1, if_pos y1]
      rw [if_neg y1, if_neg y1]
      by_cases y2 : x1 = 2
      · rw [if_pos y2, if_pos y2]
      rw [if_neg y2, if_neg y2]
      unfold Yard_dockedAt
      rw [if_pos (eT (by (try clear n0); (try clear n1); (try clear n2); (try clear n12); (try clear nNB); (try clear wI); (try clear nx); (try clear topM); (try clear i0); (try clear eT); (try clear wr); omega)), sb]
    · dsimp only
      rw [b1, b2, m84, t0, t1, XDX.1]
