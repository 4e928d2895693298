/-! plain programs: the bookings, the reference's ways -/
def MK (g : AG) (c : Nat) (bf bt bw bb hb hh : Nat → Int) (o : Nat → Nat) (k : Nat) : Prop := g 117 65 = c ∧ (∀ j, j < c → g 162 j = bf j ∧ g 163 j = bt j ∧ g 164 j = bw j ∧ g 165 j = bb j ∧ g 166 j = (o j : Nat)) ∧ ∀ b, b < k → g 171 b = hb b ∧ g 172 b = hh b
abbrev RMG : Reg := [(117, 67), (117, 68), (167, 0), (168, 0), (169, 0), (170, 0)]
theorem MK.fr {g g' : AG} {c : Nat} {bf bt bw bb hb hh : Nat → Int} {o : Nat → Nat} {k : Nat} (h : MK g c bf bt bw bb hb hh o k) (f : FR RMG g g') : MK g' c bf bt bw bb hb hh o k := by
  refine ⟨by rw [f 117 65 rfl]; exact h.1, fun j hj => ?_, fun b hb' => ?_⟩
  · rw [f 162 j rfl, f 163 j rfl, f 164 j rfl, f 165 j rfl, f 166 j rfl]; exact h.2.1 j hj
  · rw [f 171 b rfl, f 172 b rfl]; exact h.2.2 b hb'
def MGB (g : AG) (c : Nat) (s : GS) : Prop := g 117 66 = s.1 ∧ g 117 67 = s.2.1 ∧ (-1 ≤ s.1 ∧ s.1 ≤ 8) ∧ (-1 ≤ s.2.1 ∧ s.2.1 ≤ 4) ∧ (0 ≤ s.1 → ∀ j, j < c → g 168 j = s.2.2 j)
theorem M_gcopy_s {c : Nat} (hc : c ≤ 8) {rec : Int → Int → Int → AG → Option (Int × AG)} {a b d v : Int} : ∀ (n k : Nat) (g : AG), k + n = c → g 117 65 = c → ∃ g', M_gives_b rec a b d 3 v k g = some (0, g') ∧ FR [(168, 0)] g g' ∧ (∀ j, k ≤ j → j < c → g' 168 j = g 167 j) ∧ ∀ j, j < k → g' 168 j = g 168 j := by
  intro n
  induction n with
  | zero =>
    intro k g h hg
    refine ⟨g, ?_, Fr.rf, fun j h1 h2 => by (try clear n0); (try clear n1); (try clear n2); omega, fun j _ => rfl⟩
    rw [M_gives_b.eq_1 _ _ _ _ 3, if_neg (by decide), if_neg (by decide), if_pos rfl, if_pos (by rw [hg, nwN _ (by (try clear n0); (try clear n1); (try clear n2); omega), nwN _ (by (try clear n0); (try clear n1); (try clear n2); omega)]; (try clear n0); (try clear n1); (try clear n2); omega)]
  | succ n ih =>
    intro k g h hg
    obtain ⟨g', e, f, p1, p2⟩ := ih (k + 1) (up g 168 k (g 167 k)) (by (try clear n0); (try clear n1); (try clear n2); omega) (by rw [up_at, if_neg (fun q => absurd q.1 (by decide))]; exact hg)
    refine ⟨g', ?_, (Fr.up Fr.rf rfl).tr f, ?_, ?_⟩
    · have n0 : nw (g 117 65) = c := by rw [hg, nwN _ (by (try clear n0); (try clear n1); (try clear n2); omega)]
      have n1 : nw (k : Int) = k := nwN _ (by (try clear n0); (try clear n1); (try clear n2); omega)
      have n2 : ix (k : Int) = k := ixN _ (by (try clear n0); (try clear n1); (try clear n2); omega)
      rw [M_gives_b.eq_1 _ _ _ _ 3, n0, n1, n2]
      rw [if_neg (by decide), if_neg (by decide), if_pos rfl, if_neg (by (try clear n0); (try clear n1); (try clear n2); omega), if_pos (by (try clear n0); (try clear n1); (try clear n2); omega), sb]
      exact e
    · intro j h1 h2
      by_cases z : j = k
      · subst z; rw [p2 j (by (try clear n0); (try clear n1); (try clear n2); omega), up_at, if_pos ⟨rfl, rfl⟩]
      · rw [p1 j (by (try clear n0); (try clear n1); (try clear n2); omega) h2, up_at, if_neg (fun q => absurd q.1 (by decide))]
    · intro j hj
      rw [p2 j (by (try clear n0); (try clear n1); (try clear n2); omega), up_at, if_neg (by (try clear n0); (try clear n1); (try clear n2); omega)]
theorem M_home_s {k : Nat} (hk : k ≤ 4) {wh hh : Nat → Int} {g : AG} (hw : ∀ b, b < k → g 169 b = wh b ∧ 0 ≤ wh b ∧ wh b ≤ 15) (hh' : ∀ b, b < k → g 172 b = hh b ∧ 0 ≤ hh b ∧ hh b ≤ 15) {rec : Int → Int → Int → AG → Option (Int × AG)} {a n : Int} : ∀ (q b : Nat), b + q = k → M_gives_b rec a k n 1 (gHome wh hh b) b g = M_gives_b rec a k n 1 (gHome wh hh k) k g := by
  intro q
  induction q with
  | zero => intro b h; rw [show b = k by (try clear n0); (try clear n1); (try clear n2); (try clear n3); (try clear n4); omega]
  | succ q ih =>
    intro b h
    have w := hw b (by (try clear n0); (try clear n1); (try clear n2); (try clear n3); (try clear n4); omega)
    have hx := hh' b (by (try clear n0); (try clear n1); (try clear n2); (try clear n3); (try clear n4); omega)
    have e2 := ih (b + 1) (by (try clear n0); (try clear n1); (try clear n2); (try clear n3); (try clear n4); omega)
    have n0 : nw (k : Int) = k := nwN _ (by (try clear n0); (try clear n1); (try clear n2); (try clear n3); (try clear n4); omega)
    have n1 : nw (b : Int) = b := nwN _ (by (try clear n0); (try clear n1); (try clear n2); (try clear n3); (try clear n4); omega)
    have n2 : ix (b : Int) = b := ixN _ (by (try clear n0); (try clear n1); (try clear n2); (try clear n3); (try clear n4); omega)
    have n3 : nw (wh b) = wh b := nw_id (by (try clear n0); (try clear n1); (try clear n2); (try clear n3); (try clear n4); omega) (by (try clear n0); (try clear n1); (try clear n2); (try clear n3); (try clear n4); omega)
    have n4 : nw (hh b) = hh b := nw_id (by (try clear n0); (try clear n1); (try clear n2); (try clear n3); (try clear n4); omega) (by (try clear n0); (try clear n1); (try clear n2); (try clear n3); (try clear n4); omega)
    rw [← e2]
    conv => lhs; rw [M_gives_b.eq_1 _ _ _ _ 1, n0, n1, n2, w.1, hx.1, n3, n4, if_pos rfl, if_neg (by (try clear n0); (try clear n1); (try clear n2); (try clear n3); (try clear n4); omega), if_pos (by (try clear n0); (try clear n1); (try clear n2); (try clear n3); (try clear n4); omega), sb]
    rfl
theorem M_gives_t {c : Nat} {bf bt bw bb hb hh : Nat → Int} {o : Nat → Nat} {k : Nat} (K : BkOk c bf bt bw bb) (BT : BtOk k hb hh) (O : Ord c bw o) : ∀ (r f i : Nat) (n : Int) (wh bz as : Nat → Int) (s : GS) (g : AG), i + r = c → r + 1 ≤ f → MK g c bf bt bw bb hb hh o k → GI c bt bw hh o k i n wh bz → (∀ b, b < k → g 169 b = wh b ∧ g 170 b = bz b) → (∀ p, p < i → g 167 (o p) = as (o p)) → MGB g c s → ∃ g', M_gives f i k n g = some (0, g') ∧ FR RMG g g' ∧ (∀ b, b < k → g' 169 b = g 169 b ∧ g' 170 b = g 170 b) ∧ (∀ p, p < i → g' 167 (o p) = g 167 (o p)) ∧ MGB g' c (gS bf bt bw bb hb hh o k r i n wh bz as s) := by
  intro r
  induction r with
  | zero =>
    intro f i n wh bz as s g h hf D G hw ha B
    obtain ⟨f, rfl⟩ : ∃ f', f = f' + 1 := ⟨f - 1, by (try clear n0); (try clear n1); (try clear n2); (try clear n3); (try clear n4); (try clear n5); (try clear n6); (try clear n7); (try clear n8); (try clear m1); (try clear m2); (try clear m3); (try clear m4); (try clear m5); omega⟩
    have hc := K.1
    have hk := BT.1
    have ei : i = c := by (try clear n0); (try clear n1); (try clear n2); (try clear n3); (try clear n4); (try clear n5); (try clear n6); (try clear n7); (try clear n8); (try clear m1); (try clear m2); (try clear m3); (try clear m4); (try clear m5); omega
    subst ei
    have gn := G.1
    have hr := gHome_rng (wh := wh) (hh := hh) k
    have mh := M_home_s hk (wh := wh) (hh := hh) (g := g) (fun b hb' => ⟨(hw b hb').1, (G.2.1 b hb').1⟩) (fun b hb' => ⟨(D.2.2 b hb').2, (BT.2 b hb').2⟩) (rec := M_gives f) (a := 0) (n := n) k 0 (by (try clear n0); (try clear n1); (try clear n2); (try clear n3); (try clear n4); (try clear n5); (try clear n6); (try clear n7); (try clear n8); (try clear m1); (try clear m2); (try clear m3); (try clear m4); (try clear m5); omega)
    have mh' : M_gives_b (M_gives f) 0 k n 1 0 0 g = M_gives_b (M_gives f) 0 k n 1 (gHome wh hh k) k g := mh
    obtain ⟨hm, hhm⟩ : ∃ hm, hm = gHome wh hh k := ⟨_, rfl⟩
    rw [← hhm] at hr mh'
    have as' : ∀ j, j < i → g 167 j = as j := fun j hj => by
      obtain ⟨p, hp, e⟩ := O.2.2 j hj
      rw [← e]
      exact ha p hp
    have n0 : nw (g 117 65) = i := by rw [D.1, nwN _ (by (try clear n0); (try clear n1); (try clear n2); (try clear n3); (try clear n4); (try clear n5); (try clear n6); (try clear n7); (try clear n8); (try clear m1); (try clear m2); (try clear m3); (try clear m4); (try clear m5); omega)]
    have n1 : nw (i : Int) = i := nwN _ (by (try clear n0); (try clear n1); (try clear n2); (try clear n3); (try clear n4); (try clear n5); (try clear n6); (try clear n7); (try clear n8); (try clear m1); (try clear m2); (try clear m3); (try clear m4); (try clear m5); omega)
    have n2 : nw n = n := nw_id (by (try clear n0); (try clear n1); (try clear n2); (try clear n3); (try clear n4); (try clear n5); (try clear n6); (try clear n7); (try clear n8); (try clear m1); (try clear m2); (try clear m3); (try clear m4); (try clear m5); omega) (by (try clear n0); (try clear n1); (try clear n2); (try clear n3); (try clear n4); (try clear n5); (try clear n6); (try clear n7); (try clear n8); (try clear m1); (try clear m2); (try clear m3); (try clear m4); (try clear m5); omega)
    have n3 : nw hm = hm := nw_id (by (try clear n0); (try clear n1); (try clear n2); (try clear n3); (try clear n4); (try clear n5); (try clear n6); (try clear n7); (try clear n8); (try clear m1); (try clear m2); (try clear m3); (try clear m4); (try clear m5); omega) (by (try clear n0); (try clear n1); (try clear n2); (try clear n3); (try clear n4); (try clear n5); (try clear n6); (try clear n7); (try clear n8); (try clear m1); (try clear m2); (try clear m3); (try clear m4); (try clear m5); omega)
    have n4 : nw (k : Int) = k := nwN _ (by (try clear n0); (try clear n1); (try clear n2); (try clear n3); (try clear n4); (try clear n5); (try clear n6); (try clear n7); (try clear n8); (try clear m1); (try clear m2); (try clear m3); (try clear m4); (try clear m5); omega)
    have b3 := B.2.2.1
    have b4 := B.2.2.2.1
    have n5 : nw (g 117 66) = s.1 := by rw [B.1]; exact nw_id (by (try clear n0); (try clear n1); (try clear n2); (try clear n3); (try clear n4); (try clear n5); (try clear n6); (try clear n7); (try clear n8); (try clear m1); (try clear m2); (try clear m3); (try clear m4); (try clear m5); omega) (by (try clear n0); (try clear n1); (try clear n2); (try clear n3); (try clear n4); (try clear n5); (try clear n6); (try clear n7); (try clear n8); (try clear m1); (try clear m2); (try clear m3); (try clear m4); (try clear m5); omega)
    have n6 : nw (g 117 67) = s.2.1 := by rw [B.2.1]; exact nw_id (by (try clear n0); (try clear n1); (try clear n2); (try clear n3); (try clear n4); (try clear n5); (try clear n6); (try clear n7); (try clear n8); (try clear m1); (try clear m2); (try clear m3); (try clear m4); (try clear m5); omega) (by (try clear n0); (try clear n1); (try clear n2); (try clear n3); (try clear n4); (try clear n5); (try clear n6); (try clear n7); (try clear n8); (try clear m1); (try clear m2); (try clear m3); (try clear m4); (try clear m5); omega)
    have take : ∃ g', M_gives_b (M_gives f) 0 k n 2 hm k g = some (0, g') ∧ FR RMG g g' ∧ (∀ b, b < k → g' 169 b = g 169 b ∧ g' 170 b = g 170 b) ∧ (∀ p, p < i → g' 167 (o p) = g 167 (o p)) ∧ MGB g' i (n, hm, as) := by
      obtain ⟨g', e, ff, p1, _⟩ := M_gcopy_s (c := i) hc (rec := M_gives f) (a := 0) (b := k) (d := n) (v := hm) i 0 (up (up g 117 66 n) 117 67 hm) (by (try clear n0); (try clear n1); (try clear n2); (try clear n3); (try clear n4); (try clear n5); (try clear n6); (try clear n7); (try clear n8); (try clear m1); (try clear m2); (try clear m3); (try clear m4); (try clear m5); omega) (by rw [up_at, if_neg (by (try clear n0); (try clear n1); (try clear n2); (try clear n3); (try clear n4); (try clear n5); (try clear n6); (try clear n7); (try clear n8); (try clear m1); (try clear m2); (try clear m3); (try clear m4); (try clear m5); omega), up_at, if_neg (by (try clear n0); (try clear n1); (try clear n2); (try clear n3); (try clear n4); (try clear n5); (try clear n6); (try clear n7); (try clear n8); (try clear m1); (try clear m2); (try clear m3); (try clear m4); (try clear m5); omega)]; exact D.1)
      refine ⟨g', ?_, (Fr.up (W := inR RMG) (Fr.up (W := inR RMG) Fr.rf rfl) rfl).tr (FR.mo ff rfl), fun b _ => ⟨?_, ?_⟩, fun p _ => ?_, ?_, ?_, ?_, ?_, fun _ j hj => ?_⟩
      · rw [M_gives_b.eq_1 _ _ _ _ 2, if_neg (by decide), if_pos rfl, sb, sb]
        exact e
      · rw [ff 169 b rfl, up_at, if_neg (fun q => absurd q.1 (by decide)), up_at, if_neg (fun q => absurd q.1 (by decide))]
      · rw [ff 170 b rfl, up_at, if_neg (fun q => absurd q.1 (by decide)), up_at, if_neg (fun q => absurd q.1 (by decide))]
      · rw [ff 167 _ rfl, up_at, if_neg (fun q => absurd q.1 (by decide)), up_at, if_neg (fun q => absurd q.1 (by decide))]
      · rw [ff 117 66 rfl, up_at, if_neg (by (try clear n0); (try clear n1); (try clear n2); (try clear n3); (try clear n4); (try clear n5); (try clear n6); (try clear n7); (try clear n8); (try clear m1); (try clear m2); (try clear m3); (try clear m4); (try clear m5); omega), up_at, if_pos ⟨rfl, rfl⟩]
      · rw [ff 117 67 rfl, up_at, if_pos ⟨rfl, rfl⟩]
      · dsimp only; (try clear n0); (try clear n1); (try clear n2); (try clear n3); (try clear n4); (try clear n5); (try clear n6); (try clear n7); (try clear n8); (try clear m1); (try clear m2); (try clear m3); (try clear m4); (try clear m5); omega
      · dsimp only; (try clear n0); (try clear n1); (try clear n2); (try clear n3); (try clear n4); (try clear n5); (try clear n6); (try clear n7); (try clear n8); (try clear m1); (try clear m2); (try clear m3); (try clear m4); (try clear m5); omega
      · rw [p1 j (by (try clear n0); (try clear n1); (try clear n2); (try clear n3); (try clear n4); (try clear n5); (try clear n6); (try clear n7); (try clear n8); (try clear m1); (try clear m2); (try clear m3); (try clear m4); (try clear m5); omega) hj, up_at, if_neg (fun q => absurd q.1 (by decide)), up_at, if_neg (fun q => absurd q.1 (by decide))]
        exact as' j hj
    have top : M_gives (f + 1) i k n g = (if n < s.1 then some (0, g) else if n = s.1 then (if s.2.1 < hm then M_gives_b (M_gives f) 0 k n 2 hm k g else some (0, g)) else M_gives_b (M_gives f) 0 k n 2 hm k g) := by
      show M_gives_s (M_gives f) i k n g = _
      unfold M_gives_s
      rw [n0, n1, if_pos rfl, mh', M_gives_b.eq_1 _ _ _ _ 1, if_pos rfl, n4, if_pos (Int.le_refl _), n2, n3, n5, n6]
    rw [top]
    have le : gS bf bt bw bb hb hh o k 0 i n wh bz as s = if s.1 < n ∨ (n = s.1 ∧ s.2.1 < hm) then (n, hm, as) else s := by
      rw [hhm]; rfl
    rw [le]
    have stay : ∃ g', some ((0 : Int), g) = some (0, g') ∧ FR RMG g g' ∧ (∀ b, b < k → g' 169 b = g 169 b ∧ g' 170 b = g 170 b) ∧ (∀ p, p < i → g' 167 (o p) = g 167 (o p)) ∧ MGB g' i s := ⟨g, rfl, Fr.rf, fun _ _ => ⟨rfl, rfl⟩, fun _ _ => rfl, B⟩
    by_cases y : n < s.1
    · rw [if_pos y, if_neg (by (try clear n0); (try clear n1); (try clear n2); (try clear n3); (try clear n4); (try clear n5); (try clear n6); (try clear n7); (try clear n8); (try clear m1); (try clear m2); (try clear m3); (try clear m4); (try clear m5); omega)]
      exact stay
    · rw [if_neg y]
      by_cases x : n = s.1
      · rw [if_pos x]
        by_cases w : s.2.1 < hm
        · rw [if_pos w, if_pos (Or.inr ⟨x, w⟩)]
          exact take
        · rw [if_neg w, if_neg (by (try clear n0); (try clear n1); (try clear n2); (try clear n3); (try clear n4); (try clear n5); (try clear n6); (try clear n7); (try clear n8); (try clear m1); (try clear m2); (try clear m3); (try clear m4); (try clear m5); omega)]
          exact stay
      · rw [if_neg x, if_pos (Or.inl (by (try clear n0); (try clear n1); (try clear n2); (try clear n3); (try clear n4); (try clear n5); (try clear n6); (try clear n7); (try clear n8); (try clear m1); (try clear m2); (try clear m3); (try clear m4); (try clear m5); omega))]
        exact take
  | succ r ih =>
    intro f i n wh bz as s g h hf D G hw ha B
    obtain ⟨f, rfl⟩ : ∃ f', f = f' + 1 := ⟨f - 1, by (try clear n0); (try clear n1); (try clear n2); (try clear n3); (try clear n4); (try clear n5); (try clear n6); (try clear n7); (try clear n8); (try clear m1); (try clear m2); (try clear m3); (try clear m4); (try clear m5); omega⟩
    have hc := K.1
    have hk := BT.1
    have hi : i < c := by (try clear n0); (try clear n1); (try clear n2); (try clear n3); (try clear n4); (try clear n5); (try clear n6); (try clear n7); (try clear n8); (try clear m1); (try clear m2); (try clear m3); (try clear m4); (try clear m5); omega
    have hoi := O.1 i hi
    have hj := K.2 (o i) hoi
    have d := D.2.1 i hi
    have n0 : nw (g 117 65) = c := by rw [D.1, nwN _ (by (try clear n0); (try clear n1); (try clear n2); (try clear n3); (try clear n4); (try clear n5); (try clear n6); (try clear n7); (try clear n8); (try clear m1); (try clear m2); (try clear m3); (try clear m4); (try clear m5); omega)]
    have n1 : nw (i : Int) = i := nwN _ (by (try clear n0); (try clear n1); (try clear n2); (try clear n3); (try clear n4); (try clear n5); (try clear n6); (try clear n7); (try clear n8); (try clear m1); (try clear m2); (try clear m3); (try clear m4); (try clear m5); omega)
    have n2 : ix (i : Int) = i := ixN _ (by (try clear n0); (try clear n1); (try clear n2); (try clear n3); (try clear n4); (try clear n5); (try clear n6); (try clear n7); (try clear n8); (try clear m1); (try clear m2); (try clear m3); (try clear m4); (try clear m5); omega)
    have n3 : nw ((o i : Nat) : Int) = (o i : Nat) := nwN _ (by (try clear n0); (try clear n1); (try clear n2); (try clear n3); (try clear n4); (try clear n5); (try clear n6); (try clear n7); (try clear n8); (try clear m1); (try clear m2); (try clear m3); (try clear m4); (try clear m5); omega)
    have n4 : ix ((o i : Nat) : Int) = o i := ixN _ (by (try clear n0); (try clear n1); (try clear n2); (try clear n3); (try clear n4); (try clear n5); (try clear n6); (try clear n7); (try clear n8); (try clear m1); (try clear m2); (try clear m3); (try clear m4); (try clear m5); omega)
    have n5 : nw (k : Int) = k := nwN _ (by (try clear n0); (try clear n1); (try clear n2); (try clear n3); (try clear n4); (try clear n5); (try clear n6); (try clear n7); (try clear n8); (try clear m1); (try clear m2); (try clear m3); (try clear m4); (try clear m5); omega)
    have n6 : nw (bb (o i)) = bb (o i) := nw_id (by (try clear n0); (try clear n1); (try clear n2); (try clear n3); (try clear n4); (try clear n5); (try clear n6); (try clear n7); (try clear n8); (try clear m1); (try clear m2); (try clear m3); (try clear m4); (try clear m5); omega) (by (try clear n0); (try clear n1); (try clear n2); (try clear n3); (try clear n4); (try clear n5); (try clear n6); (try clear n7); (try clear n8); (try clear m1); (try clear m2); (try clear m3); (try clear m4); (try clear m5); omega)
    have n7 : nw (bf (o i)) = bf (o i) := nw_id (by (try clear n0); (try clear n1); (try clear n2); (try clear n3); (try clear n4); (try clear n5); (try clear n6); (try clear n7); (try clear n8); (try clear m1); (try clear m2); (try clear m3); (try clear m4); (try clear m5); omega) (by (try clear n0); (try clear n1); (try clear n2); (try clear n3); (try clear n4); (try clear n5); (try clear n6); (try clear n7); (try clear n8); (try clear m1); (try clear m2); (try clear m3); (try clear m4); (try clear m5); omega)
    have n8 : nw (bw (o i)) = bw (o i) := nw_id (by (try clear n0); (try clear n1); (try clear n2); (try clear n3); (try clear n4); (try clear n5); (try clear n6); (try clear n7); (try clear n8); (try clear m1); (try clear m2); (try clear m3); (try clear m4); (try clear m5); omega) (by (try clear n0); (try clear n1); (try clear n2); (try clear n3); (try clear n4); (try clear n5); (try clear n6); (try clear n7); (try clear n8); (try clear m1); (try clear m2); (try clear m3); (try clear m4); (try clear m5); omega)
    have inj : ∀ p, p < i → o p ≠ o i := fun p hp e => by
      have := O.inj (show p < c by (try clear n0); (try clear n1); (try clear n2); (try clear n3); (try clear n4); (try clear n5); (try clear n6); (try clear n7); (try clear n8); (try clear m1); (try clear m2); (try clear m3); (try clear m4); (try clear m5); omega) hi e
      (try clear n0); (try clear n1); (try clear n2); (try clear n3); (try clear n4); (try clear n5); (try clear n6); (try clear n7); (try clear n8); (try clear m1); (try clear m2); (try clear m3); (try clear m4); (try clear m5); omega
    have top : M_gives (f + 1) i k n g = M_gives_b (M_gives f) i k n 4 (o i : Nat) 0 g := by
      show M_gives_s (M_gives f) i k n g = _
      unfold M_gives_s
      rw [n0, n1, if_neg (by (try clear n0); (try clear n1); (try clear n2); (try clear n3); (try clear n4); (try clear n5); (try clear n6); (try clear n7); (try clear n8); (try clear m1); (try clear m2); (try clear m3); (try clear m4); (try clear m5); omega), if_pos (by (try clear n0); (try clear n1); (try clear n2); (try clear n3); (try clear n4); (try clear n5); (try clear n6); (try clear n7); (try clear n8); (try clear m1); (try clear m2); (try clear m3); (try clear m4); (try clear m5); omega), n2, d.2.2.2.2]
    rw [top]
    have loop : ∀ (q b : Nat) (s : GS) (g1 : AG), b + q = k → MK g1 c bf bt bw bb hb hh o k → (∀ b, b < k → g1 169 b = wh b ∧ g1 170 b = bz b) → (∀ p, p < i → g1 167 (o p) = as (o p)) → MGB g1 c s → ∃ g', M_gives_b (M_gives f) i k n 4 (o i : Nat) b g1 = M_gives_b (M_gives f) i k n 4 (o i : Nat) k g' ∧ FR RMG g1 g' ∧ (∀ b, b < k → g' 169 b = g1 169 b ∧ g' 170 b = g1 170 b) ∧ (∀ p, p < i → g' 167 (o p) = g1 167 (o p)) ∧ MGB g' c (tR (fun b s => if gOk bf bw bb hb wh bz (o i) b then gS bf bt bw bb hb hh o k r (i + 1) (n + 1) (uv wh b (bt (o i))) (uv bz b (bw (o i))) (uv as (o i) (b : Nat)) s else s) q b s) := by
      intro q
      induction q with
      | zero =>
        intro b s g1 hq D1 hw1 ha1 B1
        exact ⟨g1, by rw [show b = k by (try clear n0); (try clear n1); (try clear n2); (try clear n3); (try clear n4); (try clear n5); (try clear n6); (try clear n7); (try clear n8); (try clear m1); (try clear m2); (try clear m3); (try clear m4); (try clear m5); omega], Fr.rf, fun _ _ => ⟨rfl, rfl⟩, fun _ _ => rfl, B1⟩
      | succ q ihq =>
        intro b s g1 hq D1 hw1 ha1 B1
        have hbk : b < k := by (try clear n0); (try clear n1); (try clear n2); (try clear n3); (try clear n4); (try clear n5); (try clear n6); (try clear n7); (try clear n8); (try clear m1); (try clear m2); (try clear m3); (try clear m4); (try clear m5); omega
        have w1 := hw1 b hbk
        have gb := G.2.1 b hbk
        have gbw := G.2.2.1 b hbk i (Nat.le_refl i) hi
        have rb := BT.2 b hbk
        have d1 := D1.2.1 (o i) hoi
        have db := D1.2.2 b hbk
        have m1 : nw (b : Int) = b := nwN _ (by (try clear n0); (try clear n1); (try clear n2); (try clear n3); (try clear n4); (try clear n5); (try clear n6); (try clear n7); (try clear n8); (try clear m1); (try clear m2); (try clear m3); (try clear m4); (try clear m5); omega)
        have m2 : ix (b : Int) = b := ixN _ (by (try clear n0); (try clear n1); (try clear n2); (try clear n3); (try clear n4); (try clear n5); (try clear n6); (try clear n7); (try clear n8); (try clear m1); (try clear m2); (try clear m3); (try clear m4); (try clear m5); omega)
        have m3 : nw (hb b) = hb b := nw_id (by (try clear n0); (try clear n1); (try clear n2); (try clear n3); (try clear n4); (try clear n5); (try clear n6); (try clear n7); (try clear n8); (try clear m1); (try clear m2); (try clear m3); (try clear m4); (try clear m5); omega) (by (try clear n0); (try clear n1); (try clear n2); (try clear n3); (try clear n4); (try clear n5); (try clear n6); (try clear n7); (try clear n8); (try clear m1); (try clear m2); (try clear m3); (try clear m4); (try clear m5); omega)
        have m4 : nw (wh b) = wh b := nw_id (by (try clear n0); (try clear n1); (try clear n2); (try clear n3); (try clear n4); (try clear n5); (try clear n6); (try clear n7); (try clear n8); (try clear m1); (try clear m2); (try clear m3); (try clear m4); (try clear m5); omega) (by (try clear n0); (try clear n1); (try clear n2); (try clear n3); (try clear n4); (try clear n5); (try clear n6); (try clear n7); (try clear n8); (try clear m1); (try clear m2); (try clear m3); (try clear m4); (try clear m5); omega)
        have m5 : nw (bz b) = bz b := nw_id (by (try clear n0); (try clear n1); (try clear n2); (try clear n3); (try clear n4); (try clear n5); (try clear n6); (try clear n7); (try clear n8); (try clear m1); (try clear m2); (try clear m3); (try clear m4); (try clear m5); omega) (by (try clear n0); (try clear n1); (try clear n2); (try clear n3); (try clear n4); (try clear n5); (try clear n6); (try clear n7); (try clear n8); (try clear m1); (try clear m2); (try clear m3); (try clear m4); (try clear m5); omega)
        have step : ∀ R : AG → Option (Int × AG), (((if hb b < bb (o i) then some g1 else (if wh b = bf (o i) then (if bz b = bw (o i) then some g1 else (some (up g1 169 b (bt (o i))) >>= fun g12 => (some (up g12 170 b (g12 164 (o i))) >>= fun g14 => (some (up g14 167 (o i) b) >>= fun g16 => (M_gives f ((i : Int) + 1) k (n + 1) g16 >>= fun r18 => (some (up r18.2 169 b (wh b)) >>= fun g20 => (some (up g20 170 b (bz b)) >>= fun g22 => some g22))))))) else some g1)) : Option AG) >>= R) = (if gOk bf bw bb hb wh bz (o i) b then (M_gives f ((i : Int) + 1) k (n + 1) (up (up (up g1 169 b (bt (o i))) 170 b (bw (o i))) 167 (o i) b) >>= fun r18 => R (up (up r18.2 169 b (wh b)) 170 b (bz b))) else R g1) := by
          intro R
          have u : (up g1 169 b (bt (o i))) 164 (o i) = bw (o i) := by rw [up_at, if_neg (fun q => absurd q.1 (by decide))]; exact d1.2.2.1
          by_cases z1 : hb b < bb (o i)
          · rw [if_pos z1, if_neg (fun q => absurd q.1 (by (try clear n0); (try clear n1); (try clear n2); (try clear n3); (try clear n4); (try clear n5); (try clear n6); (try clear n7); (try clear n8); (try clear m1); (try clear m2); (try clear m3); (try clear m4); (try clear m5); omega)), sb]
          · rw [if_neg z1]
            by_cases z2 : wh b = bf (o i)
            · rw [if_pos z2]
              by_cases z3 : bz b = bw (o i)
              · rw [if_pos z3, if_neg (fun q => absurd q.2.2 (by (try clear n0); (try clear n1); (try clear n2); (try clear n3); (try clear n4); (try clear n5); (try clear n6); (try clear n7); (try clear n8); (try clear m1); (try clear m2); (try clear m3); (try clear m4); (try clear m5); omega)), sb]
              · rw [if_neg z3, if_pos ⟨by (try clear n0); (try clear n1); (try clear n2); (try clear n3); (try clear n4); (try clear n5); (try clear n6); (try clear n7); (try clear n8); (try clear m1); (try clear m2); (try clear m3); (try clear m4); (try clear m5); omega, z2, by (try clear n0); (try clear n1); (try clear n2); (try clear n3); (try clear n4); (try clear n5); (try clear n6); (try clear n7); (try clear n8); (try clear m1); (try clear m2); (try clear m3); (try clear m4); (try clear m5); omega⟩, sb, u, sb, sb]
                cases M_gives f ((i : Int) + 1) k (n + 1) (up (up (up g1 169 b (bt (o i))) 170 b (bw (o i))) 167 (o i) b) with
                | none => rfl
                | some r18 => rfl
            · rw [if_neg z2, if_neg (fun q => z2 q.2.1), sb]
        have top2 : M_gives_b (M_gives f) i k n 4 (o i : Nat) b g1 = (if gOk bf bw bb hb wh bz (o i) b then (M_gives f ((i : Int) + 1) k (n + 1) (up (up (up g1 169 b (bt (o i))) 170 b (bw (o i))) 167 (o i) b) >>= fun r18 => M_gives_b (M_gives f) i k n 4 (o i : Nat) ((b : Int) + 1) (up (up r18.2 169 b (wh b)) 170 b (bz b))) else M_gives_b (M_gives f) i k n 4 (o i : Nat) ((b : Int) + 1) g1) := by
          rw [← step, M_gives_b.eq_1 _ _ _ _ 4, n5, m1, m2, n3, n4, db.1, d1.2.2.2.1, w1.1, w1.2, d1.1, d1.2.1, d1.2.2.1, m3, m4, m5, n6, n7, n8, if_neg (by decide), if_neg (by decide), if_neg (by decide), if_pos rfl, if_neg (by (try clear n0); (try clear n1); (try clear n2); (try clear n3); (try clear n4); (try clear n5); (try clear n6); (try clear n7); (try clear n8); (try clear m1); (try clear m2); (try clear m3); (try clear m4); (try clear m5); omega), if_pos (by (try clear n0); (try clear n1); (try clear n2); (try clear n3); (try clear n4); (try clear n5); (try clear n6); (try clear n7); (try clear n8); (try clear m1); (try clear m2); (try clear m3); (try clear m4); (try clear m5); omega), if_pos (by (try clear n0); (try clear n1); (try clear n2); (try clear n3); (try clear n4); (try clear n5); (try clear n6); (try clear n7); (try clear n8); (try clear m1); (try clear m2); (try clear m3); (try clear m4); (try clear m5); omega)]
        rw [top2]
        by_cases ok : gOk bf bw bb hb wh bz (o i) b
        · rw [if_pos ok]
          obtain ⟨g16, hg16⟩ : ∃ g16 : AG, g16 = up (up (up g1 169 b (bt (o i))) 170 b (bw (o i))) 167 (o i) b := ⟨_, rfl⟩
          rw [← hg16]
          have f16 : FR RMG g1 g16 := by rw [hg16]; exact Fr.up (Fr.up (Fr.up Fr.rf rfl) rfl) rfl
          have v169 : ∀ x, g16 169 x = if x = b then bt (o i) else g1 169 x := fun x => by
            rw [hg16, up_at, if_neg (fun q => absurd q.1 (by decide)), up_at, if_neg (fun q => absurd q.1 (by decide)), up_at]
            by_cases y : x = b
            · rw [if_pos ⟨rfl, y⟩, if_pos y]
            · rw [if_neg (fun q => y q.2), if_neg y]
          have v170 : ∀ x, g16 170 x = if x = b then bw (o i) else g1 170 x := fun x => by
            rw [hg16, up_at, if_neg (fun q => absurd q.1 (by decide)), up_at]
            by_cases y : x = b
            · rw [if_pos ⟨rfl, y⟩, if_pos y]
            · rw [if_neg (fun q => y q.2), if_neg y, up_at, if_neg (fun q => absurd q.1 (by decide))]
          have v167 : ∀ x, g16 167 x = if x = o i then (b : Int) else g1 167 x := fun x => by
            rw [hg16, up_at]
            by_cases y : x = o i
            · rw [if_pos ⟨rfl, y⟩, if_pos y]
            · rw [if_neg (fun q => y q.2), if_neg y, up_at, if_neg (fun q => absurd q.1 (by decide)), up_at, if_neg (fun q => absurd q.1 (by decide))]
          obtain ⟨g18, e18, f18, k18, p18, B18⟩ := ih f (i + 1) (n + 1) (uv wh b (bt (o i))) (uv bz b (bw (o i))) (uv as (o i) (b : Nat)) s g16 (by (try clear n0); (try clear n1); (try clear n2); (try clear n3); (try clear n4); (try clear n5); (try clear n6); (try clear n7); (try clear n8); (try clear m1); (try clear m2); (try clear m3); (try clear m4); (try clear m5); omega) (by (try clear n0); (try clear n1); (try clear n2); (try clear n3); (try clear n4); (try clear n5); (try clear n6); (try clear n7); (try clear n8); (try clear m1); (try clear m2); (try clear m3); (try clear m4); (try clear m5); omega) (D1.fr f16) (G.some K O hi b) (fun x hx => by
            rw [v169, v170]
            unfold uv
            by_cases y : x = b
            · rw [if_pos y, if_pos y, if_pos y, if_pos y]; exact ⟨rfl, rfl⟩
            · rw [if_neg y, if_neg y, if_neg y, if_neg y]; exact hw1 x hx) (fun p hp => by
            rw [v167]
            unfold uv
            by_cases y : p = i
            · rw [y, if_pos rfl, if_pos rfl]
            · rw [if_neg (inj p (by (try clear n0); (try clear n1); (try clear n2); (try clear n3); (try clear n4); (try clear n5); (try clear n6); (try clear n7); (try clear n8); (try clear m1); (try clear m2); (try clear m3); (try clear m4); (try clear m5); omega)), if_neg (inj p (by (try clear n0); (try clear n1); (try clear n2); (try clear n3); (try clear n4); (try clear n5); (try clear n6); (try clear n7); (try clear n8); (try clear m1); (try clear m2); (try clear m3); (try clear m4); (try clear m5); omega))]; exact ha1 p (by (try clear n0); (try clear n1); (try clear n2); (try clear n3); (try clear n4); (try clear n5); (try clear n6); (try clear n7); (try clear n8); (try clear m1); (try clear m2); (try clear m3); (try clear m4); (try clear m5); omega)) (by
            rw [hg16]
            refine ⟨?_, ?_, B1.2.2.1, B1.2.2.2.1, fun z j hj => ?_⟩
            · rw [up_at, if_neg (fun q => absurd q.1 (by decide)), up_at, if_neg (fun q => absurd q.1 (by decide)), up_at, if_neg (fun q => absurd q.1 (by decide))]; exact B1.1
            · rw [up_at, if_neg (fun q => absurd q.1 (by decide)), up_at, if_neg (fun q => absurd q.1 (by decide)), up_at, if_neg (fun q => absurd q.1 (by decide))]; exact B1.2.1
            · rw [up_at, if_neg (fun q => absurd q.1 (by decide)), up_at, if_neg (fun q => absurd q.1 (by decide)), up_at, if_neg (fun q => absurd q.1 (by decide))]; exact B1.2.2.2.2 z j hj)
          have e18' : M_gives f ((i : Int) + 1) k (n + 1) g16 = some (0, g18) := e18
          rw [e18', sb]
          obtain ⟨g22, hg22⟩ : ∃ g22 : AG, g22 = up (up g18 169 b (wh b)) 170 b (bz b) := ⟨_, rfl⟩
          have f22 : FR RMG g1 g22 := by rw [hg22]; exact Fr.up (Fr.up (f16.tr f18) rfl) rfl
          have k22 : ∀ x, x < k → g22 169 x = g1 169 x ∧ g22 170 x = g1 170 x := fun x hx => by
            have kk := k18 x hx
            rw [v169, v170] at kk
            rw [hg22]
            by_cases y : x = b
            · subst y
              refine ⟨?_, ?_⟩
              · rw [up_at, if_neg (fun q => absurd q.1 (by decide)), up_at, if_pos ⟨rfl, rfl⟩]; exact w1.1.symm
              · rw [up_at, if_pos ⟨rfl, rfl⟩]; exact w1.2.symm
            · rw [if_neg y, if_neg y] at kk
              refine ⟨?_, ?_⟩
              · rw [up_at, if_neg (fun q => absurd q.1 (by decide)), up_at, if_neg (fun q => y q.2)]; exact kk.1
              · rw [up_at, if_neg (fun q => y q.2), up_at, if_neg (fun q => absurd q.1 (by decide))]; exact kk.2
          have p22 : ∀ p, p < i → g22 167 (o p) = g1 167 (o p) := fun p hp => by
            rw [hg22, up_at, if_neg (fun q => absurd q.1 (by decide)), up_at, if_neg (fun q => absurd q.1 (by decide)), p18 p (by (try clear n0); (try clear n1); (try clear n2); (try clear n3); (try clear n4); (try clear n5); (try clear n6); (try clear n7); (try clear n8); (try clear m1); (try clear m2); (try clear m3); (try clear m4); (try clear m5); omega), v167, if_neg (inj p hp)]
          obtain ⟨g', e', f', k', p', B'⟩ := ihq (b + 1) _ g22 (by (try clear n0); (try clear n1); (try clear n2); (try clear n3); (try clear n4); (try clear n5); (try clear n6); (try clear n7); (try clear n8); (try clear m1); (try clear m2); (try clear m3); (try clear m4); (try clear m5); omega) (D1.fr f22) (fun x hx => by rw [(k22 x hx).1, (k22 x hx).2]; exact hw1 x hx) (fun p hp => by rw [p22 p hp]; exact ha1 p hp) (show MGB g22 c (gS bf bt bw bb hb hh o k r (i + 1) (n + 1) (uv wh b (bt (o i))) (uv bz b (bw (o i))) (uv as (o i) (b : Nat)) s) by
            rw [hg22]
            refine ⟨?_, ?_, B18.2.2.1, B18.2.2.2.1, fun z j hj => ?_⟩
            · rw [up_at, if_neg (fun q => absurd q.1 (by decide)), up_at, if_neg (fun q => absurd q.1 (by decide))]; exact B18.1
            · rw [up_at, if_neg (fun q => absurd q.1 (by decide)), up_at, if_neg (fun q => absurd q.1 (by decide))]; exact B18.2.1
            · rw [up_at, if_neg (fun q => absurd q.1 (by decide)), up_at, if_neg (fun q => absurd q.1 (by decide))]; exact B18.2.2.2.2 z j hj)
          refine ⟨g', ?_, f22.tr f', fun x hx => by rw [(k' x hx).1, (k' x hx).2]; exact k22 x hx, fun p hp => by rw [p' p hp, p22 p hp], ?_⟩
          · dsimp only
            rw [← hg22]
            exact e'
          · unfold tR
            rw [if_pos ok]
            exact B'
        · rw [if_neg ok]
          obtain ⟨g', e', f', k', p', B'⟩ := ihq (b + 1) s g1 (by (try clear n0); (try clear n1); (try clear n2); (try clear n3); (try clear n4); (try clear n5); (try clear n6); (try clear n7); (try clear n8); (try clear m1); (try clear m2); (try clear m3); (try clear m4); (try clear m5); omega) D1 hw1 ha1 B1
          refine ⟨g', e', f', k', p', ?_⟩
          unfold tR
          rw [if_neg ok]
          exact B'
    obtain ⟨g2, e2, f2, k2, p2, B2⟩ := loop k 0 s g (by (try clear n0); (try clear n1); (try clear n2); (try clear n3); (try clear n4); (try clear n5); (try clear n6); (try clear n7); (try clear n8); (try clear m1); (try clear m2); (try clear m3); (try clear m4); (try clear m5); omega) D hw ha B
    obtain ⟨g3, hg3⟩ : ∃ g3 : AG, g3 = up g2 167 (o i) (-1) := ⟨_, rfl⟩
    have f3 : FR RMG g g3 := by rw [hg3]; exact Fr.up f2 rfl
    have k3 : ∀ x, x < k → g3 169 x = g 169 x ∧ g3 170 x = g 170 x := fun x hx => by
      rw [hg3, up_at, if_neg (fun q => absurd q.1 (by decide)), up_at, if_neg (fun q => absurd q.1 (by decide))]
      exact k2 x hx
    have p3 : ∀ p, p < i → g3 167 (o p) = g 167 (o p) := fun p hp => by
      rw [hg3, up_at, if_neg (fun q => inj p hp q.2)]
      exact p2 p hp
    obtain ⟨g', e', f', k', p', B'⟩ := ih f (i + 1) n wh bz (uv as (o i) (-1)) _ g3 (by (try clear n0); (try clear n1); (try clear n2); (try clear n3); (try clear n4); (try clear n5); (try clear n6); (try clear n7); (try clear n8); (try clear m1); (try clear m2); (try clear m3); (try clear m4); (try clear m5); omega) (by (try clear n0); (try clear n1); (try clear n2); (try clear n3); (try clear n4); (try clear n5); (try clear n6); (try clear n7); (try clear n8); (try clear m1); (try clear m2); (try clear m3); (try clear m4); (try clear m5); omega) (D.fr f3) G.none (fun x hx => by rw [(k3 x hx).1, (k3 x hx).2]; exact hw x hx) (fun p hp => by
      by_cases y : p = i
      · rw [y, uv_at, hg3, up_at, if_pos ⟨rfl, rfl⟩]
      · rw [uv_ne (inj p (by (try clear n0); (try clear n1); (try clear n2); (try clear n3); (try clear n4); (try clear n5); (try clear n6); (try clear n7); (try clear n8); (try clear m1); (try clear m2); (try clear m3); (try clear m4); (try clear m5); omega)), p3 p (by (try clear n0); (try clear n1); (try clear n2); (try clear n3); (try clear n4); (try clear n5); (try clear n6); (try clear n7); (try clear n8); (try clear m1); (try clear m2); (try clear m3); (try clear m4); (try clear m5); omega)]; exact ha p (by (try clear n0); (try clear n1); (try clear n2); (try clear n3); (try clear n4); (try clear n5); (try clear n6); (try clear n7); (try clear n8); (try clear m1); (try clear m2); (try clear m3); (try clear m4); (try clear m5); omega)) (show MGB g3 c _ by
      rw [hg3]
      refine ⟨?_, ?_, B2.2.2.1, B2.2.2.2.1, fun z j hj => ?_⟩
      · rw [up_at, if_neg (fun q => absurd q.1 (by decide))]; exact B2.1
      · rw [up_at, if_neg (fun q => absurd q.1 (by decide))]; exact B2.2.1
      · rw [up_at, if_neg (fun q => absurd q.1 (by decide))]; exact B2.2.2.2.2 z j hj)
    refine ⟨g', ?_, f3.tr f', fun x hx => by rw [(k' x hx).1, (k' x hx).2]; exact k3 x hx, fun p hp => by rw [p' p (by (try clear n0); (try clear n1); (try clear n2); (try clear n3); (try clear n4); (try clear n5); (try clear n6); (try clear n7); (try clear n8); (try clear m1); (try clear m2); (try clear m3); (try clear m4); (try clear m5); omega), p3 p hp], B'⟩
    have e2' : M_gives_b (M_gives f) i k n 4 (o i : Nat) 0 g = M_gives_b (M_gives f) i k n 4 (o i : Nat) k g2 := e2
    have e3' : M_gives f ((i : Int) + 1) k n g3 = some (0, g') := e'
    rw [e2', M_gives_b.eq_1 _ _ _ _ 4, n5, n3, n4, if_neg (by decide), if_neg (by decide), if_neg (by decide), if_pos rfl, if_pos (Int.le_refl _), if_pos (by (try clear n0); (try clear n1); (try clear n2); (try clear n3); (try clear n4); (try clear n5); (try clear n6); (try clear n7); (try clear n8); (try clear m1); (try clear m2); (try clear m3); (try clear m4); (try clear m5); omega), sb, ← hg3, e3', sb]
