/-! plain programs: the bookings, the class's ways -/
def XK (g : AG) (c : Nat) (bf bt bw bb hb hh : Nat → Int) (o : Nat → Nat) (k : Nat) (hp : Nat → Int) : Prop := g 9 4 = c ∧ g 9 10 = k ∧ (∀ j, j < c → g 85 j = bf j ∧ g 86 j = bt j ∧ g 87 j = bw j ∧ g 88 j = bb j ∧ g 89 j = (o j : Nat)) ∧ (∀ b, b < k → g 90 b = hb b ∧ g 91 b = hh b) ∧ ∀ i, i ≤ c → g 94 i = hp i ∧ 0 ≤ hp i ∧ hp i ≤ 8
abbrev RXG : Reg := [(9, 16), (9, 17), (92, 0), (93, 0), (95, 0), (96, 0)]
theorem XK.fr {g g' : AG} {c : Nat} {bf bt bw bb hb hh : Nat → Int} {o : Nat → Nat} {k : Nat} {hp : Nat → Int} (h : XK g c bf bt bw bb hb hh o k hp) (f : FR RXG g g') : XK g' c bf bt bw bb hb hh o k hp := by
  refine ⟨by rw [f 9 4 rfl]; exact h.1, by rw [f 9 10 rfl]; exact h.2.1, fun j hj => ?_, fun b hb' => ?_, fun i hi => ?_⟩
  · rw [f 85 j rfl, f 86 j rfl, f 87 j rfl, f 88 j rfl, f 89 j rfl]; exact h.2.2.1 j hj
  · rw [f 90 b rfl, f 91 b rfl]; exact h.2.2.2.1 b hb'
  · rw [f 94 i rfl]; exact h.2.2.2.2 i hi
def XGB (g : AG) (c : Nat) (s : GS) : Prop := g 9 15 = s.1 ∧ g 9 16 = s.2.1 ∧ (-1 ≤ s.1 ∧ s.1 ≤ 8) ∧ (-1 ≤ s.2.1 ∧ s.2.1 ≤ 4) ∧ (0 ≤ s.1 → ∀ j, j < c → g 96 j = s.2.2 j)
theorem X_have_s {c : Nat} {bf bt bw bb hb hh : Nat → Int} {o : Nat → Nat} {k : Nat} {hp : Nat → Int} (K : BkOk c bf bt bw bb) (BT : BtOk k hb hh) {g : AG} (D : XK g c bf bt bw bb hb hh o k hp) {wh bz : Nat → Int} {b j : Nat} (hbk : b < k) (hj : j < c) (w : g 92 b = wh b ∧ g 93 b = bz b) (r : (0 ≤ wh b ∧ wh b ≤ 15) ∧ (-1 ≤ bz b ∧ bz b ≤ 9)) : Bookings_canHave b j g = some (if gOk bf bw bb hb wh bz j b then 1 else 0) := by
  have hc := K.1
  have hk := BT.1
  have rj := K.2 j hj
  have rb := BT.2 b hbk
  have d := D.2.2.1 j hj
  have db := D.2.2.2.1 b hbk
  have n1 : nw (b : Int) = b := nwN _ (by (try clear n1); (try clear n2); (try clear n3); (try clear n4); (try clear m1); (try clear m2); (try clear m3); (try clear m4); (try clear m5); (try clear m6); omega)
  have n2 : ix (b : Int) = b := ixN _ (by (try clear n1); (try clear n2); (try clear n3); (try clear n4); (try clear m1); (try clear m2); (try clear m3); (try clear m4); (try clear m5); (try clear m6); omega)
  have n3 : nw (j : Int) = j := nwN _ (by (try clear n1); (try clear n2); (try clear n3); (try clear n4); (try clear m1); (try clear m2); (try clear m3); (try clear m4); (try clear m5); (try clear m6); omega)
  have n4 : ix (j : Int) = j := ixN _ (by (try clear n1); (try clear n2); (try clear n3); (try clear n4); (try clear m1); (try clear m2); (try clear m3); (try clear m4); (try clear m5); (try clear m6); omega)
  have m1 : nw (hb b) = hb b := nw_id (by (try clear n1); (try clear n2); (try clear n3); (try clear n4); (try clear m1); (try clear m2); (try clear m3); (try clear m4); (try clear m5); (try clear m6); omega) (by (try clear n1); (try clear n2); (try clear n3); (try clear n4); (try clear m1); (try clear m2); (try clear m3); (try clear m4); (try clear m5); (try clear m6); omega)
  have m2 : nw (wh b) = wh b := nw_id (by (try clear n1); (try clear n2); (try clear n3); (try clear n4); (try clear m1); (try clear m2); (try clear m3); (try clear m4); (try clear m5); (try clear m6); omega) (by (try clear n1); (try clear n2); (try clear n3); (try clear n4); (try clear m1); (try clear m2); (try clear m3); (try clear m4); (try clear m5); (try clear m6); omega)
  have m3 : nw (bz b) = bz b := nw_id (by (try clear n1); (try clear n2); (try clear n3); (try clear n4); (try clear m1); (try clear m2); (try clear m3); (try clear m4); (try clear m5); (try clear m6); omega) (by (try clear n1); (try clear n2); (try clear n3); (try clear n4); (try clear m1); (try clear m2); (try clear m3); (try clear m4); (try clear m5); (try clear m6); omega)
  have m4 : nw (bb j) = bb j := nw_id (by (try clear n1); (try clear n2); (try clear n3); (try clear n4); (try clear m1); (try clear m2); (try clear m3); (try clear m4); (try clear m5); (try clear m6); omega) (by (try clear n1); (try clear n2); (try clear n3); (try clear n4); (try clear m1); (try clear m2); (try clear m3); (try clear m4); (try clear m5); (try clear m6); omega)
  have m5 : nw (bf j) = bf j := nw_id (by (try clear n1); (try clear n2); (try clear n3); (try clear n4); (try clear m1); (try clear m2); (try clear m3); (try clear m4); (try clear m5); (try clear m6); omega) (by (try clear n1); (try clear n2); (try clear n3); (try clear n4); (try clear m1); (try clear m2); (try clear m3); (try clear m4); (try clear m5); (try clear m6); omega)
  have m6 : nw (bw j) = bw j := nw_id (by (try clear n1); (try clear n2); (try clear n3); (try clear n4); (try clear m1); (try clear m2); (try clear m3); (try clear m4); (try clear m5); (try clear m6); omega) (by (try clear n1); (try clear n2); (try clear n3); (try clear n4); (try clear m1); (try clear m2); (try clear m3); (try clear m4); (try clear m5); (try clear m6); omega)
  unfold Bookings_canHave
  rw [n1, n2, n3, n4, db.1, d.2.2.2.1, w.1, w.2, d.1, d.2.2.1, m1, m2, m3, m4, m5, m6, if_pos (by (try clear n1); (try clear n2); (try clear n3); (try clear n4); (try clear m1); (try clear m2); (try clear m3); (try clear m4); (try clear m5); (try clear m6); omega), if_pos (by (try clear n1); (try clear n2); (try clear n3); (try clear n4); (try clear m1); (try clear m2); (try clear m3); (try clear m4); (try clear m5); (try clear m6); omega)]
  by_cases z1 : hb b < bb j
  · rw [if_pos z1, sb, if_pos (Or.inl rfl), if_neg (fun q => absurd q.1 (by (try clear n1); (try clear n2); (try clear n3); (try clear n4); (try clear m1); (try clear m2); (try clear m3); (try clear m4); (try clear m5); (try clear m6); omega))]
  · rw [if_neg z1]
    by_cases z2 : wh b = bf j
    · rw [if_pos z2, sb]
      by_cases z3 : bw j ≤ bz b
      · rw [if_pos z3, sb, if_pos (Or.inl rfl), if_neg (fun q => absurd q.2.2 (by (try clear n1); (try clear n2); (try clear n3); (try clear n4); (try clear m1); (try clear m2); (try clear m3); (try clear m4); (try clear m5); (try clear m6); omega))]
      · rw [if_neg z3, sb, if_pos (Or.inr rfl), if_pos ⟨by (try clear n1); (try clear n2); (try clear n3); (try clear n4); (try clear m1); (try clear m2); (try clear m3); (try clear m4); (try clear m5); (try clear m6); omega, z2, by (try clear n1); (try clear n2); (try clear n3); (try clear n4); (try clear m1); (try clear m2); (try clear m3); (try clear m4); (try clear m5); (try clear m6); omega⟩]
    · rw [if_neg z2, sb, if_pos (Or.inl rfl), if_neg (fun q => z2 q.2.1)]
theorem X_home_s {k : Nat} (hk : k ≤ 4) {wh hh : Nat → Int} {g : AG} (ha : g 9 10 = k) (hw : ∀ b, b < k → g 92 b = wh b ∧ 0 ≤ wh b ∧ wh b ≤ 15) (hh' : ∀ b, b < k → g 91 b = hh b ∧ 0 ≤ hh b ∧ hh b ≤ 15) {n : Int} : ∀ (q b : Nat), b + q = k → Bookings_compare_b n g (gHome wh hh b) b = Bookings_compare_b n g (gHome wh hh k) k := by
  intro q
  induction q with
  | zero => intro b h; rw [show b = k by (try clear n0); (try clear n1); (try clear n2); (try clear n3); (try clear n4); omega]
  | succ q ih =>
    intro b h
    have w := hw b (by (try clear n0); (try clear n1); (try clear n2); (try clear n3); (try clear n4); omega)
    have hx := hh' b (by (try clear n0); (try clear n1); (try clear n2); (try clear n3); (try clear n4); omega)
    have e2 := ih (b + 1) (by (try clear n0); (try clear n1); (try clear n2); (try clear n3); (try clear n4); omega)
    have n0 : nw (g 9 10) = k := by rw [ha, nwN _ (by (try clear n0); (try clear n1); (try clear n2); (try clear n3); (try clear n4); omega)]
    have n1 : nw (b : Int) = b := nwN _ (by (try clear n0); (try clear n1); (try clear n2); (try clear n3); (try clear n4); omega)
    have n2 : ix (b : Int) = b := ixN _ (by (try clear n0); (try clear n1); (try clear n2); (try clear n3); (try clear n4); omega)
    have n3 : nw (wh b) = wh b := nw_id (by (try clear n0); (try clear n1); (try clear n2); (try clear n3); (try clear n4); omega) (by (try clear n0); (try clear n1); (try clear n2); (try clear n3); (try clear n4); omega)
    have n4 : nw (hh b) = hh b := nw_id (by (try clear n0); (try clear n1); (try clear n2); (try clear n3); (try clear n4); omega) (by (try clear n0); (try clear n1); (try clear n2); (try clear n3); (try clear n4); omega)
    rw [← e2]
    conv => lhs; rw [Bookings_compare_b, n0, n1, n2, w.1, hx.1, n3, n4, if_neg (by (try clear n0); (try clear n1); (try clear n2); (try clear n3); (try clear n4); omega), if_pos (by (try clear n0); (try clear n1); (try clear n2); (try clear n3); (try clear n4); omega), sb]
    rfl
theorem X_compare_s {c : Nat} {bf bt bw bb hb hh : Nat → Int} {o : Nat → Nat} {k : Nat} {hp : Nat → Int} (K : BkOk c bf bt bw bb) (BT : BtOk k hb hh) {g : AG} (D : XK g c bf bt bw bb hb hh o k hp) {wh as : Nat → Int} {n : Int} {s : GS} (rn : 0 ≤ n ∧ n ≤ c) (hw : ∀ b, b < k → g 92 b = wh b ∧ 0 ≤ wh b ∧ wh b ≤ 15) (ha : ∀ j, j < c → g 95 j = as j) (B : XGB g c s) : ∃ g', Bookings_compare n g = some (0, g') ∧ FR [(9, 16), (9, 17), (96, 0)] g g' ∧ XGB g' c (gLeaf hh k n wh as s) := by
  have hc := K.1
  have hk := BT.1
  have hr := gHome_rng (wh := wh) (hh := hh) k
  have mh := X_home_s hk (wh := wh) (hh := hh) (g := g) D.2.1 hw (fun b hb' => ⟨(D.2.2.2.1 b hb').2, (BT.2 b hb').2⟩) (n := n) k 0 (by (try clear n0); (try clear n1); (try clear n2); (try clear n3); (try clear n5); (try clear n6); (try clear n7); (try clear n8); (try clear n9); (try clear cp); omega)
  have mh' : Bookings_compare n g = Bookings_compare_b n g (gHome wh hh k) k := mh
  obtain ⟨hm, hhm⟩ : ∃ hm, hm = gHome wh hh k := ⟨_, rfl⟩
  rw [← hhm] at hr mh'
  have b3 := B.2.2.1
  have b4 := B.2.2.2.1
  have n0 : nw (g 9 10) = k := by rw [D.2.1, nwN _ (by (try clear n0); (try clear n1); (try clear n2); (try clear n3); (try clear n5); (try clear n6); (try clear n7); (try clear n8); (try clear n9); (try clear cp); omega)]
  have n1 : nw (k : Int) = k := nwN _ (by (try clear n0); (try clear n1); (try clear n2); (try clear n3); (try clear n5); (try clear n6); (try clear n7); (try clear n8); (try clear n9); (try clear cp); omega)
  have n2 : nw n = n := nw_id (by (try clear n0); (try clear n1); (try clear n2); (try clear n3); (try clear n5); (try clear n6); (try clear n7); (try clear n8); (try clear n9); (try clear cp); omega) (by (try clear n0); (try clear n1); (try clear n2); (try clear n3); (try clear n5); (try clear n6); (try clear n7); (try clear n8); (try clear n9); (try clear cp); omega)
  have n3 : nw hm = hm := nw_id (by (try clear n0); (try clear n1); (try clear n2); (try clear n3); (try clear n5); (try clear n6); (try clear n7); (try clear n8); (try clear n9); (try clear cp); omega) (by (try clear n0); (try clear n1); (try clear n2); (try clear n3); (try clear n5); (try clear n6); (try clear n7); (try clear n8); (try clear n9); (try clear cp); omega)
  have n5 : nw (g 9 15) = s.1 := by rw [B.1]; exact nw_id (by (try clear n0); (try clear n1); (try clear n2); (try clear n3); (try clear n5); (try clear n6); (try clear n7); (try clear n8); (try clear n9); (try clear cp); omega) (by (try clear n0); (try clear n1); (try clear n2); (try clear n3); (try clear n5); (try clear n6); (try clear n7); (try clear n8); (try clear n9); (try clear cp); omega)
  have n6 : nw (g 9 16) = s.2.1 := by rw [B.2.1]; exact nw_id (by (try clear n0); (try clear n1); (try clear n2); (try clear n3); (try clear n5); (try clear n6); (try clear n7); (try clear n8); (try clear n9); (try clear cp); omega) (by (try clear n0); (try clear n1); (try clear n2); (try clear n3); (try clear n5); (try clear n6); (try clear n7); (try clear n8); (try clear n9); (try clear cp); omega)
  have n7 : nw (c : Int) = c := nwN _ (by (try clear n0); (try clear n1); (try clear n2); (try clear n3); (try clear n5); (try clear n6); (try clear n7); (try clear n8); (try clear n9); (try clear cp); omega)
  have n8 : ix (c : Int) = c := ixN _ (by (try clear n0); (try clear n1); (try clear n2); (try clear n3); (try clear n5); (try clear n6); (try clear n7); (try clear n8); (try clear n9); (try clear cp); omega)
  have n9 : ix 0 = 0 := ixN 0 (by (try clear n0); (try clear n1); (try clear n2); (try clear n3); (try clear n5); (try clear n6); (try clear n7); (try clear n8); (try clear n9); (try clear cp); omega)
  have u : (up (up g 9 15 n) 9 16 hm) 9 4 = c := by rw [up_at, if_neg (by (try clear n0); (try clear n1); (try clear n2); (try clear n3); (try clear n5); (try clear n6); (try clear n7); (try clear n8); (try clear n9); (try clear cp); omega), up_at, if_neg (by (try clear n0); (try clear n1); (try clear n2); (try clear n3); (try clear n5); (try clear n6); (try clear n7); (try clear n8); (try clear n9); (try clear cp); omega)]; exact D.1
  have le : gLeaf hh k n wh as s = if s.1 < n ∨ (n = s.1 ∧ s.2.1 < hm) then (n, hm, as) else s := by rw [hhm]; rfl
  obtain ⟨gt, hgt⟩ : ∃ gt : AG, gt = copyG (up (up g 9 15 n) 9 16 hm) 95 0 96 0 c := ⟨_, rfl⟩
  have ft : FR [(9, 16), (9, 17), (96, 0)] g gt := by
    rw [hgt]
    intro a b hab
    have z : ¬ (a = 96 ∧ 0 ≤ b ∧ b < 0 + c) := fun q => by rw [q.1] at hab; cases hab
    show (if a = 96 ∧ 0 ≤ b ∧ b < 0 + c then _ else _) = _
    rw [if_neg z, up_at, if_neg (fun q => by rw [q.1, q.2] at hab; cases hab), up_at, if_neg (fun q => by rw [q.1, q.2] at hab; cases hab)]
  have Bt : XGB gt c (n, hm, as) := by
    rw [hgt]
    refine ⟨?_, ?_, ?_, ?_, fun _ j hj => ?_⟩
    · show (if 9 = 96 ∧ 0 ≤ 15 ∧ 15 < 0 + c then _ else _) = _
      rw [if_neg (by (try clear n0); (try clear n1); (try clear n2); (try clear n3); (try clear n5); (try clear n6); (try clear n7); (try clear n8); (try clear n9); (try clear cp); omega), up_at, if_neg (by (try clear n0); (try clear n1); (try clear n2); (try clear n3); (try clear n5); (try clear n6); (try clear n7); (try clear n8); (try clear n9); (try clear cp); omega), up_at, if_pos ⟨rfl, rfl⟩]
    · show (if 9 = 96 ∧ 0 ≤ 16 ∧ 16 < 0 + c then _ else _) = _
      rw [if_neg (by (try clear n0); (try clear n1); (try clear n2); (try clear n3); (try clear n5); (try clear n6); (try clear n7); (try clear n8); (try clear n9); (try clear cp); omega), up_at, if_pos ⟨rfl, rfl⟩]
    · dsimp only; (try clear n0); (try clear n1); (try clear n2); (try clear n3); (try clear n5); (try clear n6); (try clear n7); (try clear n8); (try clear n9); (try clear cp); omega
    · dsimp only; (try clear n0); (try clear n1); (try clear n2); (try clear n3); (try clear n5); (try clear n6); (try clear n7); (try clear n8); (try clear n9); (try clear cp); omega
    · show (if 96 = 96 ∧ 0 ≤ j ∧ j < 0 + c then _ else _) = _
      rw [if_pos (by (try clear n0); (try clear n1); (try clear n2); (try clear n3); (try clear n5); (try clear n6); (try clear n7); (try clear n8); (try clear n9); (try clear cp); omega), up_at, if_neg (by (try clear n0); (try clear n1); (try clear n2); (try clear n3); (try clear n5); (try clear n6); (try clear n7); (try clear n8); (try clear n9); (try clear cp); omega), up_at, if_neg (by (try clear n0); (try clear n1); (try clear n2); (try clear n3); (try clear n5); (try clear n6); (try clear n7); (try clear n8); (try clear n9); (try clear cp); omega), show 0 + (j - 0) = j by (try clear n0); (try clear n1); (try clear n2); (try clear n3); (try clear n5); (try clear n6); (try clear n7); (try clear n8); (try clear n9); (try clear cp); omega]
      exact ha j hj
  have cp : (if 0 ≤ 0 ∧ 0 ≤ 0 ∧ 0 ≤ nw ((up (up g 9 15 n) 9 16 hm) 9 4) ∧ 0 + nw ((up (up g 9 15 n) 9 16 hm) 9 4) ≤ 8 ∧ 0 + nw ((up (up g 9 15 n) 9 16 hm) 9 4) ≤ 8 then (some (copyG (up (up g 9 15 n) 9 16 hm) 95 (ix 0) 96 (ix 0) (ix ((up (up g 9 15 n) 9 16 hm) 9 4))) >>= fun g8 => some g8) else none) = some gt := by
    rw [u, n7, n8, n9, if_pos (by (try clear n0); (try clear n1); (try clear n2); (try clear n3); (try clear n5); (try clear n6); (try clear n7); (try clear n8); (try clear n9); (try clear cp); omega), sb, ← hgt]
  have top : Bookings_compare n g = (if s.1 < n then some (0, gt) else if n = s.1 then (if hm ≤ s.2.1 then some (0, g) else some (0, gt)) else some (0, g)) := by
    rw [mh', Bookings_compare_b, n0, n1, if_pos (Int.le_refl _), n2, n3, n5, n6]
    by_cases y : s.1 < n
    · rw [if_pos y, if_pos y, sb, sb, cp, sb]
    · rw [if_neg y, if_neg y]
      by_cases x : n = s.1
      · rw [if_pos x, if_pos x]
        by_cases w : hm ≤ s.2.1
        · rw [if_pos w, if_pos w, sb]
        · rw [if_neg w, if_neg w, sb, sb, cp, sb]
      · rw [if_neg x, if_neg x, sb]
  rw [top, le]
  by_cases y : s.1 < n
  · rw [if_pos y, if_pos (Or.inl y)]
    exact ⟨gt, rfl, ft, Bt⟩
  · rw [if_neg y]
    by_cases x : n = s.1
    · rw [if_pos x]
      by_cases w : hm ≤ s.2.1
      · rw [if_pos w, if_neg (by (try clear n0); (try clear n1); (try clear n2); (try clear n3); (try clear n5); (try clear n6); (try clear n7); (try clear n8); (try clear n9); (try clear cp); omega)]
        exact ⟨g, rfl, Fr.rf, B⟩
      · rw [if_neg w, if_pos (Or.inr ⟨x, by (try clear n0); (try clear n1); (try clear n2); (try clear n3); (try clear n5); (try clear n6); (try clear n7); (try clear n8); (try clear n9); (try clear cp); omega⟩)]
        exact ⟨gt, rfl, ft, Bt⟩
    · rw [if_neg x, if_neg (by (try clear n0); (try clear n1); (try clear n2); (try clear n3); (try clear n5); (try clear n6); (try clear n7); (try clear n8); (try clear n9); (try clear cp); omega)]
      exact ⟨g, rfl, Fr.rf, B⟩
theorem X_gives_t {c : Nat} {bf bt bw bb hb hh : Nat → Int} {o : Nat → Nat} {k : Nat} {hp : Nat → Int} (K : BkOk c bf bt bw bb) (BT : BtOk k hb hh) (O : Ord c bw o) (H : Hop c bf bt bw bb hb hh o k hp) : ∀ (r f i : Nat) (n : Int) (wh bz as : Nat → Int) (s : GS) (g : AG), i + r = c → r + 1 ≤ f → XK g c bf bt bw bb hb hh o k hp → GI c bt bw hh o k i n wh bz → (∀ b, b < k → g 92 b = wh b ∧ g 93 b = bz b) → (∀ p, p < i → g 95 (o p) = as (o p)) → XGB g c s → ∃ g', Bookings_giveNext f i n g = some (0, g') ∧ FR RXG g g' ∧ (∀ b, b < k → g' 92 b = g 92 b ∧ g' 93 b = g 93 b) ∧ (∀ p, p < i → g' 95 (o p) = g 95 (o p)) ∧ XGB g' c (gS bf bt bw bb hb hh o k r i n wh bz as s) := by
  intro r
  induction r with
  | zero =>
    intro f i n wh bz as s g h hf D G hw ha B
    obtain ⟨f, rfl⟩ : ∃ f', f = f' + 1 := ⟨f - 1, by (try clear n0); (try clear n1); (try clear n2); (try clear n3); (try clear n5); (try clear n6); (try clear n7); (try clear n4); (try clear n8); (try clear m0); (try clear m1); (try clear m2); (try clear n9); omega⟩
    have hc := K.1
    have hk := BT.1
    have ei : i = c := by (try clear n0); (try clear n1); (try clear n2); (try clear n3); (try clear n5); (try clear n6); (try clear n7); (try clear n4); (try clear n8); (try clear m0); (try clear m1); (try clear m2); (try clear n9); omega
    subst ei
    have gn := G.1
    have dp := D.2.2.2.2 i (Nat.le_refl i)
    have as' : ∀ j, j < i → g 95 j = as j := fun j hj => by
      obtain ⟨p, hp, e⟩ := O.2.2 j hj
      rw [← e]
      exact ha p hp
    obtain ⟨gc, ec, fc, Bc⟩ := X_compare_s K BT D (wh := wh) (as := as) (n := n) (s := s) gn (fun b hb' => ⟨(hw b hb').1, (G.2.1 b hb').1⟩) as' B
    have b3 := B.2.2.1
    have b4 := B.2.2.2.1
    have n0 : nw (g 9 4) = i := by rw [D.1, nwN _ (by (try clear n0); (try clear n1); (try clear n2); (try clear n3); (try clear n5); (try clear n6); (try clear n7); (try clear n4); (try clear n8); (try clear m0); (try clear m1); (try clear m2); (try clear n9); omega)]
    have n1 : nw (i : Int) = i := nwN _ (by (try clear n0); (try clear n1); (try clear n2); (try clear n3); (try clear n5); (try clear n6); (try clear n7); (try clear n4); (try clear n8); (try clear m0); (try clear m1); (try clear m2); (try clear n9); omega)
    have n2 : ix (i : Int) = i := ixN _ (by (try clear n0); (try clear n1); (try clear n2); (try clear n3); (try clear n5); (try clear n6); (try clear n7); (try clear n4); (try clear n8); (try clear m0); (try clear m1); (try clear m2); (try clear n9); omega)
    have n3 : nw (n + hp i) = n + hp i := nw_id (by (try clear n0); (try clear n1); (try clear n2); (try clear n3); (try clear n5); (try clear n6); (try clear n7); (try clear n4); (try clear n8); (try clear m0); (try clear m1); (try clear m2); (try clear n9); omega) (by (try clear n0); (try clear n1); (try clear n2); (try clear n3); (try clear n5); (try clear n6); (try clear n7); (try clear n4); (try clear n8); (try clear m0); (try clear m1); (try clear m2); (try clear n9); omega)
    have n5 : nw (g 9 15) = s.1 := by rw [B.1]; exact nw_id (by (try clear n0); (try clear n1); (try clear n2); (try clear n3); (try clear n5); (try clear n6); (try clear n7); (try clear n4); (try clear n8); (try clear m0); (try clear m1); (try clear m2); (try clear n9); omega) (by (try clear n0); (try clear n1); (try clear n2); (try clear n3); (try clear n5); (try clear n6); (try clear n7); (try clear n4); (try clear n8); (try clear m0); (try clear m1); (try clear m2); (try clear n9); omega)
    have n6 : nw (g 9 16) = s.2.1 := by rw [B.2.1]; exact nw_id (by (try clear n0); (try clear n1); (try clear n2); (try clear n3); (try clear n5); (try clear n6); (try clear n7); (try clear n4); (try clear n8); (try clear m0); (try clear m1); (try clear m2); (try clear n9); omega) (by (try clear n0); (try clear n1); (try clear n2); (try clear n3); (try clear n5); (try clear n6); (try clear n7); (try clear n4); (try clear n8); (try clear m0); (try clear m1); (try clear m2); (try clear n9); omega)
    have n7 : nw (g 9 10) = k := by rw [D.2.1, nwN _ (by (try clear n0); (try clear n1); (try clear n2); (try clear n3); (try clear n5); (try clear n6); (try clear n7); (try clear n4); (try clear n8); (try clear m0); (try clear m1); (try clear m2); (try clear n9); omega)]
    have go : Bookings_giveNext_b (Bookings_giveNext f) i n 1 0 0 g = some (0, gc) := by
      rw [Bookings_giveNext_b.eq_1 _ _ _ 1, if_pos rfl, n0, n1, if_neg (Int.lt_irrefl _), ec, sb]
    have top : Bookings_giveNext (f + 1) i n g = (if n + hp i < s.1 then some (0, g) else if n + hp i = s.1 then (if s.2.1 < k then some (0, gc) else some (0, g)) else some (0, gc)) := by
      show Bookings_giveNext_s (Bookings_giveNext f) i n g = _
      unfold Bookings_giveNext_s
      rw [n1, n2, dp.1, n3, n5, n6, n7, go, if_pos (by (try clear n0); (try clear n1); (try clear n2); (try clear n3); (try clear n5); (try clear n6); (try clear n7); (try clear n4); (try clear n8); (try clear m0); (try clear m1); (try clear m2); (try clear n9); omega)]
    have went : FR RXG g gc ∧ (∀ b, b < k → gc 92 b = g 92 b ∧ gc 93 b = g 93 b) ∧ (∀ p, p < i → gc 95 (o p) = g 95 (o p)) ∧ XGB gc i (gS bf bt bw bb hb hh o k 0 i n wh bz as s) := ⟨FR.mo fc rfl, fun b _ => ⟨fc 92 b rfl, fc 93 b rfl⟩, fun p _ => fc 95 _ rfl, Bc⟩
    have stay : (n + hp i < s.1 ∨ (n + hp i = s.1 ∧ (k : Int) ≤ s.2.1)) → FR RXG g g ∧ (∀ b, b < k → g 92 b = g 92 b ∧ g 93 b = g 93 b) ∧ (∀ p, p < i → g 95 (o p) = g 95 (o p)) ∧ XGB g i (gS bf bt bw bb hb hh o k 0 i n wh bz as s) := fun q => ⟨Fr.rf, fun _ _ => ⟨rfl, rfl⟩, fun _ _ => rfl, by rw [gS_prune K O H 0 i n wh bz as s h G q]; exact B⟩
    rw [top]
    by_cases y : n + hp i < s.1
    · exact ⟨g, by rw [if_pos y], stay (Or.inl y)⟩
    · rw [if_neg y]
      by_cases x : n + hp i = s.1
      · rw [if_pos x]
        by_cases w : s.2.1 < k
        · exact ⟨gc, by rw [if_pos w], went⟩
        · exact ⟨g, by rw [if_neg w], stay (Or.inr ⟨x, by (try clear n0); (try clear n1); (try clear n2); (try clear n3); (try clear n5); (try clear n6); (try clear n7); (try clear n4); (try clear n8); (try clear m0); (try clear m1); (try clear m2); (try clear n9); omega⟩)⟩
      · exact ⟨gc, by rw [if_neg x], went⟩
  | succ r ih =>
    intro f i n wh bz as s g h hf D G hw ha B
    obtain ⟨f, rfl⟩ : ∃ f', f = f' + 1 := ⟨f - 1, by (try clear n0); (try clear n1); (try clear n2); (try clear n3); (try clear n5); (try clear n6); (try clear n7); (try clear n4); (try clear n8); (try clear m0); (try clear m1); (try clear m2); (try clear n9); omega⟩
    have hc := K.1
    have hk := BT.1
    have hi : i < c := by (try clear n0); (try clear n1); (try clear n2); (try clear n3); (try clear n5); (try clear n6); (try clear n7); (try clear n4); (try clear n8); (try clear m0); (try clear m1); (try clear m2); (try clear n9); omega
    have hoi := O.1 i hi
    have hj := K.2 (o i) hoi
    have d := D.2.2.1 i hi
    have gn := G.1
    have dp := D.2.2.2.2 i (by (try clear n0); (try clear n1); (try clear n2); (try clear n3); (try clear n5); (try clear n6); (try clear n7); (try clear n4); (try clear n8); (try clear m0); (try clear m1); (try clear m2); (try clear n9); omega)
    have b3 := B.2.2.1
    have b4 := B.2.2.2.1
    have n0 : nw (g 9 4) = c := by rw [D.1, nwN _ (by (try clear n0); (try clear n1); (try clear n2); (try clear n3); (try clear n5); (try clear n6); (try clear n7); (try clear n4); (try clear n8); (try clear m0); (try clear m1); (try clear m2); (try clear n9); omega)]
    have n1 : nw (i : Int) = i := nwN _ (by (try clear n0); (try clear n1); (try clear n2); (try clear n3); (try clear n5); (try clear n6); (try clear n7); (try clear n4); (try clear n8); (try clear m0); (try clear m1); (try clear m2); (try clear n9); omega)
    have n2 : ix (i : Int) = i := ixN _ (by (try clear n0); (try clear n1); (try clear n2); (try clear n3); (try clear n5); (try clear n6); (try clear n7); (try clear n4); (try clear n8); (try clear m0); (try clear m1); (try clear m2); (try clear n9); omega)
    have n3 : nw ((o i : Nat) : Int) = (o i : Nat) := nwN _ (by (try clear n0); (try clear n1); (try clear n2); (try clear n3); (try clear n5); (try clear n6); (try clear n7); (try clear n4); (try clear n8); (try clear m0); (try clear m1); (try clear m2); (try clear n9); omega)
    have n4 : ix ((o i : Nat) : Int) = o i := ixN _ (by (try clear n0); (try clear n1); (try clear n2); (try clear n3); (try clear n5); (try clear n6); (try clear n7); (try clear n4); (try clear n8); (try clear m0); (try clear m1); (try clear m2); (try clear n9); omega)
    have n5 : nw (n + hp i) = n + hp i := nw_id (by (try clear n0); (try clear n1); (try clear n2); (try clear n3); (try clear n5); (try clear n6); (try clear n7); (try clear n4); (try clear n8); (try clear m0); (try clear m1); (try clear m2); (try clear n9); omega) (by (try clear n0); (try clear n1); (try clear n2); (try clear n3); (try clear n5); (try clear n6); (try clear n7); (try clear n4); (try clear n8); (try clear m0); (try clear m1); (try clear m2); (try clear n9); omega)
    have n6 : nw (g 9 15) = s.1 := by rw [B.1]; exact nw_id (by (try clear n0); (try clear n1); (try clear n2); (try clear n3); (try clear n5); (try clear n6); (try clear n7); (try clear n4); (try clear n8); (try clear m0); (try clear m1); (try clear m2); (try clear n9); omega) (by (try clear n0); (try clear n1); (try clear n2); (try clear n3); (try clear n5); (try clear n6); (try clear n7); (try clear n4); (try clear n8); (try clear m0); (try clear m1); (try clear m2); (try clear n9); omega)
    have n7 : nw (g 9 16) = s.2.1 := by rw [B.2.1]; exact nw_id (by (try clear n0); (try clear n1); (try clear n2); (try clear n3); (try clear n5); (try clear n6); (try clear n7); (try clear n4); (try clear n8); (try clear m0); (try clear m1); (try clear m2); (try clear n9); omega) (by (try clear n0); (try clear n1); (try clear n2); (try clear n3); (try clear n5); (try clear n6); (try clear n7); (try clear n4); (try clear n8); (try clear m0); (try clear m1); (try clear m2); (try clear n9); omega)
    have n8 : nw (g 9 10) = k := by rw [D.2.1, nwN _ (by (try clear n0); (try clear n1); (try clear n2); (try clear n3); (try clear n5); (try clear n6); (try clear n7); (try clear n4); (try clear n8); (try clear m0); (try clear m1); (try clear m2); (try clear n9); omega)]
    have inj : ∀ p, p < i → o p ≠ o i := fun p hp e => by
      have := O.inj (show p < c by (try clear n0); (try clear n1); (try clear n2); (try clear n3); (try clear n5); (try clear n6); (try clear n7); (try clear n4); (try clear n8); (try clear m0); (try clear m1); (try clear m2); (try clear n9); omega) hi e
      (try clear n0); (try clear n1); (try clear n2); (try clear n3); (try clear n5); (try clear n6); (try clear n7); (try clear n4); (try clear n8); (try clear m0); (try clear m1); (try clear m2); (try clear n9); omega
    have go : Bookings_giveNext_b (Bookings_giveNext f) i n 1 0 0 g = Bookings_giveNext_b (Bookings_giveNext f) i n 2 (o i : Nat) 0 g := by
      rw [Bookings_giveNext_b.eq_1 _ _ _ 1, if_pos rfl, n0, n1, n2, if_pos (by (try clear n0); (try clear n1); (try clear n2); (try clear n3); (try clear n5); (try clear n6); (try clear n7); (try clear n4); (try clear n8); (try clear m0); (try clear m1); (try clear m2); (try clear n9); omega), if_pos (by (try clear n0); (try clear n1); (try clear n2); (try clear n3); (try clear n5); (try clear n6); (try clear n7); (try clear n4); (try clear n8); (try clear m0); (try clear m1); (try clear m2); (try clear n9); omega), d.2.2.2.2]
    have top : Bookings_giveNext (f + 1) i n g = (if n + hp i < s.1 then some (0, g) else if n + hp i = s.1 then (if s.2.1 < k then Bookings_giveNext_b (Bookings_giveNext f) i n 2 (o i : Nat) 0 g else some (0, g)) else Bookings_giveNext_b (Bookings_giveNext f) i n 2 (o i : Nat) 0 g) := by
      show Bookings_giveNext_s (Bookings_giveNext f) i n g = _
      unfold Bookings_giveNext_s
      rw [n1, n2, dp.1, n5, n6, n7, n8, go, if_pos (by (try clear n0); (try clear n1); (try clear n2); (try clear n3); (try clear n5); (try clear n6); (try clear n7); (try clear n4); (try clear n8); (try clear m0); (try clear m1); (try clear m2); (try clear n9); omega)]
    have loop : ∀ (q b : Nat) (s : GS) (g1 : AG), b + q = k → XK g1 c bf bt bw bb hb hh o k hp → (∀ b, b < k → g1 92 b = wh b ∧ g1 93 b = bz b) → (∀ p, p < i → g1 95 (o p) = as (o p)) → XGB g1 c s → ∃ g', Bookings_giveNext_b (Bookings_giveNext f) i n 2 (o i : Nat) b g1 = Bookings_giveNext_b (Bookings_giveNext f) i n 2 (o i : Nat) k g' ∧ FR RXG g1 g' ∧ (∀ b, b < k → g' 92 b = g1 92 b ∧ g' 93 b = g1 93 b) ∧ (∀ p, p < i → g' 95 (o p) = g1 95 (o p)) ∧ XGB g' c (tR (fun b s => if gOk bf bw bb hb wh bz (o i) b then gS bf bt bw bb hb hh o k r (i + 1) (n + 1) (uv wh b (bt (o i))) (uv bz b (bw (o i))) (uv as (o i) (b : Nat)) s else s) q b s) := by
      intro q
      induction q with
      | zero =>
        intro b s g1 hq D1 hw1 ha1 B1
        exact ⟨g1, by rw [show b = k by (try clear n0); (try clear n1); (try clear n2); (try clear n3); (try clear n5); (try clear n6); (try clear n7); (try clear n4); (try clear n8); (try clear m0); (try clear m1); (try clear m2); (try clear n9); omega], Fr.rf, fun _ _ => ⟨rfl, rfl⟩, fun _ _ => rfl, B1⟩
      | succ q ihq =>
        intro b s g1 hq D1 hw1 ha1 B1
        have hbk : b < k := by (try clear n0); (try clear n1); (try clear n2); (try clear n3); (try clear n5); (try clear n6); (try clear n7); (try clear n4); (try clear n8); (try clear m0); (try clear m1); (try clear m2); (try clear n9); omega
        have w1 := hw1 b hbk
        have gb := G.2.1 b hbk
        have d1 := D1.2.2.1 (o i) hoi
        have hv := X_have_s K BT D1 (wh := wh) (bz := bz) hbk hoi w1 gb
        have m0 : nw (g1 9 10) = k := by rw [D1.2.1, nwN _ (by (try clear n0); (try clear n1); (try clear n2); (try clear n3); (try clear n5); (try clear n6); (try clear n7); (try clear n4); (try clear n8); (try clear m0); (try clear m1); (try clear m2); (try clear n9); omega)]
        have m1 : nw (b : Int) = b := nwN _ (by (try clear n0); (try clear n1); (try clear n2); (try clear n3); (try clear n5); (try clear n6); (try clear n7); (try clear n4); (try clear n8); (try clear m0); (try clear m1); (try clear m2); (try clear n9); omega)
        have m2 : ix (b : Int) = b := ixN _ (by (try clear n0); (try clear n1); (try clear n2); (try clear n3); (try clear n5); (try clear n6); (try clear n7); (try clear n4); (try clear n8); (try clear m0); (try clear m1); (try clear m2); (try clear n9); omega)
        have top2 : Bookings_giveNext_b (Bookings_giveNext f) i n 2 (o i : Nat) b g1 = (if gOk bf bw bb hb wh bz (o i) b then (Bookings_giveNext f ((i : Int) + 1) (n + 1) (up (up (up g1 95 (o i) b) 92 b (bt (o i))) 93 b (bw (o i))) >>= fun r18 => Bookings_giveNext_b (Bookings_giveNext f) i n 2 (o i : Nat) ((b : Int) + 1) (up (up r18.2 92 b (wh b)) 93 b (bz b))) else Bookings_giveNext_b (Bookings_giveNext f) i n 2 (o i : Nat) ((b : Int) + 1) g1) := by
          have u1 : (up g1 95 (o i) b) 86 (o i) = bt (o i) := by rw [up_at, if_neg (fun q => absurd q.1 (by decide))]; exact d1.2.1
          have u2 : (up (up g1 95 (o i) b) 92 b (bt (o i))) 87 (o i) = bw (o i) := by rw [up_at, if_neg (fun q => absurd q.1 (by decide)), up_at, if_neg (fun q => absurd q.1 (by decide))]; exact d1.2.2.1
          rw [Bookings_giveNext_b.eq_1 _ _ _ 2, m0, m1, m2, n3, n4, hv, w1.1, w1.2, if_neg (by decide), if_pos rfl, if_neg (by (try clear n0); (try clear n1); (try clear n2); (try clear n3); (try clear n5); (try clear n6); (try clear n7); (try clear n4); (try clear n8); (try clear m0); (try clear m1); (try clear m2); (try clear n9); omega), sb]
          by_cases ok : gOk bf bw bb hb wh bz (o i) b
          · rw [if_pos ok, if_pos ok, nw_1, if_neg (by decide), if_pos (by (try clear n0); (try clear n1); (try clear n2); (try clear n3); (try clear n5); (try clear n6); (try clear n7); (try clear n4); (try clear n8); (try clear m0); (try clear m1); (try clear m2); (try clear n9); omega), if_pos (by (try clear n0); (try clear n1); (try clear n2); (try clear n3); (try clear n5); (try clear n6); (try clear n7); (try clear n4); (try clear n8); (try clear m0); (try clear m1); (try clear m2); (try clear n9); omega), sb, u1, sb, u2, sb]
            cases Bookings_giveNext f ((i : Int) + 1) (n + 1) (up (up (up g1 95 (o i) b) 92 b (bt (o i))) 93 b (bw (o i))) with
            | none => rfl
            | some r18 => rfl
          · rw [if_neg ok, if_neg ok, nw_0, if_pos rfl, sb]
        rw [top2]
        by_cases ok : gOk bf bw bb hb wh bz (o i) b
        · rw [if_pos ok]
          obtain ⟨g16, hg16⟩ : ∃ g16 : AG, g16 = up (up (up g1 95 (o i) b) 92 b (bt (o i))) 93 b (bw (o i)) := ⟨_, rfl⟩
          rw [← hg16]
          have f16 : FR RXG g1 g16 := by rw [hg16]; exact Fr.up (Fr.up (Fr.up Fr.rf rfl) rfl) rfl
          have v92 : ∀ x, g16 92 x = if x = b then bt (o i) else g1 92 x := fun x => by
            rw [hg16, up_at, if_neg (fun q => absurd q.1 (by decide)), up_at]
            by_cases y : x = b
            · rw [if_pos ⟨rfl, y⟩, if_pos y]
            · rw [if_neg (fun q => y q.2), if_neg y, up_at, if_neg (fun q => absurd q.1 (by decide))]
          have v93 : ∀ x, g16 93 x = if x = b then bw (o i) else g1 93 x := fun x => by
            rw [hg16, up_at]
            by_cases y : x = b
            · rw [if_pos ⟨rfl, y⟩, if_pos y]
            · rw [if_neg (fun q => y q.2), if_neg y, up_at, if_neg (fun q => absurd q.1 (by decide)), up_at, if_neg (fun q => absurd q.1 (by decide))]
          have v95 : ∀ x, g16 95 x = if x = o i then (b : Int) else g1 95 x := fun x => by
            rw [hg16, up_at, if_neg (fun q => absurd q.1 (by decide)), up_at, if_neg (fun q => absurd q.1 (by decide)), up_at]
            by_cases y : x = o i
            · rw [if_pos ⟨rfl, y⟩, if_pos y]
            · rw [if_neg (fun q => y q.2), if_neg y]
          obtain ⟨g18, e18, f18, k18, p18, B18⟩ := ih f (i + 1) (n + 1) (uv wh b (bt (o i))) (uv bz b (bw (o i))) (uv as (o i) (b : Nat)) s g16 (by (try clear n0); (try clear n1); (try clear n2); (try clear n3); (try clear n5); (try clear n6); (try clear n7); (try clear n4); (try clear n8); (try clear m0); (try clear m1); (try clear m2); (try clear n9); omega) (by (try clear n0); (try clear n1); (try clear n2); (try clear n3); (try clear n5); (try clear n6); (try clear n7); (try clear n4); (try clear n8); (try clear m0); (try clear m1); (try clear m2); (try clear n9); omega) (D1.fr f16) (G.some K O hi b) (fun x hx => by
            rw [v92, v93]
            unfold uv
            by_cases y : x = b
            · rw [if_pos y, if_pos y, if_pos y, if_pos y]; exact ⟨rfl, rfl⟩
            · rw [if_neg y, if_neg y, if_neg y, if_neg y]; exact hw1 x hx) (fun p hp => by
            rw [v95]
            unfold uv
            by_cases y : p = i
            · rw [y, if_pos rfl, if_pos rfl]
            · rw [if_neg (inj p (by (try clear n0); (try clear n1); (try clear n2); (try clear n3); (try clear n5); (try clear n6); (try clear n7); (try clear n4); (try clear n8); (try clear m0); (try clear m1); (try clear m2); (try clear n9); omega)), if_neg (inj p (by (try clear n0); (try clear n1); (try clear n2); (try clear n3); (try clear n5); (try clear n6); (try clear n7); (try clear n4); (try clear n8); (try clear m0); (try clear m1); (try clear m2); (try clear n9); omega))]; exact ha1 p (by (try clear n0); (try clear n1); (try clear n2); (try clear n3); (try clear n5); (try clear n6); (try clear n7); (try clear n4); (try clear n8); (try clear m0); (try clear m1); (try clear m2); (try clear n9); omega)) (by
            rw [hg16]
            refine ⟨?_, ?_, B1.2.2.1, B1.2.2.2.1, fun z j hj => ?_⟩
            · rw [up_at, if_neg (fun q => absurd q.1 (by decide)), up_at, if_neg (fun q => absurd q.1 (by decide)), up_at, if_neg (fun q => absurd q.1 (by decide))]; exact B1.1
            · rw [up_at, if_neg (fun q => absurd q.1 (by decide)), up_at, if_neg (fun q => absurd q.1 (by decide)), up_at, if_neg (fun q => absurd q.1 (by decide))]; exact B1.2.1
            · rw [up_at, if_neg (fun q => absurd q.1 (by decide)), up_at, if_neg (fun q => absurd q.1 (by decide)), up_at, if_neg (fun q => absurd q.1 (by decide))]; exact B1.2.2.2.2 z j hj)
          have e18' : Bookings_giveNext f ((i : Int) + 1) (n + 1) g16 = some (0, g18) := e18
          rw [e18', sb]
          obtain ⟨g22, hg22⟩ : ∃ g22 : AG, g22 = up (up g18 92 b (wh b)) 93 b (bz b) := ⟨_, rfl⟩
          have f22 : FR RXG g1 g22 := by rw [hg22]; exact Fr.up (Fr.up (f16.tr f18) rfl) rfl
          have k22 : ∀ x, x < k → g22 92 x = g1 92 x ∧ g22 93 x = g1 93 x := fun x hx => by
            have kk := k18 x hx
            rw [v92, v93] at kk
            rw [hg22]
            by_cases y : x = b
            · subst y
              refine ⟨?_, ?_⟩
              · rw [up_at, if_neg (fun q => absurd q.1 (by decide)), up_at, if_pos ⟨rfl, rfl⟩]; exact w1.1.symm
              · rw [up_at, if_pos ⟨rfl, rfl⟩]; exact w1.2.symm
            · rw [if_neg y, if_neg y] at kk
              refine ⟨?_, ?_⟩
              · rw [up_at, if_neg (fun q => absurd q.1 (by decide)), up_at, if_neg (fun q => y q.2)]; exact kk.1
              · rw [up_at, if_neg (fun q => y q.2), up_at, if_neg (fun q => absurd q.1 (by decide))]; exact kk.2
          have p22 : ∀ p, p < i → g22 95 (o p) = g1 95 (o p) := fun p hp => by
            rw [hg22, up_at, if_neg (fun q => absurd q.1 (by decide)), up_at, if_neg (fun q => absurd q.1 (by decide)), p18 p (by (try clear n0); (try clear n1); (try clear n2); (try clear n3); (try clear n5); (try clear n6); (try clear n7); (try clear n4); (try clear n8); (try clear m0); (try clear m1); (try clear m2); (try clear n9); omega), v95, if_neg (inj p hp)]
          obtain ⟨g', e', f', k', p', B'⟩ := ihq (b + 1) _ g22 (by (try clear n0); (try clear n1); (try clear n2); (try clear n3); (try clear n5); (try clear n6); (try clear n7); (try clear n4); (try clear n8); (try clear m0); (try clear m1); (try clear m2); (try clear n9); omega) (D1.fr f22) (fun x hx => by rw [(k22 x hx).1, (k22 x hx).2]; exact hw1 x hx) (fun p hp => by rw [p22 p hp]; exact ha1 p hp) (show XGB g22 c (gS bf bt bw bb hb hh o k r (i + 1) (n + 1) (uv wh b (bt (o i))) (uv bz b (bw (o i))) (uv as (o i) (b : Nat)) s) by
            rw [hg22]
            refine ⟨?_, ?_, B18.2.2.1, B18.2.2.2.1, fun z j hj => ?_⟩
            · rw [up_at, if_neg (fun q => absurd q.1 (by decide)), up_at, if_neg (fun q => absurd q.1 (by decide))]; exact B18.1
            · rw [up_at, if_neg (fun q => absurd q.1 (by decide)), up_at, if_neg (fun q => absurd q.1 (by decide))]; exact B18.2.1
            · rw [up_at, if_neg (fun q => absurd q.1 (by decide)), up_at, if_neg (fun q => absurd q.1 (by decide))]; exact B18.2.2.2.2 z j hj)
          refine ⟨g', ?_, f22.tr f', fun x hx => by rw [(k' x hx).1, (k' x hx).2]; exact k22 x hx, fun p hp => by rw [p' p hp, p22 p hp], ?_⟩
          · dsimp only
            rw [← hg22]
            exact e'
          · unfold tR
            rw [if_pos ok]
            exact B'
        · rw [if_neg ok]
          obtain ⟨g', e', f', k', p', B'⟩ := ihq (b + 1) s g1 (by (try clear n0); (try clear n1); (try clear n2); (try clear n3); (try clear n5); (try clear n6); (try clear n7); (try clear n4); (try clear n8); (try clear m0); (try clear m1); (try clear m2); (try clear n9); omega) D1 hw1 ha1 B1
          refine ⟨g', e', f', k', p', ?_⟩
          unfold tR
          rw [if_neg ok]
          exact B'
    have went : ∃ g', Bookings_giveNext_b (Bookings_giveNext f) i n 2 (o i : Nat) 0 g = some (0, g') ∧ FR RXG g g' ∧ (∀ b, b < k → g' 92 b = g 92 b ∧ g' 93 b = g 93 b) ∧ (∀ p, p < i → g' 95 (o p) = g 95 (o p)) ∧ XGB g' c (gS bf bt bw bb hb hh o k (r + 1) i n wh bz as s) := by
      obtain ⟨g2, e2, f2, k2, p2, B2⟩ := loop k 0 s g (by (try clear n0); (try clear n1); (try clear n2); (try clear n3); (try clear n5); (try clear n6); (try clear n7); (try clear n4); (try clear n8); (try clear m0); (try clear m1); (try clear m2); (try clear n9); omega) D hw ha B
      obtain ⟨g3, hg3⟩ : ∃ g3 : AG, g3 = up g2 95 (o i) (-1) := ⟨_, rfl⟩
      have f3 : FR RXG g g3 := by rw [hg3]; exact Fr.up f2 rfl
      have k3 : ∀ x, x < k → g3 92 x = g 92 x ∧ g3 93 x = g 93 x := fun x hx => by
        rw [hg3, up_at, if_neg (fun q => absurd q.1 (by decide)), up_at, if_neg (fun q => absurd q.1 (by decide))]
        exact k2 x hx
      have p3 : ∀ p, p < i → g3 95 (o p) = g 95 (o p) := fun p hp => by
        rw [hg3, up_at, if_neg (fun q => inj p hp q.2)]
        exact p2 p hp
      obtain ⟨g', e', f', k', p', B'⟩ := ih f (i + 1) n wh bz (uv as (o i) (-1)) _ g3 (by (try clear n0); (try clear n1); (try clear n2); (try clear n3); (try clear n5); (try clear n6); (try clear n7); (try clear n4); (try clear n8); (try clear m0); (try clear m1); (try clear m2); (try clear n9); omega) (by (try clear n0); (try clear n1); (try clear n2); (try clear n3); (try clear n5); (try clear n6); (try clear n7); (try clear n4); (try clear n8); (try clear m0); (try clear m1); (try clear m2); (try clear n9); omega) (D.fr f3) G.none (fun x hx => by rw [(k3 x hx).1, (k3 x hx).2]; exact hw x hx) (fun p hp => by
        by_cases y : p = i
        · rw [y, uv_at, hg3, up_at, if_pos ⟨rfl, rfl⟩]
        · rw [uv_ne (inj p (by (try clear n0); (try clear n1); (try clear n2); (try clear n3); (try clear n5); (try clear n6); (try clear n7); (try clear n4); (try clear n8); (try clear m0); (try clear m1); (try clear m2); (try clear n9); omega)), p3 p (by (try clear n0); (try clear n1); (try clear n2); (try clear n3); (try clear n5); (try clear n6); (try clear n7); (try clear n4); (try clear n8); (try clear m0); (try clear m1); (try clear m2); (try clear n9); omega)]; exact ha p (by (try clear n0); (try clear n1); (try clear n2); (try clear n3); (try clear n5); (try clear n6); (try clear n7); (try clear n4); (try clear n8); (try clear m0); (try clear m1); (try clear m2); (try clear n9); omega)) (show XGB g3 c _ by
        rw [hg3]
        refine ⟨?_, ?_, B2.2.2.1, B2.2.2.2.1, fun z j hj => ?_⟩
        · rw [up_at, if_neg (fun q => absurd q.1 (by decide))]; exact B2.1
        · rw [up_at, if_neg (fun q => absurd q.1 (by decide))]; exact B2.2.1
        · rw [up_at, if_neg (fun q => absurd q.1 (by decide))]; exact B2.2.2.2.2 z j hj)
      refine ⟨g', ?_, f3.tr f', fun x hx => by rw [(k' x hx).1, (k' x hx).2]; exact k3 x hx, fun p hp => by rw [p' p (by (try clear n0); (try clear n1); (try clear n2); (try clear n3); (try clear n5); (try clear n6); (try clear n7); (try clear n4); (try clear n8); (try clear m0); (try clear m1); (try clear m2); (try clear n9); omega), p3 p hp], B'⟩
      have m0 : nw (g2 9 10) = k := by rw [f2 9 10 rfl]; exact n8
      have n9 : nw (k : Int) = k := nwN _ (by (try clear n0); (try clear n1); (try clear n2); (try clear n3); (try clear n5); (try clear n6); (try clear n7); (try clear n4); (try clear n8); (try clear m0); (try clear m1); (try clear m2); (try clear n9); omega)
      have e2' : Bookings_giveNext_b (Bookings_giveNext f) i n 2 (o i : Nat) 0 g = Bookings_giveNext_b (Bookings_giveNext f) i n 2 (o i : Nat) k g2 := e2
      have e3' : Bookings_giveNext f ((i : Int) + 1) n g3 = some (0, g') := e'
      rw [e2', Bookings_giveNext_b.eq_1 _ _ _ 2, m0, n9, n3, n4, if_neg (by decide), if_pos rfl, if_pos (Int.le_refl _), if_pos (by (try clear n0); (try clear n1); (try clear n2); (try clear n3); (try clear n5); (try clear n6); (try clear n7); (try clear n4); (try clear n8); (try clear m0); (try clear m1); (try clear m2); (try clear n9); omega), sb, ← hg3, e3', sb]
    have stay : (n + hp i < s.1 ∨ (n + hp i = s.1 ∧ (k : Int) ≤ s.2.1)) → ∃ g', some ((0 : Int), g) = some (0, g') ∧ FR RXG g g' ∧ (∀ b, b < k → g' 92 b = g 92 b ∧ g' 93 b = g 93 b) ∧ (∀ p, p < i → g' 95 (o p) = g 95 (o p)) ∧ XGB g' c (gS bf bt bw bb hb hh o k (r + 1) i n wh bz as s) := fun q => ⟨g, rfl, Fr.rf, fun _ _ => ⟨rfl, rfl⟩, fun _ _ => rfl, by rw [gS_prune K O H (r + 1) i n wh bz as s h G q]; exact B⟩
    rw [top]
    by_cases y : n + hp i < s.1
    · rw [if_pos y]
      exact stay (Or.inl y)
    · rw [if_neg y]
      by_cases x : n + hp i = s.1
      · rw [if_pos x]
        by_cases w : s.2.1 < k
        · rw [if_pos w]
          exact went
        · rw [if_neg w]
          exact stay (Or.inr ⟨x, by (try clear n0); (try clear n1); (try clear n2); (try clear n3); (try clear n5); (try clear n6); (try clear n7); (try clear n4); (try clear n8); (try clear m0); (try clear m1); (try clear m2); (try clear n9); omega⟩)
      · rw [if_neg x]
        exact went
