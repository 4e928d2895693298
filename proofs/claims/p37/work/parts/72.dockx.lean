/-! plain programs: the dock, the class -/
def XD (g : AG) (dy dt : Nat → Int) (bl : Nat → Nat) (c : Nat) : Prop := g 10 2 = c ∧ ∀ i, i < c → g 99 i = bl i ∧ bl i < 10 ∧ g 98 (bl i) = dy i ∧ g 97 (bl i) = dt i
abbrev RXD : Reg := [(100, 0), (101, 0), (102, 0)]
theorem XD.fr {g g' : AG} {dy dt : Nat → Int} {bl : Nat → Nat} {c : Nat} (h : XD g dy dt bl c) (f : FR RXD g g') : XD g' dy dt bl c := ⟨by rw [f 10 2 rfl]; exact h.1, fun i hi => by rw [f 99 i rfl, f 98 _ rfl, f 97 _ rfl]; exact h.2 i hi⟩
theorem X_day_s {dy dt : Nat → Int} {bl : Nat → Nat} {c : Nat} (K : DkOk dy dt c) {g : AG} (X : XD g dy dt bl c) {m : Nat} (hm : m < 2 ^ c) : ∀ (n i : Nat), i + n = c → Yard_chooseNext_b m 1 (dkDay dy m i) i g = Yard_chooseNext_b m 1 (dkDay dy m c) c g := by
  intro n
  induction n with
  | zero => intro i h; rw [show i = c by (try clear n0); (try clear n1); (try clear n2); (try clear n3); (try clear n4); (try clear hb); omega]
  | succ n ih =>
    intro i h
    have hc := K.1
    have p2 := mk_p2 c (by (try clear n0); (try clear n1); (try clear n2); (try clear n3); (try clear n4); (try clear hb); omega)
    have x := X.2 i (by (try clear n0); (try clear n1); (try clear n2); (try clear n3); (try clear n4); (try clear hb); omega)
    have e2 := ih (i + 1) (by (try clear n0); (try clear n1); (try clear n2); (try clear n3); (try clear n4); (try clear hb); omega)
    have n0 : nw (g 10 2) = c := by rw [X.1, nwN _ (by (try clear n0); (try clear n1); (try clear n2); (try clear n3); (try clear n4); (try clear hb); omega)]
    have n1 : nw (i : Int) = i := nwN _ (by (try clear n0); (try clear n1); (try clear n2); (try clear n3); (try clear n4); (try clear hb); omega)
    have n2 : ix (i : Int) = i := ixN _ (by (try clear n0); (try clear n1); (try clear n2); (try clear n3); (try clear n4); (try clear hb); omega)
    have n3 : nw ((bl i : Nat) : Int) = (bl i : Nat) := nwN _ (by (try clear n0); (try clear n1); (try clear n2); (try clear n3); (try clear n4); (try clear hb); omega)
    have n4 : ix ((bl i : Nat) : Int) = bl i := ixN _ (by (try clear n0); (try clear n1); (try clear n2); (try clear n3); (try clear n4); (try clear hb); omega)
    have hb := bit_q m i (by (try clear n0); (try clear n1); (try clear n2); (try clear n3); (try clear n4); (try clear hb); omega)
    rw [mk_tb m (by (try clear n0); (try clear n1); (try clear n2); (try clear n3); (try clear n4); (try clear hb); omega) i (by (try clear n0); (try clear n1); (try clear n2); (try clear n3); (try clear n4); (try clear hb); omega)] at hb
    rw [← e2, Yard_chooseNext_b.eq_1 _ 1, n0, n1, n2, hb, x.1, n3, n4, x.2.2.1]
    clear n0 n1 n2 n3 n4 hb
    rw [if_pos rfl, if_neg (by (try clear n0); (try clear n1); (try clear n2); (try clear n3); (try clear n4); (try clear hb); omega)]
    show _ = Yard_chooseNext_b m 1 (dkDay dy m i + (if m.testBit i = true then dy i else 0)) ((i : Int) + 1) g
    by_cases z : m.testBit i = true
    · rw [if_pos z, if_pos z, if_neg (by decide), if_pos (by (try clear n0); (try clear n1); (try clear n2); (try clear n3); (try clear n4); (try clear hb); omega), if_pos (by (try clear n0); (try clear n1); (try clear n2); (try clear n3); (try clear n4); (try clear hb); omega), sb]
    · rw [if_neg z, if_neg z, if_pos rfl, sb]
/-- what is told of the best way on from a set, as it stands in the rows -/
def XN (g : AG) (m : Nat) (s : Option (Int × Int × Nat)) : Prop := (s = none ∧ g 102 m = -1) ∨ ∃ p, s = some p ∧ g 100 m = p.1 ∧ g 101 m = p.2.1 ∧ g 102 m = (p.2.2 : Nat)
def ATM (m : Nat) (g g' : AG) : Prop := ∀ k i, ¬ ((k = 100 ∨ k = 101 ∨ k = 102) ∧ i = m) → g' k i = g k i
theorem ATM.fr {m : Nat} {g g' : AG} (h : ATM m g g') : FR RXD g g' := fun k i q => h k i (fun z => by
  rcases z.1 with e | e | e <;> rw [e] at q <;> cases q)
theorem ATM.tr {m : Nat} {g g' g'' : AG} (h : ATM m g g') (h2 : ATM m g' g'') : ATM m g g'' := fun k i q => (h2 k i q).trans (h k i q)
theorem ATM.up {m k : Nat} {g g' : AG} {v : Int} (h : ATM m g g') (hk : k = 100 ∨ k = 101 ∨ k = 102) : ATM m g (up g' k m v) := fun a i q => by
  rw [up_at, if_neg (fun z => q ⟨by rw [z.1]; exact hk, z.2⟩)]
  exact h a i q
theorem X_choose_s {dy dt : Nat → Int} {bl : Nat → Nat} {c : Nat} (K : DkOk dy dt c) {T : Nat → Int × Int} {m : Nat} (hm : m < 2 ^ c) (hT : ∀ x, m < x → x < 2 ^ c → (0 ≤ (T x).1 ∧ (T x).1 ≤ c - mk_n x c) ∧ (0 ≤ (T x).2 ∧ (T x).2 ≤ 420 * (c - mk_n x c))) : ∀ (n i : Nat) (g : AG), i + n = c → XD g dy dt bl c → (∀ x, m < x → x < 2 ^ c → g 100 x = (T x).1 ∧ g 101 x = (T x).2) → XN g m (dkStep dy dt T c m i) → ∃ g', Yard_chooseNext_b m 2 (dkDay dy m c) i g = some (0, g') ∧ ATM m g g' ∧ XN g' m (dkStep dy dt T c m c) := by
  intro n
  induction n with
  | zero =>
    intro i g h X hg hN
    have hc := K.1
    refine ⟨g, ?_, fun _ _ _ => rfl, by rw [← show i = c by (try clear n0); (try clear n1); (try clear n2); (try clear n3); (try clear n4); (try clear n5); (try clear n6); (try clear n7); (try clear n8); (try clear n9); (try clear n10); (try clear n11); (try clear n12); (try clear m1); (try clear m2); (try clear m3); (try clear body); (try clear hb); (try clear hor); omega]; rw [← show i = c by (try clear n0); (try clear n1); (try clear n2); (try clear n3); (try clear n4); (try clear n5); (try clear n6); (try clear n7); (try clear n8); (try clear n9); (try clear n10); (try clear n11); (try clear n12); (try clear m1); (try clear m2); (try clear m3); (try clear body); (try clear hb); (try clear hor); omega] at hN; exact (show i = c by (try clear n0); (try clear n1); (try clear n2); (try clear n3); (try clear n4); (try clear n5); (try clear n6); (try clear n7); (try clear n8); (try clear n9); (try clear n10); (try clear n11); (try clear n12); (try clear m1); (try clear m2); (try clear m3); (try clear body); (try clear hb); (try clear hor); omega) ▸ hN⟩
    rw [Yard_chooseNext_b.eq_1 _ 2, if_neg (by decide), if_pos rfl, if_pos (by rw [X.1, nwN _ (by (try clear n0); (try clear n1); (try clear n2); (try clear n3); (try clear n4); (try clear n5); (try clear n6); (try clear n7); (try clear n8); (try clear n9); (try clear n10); (try clear n11); (try clear n12); (try clear m1); (try clear m2); (try clear m3); (try clear body); (try clear hb); (try clear hor); omega), nwN _ (by (try clear n0); (try clear n1); (try clear n2); (try clear n3); (try clear n4); (try clear n5); (try clear n6); (try clear n7); (try clear n8); (try clear n9); (try clear n10); (try clear n11); (try clear n12); (try clear m1); (try clear m2); (try clear m3); (try clear body); (try clear hb); (try clear hor); omega)]; omega)]
  | succ n ih =>
    intro i g h X hg hN
    have hc := K.1
    have p2 := mk_p2 c (by (try clear n0); (try clear n1); (try clear n2); (try clear n3); (try clear n4); (try clear n5); (try clear n6); (try clear n7); (try clear n8); (try clear n9); (try clear n10); (try clear n11); (try clear n12); (try clear m1); (try clear m2); (try clear m3); (try clear body); (try clear hb); (try clear hor); omega)
    have x := X.2 i (by (try clear n0); (try clear n1); (try clear n2); (try clear n3); (try clear n4); (try clear n5); (try clear n6); (try clear n7); (try clear n8); (try clear n9); (try clear n10); (try clear n11); (try clear n12); (try clear m1); (try clear m2); (try clear m3); (try clear body); (try clear hb); (try clear hor); omega)
    have ki := K.2 i (by (try clear n0); (try clear n1); (try clear n2); (try clear n3); (try clear n4); (try clear n5); (try clear n6); (try clear n7); (try clear n8); (try clear n9); (try clear n10); (try clear n11); (try clear n12); (try clear m1); (try clear m2); (try clear m3); (try clear body); (try clear hb); (try clear hor); omega)
    have rD := dkDay_rng (m := m) K c (Nat.le_refl c)
    have n0 : nw (g 10 2) = c := by rw [X.1, nwN _ (by (try clear n0); (try clear n1); (try clear n2); (try clear n3); (try clear n4); (try clear n5); (try clear n6); (try clear n7); (try clear n8); (try clear n9); (try clear n10); (try clear n11); (try clear n12); (try clear m1); (try clear m2); (try clear m3); (try clear body); (try clear hb); (try clear hor); omega)]
    have n1 : nw (i : Int) = i := nwN _ (by (try clear n0); (try clear n1); (try clear n2); (try clear n3); (try clear n4); (try clear n5); (try clear n6); (try clear n7); (try clear n8); (try clear n9); (try clear n10); (try clear n11); (try clear n12); (try clear m1); (try clear m2); (try clear m3); (try clear body); (try clear hb); (try clear hor); omega)
    have n2 : ix (i : Int) = i := ixN _ (by (try clear n0); (try clear n1); (try clear n2); (try clear n3); (try clear n4); (try clear n5); (try clear n6); (try clear n7); (try clear n8); (try clear n9); (try clear n10); (try clear n11); (try clear n12); (try clear m1); (try clear m2); (try clear m3); (try clear body); (try clear hb); (try clear hor); omega)
    have n3 : nw ((bl i : Nat) : Int) = (bl i : Nat) := nwN _ (by (try clear n0); (try clear n1); (try clear n2); (try clear n3); (try clear n4); (try clear n5); (try clear n6); (try clear n7); (try clear n8); (try clear n9); (try clear n10); (try clear n11); (try clear n12); (try clear m1); (try clear m2); (try clear m3); (try clear body); (try clear hb); (try clear hor); omega)
    have n4 : ix ((bl i : Nat) : Int) = bl i := ixN _ (by (try clear n0); (try clear n1); (try clear n2); (try clear n3); (try clear n4); (try clear n5); (try clear n6); (try clear n7); (try clear n8); (try clear n9); (try clear n10); (try clear n11); (try clear n12); (try clear m1); (try clear m2); (try clear m3); (try clear body); (try clear hb); (try clear hor); omega)
    have n5 : nw (m : Int) = m := nwN _ (by (try clear n0); (try clear n1); (try clear n2); (try clear n3); (try clear n4); (try clear n5); (try clear n6); (try clear n7); (try clear n8); (try clear n9); (try clear n10); (try clear n11); (try clear n12); (try clear m1); (try clear m2); (try clear m3); (try clear body); (try clear hb); (try clear hor); omega)
    have n6 : ix (m : Int) = m := ixN _ (by (try clear n0); (try clear n1); (try clear n2); (try clear n3); (try clear n4); (try clear n5); (try clear n6); (try clear n7); (try clear n8); (try clear n9); (try clear n10); (try clear n11); (try clear n12); (try clear m1); (try clear m2); (try clear m3); (try clear body); (try clear hb); (try clear hor); omega)
    have hb := bit_q m i (by (try clear n0); (try clear n1); (try clear n2); (try clear n3); (try clear n4); (try clear n5); (try clear n6); (try clear n7); (try clear n8); (try clear n9); (try clear n10); (try clear n11); (try clear n12); (try clear m1); (try clear m2); (try clear m3); (try clear body); (try clear hb); (try clear hor); omega)
    rw [mk_tb m (by (try clear n0); (try clear n1); (try clear n2); (try clear n3); (try clear n4); (try clear n5); (try clear n6); (try clear n7); (try clear n8); (try clear n9); (try clear n10); (try clear n11); (try clear n12); (try clear m1); (try clear m2); (try clear m3); (try clear body); (try clear hb); (try clear hor); omega) i (by (try clear n0); (try clear n1); (try clear n2); (try clear n3); (try clear n4); (try clear n5); (try clear n6); (try clear n7); (try clear n8); (try clear n9); (try clear n10); (try clear n11); (try clear n12); (try clear m1); (try clear m2); (try clear m3); (try clear body); (try clear hb); (try clear hor); omega)] at hb
    by_cases z : m.testBit i = true
    · have es : dkStep dy dt T c m (i + 1) = dkStep dy dt T c m i := by
        show (if m.testBit i = true then dkStep dy dt T c m i else _) = _
        rw [if_pos z]
      obtain ⟨g', e, f, r⟩ := ih (i + 1) g (by (try clear n0); (try clear n1); (try clear n2); (try clear n3); (try clear n4); (try clear n5); (try clear n6); (try clear n7); (try clear n8); (try clear n9); (try clear n10); (try clear n11); (try clear n12); (try clear m1); (try clear m2); (try clear m3); (try clear body); (try clear hb); (try clear hor); omega) X hg (by rw [es]; exact hN)
      refine ⟨g', ?_, f, r⟩
      rw [Yard_chooseNext_b.eq_1 _ 2, n0, n1, hb, if_neg (by decide), if_pos rfl, if_neg (by (try clear n0); (try clear n1); (try clear n2); (try clear n3); (try clear n4); (try clear n5); (try clear n6); (try clear n7); (try clear n8); (try clear n9); (try clear n10); (try clear n11); (try clear n12); (try clear m1); (try clear m2); (try clear m3); (try clear body); (try clear hb); (try clear hor); omega), if_pos z, if_neg (by decide), sb]
      exact e
    · have z' : m.testBit i = false := by cases y : m.testBit i with
        | true => exact absurd y z
        | false => rfl
      have hgt := mk_gt m (by (try clear n0); (try clear n1); (try clear n2); (try clear n3); (try clear n4); (try clear n5); (try clear n6); (try clear n7); (try clear n8); (try clear n9); (try clear n10); (try clear n11); (try clear n12); (try clear m1); (try clear m2); (try clear m3); (try clear body); (try clear hb); (try clear hor); omega) i (by (try clear n0); (try clear n1); (try clear n2); (try clear n3); (try clear n4); (try clear n5); (try clear n6); (try clear n7); (try clear n8); (try clear n9); (try clear n10); (try clear n11); (try clear n12); (try clear m1); (try clear m2); (try clear m3); (try clear body); (try clear hb); (try clear hor); omega) z'
      have hlt := mk_lt hm (show i < c by (try clear n0); (try clear n1); (try clear n2); (try clear n3); (try clear n4); (try clear n5); (try clear n6); (try clear n7); (try clear n8); (try clear n9); (try clear n10); (try clear n11); (try clear n12); (try clear m1); (try clear m2); (try clear m3); (try clear body); (try clear hb); (try clear hor); omega)
      have hor := mk_or m (by (try clear n0); (try clear n1); (try clear n2); (try clear n3); (try clear n4); (try clear n5); (try clear n6); (try clear n7); (try clear n8); (try clear n9); (try clear n10); (try clear n11); (try clear n12); (try clear m1); (try clear m2); (try clear m3); (try clear body); (try clear hb); (try clear hor); omega) i (by (try clear n0); (try clear n1); (try clear n2); (try clear n3); (try clear n4); (try clear n5); (try clear n6); (try clear n7); (try clear n8); (try clear n9); (try clear n10); (try clear n11); (try clear n12); (try clear m1); (try clear m2); (try clear m3); (try clear body); (try clear hb); (try clear hor); omega)
      have t := hT _ hgt hlt
      have tg := hg _ hgt hlt
      obtain ⟨M, hM⟩ : ∃ M, M = m ||| 2 ^ i := ⟨_, rfl⟩
      rw [← hM] at hor t tg hgt hlt
      have n7 : nw (M : Int) = M := nwN _ (by (try clear n0); (try clear n1); (try clear n2); (try clear n3); (try clear n4); (try clear n5); (try clear n6); (try clear n7); (try clear n8); (try clear n9); (try clear n10); (try clear n11); (try clear n12); (try clear m1); (try clear m2); (try clear m3); (try clear body); (try clear hb); (try clear hor); omega)
      have n8 : ix (M : Int) = M := ixN _ (by (try clear n0); (try clear n1); (try clear n2); (try clear n3); (try clear n4); (try clear n5); (try clear n6); (try clear n7); (try clear n8); (try clear n9); (try clear n10); (try clear n11); (try clear n12); (try clear m1); (try clear m2); (try clear m3); (try clear body); (try clear hb); (try clear hor); omega)
      have n9 : nw (dkDay dy m c + dy i) = dkDay dy m c + dy i := by
        clear n0 n1 n2 n3 n4 n5 n6 n7 n8 hb
        exact nw_id (by (try clear n0); (try clear n1); (try clear n2); (try clear n3); (try clear n4); (try clear n5); (try clear n6); (try clear n7); (try clear n8); (try clear n9); (try clear n10); (try clear n11); (try clear n12); (try clear m1); (try clear m2); (try clear m3); (try clear body); (try clear hb); (try clear hor); omega) (by (try clear n0); (try clear n1); (try clear n2); (try clear n3); (try clear n4); (try clear n5); (try clear n6); (try clear n7); (try clear n8); (try clear n9); (try clear n10); (try clear n11); (try clear n12); (try clear m1); (try clear m2); (try clear m3); (try clear body); (try clear hb); (try clear hor); omega)
      have n10 : nw (dt i) = dt i := by
        clear n0 n1 n2 n3 n4 n5 n6 n7 n8 n9 hb
        exact nw_id (by (try clear n0); (try clear n1); (try clear n2); (try clear n3); (try clear n4); (try clear n5); (try clear n6); (try clear n7); (try clear n8); (try clear n9); (try clear n10); (try clear n11); (try clear n12); (try clear m1); (try clear m2); (try clear m3); (try clear body); (try clear hb); (try clear hor); omega) (by (try clear n0); (try clear n1); (try clear n2); (try clear n3); (try clear n4); (try clear n5); (try clear n6); (try clear n7); (try clear n8); (try clear n9); (try clear n10); (try clear n11); (try clear n12); (try clear m1); (try clear m2); (try clear m3); (try clear body); (try clear hb); (try clear hor); omega)
      obtain ⟨A, hA⟩ : ∃ A, A = (T M).1 + (if dkDay dy m c + dy i ≤ dt i then 0 else 1) := ⟨_, rfl⟩
      obtain ⟨B, hB⟩ : ∃ B, B = (T M).2 + (dkDay dy m c + dy i) := ⟨_, rfl⟩
      have rA : 0 ≤ A ∧ A ≤ 100 := by
        rw [hA]
        clear n0 n1 n2 n3 n4 n5 n6 n7 n8 n9 n10 hb
        split <;> omega
      have rB : 0 ≤ B ∧ B ≤ 10000 := by
        rw [hB]
        clear n0 n1 n2 n3 n4 n5 n6 n7 n8 n9 n10 hb
        omega
      have n11 : nw A = A := by
        clear n0 n1 n2 n3 n4 n5 n6 n7 n8 n9 n10 hb
        exact nw_id (by (try clear n0); (try clear n1); (try clear n2); (try clear n3); (try clear n4); (try clear n5); (try clear n6); (try clear n7); (try clear n8); (try clear n9); (try clear n10); (try clear n11); (try clear n12); (try clear m1); (try clear m2); (try clear m3); (try clear body); (try clear hb); (try clear hor); omega) (by (try clear n0); (try clear n1); (try clear n2); (try clear n3); (try clear n4); (try clear n5); (try clear n6); (try clear n7); (try clear n8); (try clear n9); (try clear n10); (try clear n11); (try clear n12); (try clear m1); (try clear m2); (try clear m3); (try clear body); (try clear hb); (try clear hor); omega)
      have n12 : nw B = B := by
        clear n0 n1 n2 n3 n4 n5 n6 n7 n8 n9 n10 n11 hb
        exact nw_id (by (try clear n0); (try clear n1); (try clear n2); (try clear n3); (try clear n4); (try clear n5); (try clear n6); (try clear n7); (try clear n8); (try clear n9); (try clear n10); (try clear n11); (try clear n12); (try clear m1); (try clear m2); (try clear m3); (try clear body); (try clear hb); (try clear hor); omega) (by (try clear n0); (try clear n1); (try clear n2); (try clear n3); (try clear n4); (try clear n5); (try clear n6); (try clear n7); (try clear n8); (try clear n9); (try clear n10); (try clear n11); (try clear n12); (try clear m1); (try clear m2); (try clear m3); (try clear body); (try clear hb); (try clear hor); omega)
      have es : dkStep dy dt T c m (i + 1) = (match dkStep dy dt T c m i with | none => some (A, B, i) | some p => if dkLt A B p.1 p.2.1 then some (A, B, i) else some p) := by
        rw [hA, hB, hM]
        show (if m.testBit i = true then _ else _) = _
        rw [if_neg z]
        try rfl
      -- what isBetter says, and what is written
      obtain ⟨w, hw, hg2⟩ : ∃ w : Bool, Yard_isBetter m A B g = some (if w = true then 1 else 0) ∧ dkStep dy dt T c m (i + 1) = (if w = true then some (A, B, i) else dkStep dy dt T c m i) := by
        rw [es]
        unfold Yard_isBetter
        rw [n5, n6, n11, n12, if_pos (by (try clear n0); (try clear n1); (try clear n2); (try clear n3); (try clear n4); (try clear n5); (try clear n6); (try clear n7); (try clear n8); (try clear n9); (try clear n10); (try clear n11); (try clear n12); (try clear m1); (try clear m2); (try clear m3); (try clear body); (try clear hb); (try clear hor); omega)]
        rcases hN with ⟨e1, e2⟩ | ⟨p, e1, e2, e3, e4⟩
        · rw [e1, e2, nw_m1, if_pos rfl, sb]
          exact ⟨true, rfl, rfl⟩
        · have rp := dkStep_ok K hm hT i (by (try clear n0); (try clear n1); (try clear n2); (try clear n3); (try clear n4); (try clear n5); (try clear n6); (try clear n7); (try clear n8); (try clear n9); (try clear n10); (try clear n11); (try clear n12); (try clear m1); (try clear m2); (try clear m3); (try clear body); (try clear hb); (try clear hor); omega) p e1
          have m1 : nw ((p.2.2 : Nat) : Int) = (p.2.2 : Nat) := nwN _ (by (try clear n0); (try clear n1); (try clear n2); (try clear n3); (try clear n4); (try clear n5); (try clear n6); (try clear n7); (try clear n8); (try clear n9); (try clear n10); (try clear n11); (try clear n12); (try clear m1); (try clear m2); (try clear m3); (try clear body); (try clear hb); (try clear hor); omega)
          have m2 : nw p.1 = p.1 := by clear n0 n1 n2 n3 n4 n5 n6 n7 n8 n9 n10 n11 n12 hb m1; exact nw_id (by (try clear n0); (try clear n1); (try clear n2); (try clear n3); (try clear n4); (try clear n5); (try clear n6); (try clear n7); (try clear n8); (try clear n9); (try clear n10); (try clear n11); (try clear n12); (try clear m1); (try clear m2); (try clear m3); (try clear body); (try clear hb); (try clear hor); omega) (by (try clear n0); (try clear n1); (try clear n2); (try clear n3); (try clear n4); (try clear n5); (try clear n6); (try clear n7); (try clear n8); (try clear n9); (try clear n10); (try clear n11); (try clear n12); (try clear m1); (try clear m2); (try clear m3); (try clear body); (try clear hb); (try clear hor); omega)
          have m3 : nw p.2.1 = p.2.1 := by clear n0 n1 n2 n3 n4 n5 n6 n7 n8 n9 n10 n11 n12 hb m1 m2; exact nw_id (by (try clear n0); (try clear n1); (try clear n2); (try clear n3); (try clear n4); (try clear n5); (try clear n6); (try clear n7); (try clear n8); (try clear n9); (try clear n10); (try clear n11); (try clear n12); (try clear m1); (try clear m2); (try clear m3); (try clear body); (try clear hb); (try clear hor); omega) (by (try clear n0); (try clear n1); (try clear n2); (try clear n3); (try clear n4); (try clear n5); (try clear n6); (try clear n7); (try clear n8); (try clear n9); (try clear n10); (try clear n11); (try clear n12); (try clear m1); (try clear m2); (try clear m3); (try clear body); (try clear hb); (try clear hor); omega)
          rw [e1, e2, e3, e4, m1, m2, m3, if_neg (by (try clear n0); (try clear n1); (try clear n2); (try clear n3); (try clear n4); (try clear n5); (try clear n6); (try clear n7); (try clear n8); (try clear n9); (try clear n10); (try clear n11); (try clear n12); (try clear m1); (try clear m2); (try clear m3); (try clear body); (try clear hb); (try clear hor); omega)]
          clear n0 n1 n2 n3 n4 n5 n6 n7 n8 n9 n10 n11 n12 hb m1 m2 m3
          dsimp only
          by_cases y1 : A < p.1
          · rw [if_pos y1, sb, if_pos (Or.inr rfl), if_pos (Or.inl y1)]
            exact ⟨true, rfl, rfl⟩
          · rw [if_neg y1]
            by_cases y2 : A = p.1
            · rw [if_pos y2, sb]
              by_cases y3 : B < p.2.1
              · rw [if_neg (by (try clear n0); (try clear n1); (try clear n2); (try clear n3); (try clear n4); (try clear n5); (try clear n6); (try clear n7); (try clear n8); (try clear n9); (try clear n10); (try clear n11); (try clear n12); (try clear m1); (try clear m2); (try clear m3); (try clear body); (try clear hb); (try clear hor); omega), sb, if_pos (Or.inr rfl), if_pos (Or.inr ⟨y2, y3⟩)]
                exact ⟨true, rfl, rfl⟩
              · rw [if_pos (show p.2.1 ≤ B by (try clear n0); (try clear n1); (try clear n2); (try clear n3); (try clear n4); (try clear n5); (try clear n6); (try clear n7); (try clear n8); (try clear n9); (try clear n10); (try clear n11); (try clear n12); (try clear m1); (try clear m2); (try clear m3); (try clear body); (try clear hb); (try clear hor); omega), sb, if_pos (Or.inl rfl), if_neg (show ¬ dkLt A B p.1 p.2.1 by (try clear n0); (try clear n1); (try clear n2); (try clear n3); (try clear n4); (try clear n5); (try clear n6); (try clear n7); (try clear n8); (try clear n9); (try clear n10); (try clear n11); (try clear n12); (try clear m1); (try clear m2); (try clear m3); (try clear body); (try clear hb); (try clear hor); omega)]
                exact ⟨false, rfl, rfl⟩
            · rw [if_neg y2, sb, if_pos (Or.inl rfl), if_neg (show ¬ dkLt A B p.1 p.2.1 by (try clear n0); (try clear n1); (try clear n2); (try clear n3); (try clear n4); (try clear n5); (try clear n6); (try clear n7); (try clear n8); (try clear n9); (try clear n10); (try clear n11); (try clear n12); (try clear m1); (try clear m2); (try clear m3); (try clear body); (try clear hb); (try clear hor); omega)]
              exact ⟨false, rfl, rfl⟩
      have body : ∀ R : AG → Option (Int × AG), (∀ g1 : AG, (w = true → g1 = up (up (up g 100 m A) 101 m B) 102 m i) → (w = false → g1 = g) → ∃ g', R g1 = some (0, g') ∧ ATM m g g' ∧ XN g' m (dkStep dy dt T c m c)) → ∃ g', (((some B >>= fun t8 => (Yard_isBetter m A t8 g >>= fun r10 => (if nw r10 = 0 then some g else if 0 ≤ nw (m : Int) ∧ nw (m : Int) < 128 then (some (up g 100 (ix (m : Int)) A) >>= fun g14 => (some (up g14 101 (ix (m : Int)) t8) >>= fun g16 => (some (up g16 102 (ix (m : Int)) i) >>= fun g18 => some g18))) else none))) : Option AG) >>= R) = some (0, g') ∧ ATM m g g' ∧ XN g' m (dkStep dy dt T c m c) := by
        intro R hR
        rw [sb, hw, sb, n5, n6]
        cases w with
        | true =>
          rw [if_pos rfl, nw_1, if_neg (show ¬ (1 : Int) = 0 by decide), if_pos (by (try clear n0); (try clear n1); (try clear n2); (try clear n3); (try clear n4); (try clear n5); (try clear n6); (try clear n7); (try clear n8); (try clear n9); (try clear n10); (try clear n11); (try clear n12); (try clear m1); (try clear m2); (try clear m3); (try clear body); (try clear hb); (try clear hor); omega), sb, sb, sb, sb]
          exact hR _ (fun _ => rfl) (fun e => by cases e)
        | false =>
          rw [if_neg (show ¬ false = true by decide), nw_0, if_pos rfl, sb]
          exact hR _ (fun e => by cases e) (fun _ => rfl)
      have next : ∀ g1 : AG, (w = true → g1 = up (up (up g 100 m A) 101 m B) 102 m i) → (w = false → g1 = g) → ∃ g', Yard_chooseNext_b m 2 (dkDay dy m c) ((i : Int) + 1) g1 = some (0, g') ∧ ATM m g g' ∧ XN g' m (dkStep dy dt T c m c) := by
        intro g1 h1 h2
        have a1 : ATM m g g1 := by
          cases w with
          | true => rw [h1 rfl]; exact ATM.up (ATM.up (ATM.up (fun _ _ _ => rfl) (Or.inl rfl)) (Or.inr (Or.inl rfl))) (Or.inr (Or.inr rfl))
          | false => rw [h2 rfl]; exact fun _ _ _ => rfl
        obtain ⟨g', e, f, r⟩ := ih (i + 1) g1 (by (try clear n0); (try clear n1); (try clear n2); (try clear n3); (try clear n4); (try clear n5); (try clear n6); (try clear n7); (try clear n8); (try clear n9); (try clear n10); (try clear n11); (try clear n12); (try clear m1); (try clear m2); (try clear m3); (try clear body); (try clear hb); (try clear hor); omega) (X.fr a1.fr) (fun x h1 h2 => by
          rw [a1 100 x (fun q => absurd q.2 (by (try clear n0); (try clear n1); (try clear n2); (try clear n3); (try clear n4); (try clear n5); (try clear n6); (try clear n7); (try clear n8); (try clear n9); (try clear n10); (try clear n11); (try clear n12); (try clear m1); (try clear m2); (try clear m3); (try clear body); (try clear hb); (try clear hor); omega)), a1 101 x (fun q => absurd q.2 (by (try clear n0); (try clear n1); (try clear n2); (try clear n3); (try clear n4); (try clear n5); (try clear n6); (try clear n7); (try clear n8); (try clear n9); (try clear n10); (try clear n11); (try clear n12); (try clear m1); (try clear m2); (try clear m3); (try clear body); (try clear hb); (try clear hor); omega))]
          exact hg x h1 h2) (by
          rw [hg2]
          cases w with
          | true =>
            rw [h1 rfl, if_pos rfl]
            refine Or.inr ⟨_, rfl, ?_, ?_, ?_⟩
            · rw [up_at, if_neg (fun q => absurd q.1 (by decide)), up_at, if_neg (fun q => absurd q.1 (by decide)), up_at, if_pos ⟨rfl, rfl⟩]
            · rw [up_at, if_neg (fun q => absurd q.1 (by decide)), up_at, if_pos ⟨rfl, rfl⟩]
            · rw [up_at, if_pos ⟨rfl, rfl⟩]
          | false =>
            rw [h2 rfl, if_neg (by decide)]
            exact hN)
        exact ⟨g', e, a1.tr f, r⟩
      rw [Yard_chooseNext_b.eq_1 _ 2, n0, n1, hb, n2, x.1, n3, n4, x.2.2.1, x.2.2.2, hor, n7, n8, n9, n10, tg.1, tg.2, if_neg (by decide), if_pos rfl, if_neg (by (try clear n0); (try clear n1); (try clear n2); (try clear n3); (try clear n4); (try clear n5); (try clear n6); (try clear n7); (try clear n8); (try clear n9); (try clear n10); (try clear n11); (try clear n12); (try clear m1); (try clear m2); (try clear m3); (try clear body); (try clear hb); (try clear hor); omega), if_neg z, if_pos rfl]
      rw [if_pos (by (try clear n0); (try clear n1); (try clear n2); (try clear n3); (try clear n4); (try clear n5); (try clear n6); (try clear n7); (try clear n8); (try clear n9); (try clear n10); (try clear n11); (try clear n12); (try clear m1); (try clear m2); (try clear m3); (try clear body); (try clear hb); (try clear hor); omega), if_pos (by (try clear n0); (try clear n1); (try clear n2); (try clear n3); (try clear n4); (try clear n5); (try clear n6); (try clear n7); (try clear n8); (try clear n9); (try clear n10); (try clear n11); (try clear n12); (try clear m1); (try clear m2); (try clear m3); (try clear body); (try clear hb); (try clear hor); omega), if_pos (by (try clear n0); (try clear n1); (try clear n2); (try clear n3); (try clear n4); (try clear n5); (try clear n6); (try clear n7); (try clear n8); (try clear n9); (try clear n10); (try clear n11); (try clear n12); (try clear m1); (try clear m2); (try clear m3); (try clear body); (try clear hb); (try clear hor); omega), sb, ← hA, ← hB]
      exact body _ next
theorem X_chooseNext_s {dy dt : Nat → Int} {bl : Nat → Nat} {c : Nat} (K : DkOk dy dt c) {T : Nat → Int × Int} {m : Nat} (hm : m < 2 ^ c - 1) (hT : ∀ x, m < x → x < 2 ^ c → (0 ≤ (T x).1 ∧ (T x).1 ≤ c - mk_n x c) ∧ (0 ≤ (T x).2 ∧ (T x).2 ≤ 420 * (c - mk_n x c))) {g : AG} (X : XD g dy dt bl c) (hg : ∀ x, m < x → x < 2 ^ c → g 100 x = (T x).1 ∧ g 101 x = (T x).2) : ∃ g' p, Yard_chooseNext m g = some (0, g') ∧ ATM m g g' ∧ dkStep dy dt T c m c = some p ∧ g' 100 m = p.1 ∧ g' 101 m = p.2.1 ∧ g' 102 m = (p.2.2 : Nat) := by
  have hc := K.1
  have p2 := mk_p2 c (by (try clear n5); (try clear n6); omega)
  have a1 : ATM m g (up g 102 m (-1)) := ATM.up (fun _ _ _ => rfl) (Or.inr (Or.inr rfl))
  obtain ⟨g', e, f, r⟩ := X_choose_s (bl := bl) K (by (try clear n5); (try clear n6); omega) hT c 0 (up g 102 m (-1)) (by (try clear n5); (try clear n6); omega) (X.fr a1.fr) (fun x h1 h2 => by
    rw [a1 100 x (fun q => absurd q.2 (by (try clear n5); (try clear n6); omega)), a1 101 x (fun q => absurd q.2 (by (try clear n5); (try clear n6); omega))]
    exact hg x h1 h2) (Or.inl ⟨rfl, by rw [up_at, if_pos ⟨rfl, rfl⟩]⟩)
  have e1 := X_day_s K X (m := m) (by (try clear n5); (try clear n6); omega) c 0 (by (try clear n5); (try clear n6); omega)
  have e1' : Yard_chooseNext m g = Yard_chooseNext_b m 1 (dkDay dy m c) c g := e1
  have top : Yard_chooseNext m g = some (0, g') := by
    have n5 : nw (m : Int) = m := nwN _ (by (try clear n5); (try clear n6); omega)
    have n6 : ix (m : Int) = m := ixN _ (by (try clear n5); (try clear n6); omega)
    rw [e1', Yard_chooseNext_b.eq_1 _ 1, if_pos rfl, n5, n6, if_pos (by rw [X.1]; exact Int.le_refl _), if_pos (by (try clear n5); (try clear n6); omega), sb]
    exact e
  rcases r with ⟨r1, _⟩ | ⟨p, r1, r2, r3, r4⟩
  · exfalso
    have al := dkStep_none c r1
    have := mk_full c (by (try clear n5); (try clear n6); omega) m (by (try clear n5); (try clear n6); omega) (by (try clear n5); (try clear n6); omega) (mk_n_all c al)
    omega
  · exact ⟨g', p, top, a1.tr f, r1, r2, r3, r4⟩
/-- the rows hold the best way on from each set -/
def DkTab (dy dt : Nat → Int) (c : Nat) (g : AG) : Prop := (∀ x, x < 2 ^ c → (0 ≤ g 100 x ∧ g 100 x ≤ c - mk_n x c) ∧ (0 ≤ g 101 x ∧ g 101 x ≤ 420 * (c - mk_n x c))) ∧ g 100 (2 ^ c - 1) = 0 ∧ g 101 (2 ^ c - 1) = 0 ∧ ∀ m, m < 2 ^ c - 1 → ∃ p, dkStep dy dt (fun x => (g 100 x, g 101 x)) c m c = some p ∧ g 100 m = p.1 ∧ g 101 m = p.2.1 ∧ g 102 m = (p.2.2 : Nat)
theorem X_order2_s {dy dt : Nat → Int} {bl : Nat → Nat} {c : Nat} (K : DkOk dy dt c) {x1 : Int} : ∀ (m : Nat) (g : AG), m < 2 ^ c → XD g dy dt bl c → (∀ x, m ≤ x → x < 2 ^ c → (0 ≤ g 100 x ∧ g 100 x ≤ c - mk_n x c) ∧ (0 ≤ g 101 x ∧ g 101 x ≤ 420 * (c - mk_n x c))) → g 100 (2 ^ c - 1) = 0 → g 101 (2 ^ c - 1) = 0 → (∀ y, m ≤ y → y < 2 ^ c - 1 → ∃ p, dkStep dy dt (fun x => (g 100 x, g 101 x)) c y c = some p ∧ g 100 y = p.1 ∧ g 101 y = p.2.1 ∧ g 102 y = (p.2.2 : Nat)) → ∃ g', Yard_orderDock_b 2 x1 ((m : Int) - 1) g = some (0, g') ∧ FR RXD g g' ∧ DkTab dy dt c g' := by
  intro m
  induction m with
  | zero =>
    intro g hm X h1 h2 h3 h4
    refine ⟨g, ?_, Fr.rf, fun x hx => h1 x (by (try clear n5); omega) hx, h2, h3, fun y hy => h4 y (by (try clear n5); omega) hy⟩
    rw [Yard_orderDock_b.eq_1 2, if_neg (by decide), if_pos rfl, show ((0 : Nat) : Int) - 1 = -1 from rfl, nw_m1, if_pos (by decide)]
  | succ m ih =>
    intro g hm X h1 h2 h3 h4
    have hc := K.1
    have p2 := mk_p2 c (by (try clear n5); omega)
    obtain ⟨g1, p, e1, a1, s1, s2, s3, s4⟩ := X_chooseNext_s K (T := fun x => (g 100 x, g 101 x)) (m := m) (by (try clear n5); omega) (fun x q1 q2 => h1 x (by (try clear n5); omega) q2) X (fun x _ _ => ⟨rfl, rfl⟩)
    have rp := dkStep_ok K (m := m) (by (try clear n5); omega) (T := fun x => (g 100 x, g 101 x)) (fun x q1 q2 => h1 x (by (try clear n5); omega) q2) c (Nat.le_refl c) p s1
    have k100 : ∀ x, m < x → g1 100 x = g 100 x := fun x hx => a1 100 x (fun q => absurd q.2 (by (try clear n5); omega))
    have k101 : ∀ x, m < x → g1 101 x = g 101 x := fun x hx => a1 101 x (fun q => absurd q.2 (by (try clear n5); omega))
    have k102 : ∀ x, m < x → g1 102 x = g 102 x := fun x hx => a1 102 x (fun q => absurd q.2 (by (try clear n5); omega))
    have cg : ∀ y, m ≤ y → y < 2 ^ c - 1 → dkStep dy dt (fun x => (g1 100 x, g1 101 x)) c y c = dkStep dy dt (fun x => (g 100 x, g 101 x)) c y c := fun y q1 q2 => dkStep_cg hc (by (try clear n5); omega) (fun x r1 r2 => by rw [k100 x (by (try clear n5); omega), k101 x (by (try clear n5); omega)]) c (Nat.le_refl c)
    obtain ⟨g', e', f', r'⟩ := ih g1 (by (try clear n5); omega) (X.fr a1.fr) (fun x q1 q2 => by
      by_cases y : x = m
      · subst y
        rw [s2, s3]
        exact rp.1
      · rw [k100 x (by (try clear n5); omega), k101 x (by (try clear n5); omega)]
        exact h1 x (by (try clear n5); omega) q2) (by rw [k100 _ (by (try clear n5); omega)]; exact h2) (by rw [k101 _ (by (try clear n5); omega)]; exact h3) (fun y q1 q2 => by
      rw [cg y q1 q2]
      by_cases z : y = m
      · subst z
        exact ⟨p, s1, s2, s3, s4⟩
      · rw [k100 y (by (try clear n5); omega), k101 y (by (try clear n5); omega), k102 y (by (try clear n5); omega)]
        exact h4 y (by (try clear n5); omega) q2)
    refine ⟨g', ?_, a1.fr.tr f', r'⟩
    have em : ((m + 1 : Nat) : Int) - 1 = m := by (try clear n5); omega
    rw [em]
    have n5 : nw (m : Int) = m := nwN _ (by (try clear n5); omega)
    rw [Yard_orderDock_b.eq_1 2, n5, if_neg (by decide), if_pos rfl, if_neg (by (try clear n5); omega), e1, sb]
    exact e'
theorem X_order1_s {f : Nat → Int} {g0 : AG} (hf : ∀ b, b < 10 → g0 98 b = f b ∧ 0 ≤ f b ∧ f b ≤ 60) (h7 : ∀ b, b ≤ 10 → (dkL f b).1 ≤ 7) {x2 : Int} : ∀ (n b : Nat) (g : AG), b + n = 10 → FR [(10, 3), (99, 0)] g0 g → g 10 2 = (dkL f b).1 → (∀ i, i < (dkL f b).1 → g 99 i = (dkL f b).2 i) → ∃ g', Yard_orderDock_b 1 b x2 g = Yard_orderDock_b 1 10 x2 g' ∧ FR [(10, 3), (99, 0)] g0 g' ∧ g' 10 2 = (dkL f 10).1 ∧ ∀ i, i < (dkL f 10).1 → g' 99 i = (dkL f 10).2 i := by
  intro n
  induction n with
  | zero =>
    intro b g h F h1 h2
    have e : b = 10 := by (try clear n0); (try clear n1); (try clear n2); (try clear n3); (try clear n4); omega
    subst e
    exact ⟨g, rfl, F, h1, h2⟩
  | succ n ih =>
    intro b g h F h1 h2
    have fb := hf b (by (try clear n0); (try clear n1); (try clear n2); (try clear n3); (try clear n4); omega)
    have l7 := h7 (b + 1) (by (try clear n0); (try clear n1); (try clear n2); (try clear n3); (try clear n4); omega)
    have l7' := h7 b (by (try clear n0); (try clear n1); (try clear n2); (try clear n3); (try clear n4); omega)
    have v98 : g 98 b = f b := by rw [F 98 b rfl]; exact fb.1
    have n0 : nw (b : Int) = b := nwN _ (by (try clear n0); (try clear n1); (try clear n2); (try clear n3); (try clear n4); omega)
    have n1 : ix (b : Int) = b := ixN _ (by (try clear n0); (try clear n1); (try clear n2); (try clear n3); (try clear n4); omega)
    have n2 : nw (f b) = f b := by clear n0 n1; exact nw_id (by (try clear n0); (try clear n1); (try clear n2); (try clear n3); (try clear n4); omega) (by (try clear n0); (try clear n1); (try clear n2); (try clear n3); (try clear n4); omega)
    have n3 : nw (((dkL f b).1 : Nat) : Int) = ((dkL f b).1 : Nat) := nwN _ (by (try clear n0); (try clear n1); (try clear n2); (try clear n3); (try clear n4); omega)
    have n4 : ix (((dkL f b).1 : Nat) : Int) = (dkL f b).1 := ixN _ (by (try clear n0); (try clear n1); (try clear n2); (try clear n3); (try clear n4); omega)
    have e1 : dkL f (b + 1) = if 0 < f b then ((dkL f b).1 + 1, ud (dkL f b).2 (dkL f b).1 b) else dkL f b := rfl
    by_cases z : 0 < f b
    · rw [if_pos z] at e1
      have c7 : (dkL f b).1 < 7 := by rw [e1] at l7; clear n0 n1 n2 n3 n4; dsimp only at l7; omega
      obtain ⟨g', e, r⟩ := ih (b + 1) (up (up g 99 (dkL f b).1 b) 10 2 ((dkL f b).1 + 1)) (by (try clear n0); (try clear n1); (try clear n2); (try clear n3); (try clear n4); omega) (Fr.up (Fr.up F rfl) rfl) (by rw [e1, up_at, if_pos ⟨rfl, rfl⟩]; rfl) (fun i hi => by
        rw [e1] at hi ⊢
        dsimp only at hi ⊢
        rw [up_at, if_neg (by (try clear n0); (try clear n1); (try clear n2); (try clear n3); (try clear n4); omega), up_at]
        by_cases y : i = (dkL f b).1
        · rw [if_pos ⟨rfl, y⟩, y, ud_at]
        · rw [if_neg (fun q => y q.2), ud_lt (by (try clear n0); (try clear n1); (try clear n2); (try clear n3); (try clear n4); omega)]
          exact h2 i (by (try clear n0); (try clear n1); (try clear n2); (try clear n3); (try clear n4); omega))
      refine ⟨g', ?_, r⟩
      have u : (up g 99 (dkL f b).1 b) 10 2 = (dkL f b).1 := by rw [up_at, if_neg (by (try clear n0); (try clear n1); (try clear n2); (try clear n3); (try clear n4); omega)]; exact h1
      rw [Yard_orderDock_b.eq_1 1, n0, n1, v98, n2, h1, n3, n4, if_pos rfl, if_neg (by (try clear n0); (try clear n1); (try clear n2); (try clear n3); (try clear n4); omega), if_pos (by (try clear n0); (try clear n1); (try clear n2); (try clear n3); (try clear n4); omega), if_neg (by (try clear n0); (try clear n1); (try clear n2); (try clear n3); (try clear n4); omega), if_neg (by (try clear n0); (try clear n1); (try clear n2); (try clear n3); (try clear n4); omega), if_pos (by (try clear n0); (try clear n1); (try clear n2); (try clear n3); (try clear n4); omega), sb, u, sb, sb]
      exact e
    · rw [if_neg z] at e1
      obtain ⟨g', e, r⟩ := ih (b + 1) g (by (try clear n0); (try clear n1); (try clear n2); (try clear n3); (try clear n4); omega) F (by rw [e1]; exact h1) (fun i hi => by rw [e1] at hi ⊢; exact h2 i hi)
      refine ⟨g', ?_, r⟩
      rw [Yard_orderDock_b.eq_1 1, n0, n1, v98, n2, if_pos rfl, if_neg (by (try clear n0); (try clear n1); (try clear n2); (try clear n3); (try clear n4); omega), if_pos (by (try clear n0); (try clear n1); (try clear n2); (try clear n3); (try clear n4); omega), if_pos (by (try clear n0); (try clear n1); (try clear n2); (try clear n3); (try clear n4); omega), sb]
      exact e
