/-! plain programs: the dock, the reference -/
abbrev DS : Type := Option (Int × Int × (Nat → Nat))
def dU (s : DS) (p : Int × Int × (Nat → Nat)) : DS :=
  match s with
  | none => some p
  | some q => if dkLt p.1 p.2.1 q.1 q.2.1 then some p else some q
theorem dU_dU (s : DS) (p q : Int × Int × (Nat → Nat)) : dU (dU s p) q = dU s (if dkLt q.1 q.2.1 p.1 p.2.1 then q else p) := by
  cases s with
  | none =>
    show dU (some p) q = some _
    unfold dU
    dsimp only
    by_cases z : dkLt q.1 q.2.1 p.1 p.2.1
    · rw [if_pos z, if_pos z]
    · rw [if_neg z, if_neg z]
  | some r =>
    have e : ∀ x, dU (some r) x = if dkLt x.1 x.2.1 r.1 r.2.1 then some x else some r := fun _ => rfl
    rw [e, e]
    by_cases a : dkLt p.1 p.2.1 r.1 r.2.1
    · rw [if_pos a]
      have e2 : ∀ x, dU (some p) x = if dkLt x.1 x.2.1 p.1 p.2.1 then some x else some p := fun _ => rfl
      rw [e2]
      by_cases b : dkLt q.1 q.2.1 p.1 p.2.1
      · rw [if_pos b, if_pos b, if_pos (by omega)]
      · rw [if_neg b, if_neg b, if_pos a]
    · rw [if_neg a, e]
      by_cases b : dkLt q.1 q.2.1 p.1 p.2.1
      · rw [if_pos b]
      · rw [if_neg b, if_neg (by omega), if_neg a]
/-- who goes t places on behind a set -/
def fol (N : Nat → Nat) : Nat → Nat → Nat
  | 0, m => N m
  | t + 1, m => fol N t (m ||| 2 ^ N m)
def dkO (N : Nat → Nat) (m k : Nat) (o : Nat → Nat) : Nat → Nat := fun j => if j < k then o j else fol N (j - k) m
theorem dkO_step {N : Nat → Nat} {m k : Nat} {o : Nat → Nat} : dkO N (m ||| 2 ^ N m) (k + 1) (ud o k (N m)) = dkO N m k o := by
  funext j
  unfold dkO
  by_cases a : j < k
  · rw [if_pos a, if_pos (by omega), ud_lt a]
  · rw [if_neg a]
    by_cases b : j = k
    · subst b
      rw [if_pos (by omega), ud_at, show j - j = 0 by omega]
      rfl
    · rw [if_neg (by omega), show j - k = (j - (k + 1)) + 1 by omega]
      rfl
def MD (g : AG) (dy dt : Nat → Int) (bl : Nat → Nat) (c : Nat) : Prop := g 117 84 = c ∧ ∀ i, i < c → g 175 i = bl i ∧ bl i < 10 ∧ g 174 (bl i) = dy i ∧ g 173 (bl i) = dt i
abbrev RMD : Reg := [(117, 86), (117, 87), (176, 0), (177, 0)]
theorem MD.fr {g g' : AG} {dy dt : Nat → Int} {bl : Nat → Nat} {c : Nat} (h : MD g dy dt bl c) (f : FR RMD g g') : MD g' dy dt bl c := ⟨by rw [f 117 84 rfl]; exact h.1, fun i hi => by rw [f 175 i rfl, f 174 _ rfl, f 173 _ rfl]; exact h.2 i hi⟩
def MDB (g : AG) (bl : Nat → Nat) (c : Nat) (s : DS) : Prop := (s = none ∧ g 117 85 = -1) ∨ ∃ p, s = some p ∧ g 117 85 = p.1 ∧ g 117 86 = p.2.1 ∧ (0 ≤ p.1 ∧ p.1 ≤ 100) ∧ (0 ≤ p.2.1 ∧ p.2.1 ≤ 100000) ∧ ∀ j, j < c → g 177 j = (bl (p.2.2 j) : Nat)
theorem M_dcopy_s {c : Nat} (hc : c ≤ 7) {rec : Int → Int → Int → Int → Int → AG → Option (Int × AG)} {a b d v w : Int} : ∀ (n k : Nat) (g : AG), k + n = c → g 117 84 = c → ∃ g', M_docksOn_b rec a b d v w 2 k g = some (0, g') ∧ FR [(177, 0)] g g' ∧ (∀ j, k ≤ j → j < c → g' 177 j = g 176 j) ∧ ∀ j, j < k → g' 177 j = g 177 j := by
  intro n
  induction n with
  | zero =>
    intro k g h hg
    refine ⟨g, ?_, Fr.rf, fun j h1 h2 => by (try clear n0); (try clear n1); (try clear n2); omega, fun j _ => rfl⟩
    rw [M_docksOn_b.eq_1 _ _ _ _ _ _ 2, if_neg (by decide), if_pos rfl, if_pos (by rw [hg, nwN _ (by (try clear n0); (try clear n1); (try clear n2); omega), nwN _ (by (try clear n0); (try clear n1); (try clear n2); omega)]; omega)]
  | succ n ih =>
    intro k g h hg
    obtain ⟨g', e, f, p1, p2⟩ := ih (k + 1) (up g 177 k (g 176 k)) (by (try clear n0); (try clear n1); (try clear n2); omega) (by rw [up_at, if_neg (by (try clear n0); (try clear n1); (try clear n2); omega)]; exact hg)
    refine ⟨g', ?_, (Fr.up Fr.rf rfl).tr f, ?_, ?_⟩
    · have n0 : nw (g 117 84) = c := by rw [hg, nwN _ (by (try clear n0); (try clear n1); (try clear n2); omega)]
      have n1 : nw (k : Int) = k := nwN _ (by (try clear n0); (try clear n1); (try clear n2); omega)
      have n2 : ix (k : Int) = k := ixN _ (by (try clear n0); (try clear n1); (try clear n2); omega)
      rw [M_docksOn_b.eq_1 _ _ _ _ _ _ 2, n0, n1, n2]
      rw [if_neg (by decide), if_pos rfl, if_neg (by (try clear n0); (try clear n1); (try clear n2); omega), if_pos (by (try clear n0); (try clear n1); (try clear n2); omega), sb]
      exact e
    · intro j h1 h2
      by_cases z : j = k
      · subst z; rw [p2 j (by (try clear n0); (try clear n1); (try clear n2); omega), up_at, if_pos ⟨rfl, rfl⟩]
      · rw [p1 j (by (try clear n0); (try clear n1); (try clear n2); omega) h2, up_at, if_neg (by (try clear n0); (try clear n1); (try clear n2); omega)]
    · intro j hj
      rw [p2 j (by (try clear n0); (try clear n1); (try clear n2); omega), up_at, if_neg (by (try clear n0); (try clear n1); (try clear n2); omega)]
def DkT (dy dt : Nat → Int) (c : Nat) (T : Nat → Int × Int) (N : Nat → Nat) : Prop := (∀ x, x < 2 ^ c → (0 ≤ (T x).1 ∧ (T x).1 ≤ c - mk_n x c) ∧ (0 ≤ (T x).2 ∧ (T x).2 ≤ 420 * (c - mk_n x c))) ∧ T (2 ^ c - 1) = (0, 0) ∧ ∀ m, m < 2 ^ c - 1 → dkStep dy dt T c m c = some ((T m).1, (T m).2, N m)
theorem M_docks_t {dy dt : Nat → Int} {bl : Nat → Nat} {c : Nat} (K : DkOk dy dt c) {T : Nat → Int × Int} {N : Nat → Nat} (TT : DkT dy dt c T N) : ∀ (n f k m : Nat) (o : Nat → Nat) (late sum : Int) (s : DS) (g : AG), k + n = c → n + 1 ≤ f → m < 2 ^ c → mk_n m c = k → (0 ≤ late ∧ late ≤ k) → (0 ≤ sum ∧ sum ≤ 420 * k) → MD g dy dt bl c → (∀ j, j < k → g 176 j = (bl (o j) : Nat)) → MDB g bl c s → ∃ g', M_docksOn f k m (dkDay dy m c) late sum g = some (0, g') ∧ FR RMD g g' ∧ (∀ j, j < k → g' 176 j = g 176 j) ∧ MDB g' bl c (dU s (late + (T m).1, sum + (T m).2, dkO N m k o)) := by
  intro n
  induction n with
  | zero =>
    intro f k m o late sum s g h hf hm hk hl hs D ho B
    obtain ⟨f, rfl⟩ : ∃ f', f = f' + 1 := ⟨f - 1, by (try clear n0); (try clear n1); (try clear n2); (try clear n3); (try clear top); (try clear n4); (try clear n5); (try clear n6); (try clear n7); (try clear n8); (try clear n9); (try clear hb); (try clear hor); omega⟩
    have hc := K.1
    have p2 := mk_p2 c (by (try clear n0); (try clear n1); (try clear n2); (try clear n3); (try clear top); (try clear n4); (try clear n5); (try clear n6); (try clear n7); (try clear n8); (try clear n9); (try clear hb); (try clear hor); omega)
    have ek : k = c := by (try clear n0); (try clear n1); (try clear n2); (try clear n3); (try clear top); (try clear n4); (try clear n5); (try clear n6); (try clear n7); (try clear n8); (try clear n9); (try clear hb); (try clear hor); omega
    subst ek
    have em := mk_full k (by (try clear n0); (try clear n1); (try clear n2); (try clear n3); (try clear top); (try clear n4); (try clear n5); (try clear n6); (try clear n7); (try clear n8); (try clear n9); (try clear hb); (try clear hor); omega) m (by (try clear n0); (try clear n1); (try clear n2); (try clear n3); (try clear top); (try clear n4); (try clear n5); (try clear n6); (try clear n7); (try clear n8); (try clear n9); (try clear hb); (try clear hor); omega) hm hk
    have tm : T m = (0, 0) := by rw [em]; exact TT.2.1
    have n0 : nw (g 117 84) = k := by rw [D.1, nwN _ (by (try clear n0); (try clear n1); (try clear n2); (try clear n3); (try clear top); (try clear n4); (try clear n5); (try clear n6); (try clear n7); (try clear n8); (try clear n9); (try clear hb); (try clear hor); omega)]
    have n1 : nw (k : Int) = k := nwN _ (by (try clear n0); (try clear n1); (try clear n2); (try clear n3); (try clear top); (try clear n4); (try clear n5); (try clear n6); (try clear n7); (try clear n8); (try clear n9); (try clear hb); (try clear hor); omega)
    have n2 : nw late = late := nw_id (by (try clear n0); (try clear n1); (try clear n2); (try clear n3); (try clear top); (try clear n4); (try clear n5); (try clear n6); (try clear n7); (try clear n8); (try clear n9); (try clear hb); (try clear hor); omega) (by (try clear n0); (try clear n1); (try clear n2); (try clear n3); (try clear top); (try clear n4); (try clear n5); (try clear n6); (try clear n7); (try clear n8); (try clear n9); (try clear hb); (try clear hor); omega)
    have n3 : nw sum = sum := nw_id (by (try clear n0); (try clear n1); (try clear n2); (try clear n3); (try clear top); (try clear n4); (try clear n5); (try clear n6); (try clear n7); (try clear n8); (try clear n9); (try clear hb); (try clear hor); omega) (by (try clear n0); (try clear n1); (try clear n2); (try clear n3); (try clear top); (try clear n4); (try clear n5); (try clear n6); (try clear n7); (try clear n8); (try clear n9); (try clear hb); (try clear hor); omega)
    have take : ∃ g', M_docksOn_b (M_docksOn f) 0 0 0 late sum 1 0 g = some (0, g') ∧ FR RMD g g' ∧ (∀ j, j < k → g' 176 j = g 176 j) ∧ MDB g' bl k (some (late + (T m).1, sum + (T m).2, dkO N m k o)) := by
      obtain ⟨g', e, ff, p1, _⟩ := M_dcopy_s (c := k) hc (rec := M_docksOn f) (a := 0) (b := 0) (d := 0) (v := late) (w := sum) k 0 (up (up g 117 85 late) 117 86 sum) (by (try clear n0); (try clear n1); (try clear n2); (try clear n3); (try clear top); (try clear n4); (try clear n5); (try clear n6); (try clear n7); (try clear n8); (try clear n9); (try clear hb); (try clear hor); omega) (by rw [up_at, if_neg (by (try clear n0); (try clear n1); (try clear n2); (try clear n3); (try clear top); (try clear n4); (try clear n5); (try clear n6); (try clear n7); (try clear n8); (try clear n9); (try clear hb); (try clear hor); omega), up_at, if_neg (by (try clear n0); (try clear n1); (try clear n2); (try clear n3); (try clear top); (try clear n4); (try clear n5); (try clear n6); (try clear n7); (try clear n8); (try clear n9); (try clear hb); (try clear hor); omega)]; exact D.1)
      refine ⟨g', ?_, (Fr.up (W := inR RMD) (Fr.up (W := inR RMD) Fr.rf rfl) rfl).tr (FR.mo ff rfl), fun j hj => ?_, Or.inr ⟨_, rfl, ?_, ?_, ?_, ?_, fun j hj => ?_⟩⟩
      · rw [M_docksOn_b.eq_1 _ _ _ _ _ _ 1, if_pos rfl, sb, sb]
        exact e
      · rw [ff 176 j rfl, up_at, if_neg (by (try clear n0); (try clear n1); (try clear n2); (try clear n3); (try clear top); (try clear n4); (try clear n5); (try clear n6); (try clear n7); (try clear n8); (try clear n9); (try clear hb); (try clear hor); omega), up_at, if_neg (by (try clear n0); (try clear n1); (try clear n2); (try clear n3); (try clear top); (try clear n4); (try clear n5); (try clear n6); (try clear n7); (try clear n8); (try clear n9); (try clear hb); (try clear hor); omega)]
      · rw [ff 117 85 rfl, up_at, if_neg (by (try clear n0); (try clear n1); (try clear n2); (try clear n3); (try clear top); (try clear n4); (try clear n5); (try clear n6); (try clear n7); (try clear n8); (try clear n9); (try clear hb); (try clear hor); omega), up_at, if_pos ⟨rfl, rfl⟩, tm]
        exact (Int.add_zero _).symm
      · rw [ff 117 86 rfl, up_at, if_pos ⟨rfl, rfl⟩, tm]
        exact (Int.add_zero _).symm
      · rw [tm]; dsimp only; (try clear n0); (try clear n1); (try clear n2); (try clear n3); (try clear top); (try clear n4); (try clear n5); (try clear n6); (try clear n7); (try clear n8); (try clear n9); (try clear hb); (try clear hor); omega
      · rw [tm]; dsimp only; (try clear n0); (try clear n1); (try clear n2); (try clear n3); (try clear top); (try clear n4); (try clear n5); (try clear n6); (try clear n7); (try clear n8); (try clear n9); (try clear hb); (try clear hor); omega
      · rw [p1 j (by (try clear n0); (try clear n1); (try clear n2); (try clear n3); (try clear top); (try clear n4); (try clear n5); (try clear n6); (try clear n7); (try clear n8); (try clear n9); (try clear hb); (try clear hor); omega) hj, up_at, if_neg (by (try clear n0); (try clear n1); (try clear n2); (try clear n3); (try clear top); (try clear n4); (try clear n5); (try clear n6); (try clear n7); (try clear n8); (try clear n9); (try clear hb); (try clear hor); omega), up_at, if_neg (by (try clear n0); (try clear n1); (try clear n2); (try clear n3); (try clear top); (try clear n4); (try clear n5); (try clear n6); (try clear n7); (try clear n8); (try clear n9); (try clear hb); (try clear hor); omega)]
        show _ = ((bl (if j < k then o j else _) : Nat) : Int)
        rw [if_pos hj]
        exact ho j hj
    have top : M_docksOn (f + 1) k m (dkDay dy m k) late sum g = (if nw (g 117 85) = -1 then M_docksOn_b (M_docksOn f) 0 0 0 late sum 1 0 g else if nw (g 117 85) < late then some (0, g) else if late = nw (g 117 85) then (if sum < nw (g 117 86) then M_docksOn_b (M_docksOn f) 0 0 0 late sum 1 0 g else some (0, g)) else M_docksOn_b (M_docksOn f) 0 0 0 late sum 1 0 g) := by
      show M_docksOn_s (M_docksOn f) k m _ late sum g = _
      unfold M_docksOn_s
      rw [n0, n1, if_pos rfl, n2, n3]
    rw [top]
    rcases B with ⟨e1, e2⟩ | ⟨p, e1, e2, e3, e4, e5, e6⟩
    · subst e1
      rw [e2, nw_m1, if_pos rfl]
      exact take
    · subst e1
      have n4 : nw p.1 = p.1 := nw_id (by (try clear n0); (try clear n1); (try clear n2); (try clear n3); (try clear top); (try clear n4); (try clear n5); (try clear n6); (try clear n7); (try clear n8); (try clear n9); (try clear hb); (try clear hor); omega) (by (try clear n0); (try clear n1); (try clear n2); (try clear n3); (try clear top); (try clear n4); (try clear n5); (try clear n6); (try clear n7); (try clear n8); (try clear n9); (try clear hb); (try clear hor); omega)
      have n5 : nw p.2.1 = p.2.1 := nw_id (by (try clear n0); (try clear n1); (try clear n2); (try clear n3); (try clear top); (try clear n4); (try clear n5); (try clear n6); (try clear n7); (try clear n8); (try clear n9); (try clear hb); (try clear hor); omega) (by (try clear n0); (try clear n1); (try clear n2); (try clear n3); (try clear top); (try clear n4); (try clear n5); (try clear n6); (try clear n7); (try clear n8); (try clear n9); (try clear hb); (try clear hor); omega)
      have z0 : late + (T m).1 = late := by rw [tm]; exact Int.add_zero _
      have z1 : sum + (T m).2 = sum := by rw [tm]; exact Int.add_zero _
      rw [e2, e3, n4, n5, if_neg (by (try clear n0); (try clear n1); (try clear n2); (try clear n3); (try clear top); (try clear n4); (try clear n5); (try clear n6); (try clear n7); (try clear n8); (try clear n9); (try clear hb); (try clear hor); omega)]
      rw [z0, z1] at take ⊢
      have du : dU (some p) (late, sum, dkO N m k o) = if dkLt late sum p.1 p.2.1 then some (late, sum, dkO N m k o) else some p := rfl
      rw [du]
      by_cases y : dkLt late sum p.1 p.2.1
      · rw [if_pos y, if_neg (by (try clear n0); (try clear n1); (try clear n2); (try clear n3); (try clear top); (try clear n4); (try clear n5); (try clear n6); (try clear n7); (try clear n8); (try clear n9); (try clear hb); (try clear hor); omega)]
        by_cases x : late = p.1
        · rw [if_pos x, if_pos (by (try clear n0); (try clear n1); (try clear n2); (try clear n3); (try clear top); (try clear n4); (try clear n5); (try clear n6); (try clear n7); (try clear n8); (try clear n9); (try clear hb); (try clear hor); omega)]
          exact take
        · rw [if_neg x]
          exact take
      · rw [if_neg y]
        have stay : ∃ g', some ((0 : Int), g) = some (0, g') ∧ FR RMD g g' ∧ (∀ j, j < k → g' 176 j = g 176 j) ∧ MDB g' bl k (some p) := ⟨g, rfl, Fr.rf, fun _ _ => rfl, Or.inr ⟨p, rfl, e2, e3, e4, e5, e6⟩⟩
        by_cases x : p.1 < late
        · rw [if_pos x]
          exact stay
        · rw [if_neg x, if_pos (by (try clear n0); (try clear n1); (try clear n2); (try clear n3); (try clear top); (try clear n4); (try clear n5); (try clear n6); (try clear n7); (try clear n8); (try clear n9); (try clear hb); (try clear hor); omega), if_neg (by (try clear n0); (try clear n1); (try clear n2); (try clear n3); (try clear top); (try clear n4); (try clear n5); (try clear n6); (try clear n7); (try clear n8); (try clear n9); (try clear hb); (try clear hor); omega)]
          exact stay
  | succ n ih =>
    intro f k m o late sum s g h hf hm hk hl hs D ho B
    obtain ⟨f, rfl⟩ : ∃ f', f = f' + 1 := ⟨f - 1, by (try clear n0); (try clear n1); (try clear n2); (try clear n3); (try clear top); (try clear n4); (try clear n5); (try clear n6); (try clear n7); (try clear n8); (try clear n9); (try clear hb); (try clear hor); omega⟩
    have hc := K.1
    have p2 := mk_p2 c (by (try clear n0); (try clear n1); (try clear n2); (try clear n3); (try clear top); (try clear n4); (try clear n5); (try clear n6); (try clear n7); (try clear n8); (try clear n9); (try clear hb); (try clear hor); omega)
    have rD := dkDay_rng (m := m) K c (Nat.le_refl c)
    have mf : m < 2 ^ c - 1 := by
      have := mk_n_full c (by (try clear n0); (try clear n1); (try clear n2); (try clear n3); (try clear top); (try clear n4); (try clear n5); (try clear n6); (try clear n7); (try clear n8); (try clear n9); (try clear hb); (try clear hor); omega)
      have ne : m ≠ 2 ^ c - 1 := fun e => by rw [e] at hk; omega
      omega
    have st := TT.2.2 m mf
    have n0 : nw (g 117 84) = c := by rw [D.1, nwN _ (by (try clear n0); (try clear n1); (try clear n2); (try clear n3); (try clear top); (try clear n4); (try clear n5); (try clear n6); (try clear n7); (try clear n8); (try clear n9); (try clear hb); (try clear hor); omega)]
    have n1 : nw (k : Int) = k := nwN _ (by (try clear n0); (try clear n1); (try clear n2); (try clear n3); (try clear top); (try clear n4); (try clear n5); (try clear n6); (try clear n7); (try clear n8); (try clear n9); (try clear hb); (try clear hor); omega)
    have n2 : ix (k : Int) = k := ixN _ (by (try clear n0); (try clear n1); (try clear n2); (try clear n3); (try clear top); (try clear n4); (try clear n5); (try clear n6); (try clear n7); (try clear n8); (try clear n9); (try clear hb); (try clear hor); omega)
    have top : M_docksOn (f + 1) k m (dkDay dy m c) late sum g = M_docksOn_b (M_docksOn f) k m (dkDay dy m c) late sum 3 0 g := by
      show M_docksOn_s (M_docksOn f) k m _ late sum g = _
      unfold M_docksOn_s
      rw [n0, n1, if_neg (by (try clear n0); (try clear n1); (try clear n2); (try clear n3); (try clear top); (try clear n4); (try clear n5); (try clear n6); (try clear n7); (try clear n8); (try clear n9); (try clear hb); (try clear hor); omega)]
    rw [top]
    -- what stands behind i of the boats
    have loop : ∀ (q i : Nat) (g1 : AG), i + q = c → MD g1 dy dt bl c → (∀ j, j < k → g1 176 j = (bl (o j) : Nat)) → MDB g1 bl c (match dkStep dy dt T c m i with | none => s | some p => dU s (late + p.1, sum + p.2.1, dkO N (m ||| 2 ^ p.2.2) (k + 1) (ud o k p.2.2))) → ∃ g', M_docksOn_b (M_docksOn f) k m (dkDay dy m c) late sum 3 i g1 = some (0, g') ∧ FR RMD g1 g' ∧ (∀ j, j < k → g' 176 j = g1 176 j) ∧ MDB g' bl c (match dkStep dy dt T c m c with | none => s | some p => dU s (late + p.1, sum + p.2.1, dkO N (m ||| 2 ^ p.2.2) (k + 1) (ud o k p.2.2))) := by
      intro q
      induction q with
      | zero =>
        intro i g1 hi D1 h1 B1
        have ei : i = c := by (try clear n0); (try clear n1); (try clear n2); (try clear n3); (try clear top); (try clear n4); (try clear n5); (try clear n6); (try clear n7); (try clear n8); (try clear n9); (try clear hb); (try clear hor); omega
        subst ei
        refine ⟨g1, ?_, Fr.rf, fun j _ => rfl, B1⟩
        have n3 : nw (g1 117 84) = i := by rw [D1.1, nwN _ (by (try clear n0); (try clear n1); (try clear n2); (try clear n3); (try clear top); (try clear n4); (try clear n5); (try clear n6); (try clear n7); (try clear n8); (try clear n9); (try clear hb); (try clear hor); omega)]
        have n4 : nw (i : Int) = i := nwN _ (by (try clear n0); (try clear n1); (try clear n2); (try clear n3); (try clear top); (try clear n4); (try clear n5); (try clear n6); (try clear n7); (try clear n8); (try clear n9); (try clear hb); (try clear hor); omega)
        rw [M_docksOn_b.eq_1 _ _ _ _ _ _ 3, n3, n4, if_neg (by decide), if_neg (by decide), if_pos rfl, if_pos (Int.le_refl _)]
      | succ q ihq =>
        intro i g1 hi D1 h1 B1
        have d := D1.2 i (by (try clear n0); (try clear n1); (try clear n2); (try clear n3); (try clear top); (try clear n4); (try clear n5); (try clear n6); (try clear n7); (try clear n8); (try clear n9); (try clear hb); (try clear hor); omega)
        have ki := K.2 i (by (try clear n0); (try clear n1); (try clear n2); (try clear n3); (try clear top); (try clear n4); (try clear n5); (try clear n6); (try clear n7); (try clear n8); (try clear n9); (try clear hb); (try clear hor); omega)
        have n3 : nw (g1 117 84) = c := by rw [D1.1, nwN _ (by (try clear n0); (try clear n1); (try clear n2); (try clear n3); (try clear top); (try clear n4); (try clear n5); (try clear n6); (try clear n7); (try clear n8); (try clear n9); (try clear hb); (try clear hor); omega)]
        have n4 : nw (i : Int) = i := nwN _ (by (try clear n0); (try clear n1); (try clear n2); (try clear n3); (try clear top); (try clear n4); (try clear n5); (try clear n6); (try clear n7); (try clear n8); (try clear n9); (try clear hb); (try clear hor); omega)
        have n5 : ix (i : Int) = i := ixN _ (by (try clear n0); (try clear n1); (try clear n2); (try clear n3); (try clear top); (try clear n4); (try clear n5); (try clear n6); (try clear n7); (try clear n8); (try clear n9); (try clear hb); (try clear hor); omega)
        have n6 : nw ((bl i : Nat) : Int) = (bl i : Nat) := nwN _ (by (try clear n0); (try clear n1); (try clear n2); (try clear n3); (try clear top); (try clear n4); (try clear n5); (try clear n6); (try clear n7); (try clear n8); (try clear n9); (try clear hb); (try clear hor); omega)
        have n7 : ix ((bl i : Nat) : Int) = bl i := ixN _ (by (try clear n0); (try clear n1); (try clear n2); (try clear n3); (try clear top); (try clear n4); (try clear n5); (try clear n6); (try clear n7); (try clear n8); (try clear n9); (try clear hb); (try clear hor); omega)
        have hb := bit_q m i (by (try clear n0); (try clear n1); (try clear n2); (try clear n3); (try clear top); (try clear n4); (try clear n5); (try clear n6); (try clear n7); (try clear n8); (try clear n9); (try clear hb); (try clear hor); omega)
        have ht := mk_tb m (by (try clear n0); (try clear n1); (try clear n2); (try clear n3); (try clear top); (try clear n4); (try clear n5); (try clear n6); (try clear n7); (try clear n8); (try clear n9); (try clear hb); (try clear hor); omega) i (by (try clear n0); (try clear n1); (try clear n2); (try clear n3); (try clear top); (try clear n4); (try clear n5); (try clear n6); (try clear n7); (try clear n8); (try clear n9); (try clear hb); (try clear hor); omega)
        rw [ht] at hb
        by_cases z : m.testBit i = true
        · have es : dkStep dy dt T c m (i + 1) = dkStep dy dt T c m i := by
            show (if m.testBit i = true then dkStep dy dt T c m i else _) = _
            rw [if_pos z]
          obtain ⟨g', e, ff, p, r⟩ := ihq (i + 1) g1 (by (try clear n0); (try clear n1); (try clear n2); (try clear n3); (try clear top); (try clear n4); (try clear n5); (try clear n6); (try clear n7); (try clear n8); (try clear n9); (try clear hb); (try clear hor); omega) D1 h1 (by rw [es]; exact B1)
          refine ⟨g', ?_, ff, p, r⟩
          rw [M_docksOn_b.eq_1 _ _ _ _ _ _ 3, n3, n4, hb, if_neg (by decide), if_neg (by decide), if_pos rfl, if_neg (by (try clear n0); (try clear n1); (try clear n2); (try clear n3); (try clear top); (try clear n4); (try clear n5); (try clear n6); (try clear n7); (try clear n8); (try clear n9); (try clear hb); (try clear hor); omega), if_pos z, if_pos rfl, sb]
          exact e
        · have z' : m.testBit i = false := by cases y : m.testBit i with
            | true => exact absurd y z
            | false => rfl
          have hgt := mk_gt m (by (try clear n0); (try clear n1); (try clear n2); (try clear n3); (try clear top); (try clear n4); (try clear n5); (try clear n6); (try clear n7); (try clear n8); (try clear n9); (try clear hb); (try clear hor); omega) i (by (try clear n0); (try clear n1); (try clear n2); (try clear n3); (try clear top); (try clear n4); (try clear n5); (try clear n6); (try clear n7); (try clear n8); (try clear n9); (try clear hb); (try clear hor); omega) z'
          have hlt := mk_lt hm (show i < c by (try clear n0); (try clear n1); (try clear n2); (try clear n3); (try clear top); (try clear n4); (try clear n5); (try clear n6); (try clear n7); (try clear n8); (try clear n9); (try clear hb); (try clear hor); omega)
          have hor := mk_or m (by (try clear n0); (try clear n1); (try clear n2); (try clear n3); (try clear top); (try clear n4); (try clear n5); (try clear n6); (try clear n7); (try clear n8); (try clear n9); (try clear hb); (try clear hor); omega) i (by (try clear n0); (try clear n1); (try clear n2); (try clear n3); (try clear top); (try clear n4); (try clear n5); (try clear n6); (try clear n7); (try clear n8); (try clear n9); (try clear hb); (try clear hor); omega)
          have nn := mk_n_or z' c
          rw [if_pos (show i < c by (try clear n0); (try clear n1); (try clear n2); (try clear n3); (try clear top); (try clear n4); (try clear n5); (try clear n6); (try clear n7); (try clear n8); (try clear n9); (try clear hb); (try clear hor); omega)] at nn
          have dd := dkDay_or (dy := dy) z' c
          rw [if_pos (show i < c by (try clear n0); (try clear n1); (try clear n2); (try clear n3); (try clear top); (try clear n4); (try clear n5); (try clear n6); (try clear n7); (try clear n8); (try clear n9); (try clear hb); (try clear hor); omega)] at dd
          have tr := TT.1 _ hlt
          obtain ⟨M, hM⟩ : ∃ M, M = m ||| 2 ^ i := ⟨_, rfl⟩
          rw [← hM] at hor hgt hlt nn dd tr
          have rDM := dkDay_rng (m := M) K c (Nat.le_refl c)
          obtain ⟨E, hE⟩ : ∃ E : Int, E = (if dkDay dy m c + dy i ≤ dt i then (0 : Int) else 1) := ⟨_, rfl⟩
          have rE : 0 ≤ E ∧ E ≤ 1 := by rw [hE]; split <;> omega
          have n8 : nw (dkDay dy m c + dy i) = dkDay dy m c + dy i := nw_id (by (try clear n0); (try clear n1); (try clear n2); (try clear n3); (try clear top); (try clear n4); (try clear n5); (try clear n6); (try clear n7); (try clear n8); (try clear n9); (try clear hb); (try clear hor); omega) (by (try clear n0); (try clear n1); (try clear n2); (try clear n3); (try clear top); (try clear n4); (try clear n5); (try clear n6); (try clear n7); (try clear n8); (try clear n9); (try clear hb); (try clear hor); omega)
          have n9 : nw (dt i) = dt i := nw_id (by (try clear n0); (try clear n1); (try clear n2); (try clear n3); (try clear top); (try clear n4); (try clear n5); (try clear n6); (try clear n7); (try clear n8); (try clear n9); (try clear hb); (try clear hor); omega) (by (try clear n0); (try clear n1); (try clear n2); (try clear n3); (try clear top); (try clear n4); (try clear n5); (try clear n6); (try clear n7); (try clear n8); (try clear n9); (try clear hb); (try clear hor); omega)
          have f1 : FR RMD g1 (up g1 176 k (bl i)) := Fr.up Fr.rf rfl
          obtain ⟨g2, e2, f2, p2', B2⟩ := ih f (k + 1) M (ud o k i) (late + E) (sum + (dkDay dy m c + dy i)) (match dkStep dy dt T c m i with | none => s | some p => dU s (late + p.1, sum + p.2.1, dkO N (m ||| 2 ^ p.2.2) (k + 1) (ud o k p.2.2))) (up g1 176 k (bl i)) (by (try clear n0); (try clear n1); (try clear n2); (try clear n3); (try clear top); (try clear n4); (try clear n5); (try clear n6); (try clear n7); (try clear n8); (try clear n9); (try clear hb); (try clear hor); omega) (by (try clear n0); (try clear n1); (try clear n2); (try clear n3); (try clear top); (try clear n4); (try clear n5); (try clear n6); (try clear n7); (try clear n8); (try clear n9); (try clear hb); (try clear hor); omega) hlt (by (try clear n0); (try clear n1); (try clear n2); (try clear n3); (try clear top); (try clear n4); (try clear n5); (try clear n6); (try clear n7); (try clear n8); (try clear n9); (try clear hb); (try clear hor); omega) (by (try clear n0); (try clear n1); (try clear n2); (try clear n3); (try clear top); (try clear n4); (try clear n5); (try clear n6); (try clear n7); (try clear n8); (try clear n9); (try clear hb); (try clear hor); omega) (by (try clear n0); (try clear n1); (try clear n2); (try clear n3); (try clear top); (try clear n4); (try clear n5); (try clear n6); (try clear n7); (try clear n8); (try clear n9); (try clear hb); (try clear hor); omega) (D1.fr f1) (fun j hj => by
            rw [up_at]
            by_cases y : j = k
            · subst y; rw [if_pos ⟨rfl, rfl⟩, ud_at]
            · rw [if_neg (by (try clear n0); (try clear n1); (try clear n2); (try clear n3); (try clear top); (try clear n4); (try clear n5); (try clear n6); (try clear n7); (try clear n8); (try clear n9); (try clear hb); (try clear hor); omega), ud_lt (by (try clear n0); (try clear n1); (try clear n2); (try clear n3); (try clear top); (try clear n4); (try clear n5); (try clear n6); (try clear n7); (try clear n8); (try clear n9); (try clear hb); (try clear hor); omega)]; exact h1 j (by (try clear n0); (try clear n1); (try clear n2); (try clear n3); (try clear top); (try clear n4); (try clear n5); (try clear n6); (try clear n7); (try clear n8); (try clear n9); (try clear hb); (try clear hor); omega)) (by
            rcases B1 with ⟨b1, b2⟩ | ⟨p, b1, b2, b3, b4, b5, b6⟩
            · exact Or.inl ⟨b1, by rw [up_at, if_neg (by (try clear n0); (try clear n1); (try clear n2); (try clear n3); (try clear top); (try clear n4); (try clear n5); (try clear n6); (try clear n7); (try clear n8); (try clear n9); (try clear hb); (try clear hor); omega)]; exact b2⟩
            · exact Or.inr ⟨p, b1, by rw [up_at, if_neg (by (try clear n0); (try clear n1); (try clear n2); (try clear n3); (try clear top); (try clear n4); (try clear n5); (try clear n6); (try clear n7); (try clear n8); (try clear n9); (try clear hb); (try clear hor); omega)]; exact b2, by rw [up_at, if_neg (by (try clear n0); (try clear n1); (try clear n2); (try clear n3); (try clear top); (try clear n4); (try clear n5); (try clear n6); (try clear n7); (try clear n8); (try clear n9); (try clear hb); (try clear hor); omega)]; exact b3, b4, b5, fun j hj => by rw [up_at, if_neg (by (try clear n0); (try clear n1); (try clear n2); (try clear n3); (try clear top); (try clear n4); (try clear n5); (try clear n6); (try clear n7); (try clear n8); (try clear n9); (try clear hb); (try clear hor); omega)]; exact b6 j hj⟩)
          have f12 := f1.tr f2
          have k12 : ∀ j, j < k → g2 176 j = g1 176 j := fun j hj => by
            rw [p2' j (by (try clear n0); (try clear n1); (try clear n2); (try clear n3); (try clear top); (try clear n4); (try clear n5); (try clear n6); (try clear n7); (try clear n8); (try clear n9); (try clear hb); (try clear hor); omega), up_at, if_neg (by (try clear n0); (try clear n1); (try clear n2); (try clear n3); (try clear top); (try clear n4); (try clear n5); (try clear n6); (try clear n7); (try clear n8); (try clear n9); (try clear hb); (try clear hor); omega)]
          have es : dkStep dy dt T c m (i + 1) = (match dkStep dy dt T c m i with | none => some ((T M).1 + E, (T M).2 + (dkDay dy m c + dy i), i) | some p => if dkLt ((T M).1 + E) ((T M).2 + (dkDay dy m c + dy i)) p.1 p.2.1 then some ((T M).1 + E, (T M).2 + (dkDay dy m c + dy i), i) else some p) := by
            rw [hE, hM]
            show (if m.testBit i = true then _ else _) = _
            rw [if_neg z]
            try rfl
          have join : dU (match dkStep dy dt T c m i with | none => s | some p => dU s (late + p.1, sum + p.2.1, dkO N (m ||| 2 ^ p.2.2) (k + 1) (ud o k p.2.2))) (late + E + (T M).1, sum + (dkDay dy m c + dy i) + (T M).2, dkO N M (k + 1) (ud o k i)) = (match dkStep dy dt T c m (i + 1) with | none => s | some p => dU s (late + p.1, sum + p.2.1, dkO N (m ||| 2 ^ p.2.2) (k + 1) (ud o k p.2.2))) := by
            rw [es]
            have c1 : late + E + (T M).1 = late + ((T M).1 + E) := by (try clear n0); (try clear n1); (try clear n2); (try clear n3); (try clear top); (try clear n4); (try clear n5); (try clear n6); (try clear n7); (try clear n8); (try clear n9); (try clear hb); (try clear hor); omega
            have c2 : sum + (dkDay dy m c + dy i) + (T M).2 = sum + ((T M).2 + (dkDay dy m c + dy i)) := by (try clear n0); (try clear n1); (try clear n2); (try clear n3); (try clear top); (try clear n4); (try clear n5); (try clear n6); (try clear n7); (try clear n8); (try clear n9); (try clear hb); (try clear hor); omega
            rw [c1, c2]
            cases dkStep dy dt T c m i with
            | none =>
              dsimp only
              rw [← hM]
            | some p =>
              dsimp only
              rw [dU_dU]
              dsimp only
              by_cases y : dkLt ((T M).1 + E) ((T M).2 + (dkDay dy m c + dy i)) p.1 p.2.1
              · rw [if_pos y, if_pos (show dkLt (late + ((T M).1 + E)) (sum + ((T M).2 + (dkDay dy m c + dy i))) (late + p.1) (sum + p.2.1) by (try clear n0); (try clear n1); (try clear n2); (try clear n3); (try clear top); (try clear n4); (try clear n5); (try clear n6); (try clear n7); (try clear n8); (try clear n9); (try clear hb); (try clear hor); omega)]
                dsimp only
                rw [← hM]
              · rw [if_neg y, if_neg (show ¬ dkLt (late + ((T M).1 + E)) (sum + ((T M).2 + (dkDay dy m c + dy i))) (late + p.1) (sum + p.2.1) by (try clear n0); (try clear n1); (try clear n2); (try clear n3); (try clear top); (try clear n4); (try clear n5); (try clear n6); (try clear n7); (try clear n8); (try clear n9); (try clear hb); (try clear hor); omega)]
          rw [join] at B2
          obtain ⟨g3, e3, f3, p3, B3⟩ := ihq (i + 1) g2 (by (try clear n0); (try clear n1); (try clear n2); (try clear n3); (try clear top); (try clear n4); (try clear n5); (try clear n6); (try clear n7); (try clear n8); (try clear n9); (try clear hb); (try clear hor); omega) (D1.fr f12) (fun j hj => by rw [k12 j hj]; exact h1 j hj) B2
          refine ⟨g3, ?_, f12.tr f3, fun j hj => by rw [p3 j hj, k12 j hj], B3⟩
          have u1 : (up g1 176 k (bl i)) 173 (bl i) = dt i := by rw [up_at, if_neg (by (try clear n0); (try clear n1); (try clear n2); (try clear n3); (try clear top); (try clear n4); (try clear n5); (try clear n6); (try clear n7); (try clear n8); (try clear n9); (try clear hb); (try clear hor); omega)]; exact d.2.2.2
          rw [M_docksOn_b.eq_1 _ _ _ _ _ _ 3, n3, n4, hb, n5, d.1, n6, n7, n1, n2, d.2.2.1, n8, hor, if_neg (by decide), if_neg (by decide), if_pos rfl, if_neg (by (try clear n0); (try clear n1); (try clear n2); (try clear n3); (try clear top); (try clear n4); (try clear n5); (try clear n6); (try clear n7); (try clear n8); (try clear n9); (try clear hb); (try clear hor); omega), if_neg z, if_neg (by decide), if_pos (by (try clear n0); (try clear n1); (try clear n2); (try clear n3); (try clear top); (try clear n4); (try clear n5); (try clear n6); (try clear n7); (try clear n8); (try clear n9); (try clear hb); (try clear hor); omega), if_pos (by (try clear n0); (try clear n1); (try clear n2); (try clear n3); (try clear top); (try clear n4); (try clear n5); (try clear n6); (try clear n7); (try clear n8); (try clear n9); (try clear hb); (try clear hor); omega), if_pos (by (try clear n0); (try clear n1); (try clear n2); (try clear n3); (try clear top); (try clear n4); (try clear n5); (try clear n6); (try clear n7); (try clear n8); (try clear n9); (try clear hb); (try clear hor); omega), sb, u1, n9, sb, ← hE]
          rw [dd] at e2
          rw [show ((k + 1 : Nat) : Int) = (k : Int) + 1 from rfl] at e2
          rw [e2, sb, sb]
          exact e3
    obtain ⟨g', e, ff, p, r⟩ := loop c 0 g (by (try clear n0); (try clear n1); (try clear n2); (try clear n3); (try clear top); (try clear n4); (try clear n5); (try clear n6); (try clear n7); (try clear n8); (try clear n9); (try clear hb); (try clear hor); omega) D ho B
    rw [st] at r
    dsimp only at r
    rw [dkO_step] at r
    exact ⟨g', e, ff, p, r⟩
